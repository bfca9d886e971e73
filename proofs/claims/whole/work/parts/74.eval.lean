/-! PURE: a house's steps weighed, in the model -/
def PEN (ρ : Mm) (S : List Bool) : Prop := ∀ i, i < S.length → ρ 30 i = bI (S.getD (S.length - 1 - i) false)
theorem vpn0 : vp_nar .boolean 0 = 0 := by decide
theorem vpn1 : vp_nar .boolean 1 = 1 := by decide
theorem PEN_top {ρ : Mm} {b : Bool} {S : List Bool} (h : PEN ρ (b :: S)) : ρ 30 S.length = bI b := by
  have := h S.length (by simp)
  simpa using this
theorem PEN_tl {ρ : Mm} {b : Bool} {S : List Bool} (h : PEN ρ (b :: S)) : PEN ρ S := fun i hi => by
  have := h i (by simp; omega)
  rw [this]
  simp only [List.length_cons]
  rw [show S.length + 1 - 1 - i = (S.length - 1 - i) + 1 by omega]
  simp
theorem PEN_push {ρ : Mm} {S : List Bool} {b : Bool} (h : PEN ρ S) : PEN (s_t ρ 30 S.length (bI b)) (b :: S) := fun i hi => by
  rw [st_k]
  by_cases hi2 : i = S.length
  · rw [if_pos hi2, hi2]
    simp
  · simp only [List.length_cons] at hi ⊢
    rw [if_neg hi2, h i (by omega), show S.length + 1 - 1 - i = (S.length - 1 - i) + 1 by omega]
    simp
theorem mcode_t {t : Nat} (h : t < 1800) : mcode t = nI (1000 * (t / 300) + 100 * (t / 100 % 3) + t % 100) := if_pos h
theorem mcode_0 : mcode 1800 = -33 := by simp [mcode]
theorem mcode_1 : mcode 1801 = -38 := by simp [mcode]
theorem mcode_2 : mcode 1802 = -124 := by simp [mcode]
theorem mc_x {t : Nat} (h1 : t < 1800) : (1000 * (t / 300) + 100 * (t / 100 % 3) + t % 100) / 1000 = t / 300 ∧ (1000 * (t / 300) + 100 * (t / 100 % 3) + t % 100) % 100 = t % 100 ∧ (1000 * (t / 300) + 100 * (t / 100 % 3) + t % 100) / 100 % 10 = t / 100 % 3 ∧ 1000 * (t / 300) + 100 * (t / 100 % 3) + t % 100 < 10000 := by
  refine ⟨?_, ?_, ?_, ?_⟩ <;> omega
theorem mc_d {t : Nat} (h1 : t < 1800) : mcode t / (1000 : Int32) = nI (t / 300) ∧ mcode t - mcode t / (100 : Int32) * (100 : Int32) = nI (t % 100) ∧ mcode t / (100 : Int32) - mcode t / (100 : Int32) / (10 : Int32) * (10 : Int32) = nI (t / 100 % 3) ∧ ¬ mcode t = -33 := by
  obtain ⟨x1, x2, x3, x4⟩ := mc_x h1
  rw [mcode_t h1]
  generalize 1000 * (t / 300) + 100 * (t / 100 % 3) + t % 100 = m at x1 x2 x3 x4
  refine ⟨?_, ?_, ?_, ?_⟩
  · rw [← x1]
    exact pk_div (d := 1000) (by omega) (by omega) (by omega)
  · rw [← x2]
    exact pk_rem (d := 100) (by omega) (by omega) (by omega)
  · rw [← x3, show nI m / (100 : Int32) = nI (m / 100) from pk_div (d := 100) (by omega) (by omega) (by omega)]
    exact pk_rem (d := 10) (by omega) (by omega) (by omega)
  · intro q
    have := congrArg Int32.toInt q
    rw [nI_toInt (by omega), show (-33 : Int32).toInt = -33 from rfl] at this
    omega
def hbody (c p f : Int32) (k : Mm → Int32 → Int32 → Option (Int32 × Mm)) (ρ : Mm) (d i x : Int32) : Option (Int32 × Mm) := if x = (-33 : Int32) then (gd (inB (d - (1 : Int32)) 100) (if (ρ 30 (d - (1 : Int32)).toNatClampNeg) = (0 : Int32) then (f_X9_holds_63 c p f k ρ d i (d - (1 : Int32)) (1 : Int32)) else (f_X9_holds_63 c p f k ρ d i (d - (1 : Int32)) (0 : Int32)))) else (if (0 : Int32) ≤ x then (bd (f_X9_factOf ρ (x / (1000 : Int32)) p f) (fun u11 => lt (((x / (100 : Int32)) - (x / (100 : Int32)) / (10 : Int32) * (10 : Int32))) (fun x12 => if x12 = (0 : Int32) then (if (x - x / (100 : Int32) * (100 : Int32)) ≤ u11 then (f_X9_holds_243 c p f k ρ d i d (0 : Int32)) else (f_X9_holds_243 c p f k ρ d i d (1 : Int32))) else (if x12 = (1 : Int32) then (if u11 = (x - x / (100 : Int32) * (100 : Int32)) then (f_X9_holds_243 c p f k ρ d i d (1 : Int32)) else (f_X9_holds_243 c p f k ρ d i d (0 : Int32))) else (if u11 ≤ (x - x / (100 : Int32) * (100 : Int32)) then (f_X9_holds_243 c p f k ρ d i d (0 : Int32)) else (f_X9_holds_243 c p f k ρ d i d (1 : Int32))))))) else (lt ((d + (-1 : Int32))) (fun x22 => if x = (-38 : Int32) then (gd (inB (x22 - (1 : Int32)) 100) (if (ρ 30 (x22 - (1 : Int32)).toNatClampNeg) = (0 : Int32) then (f_X9_holds_116 c p f k ρ x22 i (x22 - (1 : Int32))) else (gd (inB x22 100) (if (ρ 30 x22.toNatClampNeg) = (0 : Int32) then (f_X9_holds_116 c p f k ρ x22 i (x22 - (1 : Int32))) else (f_X9_holds_147 c p f k ρ x22 i (x22 - (1 : Int32)) (1 : Int32)))))) else (gd (inB (x22 - (1 : Int32)) 100) (if (ρ 30 (x22 - (1 : Int32)).toNatClampNeg) = (0 : Int32) then (gd (inB x22 100) (if (ρ 30 x22.toNatClampNeg) = (0 : Int32) then (f_X9_holds_147 c p f k ρ x22 i (x22 - (1 : Int32)) (0 : Int32)) else (f_X9_holds_142 c p f k ρ x22 i (x22 - (1 : Int32))))) else (f_X9_holds_142 c p f k ρ x22 i (x22 - (1 : Int32))))))))
theorem h_pre {ρ : Mm} {p f d x : Int32} {i e c : Nat} (hc : c < 60) (he : ρ 23 c = nI e) (hi : i < e) (he2 : e ≤ 600) (ht : ρ 24 i = x) (k : Mm → Int32 → Int32 → Option (Int32 × Mm)) : f_X9_holds_11 (nI c) p f k ρ d (nI i) = hbody (nI c) p f k ρ d (nI i) x := by
  unfold f_X9_holds_11 hbody
  rw [gd_of (p_inN (i := c) (n := 60) hc (by decide)), nI_clamp (show c < 2 ^ 31 by omega), he, if_neg (p_nle (show e < 2 ^ 31 by omega) hi), gd_of (p_inN (i := i) (n := 600) (by omega) (by decide)), nI_clamp (show i < 2 ^ 31 by omega), ht, lt_d]
theorem h_t {ρ0 ρ : Mm} {fa : Nat → Int32} {p f : Int32} {t i c : Nat} {L : List Nat} {S : List Bool} (hf : ∀ k : Nat, k < 6 → f_X9_factOf ρ (nI k) p f = some (fa k)) (hρ : EF [30] ρ ρ0) (hS : S.length ≤ 30) (hx : PEN ρ S) (h1 : t < 1800) : ∃ ρ' : Mm, PEN ρ' (ev1 fa t S) ∧ EF [30] ρ' ρ0 ∧ ∀ k : Mm → Int32 → Int32 → Option (Int32 × Mm), hbody (nI c) p f k ρ (nI S.length) (nI i) (mcode t) = k ρ' (nI (ev1 fa t S).length) (nI (i + 1)) := by
  have hr : t / 100 % 3 < 3 := Nat.mod_lt _ (by omega)
  obtain ⟨e1, e2, e3, n33⟩ := mc_d h1
  have p0 : (0 : Int32) ≤ mcode t := by
    rw [mcode_t h1]
    exact nI_pos' (by omega)
  have hev : ev1 fa t S = tb fa t :: S := by
    unfold ev1
    rw [if_pos h1]
  refine ⟨s_t ρ 30 S.length (bI (tb fa t)), by rw [hev]; exact PEN_push hx, hρ.st (by decide), fun k => ?_⟩
  unfold hbody
  rw [if_neg n33, if_pos p0, e1, hf (t / 300) (by omega), bd_s, e2, e3, hev, lt_d]
  have push0 : f_X9_holds_243 (nI c) p f k ρ (nI S.length) (nI i) (nI S.length) 0 = k (s_t ρ 30 S.length (bI false)) (nI (S.length + 1)) (nI (i + 1)) := by
    unfold f_X9_holds_243 f_X9_holds_247
    rw [gd_of (p_inN (i := S.length) (n := 100) (by omega) (by decide)), nI_clamp (by omega), vpn0, lt_d, lt_d, lt_d, nI_1, nI_1]
    rfl
  have push1 : f_X9_holds_243 (nI c) p f k ρ (nI S.length) (nI i) (nI S.length) 1 = k (s_t ρ 30 S.length (bI true)) (nI (S.length + 1)) (nI (i + 1)) := by
    unfold f_X9_holds_243 f_X9_holds_247
    rw [gd_of (p_inN (i := S.length) (n := 100) (by omega) (by decide)), nI_clamp (by omega), vpn1, lt_d, lt_d, lt_d, nI_1, nI_1]
    rfl
  rw [push0, push1, List.length_cons]
  unfold tb
  generalize t / 100 % 3 = r at hr
  generalize fa (t / 300) = a
  generalize nI (t % 100) = n
  rcases (by omega : r = 0 ∨ r = 1 ∨ r = 2) with rfl | rfl | rfl
  · rw [if_pos (show nI 0 = 0 from rfl), if_pos rfl]
    by_cases q : n ≤ a
    · have q2 : ¬ a < n := by rw [p_lt]; rw [p_le] at q; omega
      rw [if_pos q, decide_eq_false q2]
    · have q2 : a < n := by rw [p_lt]; rw [p_le] at q; omega
      rw [if_neg q, decide_eq_true q2]
  · rw [if_neg (show ¬ nI 1 = 0 by decide), if_pos (show nI 1 = 1 from rfl), if_neg (show ¬ (1 : Nat) = 0 by decide), if_pos (show (1 : Nat) = 1 from rfl)]
    by_cases q3 : a = n
    · rw [if_pos q3, decide_eq_true q3]
    · rw [if_neg q3, decide_eq_false q3]
  · rw [if_neg (show ¬ nI 2 = 0 by decide), if_neg (show ¬ nI 2 = 1 by decide), if_neg (show ¬ (2 : Nat) = 0 by decide), if_neg (show ¬ (2 : Nat) = 1 by decide)]
    by_cases q : a ≤ n
    · have q2 : ¬ n < a := by rw [p_lt]; rw [p_le] at q; omega
      rw [if_pos q, decide_eq_false q2]
    · have q2 : n < a := by rw [p_lt]; rw [p_le] at q; omega
      rw [if_neg q, decide_eq_true q2]
theorem h_n {ρ0 ρ : Mm} {p f : Int32} {i c : Nat} {b : Bool} {S : List Bool} (hρ : EF [30] ρ ρ0) (hS : S.length ≤ 29) (hx : PEN ρ (b :: S)) : ∃ ρ' : Mm, PEN ρ' ((!b) :: S) ∧ EF [30] ρ' ρ0 ∧ ∀ k : Mm → Int32 → Int32 → Option (Int32 × Mm), hbody (nI c) p f k ρ (nI (S.length + 1)) (nI i) (-33) = k ρ' (nI (S.length + 1)) (nI (i + 1)) := by
  have e0 : nI (S.length + 1) - 1 = nI S.length := nI_pred _
  have hT := PEN_top hx
  refine ⟨s_t ρ 30 S.length (bI (!b)), PEN_push (PEN_tl hx), hρ.st (by decide), fun k => ?_⟩
  unfold hbody
  rw [if_pos rfl, e0, gd_of (p_inN (i := S.length) (n := 100) (by omega) (by decide)), nI_clamp (by omega), hT]
  unfold f_X9_holds_63 f_X9_holds_247
  rw [gd_of (p_inN (i := S.length) (n := 100) (by omega) (by decide)), nI_clamp (by omega), gd_of (p_inN (i := S.length) (n := 100) (by omega) (by decide)), vpn0, vpn1, lt_d, lt_d, lt_d, nI_1]
  cases b
  · rw [if_pos (show bI false = 0 from rfl)]
    rfl
  · rw [if_neg (show ¬ bI true = 0 by decide)]
    rfl
theorem h_j {ρ0 ρ : Mm} {p f x : Int32} {i c : Nat} {a b r : Bool} {S : List Bool} (hx0 : x = -38 ∧ r = (a && b) ∨ x = -124 ∧ r = (a || b)) (hρ : EF [30] ρ ρ0) (hS : S.length ≤ 28) (hx : PEN ρ (b :: a :: S)) : ∃ ρ' : Mm, PEN ρ' (r :: S) ∧ EF [30] ρ' ρ0 ∧ ∀ k : Mm → Int32 → Int32 → Option (Int32 × Mm), hbody (nI c) p f k ρ (nI (S.length + 2)) (nI i) x = k ρ' (nI (S.length + 1)) (nI (i + 1)) := by
  have e0 : nI (S.length + 2) + (-1 : Int32) = nI (S.length + 1) := nI_m1 (by omega)
  have e0' : nI (S.length + 1) - 1 = nI S.length := nI_pred _
  have hB : ρ 30 (S.length + 1) = bI b := by have := PEN_top hx; simpa using this
  have hA := PEN_top (PEN_tl hx)
  have hPS := PEN_tl (PEN_tl hx)
  have g0 := fun {β : Type} (x : Option β) => gd_of (x := x) (p_inN (i := S.length) (n := 100) (by omega) (by decide))
  have g1 := fun {β : Type} (x : Option β) => gd_of (x := x) (p_inN (i := S.length + 1) (n := 100) (by omega) (by decide))
  have c0 : (nI S.length).toNatClampNeg = S.length := nI_clamp (by omega)
  have c1 : (nI (S.length + 1)).toNatClampNeg = S.length + 1 := nI_clamp (by omega)
  have x147 : ∀ (k : Mm → Int32 → Int32 → Option (Int32 × Mm)) (w : Int32), f_X9_holds_147 (nI c) p f k ρ (nI (S.length + 1)) (nI i) (nI S.length) w = k (s_t ρ 30 S.length (vp_nar .boolean w)) (nI (S.length + 1)) (nI (i + 1)) := by
    intro k w
    unfold f_X9_holds_147 f_X9_holds_247
    rw [g0, c0, lt_d, lt_d, nI_1]
  have f0 : bI false = 0 := rfl
  have f1 : ¬ bI true = 0 := by decide
  refine ⟨s_t ρ 30 S.length (bI r), PEN_push hPS, hρ.st (by decide), fun k => ?_⟩
  unfold hbody
  rcases hx0 with ⟨hx0, hr⟩ | ⟨hx0, hr⟩
  · subst hx0
    subst hr
    rw [if_neg (show ¬ (-38 : Int32) = -33 by decide), if_neg (show ¬ (0 : Int32) ≤ -38 by decide), lt_d, if_pos rfl, e0, e0', g0, g1, c0, c1, hA, hB]
    unfold f_X9_holds_116
    rw [x147, x147, vpn0, vpn1]
    cases a
    · rw [if_pos f0]; rfl
    · rw [if_neg f1]
      cases b
      · rw [if_pos f0]; rfl
      · rw [if_neg f1]; rfl
  · subst hx0
    subst hr
    rw [if_neg (show ¬ (-124 : Int32) = -33 by decide), if_neg (show ¬ (0 : Int32) ≤ -124 by decide), lt_d, if_neg (show ¬ (-124 : Int32) = -38 by decide), e0, e0', g0, g1, c0, c1, hA, hB]
    unfold f_X9_holds_142
    rw [x147, x147, vpn0, vpn1]
    cases a
    · rw [if_pos f0]
      cases b
      · rw [if_pos f0]; rfl
      · rw [if_neg f1]; rfl
    · rw [if_neg f1]; rfl
theorem h_step {ρ0 ρ : Mm} {fa : Nat → Int32} {p f : Int32} {t i e c : Nat} {L : List Nat} {S : List Bool} (hf : ∀ ρ' : Mm, EF [30] ρ' ρ0 → ∀ k : Nat, k < 6 → f_X9_factOf ρ' (nI k) p f = some (fa k)) (hρ : EF [30] ρ ρ0) (hc : c < 60) (he : ρ 23 c = nI e) (hi : i < e) (he2 : e ≤ 600) (ht : ρ 24 i = mcode t) (hv : vd (t :: L) S.length) (hS : S.length ≤ 30) (hx : PEN ρ S) : ∃ ρ' : Mm, PEN ρ' (ev1 fa t S) ∧ EF [30] ρ' ρ0 ∧ ∀ k : Mm → Int32 → Int32 → Option (Int32 × Mm), f_X9_holds_11 (nI c) p f k ρ (nI S.length) (nI i) = k ρ' (nI (ev1 fa t S).length) (nI (i + 1)) := by
  have pre := fun k => h_pre (p := p) (f := f) (d := nI S.length) hc he hi he2 ht k
  simp only [pre]
  unfold vd at hv
  by_cases h1 : t < 1800
  · exact h_t (L := L) (hf ρ hρ) hρ hS hx h1
  · rw [if_neg h1] at hv
    by_cases h2 : t = 1800
    · rw [if_pos h2] at hv
      rcases S with _ | ⟨b, S⟩
      · exact absurd hv.1 (by simp)
      · simp only [List.length_cons] at hS
        have hev : ev1 fa t (b :: S) = (!b) :: S := by
          unfold ev1
          rw [if_neg h1]
          exact if_pos h2
        rw [hev, h2, mcode_0]
        exact h_n hρ (by omega) hx
    · rw [if_neg h2] at hv
      rcases S with _ | ⟨b, _ | ⟨a, S⟩⟩
      · exact absurd hv.2.1 (by simp)
      · exact absurd hv.2.1 (by simp)
      · simp only [List.length_cons] at hS
        have hev : ev1 fa t (b :: a :: S) = (if t = 1801 then a && b else a || b) :: S := by
          unfold ev1
          rw [if_neg h1]
          exact if_neg h2
        rw [hev]
        refine h_j ?_ hρ (by omega) hx
        by_cases h3 : t = 1801
        · refine Or.inl ⟨by rw [h3, mcode_1], if_pos h3⟩
        · refine Or.inr ⟨by rw [show t = 1802 by omega, mcode_2], if_neg h3⟩
theorem h_run {ρ0 : Mm} {fa : Nat → Int32} {p f : Int32} {e c : Nat} (hf : ∀ ρ' : Mm, EF [30] ρ' ρ0 → ∀ k : Nat, k < 6 → f_X9_factOf ρ' (nI k) p f = some (fa k)) (hc : c < 60) (he : ρ0 23 c = nI e) (he2 : e ≤ 600) : ∀ (L : List Nat) (S : List Bool) (ρ : Mm) (i n : Nat), vd L S.length → S.length ≤ 30 → PEN ρ S → EF [30] ρ ρ0 → i + L.length = e → L.length < n → (∀ j, j < L.length → ρ0 24 (i + j) = mcode (L.getD j 0)) → ∃ ρ' : Mm, EF [30] ρ' ρ0 ∧ (ev fa L S).length = 1 ∧ f_X9_holds_11L (nI c) p f n ρ (nI S.length) (nI i) = some (bI ((ev fa L S).getD 0 false), ρ') := by
  intro L
  induction L with
  | nil =>
    intro S ρ i n hv hS hx hρ hi hn hL
    obtain ⟨n, rfl⟩ : ∃ j, n = j + 1 := ⟨n - 1, by omega⟩
    refine ⟨ρ, hρ, hv, ?_⟩
    obtain ⟨b, rfl⟩ : ∃ b, S = [b] := List.length_eq_one_iff.mp hv
    have hT : ρ 30 0 = bI b := PEN_top hx
    have hB : isB (bI b) = true := by cases b <;> rfl
    show f_X9_holds_11 _ _ _ _ _ _ _ = _
    unfold f_X9_holds_11
    rw [gd_of (p_inN (i := c) (n := 60) hc (by decide)), nI_clamp (by omega), hρ 23 (by decide), he, if_pos (nI_le (by simp at hi; omega) (by omega)), gd_of (show inB 0 100 = true by decide), show (0 : Int32).toNatClampNeg = 0 from rfl, hT, gd_of hB]
    rfl
  | cons t L ih =>
    intro S ρ i n hv hS hx hρ hi hn hL
    obtain ⟨n, rfl⟩ : ∃ j, n = j + 1 := ⟨n - 1, by omega⟩
    simp only [List.length_cons] at hi hn hL
    obtain ⟨ρ1, a1, a2, a3⟩ := h_step (i := i) (e := e) (t := t) hf hρ hc (by rw [hρ 23 (by decide)]; exact he) (by omega) he2 (by
      rw [hρ 24 (by decide)]
      have := hL 0 (by omega)
      simpa using this) hv hS hx
    obtain ⟨v1, v2⟩ := ev1_len (fa := fa) hv hS
    obtain ⟨ρ2, b1, b2, b3⟩ := ih (ev1 fa t S) ρ1 (i + 1) n v1 v2 a1 a2 (by omega) (by omega) (fun j hj => by
      rw [show i + 1 + j = i + (j + 1) by omega, hL (j + 1) (by omega)]
      simp)
    refine ⟨ρ2, b1, b2, ?_⟩
    show f_X9_holds_11 _ _ _ _ _ _ _ = _
    rw [a3]
    exact b3
