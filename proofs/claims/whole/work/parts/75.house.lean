/-! PURE: what a house weighs, in both -/
def apt (g f : Nat) : Nat := if f ≤ g then g - f else f - g
theorem p_apart9 {g f : Nat} (hg : g < 10) (hf : f < 10) : f_X9_apart (nI g) (nI f) = some (nI (apt g f)) := by
  unfold f_X9_apart f_X9_apart_0 apt
  by_cases h : f ≤ g
  · rw [if_pos (nI_le h (by omega)), if_pos h, pk_sub h]
  · rw [if_neg (nI_ge (by omega) (by omega)), if_neg h, pk_sub (by omega)]
theorem p_apart8 {g f : Nat} (hg : g < 10) (hf : f < 10) : (if 0 ≤ (nI g - nI f) then (nI g - nI f) else 0 - (nI g - nI f)) = nI (apt g f) := by
  unfold apt
  by_cases h : f ≤ g
  · rw [pk_sub h, if_pos (nI_pos' (by omega)), if_pos h]
  · have e := pk_sub_toInt (a := g) (b := f) (by omega) (by omega)
    rw [if_neg (by rw [p_le, e, show (0 : Int32).toInt = 0 from rfl]; omega), if_neg h, ← pk_sub (show g ≤ f by omega), Int32.zero_sub, Int32.neg_sub]
def fcs (p k v : Int32) (f a t : Int32) : Nat → Int32 := fun i => if i = 0 then p else if i = 1 then k else if i = 2 then v else if i = 3 then f else if i = 4 then a else t
theorem f_fact {ρ : Mm} {p g f m : Nat} (hp : p < 6) (hg : g < 10) (hf : f < 10) (hm : m < 2 ^ 31) (h7 : ρ 7 p = nI g) (h4 : ρ 4 0 = nI m) {k : Nat} (hk : k < 6) : f_X9_factOf ρ (nI k) (nI p) (nI f) = some (fcs (nI p) (ρ 5 p) (ρ 6 p) (nI f) (nI (apt g f)) (nI (m % 10)) k) := by
  have ip := p_inN (i := p) (n := 6) hp (by decide)
  have ic : (nI p).toNatClampNeg = p := nI_clamp (by omega)
  have e10 : nI m - nI m / (10 : Int32) * (10 : Int32) = nI (m % 10) := pk_rem (d := 10) hm (by decide) (by decide)
  unfold f_X9_factOf f_X9_factOf_0 fcs
  rw [gd_of ip, gd_of ip, gd_of ip, ic, h7, p_apart9 hg hf, bd_s, h4, e10]
  rcases (by omega : k = 0 ∨ k = 1 ∨ k = 2 ∨ k = 3 ∨ k = 4 ∨ k = 5) with rfl | rfl | rfl | rfl | rfl | rfl <;> rfl
/-- the model's clauses from q on -/
theorem s_sumL {ρ0 : Mm} {fa : Nat → Int32} {p f : Int32} {j N : Nat} (hj : j < 6) (hN : N ≤ 10) (hf : ∀ ρ' : Mm, EF [30] ρ' ρ0 → ∀ k : Nat, k < 6 → f_X9_factOf ρ' (nI k) p f = some (fa k)) (h14 : ρ0 14 0 = nI j) (h19 : ρ0 19 j = nI N) : ∀ (cs : List Cl) (q n : Nat) (v : Int32) (ρ : Mm), EF [30] ρ ρ0 → q + cs.length = N → cs.length < n → (∀ c, c < cs.length → CL j ρ0 (10 * j + q + c) (cs.getD c (0, 0, []))) → ∃ ρ' : Mm, EF [30] ρ' ρ0 ∧ f_X9_sum_20L p f n ρ v (nI (10 * j + q)) = some (v + csum fa cs, ρ') := by
  have hb : ∀ ρ : Mm, EF [30] ρ ρ0 → f_X9_behind ρ = some (nI (10 * j + N)) := by
    intro ρ hρ
    unfold f_X9_behind f_X9_behind_0
    rw [hρ 14 (by decide), h14, if_pos (nI_pos' (by omega)), gd_of (p_inN (i := j) (n := 6) hj (by decide)), nI_clamp (by omega), hρ 19 (by decide), h19, show (10 : Int32) = nI 10 from rfl, pk_mul, nI_add]
  intro cs
  induction cs with
  | nil =>
    intro q n v ρ hρ hq hn hc
    obtain ⟨n, rfl⟩ : ∃ j, n = j + 1 := ⟨n - 1, by omega⟩
    refine ⟨ρ, hρ, ?_⟩
    show f_X9_sum_20 p f _ ρ v _ = _
    unfold f_X9_sum_20
    rw [hb ρ hρ, bd_s, if_pos (nI_le (by simp at hq; omega) (by omega))]
    show some (v, ρ) = some (v + 0, ρ)
    rw [Int32.add_zero]
  | cons c cs ih =>
    intro q n v ρ hρ hq hn hc
    simp only [List.length_cons] at hq hn hc
    obtain ⟨n, rfl⟩ : ∃ j, n = j + 1 := ⟨n - 1, by omega⟩
    obtain ⟨a1, a2, a3, a4, a5⟩ := hc 0 (by omega)
    simp only [Nat.add_zero, List.getD_cons_zero] at a1 a2 a3 a4 a5
    have hc' : ∀ d, d < cs.length → CL j ρ0 (10 * j + (q + 1) + d) (cs.getD d (0, 0, [])) := by
      intro d hd
      have := hc (d + 1) (by omega)
      rw [show 10 * j + q + (d + 1) = 10 * j + (q + 1) + d by omega] at this
      simpa using this
    have ic := p_inN (i := 10 * j + q) (n := 60) (by omega) (by decide)
    have cc : (nI (10 * j + q)).toNatClampNeg = 10 * j + q := nI_clamp (by omega)
    have hnx : nI (10 * j + q) + (1 : Int32) = nI (10 * j + (q + 1)) := nI_1 _
    have pre : ∀ (k : Mm → Int32 → Int32 → Option (Int32 × Mm)), f_X9_sum_20 p f k ρ v (nI (10 * j + q)) = (if (1 : Int32) < nI c.1 then k ρ v (nI (10 * j + (q + 1))) else bd (f_X9_holds ρ (nI (10 * j + q)) p f) (fun u10 => if u10.1 = (0 : Int32) then k u10.2 v (nI (10 * j + (q + 1))) else gd (inB (nI (10 * j + q)) 60) (if (u10.2 20 (10 * j + q)) = (0 : Int32) then gd (inB (nI (10 * j + q)) 60) (k u10.2 (v + u10.2 21 (10 * j + q)) (nI (10 * j + (q + 1)))) else gd (inB (nI (10 * j + q)) 60) (k u10.2 (v + -(u10.2 21 (10 * j + q))) (nI (10 * j + (q + 1))))))) := by
      intro k
      unfold f_X9_sum_20 f_X9_sum_83 f_X9_sum_85
      rw [hb ρ hρ, bd_s, if_neg (nI_ge (by omega) (by omega)), gd_of ic, cc, hρ 20 (by decide), a1]
      simp only [lt_d, hnx]
    have e0 : ∀ x : Int32, csum fa (c :: cs) = x + csum fa cs → v + csum fa (c :: cs) = (v + x) + csum fa cs := by
      intro x hx
      rw [hx, Int32.add_assoc]
    by_cases h2 : c.1 = 2
    · obtain ⟨ρ1, b1, b2⟩ := ih (q + 1) n v ρ hρ (by omega) (by omega) hc'
      refine ⟨ρ1, b1, ?_⟩
      show f_X9_sum_20 p f _ ρ v _ = _
      rw [pre, h2, if_pos (by decide), b2, e0 0 (by show _ + _ = _; rw [if_pos h2]), Int32.add_zero]
    · obtain ⟨a, d1, d2, d3, d4, d5, d6⟩ := a5 (by omega)
      have n1 : ¬ (1 : Int32) < nI c.1 := by
        rcases (by omega : c.1 = 0 ∨ c.1 = 1) with h | h <;> rw [h] <;> decide
      obtain ⟨ρ1, f1, f2, f3⟩ := h_run (c := 10 * j + q) (e := a + c.2.2.length) hf (by omega) d2 (by omega) c.2.2 [] ρ a FU d6 (by simp) (fun i hi => absurd hi (by simp)) hρ rfl (by rw [FU_e]; omega) d5
      have hh : f_X9_holds ρ (nI (10 * j + q)) p f = some (bI ((ev fa c.2.2 []).getD 0 false), ρ1) := by
        unfold f_X9_holds f_X9_holds_0
        rw [gd_of ic, lt_d, cc, hρ 22 (by decide), d1]
        exact f3
      cases hB : (ev fa c.2.2 []).getD 0 false
      · rw [hB] at hh
        obtain ⟨ρ2, b1, b2⟩ := ih (q + 1) n v ρ1 f1 (by omega) (by omega) hc'
        refine ⟨ρ2, b1, ?_⟩
        show f_X9_sum_20 p f _ ρ v _ = _
        rw [pre, if_neg n1, hh, bd_s, if_pos (show bI false = 0 from rfl), b2, e0 0 (by show _ + _ = _; rw [if_neg h2, hB, if_neg (by decide)]), Int32.add_zero]
      · rw [hB] at hh
        have x20 : ρ1 20 (10 * j + q) = nI c.1 := by rw [f1 20 (by decide)]; exact a1
        have x21 : ρ1 21 (10 * j + q) = nI c.2.1 := by rw [f1 21 (by decide)]; exact a3
        obtain ⟨ρ2, b1, b2⟩ := ih (q + 1) n (v + if c.1 = 0 then nI c.2.1 else -nI c.2.1) ρ1 f1 (by omega) (by omega) hc'
        refine ⟨ρ2, b1, ?_⟩
        show f_X9_sum_20 p f _ ρ v _ = _
        rw [pre, if_neg n1, hh, bd_s, if_neg (show ¬ bI true = 0 by decide), gd_of ic]
        simp only [gd_of ic]
        rw [x20, x21, e0 (if c.1 = 0 then nI c.2.1 else -nI c.2.1) (by show _ + _ = _; rw [if_neg h2, hB, if_pos rfl]), ← b2]
        rcases (by omega : c.1 = 0 ∨ c.1 = 1) with h | h
        · rw [if_pos h, h, if_pos (show nI 0 = 0 from rfl)]
        · rw [if_neg (show ¬ c.1 = 0 by omega), h, if_neg (show ¬ nI 1 = 0 by decide)]
theorem s_restL {ρ : Mm} {j N : Nat} (hj : j < 6) (hN : N ≤ 10) (h14 : ρ 14 0 = nI j) (h19 : ρ 19 j = nI N) : ∀ (cs : List Cl) (q n r : Nat), q + cs.length = N → cs.length < n → (∀ c, c < cs.length → CL j ρ (10 * j + q + c) (cs.getD c (0, 0, []))) → r < 100 → f_X9_rest_7L ρ n (nI r) (nI (10 * j + q)) = some (nI (crest cs r)) ∧ crest cs r < 100 := by
  have hb : f_X9_behind ρ = some (nI (10 * j + N)) := by
    unfold f_X9_behind f_X9_behind_0
    rw [h14, if_pos (nI_pos' (by omega)), gd_of (p_inN (i := j) (n := 6) hj (by decide)), nI_clamp (by omega), h19, show (10 : Int32) = nI 10 from rfl, pk_mul, nI_add]
  intro cs
  induction cs with
  | nil =>
    intro q n r hq hn hc hr
    obtain ⟨n, rfl⟩ : ∃ j, n = j + 1 := ⟨n - 1, by omega⟩
    refine ⟨?_, hr⟩
    show f_X9_rest_7 ρ _ _ _ = _
    unfold f_X9_rest_7
    rw [hb, bd_s, if_pos (nI_le (by simp at hq; omega) (by omega))]
    rfl
  | cons c cs ih =>
    intro q n r hq hn hc hr
    simp only [List.length_cons] at hq hn hc
    obtain ⟨n, rfl⟩ : ∃ j, n = j + 1 := ⟨n - 1, by omega⟩
    obtain ⟨a1, a2, a3, a4, -⟩ := hc 0 (by omega)
    simp only [Nat.add_zero, List.getD_cons_zero] at a1 a2 a3 a4
    have hc' : ∀ d, d < cs.length → CL j ρ (10 * j + (q + 1) + d) (cs.getD d (0, 0, [])) := by
      intro d hd
      have := hc (d + 1) (by omega)
      rw [show 10 * j + q + (d + 1) = 10 * j + (q + 1) + d by omega] at this
      simpa using this
    have ic := p_inN (i := 10 * j + q) (n := 60) (by omega) (by decide)
    have cc : (nI (10 * j + q)).toNatClampNeg = 10 * j + q := nI_clamp (by omega)
    have hnx : nI (10 * j + q) + (1 : Int32) = nI (10 * j + (q + 1)) := nI_1 _
    have key := ih (q + 1) n (if c.1 = 2 then c.2.1 else r) (by omega) (by omega) hc' (by split <;> omega)
    refine ⟨?_, key.2⟩
    show f_X9_rest_7 ρ _ _ _ = _
    unfold f_X9_rest_7 f_X9_rest_35
    rw [hb, bd_s, if_neg (nI_ge (by omega) (by omega)), gd_of ic, gd_of ic, cc, a1, a3, lt_d, lt_d, hnx]
    refine Eq.trans ?_ key.1
    by_cases h2 : c.1 = 2
    · rw [if_pos h2, h2, if_pos (show nI 2 = 2 from rfl)]
    · rw [if_neg h2, if_neg (show ¬ nI c.1 = 2 from fun q => h2 ((nI_eq (a := c.1) (b := 2) (by omega) (by omega)).mp q))]
theorem inH_j : ∀ j, j < 6 → inH (nI (14 + j)) = true := by decide
theorem sum8 {τ : Mm} {hs : Ms} {p f g m j : Nat} {W : Int32} (hp : p < 6) (hf : f < 10) (hg : g < 10) (hm : m < 2 ^ 31) (hj : j < 6) (h4 : τ 4 p = nI g) (h15 : τ 15 0 = nI m) (h16 : τ 16 0 = nI (14 + j)) (hw : ∀ τo : Mm, (∀ k, k < 6 → τo 11 k = fcs (nI p) (τ 2 p) (τ 3 p) (nI f) (nI (apt g f)) (nI (m % 10)) k) → f_X2_weighs (hs (14 + j)) τo = some W) : ∃ τ1 : Mm, f_X1_sum τ hs (nI p) (nI f) = some ((2 : Int32) * nI (apt g f) + W, τ1) ∧ EF [11] τ1 τ := by
  have ip := p_inN (i := p) (n := 6) hp (by decide)
  have ic : (nI p).toNatClampNeg = p := nI_clamp (by omega)
  have e10 : nI m - nI m / (10 : Int32) * (10 : Int32) = nI (m % 10) := pk_rem (d := 10) hm (by decide) (by decide)
  have n0 : ¬ nI (14 + j) = 0 := nI_ne0 (by omega) (by omega)
  have k0 : (0 : Int32).toNatClampNeg = 0 := rfl
  have k1 : (1 : Int32).toNatClampNeg = 1 := rfl
  have k2 : (2 : Int32).toNatClampNeg = 2 := rfl
  have k3 : (3 : Int32).toNatClampNeg = 3 := rfl
  have k4 : (4 : Int32).toNatClampNeg = 4 := rfl
  have k5 : (5 : Int32).toNatClampNeg = 5 := rfl
  have i0 : inB (0 : Int32) 6 = true := by decide
  have i1 : inB (1 : Int32) 6 = true := by decide
  have i2 : inB (2 : Int32) 6 = true := by decide
  have i3 : inB (3 : Int32) 6 = true := by decide
  have i4 : inB (4 : Int32) 6 = true := by decide
  have i5 : inB (5 : Int32) 6 = true := by decide
  have c14 : (nI (14 + j)).toNatClampNeg = 14 + j := nI_clamp (by omega)
  unfold f_X1_sum f_X1_sum_0
  simp only [gd_of ip, ic, h4, p_apart8 hg hf, lt_d, h16, if_neg n0, gd_of (inH_j j hj), gd_of i0, gd_of i1, gd_of i2, gd_of i3, gd_of i4, gd_of i5, k0, k1, k2, k3, k4, k5]
  have z : ∀ (a b c d e x : Int32) (k q : Nat), k ≠ 11 → s_t (s_t (s_t (s_t (s_t (s_t τ 11 0 a) 11 1 b) 11 2 c) 11 3 d) 11 4 e) 11 5 x k q = τ k q := fun a b c d e x k q hk => by rw [st_ne hk, st_ne hk, st_ne hk, st_ne hk, st_ne hk, st_ne hk]
  simp only [z _ _ _ _ _ _ 16 0 (by omega), h16, gd_of (inH_j j hj), c14]
  rw [hw]
  · refine ⟨_, rfl, ?_⟩
    exact (((((EF.rf.st (by decide)).st (by decide)).st (by decide)).st (by decide)).st (by decide)).st (by decide)
  · intro k hk
    unfold fcs
    rcases (by omega : k = 0 ∨ k = 1 ∨ k = 2 ∨ k = 3 ∨ k = 4 ∨ k = 5) with rfl | rfl | rfl | rfl | rfl | rfl
    · simp [st_v]
    · simp [st_v]
    · simp [st_v]
    · simp [st_v]
    · simp [st_v]
    · simp [st_v, h15, e10]
