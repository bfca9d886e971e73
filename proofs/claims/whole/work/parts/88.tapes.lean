/-! PURE: tapes, in both -/
section CJ
variable {nh : Nat} {σ : Ms} {ρ : Mm} {ℓ : Mz} {η : Mj}
theorem RX.tp {σ' : Ms} {ρ' : Mm} {ℓ' : Mz} {η' : Mj} (R : RX nh σ ρ ℓ η) (hσ : ∀ o, ¬ (23 ≤ o ∧ o < 29) → σ' o = σ o) (hρ : ∀ k, k ≠ 81 → k ≠ 82 → ρ' k = ρ k) (ht : TpR σ' ρ' ℓ' η') : RX nh σ' ρ' ℓ' η' := by
  obtain ⟨a1, ⟨⟨a2, a3⟩, ⟨a4, a5⟩, a6⟩, b, c, d, e, -⟩ := R
  refine ⟨?_, ⟨?_, ?_, ?_⟩, HsR_e b (by rw [hσ 0 (by omega)]) (fun j q r => hσ j (by omega)) (fun k hk => hρ k (by omega) (by omega)), ?_, ImR_e d (by rw [hσ 0 (by omega)]) (fun o ho => hσ o (by omega)) (fun k q r => hρ k (by omega) (by omega)), ?_, ht⟩
  · rw [hσ 1 (by omega), hσ 6 (by omega), hσ 7 (by omega), hσ 8 (by omega)]
    exact Core_k a1 (fun k hk => hρ k (by omega) (by omega))
  · rw [hσ 1 (by omega)]
    exact ⟨a2, a3⟩
  · rw [hσ 2 (by omega)]
    exact ⟨a4, a5⟩
  · rw [hρ 31 (by omega) (by omega), hρ 32 (by omega) (by omega)]
    exact a6
  · rw [hσ 12 (by omega)]
    exact TxR_e c ⟨hρ 15 (by omega) (by omega), hρ 18 (by omega) (by omega), hρ 29 (by omega) (by omega)⟩
  · rw [hσ 21 (by omega)]
    exact AcR_e e ⟨hρ 79 (by omega) (by omega), hρ 80 (by omega) (by omega)⟩
theorem sl_v {η : Mj} {k i j q : Nat} {x : Int64} : s_l η k i x j q = if j = k ∧ q = i then x else η j q := by
  by_cases h : j = k
  · subst h
    by_cases h2 : q = i <;> simp [s_l, vp_updL, h2]
  · simp [s_l, h]
theorem p_has6 {τ : Mm} (n : Int64) : f_X6_has τ n = some (b2 (0 ≤ n.toInt ∧ n.toInt < (τ 2 0).toInt)) := by
  unfold f_X6_has f_X6_has_0
  simp only [lg_cmp_lt, lg_cmp_ge, Int64.lt_iff_toInt_lt, Int64.le_iff_toInt_le, Int32.toInt_toInt64]
  rw [show (0 : Int64).toInt = 0 from rfl]
  by_cases h1 : n.toInt < 0
  · rw [if_pos h1, b2_f (by omega)]
  · rw [if_neg h1]
    by_cases h2 : (τ 2 0).toInt ≤ n.toInt
    · rw [if_pos h2, b2_f (by omega)]
    · rw [if_neg h2, b2_t (by omega)]
theorem q_has {τ : Mm} {len : Nat} (hl : len ≤ 60) (h : τ 2 0 = nI len) (p : Int32) : f_X6_has τ p.toInt64 = some (bB p len) := by
  rw [p_has6, Int32.toInt_toInt64, h, nI_toInt (by omega)]
  rfl
theorem q_len {ρ : Mm} {t len : Nat} (hl : len ≤ 60) (h : ρ 82 t = nI len) (p : Int32) : f_X9_in p 0 (ρ 82 t - 1) = some (bB p len) := by
  refine q_i p 0 _ len rfl ?_
  rw [h, p_sub] <;> rw [nI_toInt (by omega)] <;> simp <;> omega
theorem sm_m1 {x : Int32} (h : x = -1 ∨ ∃ s : Nat, s < 5 ∧ x = nI s) : (x = -1 ↔ x < 0) ∧ ((0 : Int32) ≤ x ↔ ¬ x = -1) := by
  rcases h with h | ⟨s, hs, h⟩
  · subst h
    exact ⟨by decide, by decide⟩
  · subst h
    have h1 := z_m1 s (by omega)
    have h2 : ¬ nI s < 0 := nI_pos (by omega)
    exact ⟨⟨fun q => absurd q h1, fun q => absurd q h2⟩, ⟨fun _ => h1, fun _ => nI_pos' (by omega)⟩⟩
theorem m_bec8 {p0 p1 : Int32} : ∀ (k i n : Nat) (τ : Mm) (η : Mj), i + k = 60 → k < n → ∃ η' : Mj, f_X6_becomes_12L p0 p1 n τ η (nI i) = some (τ, η') ∧ ∀ q, q < 60 → η' 0 q = if i ≤ q then 0 else η 0 q := by
  intro k
  induction k with
  | zero =>
    intro i n τ η hi hn
    obtain ⟨n, rfl⟩ : ∃ j, n = j + 1 := ⟨n - 1, by omega⟩
    refine ⟨η, ?_, fun q hq => (if_neg (by omega)).symm⟩
    show f_X6_becomes_12 _ _ _ _ _ _ = _
    unfold f_X6_becomes_12
    rw [show i = 60 by omega, if_pos (by decide)]
  | succ k ih =>
    intro i n τ η hi hn
    obtain ⟨n, rfl⟩ : ∃ j, n = j + 1 := ⟨n - 1, by omega⟩
    obtain ⟨η', b1, b2⟩ := ih (i + 1) n τ (s_l η 0 i 0) (by omega) (by omega)
    refine ⟨η', ?_, fun q hq => ?_⟩
    · show f_X6_becomes_12 _ _ _ _ _ _ = _
      unfold f_X6_becomes_12
      rw [if_neg (show ¬ (60 : Int32) ≤ nI i from nI_ge (b := 60) (by omega) (by omega)), z_in (by omega) (by decide), nI_clamp (by omega), lt_d, lt_d, nI_1]
      exact b1
    · rw [b2 q hq, sl_v]
      by_cases h : i + 1 ≤ q
      · rw [if_pos h, if_pos (by omega)]
      · rw [if_neg h]
        by_cases h2 : q = i
        · rw [if_pos ⟨rfl, h2⟩, if_pos (by omega)]
        · rw [if_neg (fun z => h2 z.2), if_neg (by omega)]
theorem m_bec9 {p1 p2 : Int32} {t : Nat} (ht : t < 6) : ∀ (k i n : Nat) (τ : Mm) (η : Mj), i + k = 60 → k < n → ∃ η' : Mj, f_X9_tape_69L (nI t) p1 p2 n τ η (nI i) = some (1, τ, η') ∧ ∀ q, η' 83 q = if 60 * t + i ≤ q ∧ q < 60 * t + 60 then 0 else η 83 q := by
  intro k
  induction k with
  | zero =>
    intro i n τ η hi hn
    obtain ⟨n, rfl⟩ : ∃ j, n = j + 1 := ⟨n - 1, by omega⟩
    refine ⟨η, ?_, fun q => (if_neg (by omega)).symm⟩
    show f_X9_tape_69 _ _ _ _ _ _ _ = _
    unfold f_X9_tape_69
    rw [show i = 60 by omega, if_pos (by decide)]
  | succ k ih =>
    intro i n τ η hi hn
    obtain ⟨n, rfl⟩ : ∃ j, n = j + 1 := ⟨n - 1, by omega⟩
    obtain ⟨η', b1, b2⟩ := ih (i + 1) n τ (s_l η 83 (60 * t + i) 0) (by omega) (by omega)
    refine ⟨η', ?_, fun q => ?_⟩
    · show f_X9_tape_69 _ _ _ _ _ _ _ = _
      unfold f_X9_tape_69
      rw [if_neg (show ¬ (60 : Int32) ≤ nI i from nI_ge (b := 60) (by omega) (by omega)), show (60 : Int32) = nI 60 from rfl, pk_mul, nI_add, z_in (by omega) (by decide), nI_clamp (by omega), lt_d, lt_d, nI_1]
      exact b1
    · rw [b2 q, sl_v]
      by_cases h : 60 * t + (i + 1) ≤ q ∧ q < 60 * t + 60
      · rw [if_pos h, if_pos (by omega)]
      · rw [if_neg h]
        by_cases h2 : q = 60 * t + i
        · rw [if_pos ⟨rfl, h2⟩, if_pos (by omega)]
        · rw [if_neg (fun z => h2 z.2), if_neg (by omega)]
def SMt (nh : Nat) (σ : Ms) (ℓ : Mz) (x : Option (Int32 × Ms × Mz)) (y : Option (Int32 × Mm × Mj)) : Prop := ∃ (r : Int32) (σ' : Ms) (ρ' : Mm) (ℓ' : Mz) (η' : Mj), x = some (r, σ', ℓ') ∧ y = some (r, ρ', η') ∧ RX nh σ' ρ' ℓ' η' ∧ KP σ' σ ∧ ℓ' 29 = ℓ 29
theorem tp_set (R : RX nh σ ρ ℓ η) {t n : Nat} (ht : t < 6) (hn : n ≤ 60) {s : Int32} (hs : (s = -1 ∧ n = 0) ∨ ∃ j : Nat, j < 5 ∧ s = nI j) : ∃ (σt : Mm) (ηt : Mj) (η' : Mj), f_X6_becomes (σ (23 + t)) (ℓ (23 + t)) s (nI n) = some (σt, ηt) ∧ (∀ p1 p2 : Int32, ∀ ρ1 : Mm, f_X9_tape_69L (nI t) p1 p2 FU ρ1 η 0 = some (1, ρ1, η')) ∧ RX nh (va_up σ (23 + t) σt) (s_t (s_t ρ 81 t s) 82 t (nI n)) (va_up ℓ (23 + t) ηt) η' := by
  obtain ⟨ηt, b1, b2⟩ := m_bec8 (p0 := s) (p1 := nI n) 60 0 FU (s_t (s_t (σ (23 + t)) 1 0 s) 2 0 (nI n)) (ℓ (23 + t)) (by omega) (by rw [FU_e]; omega)
  obtain ⟨η', c1, c2⟩ := m_bec9 (p1 := 0) (p2 := 0) ht 60 0 FU ρ η (by omega) (by rw [FU_e]; omega)
  have c3 : ∀ p1 p2 : Int32, ∀ ρ1 : Mm, f_X9_tape_69L (nI t) p1 p2 FU ρ1 η 0 = some (1, ρ1, η') := by
    intro p1 p2 ρ1
    obtain ⟨η2, d1, -⟩ := m_bec9 (p1 := p1) (p2 := p2) ht 60 0 FU ρ1 η (by omega) (by rw [FU_e]; omega)
    have key : ∀ (k i n : Nat) (ρa ρb : Mm) (q1 q2 : Int32) (η : Mj), (f_X9_tape_69L (nI t) p1 p2 n ρa η (nI i)).map (fun x => x.2.2) = (f_X9_tape_69L (nI t) q1 q2 n ρb η (nI i)).map (fun x => x.2.2) := by
      intro k i n
      induction n generalizing i with
      | zero => intros; rfl
      | succ n ih =>
        intro ρa ρb q1 q2 η
        show (f_X9_tape_69 _ _ _ _ _ _ _).map _ = (f_X9_tape_69 _ _ _ _ _ _ _).map _
        unfold f_X9_tape_69
        by_cases h : (60 : Int32) ≤ nI i
        · rw [if_pos h, if_pos h]
          rfl
        · rw [if_neg h, if_neg h]
          cases inB ((60 : Int32) * nI t + nI i) 360
          · rfl
          · show (f_X9_tape_69L _ _ _ _ _ _ _).map _ = (f_X9_tape_69L _ _ _ _ _ _ _).map _
            rw [nI_1]
            exact ih (i + 1) ρa ρb q1 q2 _
    have := key 0 0 FU ρ1 ρ 0 0 η
    rw [d1, c1] at this
    have e : η2 = η' := Option.some.inj this
    rw [← e]
    exact d1
  have b0 : f_X6_becomes (σ (23 + t)) (ℓ (23 + t)) s (nI n) = some (s_t (s_t (σ (23 + t)) 1 0 s) 2 0 (nI n), ηt) := by
    unfold f_X6_becomes f_X6_becomes_0
    rw [lt_d, lt_d]
    exact b1
  refine ⟨_, ηt, η', b0, c3, R.tp (fun o h => up_ne (by omega)) (fun k h1 h2 => by rw [st_ne h2, st_ne h1]) (fun u hu => ?_)⟩
  obtain ⟨⟨len, l1, l2, l3, l4, l5⟩, l6⟩ := R.2.2.2.2.2.2 u hu
  by_cases hut : u = t
  · subst hut
    have e81 : s_t (s_t ρ 81 u s) 82 u (nI n) 81 u = s := by rw [st_ne (show (81 : Nat) ≠ 82 by omega), st_eq]
    rw [up_eq, up_eq, e81]
    refine ⟨⟨n, hn, st_eq, st_eq, ?_, hs⟩, fun i hi => ?_⟩
    · rw [st_ne (by omega), st_eq]
    · rw [b2 i hi, if_pos (Nat.zero_le _), c2, if_pos (by omega)]
  · rw [up_ne (by omega), up_ne (by omega)]
    refine ⟨⟨len, l1, l2, by rw [st_v, if_neg (by omega), st_ne (by omega)]; exact l3, by rw [st_ne (by omega), st_v, if_neg (by omega)]; exact l4, by rw [st_ne (by omega), st_v, if_neg (by omega)]; exact l5⟩, fun i hi => ?_⟩
    rw [c2, if_neg (by omega)]
    exact l6 i hi
theorem S_tape (R : RX nh σ ρ ℓ η) (a b c : Int32) : SMt nh σ ℓ (f_X8_tape σ ℓ a b c) (f_X9_tape ρ η a b c) := by
  have same : ∀ r : Int32, SMt nh σ ℓ (some (r, σ, ℓ)) (some (r, ρ, η)) := fun r => ⟨r, σ, ρ, ℓ, η, rfl, rfl, R, ⟨rfl, rfl⟩, rfl⟩
  unfold f_X8_tape f_X8_tape_0 f_X9_tape f_X9_tape_0
  rw [q_w a 6 6 rfl, q_T, bd_s, bd_s]
  rcases bB_c a (n := 6) (by omega) with ⟨h, -⟩ | ⟨t, ht, rfl, h⟩
  · rw [h]; simp only [i00]; exact same _
  rw [h]; simp only [i10]
  have gt : ∀ {β : Type} {x : Option β}, gd (inB (nI t) 6) x = x := z_in (by omega) (by decide)
  have ct : (nI t).toNatClampNeg = t := nI_clamp (by omega)
  unfold f_X9_tape_33 f_X9_tape_44 f_X9_tape_65
  simp only [gt, ct]
  rw [p_in, bd_s, q_w b 5 5 rfl, bd_s]
  by_cases hb : b = -1
  · subst hb
    obtain ⟨σt, ηt, η', c1, c2, c3⟩ := tp_set R ht (n := 0) (s := -1) (by omega) (Or.inl ⟨rfl, rfl⟩)
    have c1 : f_X6_becomes (σ (23 + t)) (ℓ (23 + t)) (-1) 0 = some (σt, ηt) := c1
    rw [if_pos rfl, c1, bd_s, lt_d, lt_d, b2_t (by decide), i10, if_pos (show (-1 : Int32) < 0 by decide), if_pos (show (-1 : Int32) < 0 by decide), lt_d, if_neg (show ¬ (0 : Int32) ≤ -1 by decide), lt_d, c2]
    exact ⟨_, _, _, _, _, rfl, rfl, c3, KP.up (by omega), up_ne (by omega)⟩
  · rw [if_neg hb]
    rcases bB_c b (n := 5) (by omega) with ⟨h, h'⟩ | ⟨s, hs, rfl, h⟩
    · have hn : ¬ ((-1 : Int32).toInt ≤ b.toInt ∧ b.toInt ≤ (4 : Int32).toInt) := fun q => by
        rw [show (-1 : Int32).toInt = -1 from rfl, show (4 : Int32).toInt = 4 from rfl] at q
        by_cases h0 : 0 ≤ b.toInt
        · exact h' b.toInt.toNat (by omega) (p_nat h0)
        · exact hb (p_eq.mpr (by rw [show (-1 : Int32).toInt = -1 from rfl]; omega))
      rw [h, b2_f hn]; simp only [i00]; exact same _
    · have hy : ((-1 : Int32).toInt ≤ (nI s).toInt ∧ (nI s).toInt ≤ (4 : Int32).toInt) := by
        rw [nI_toInt (by omega), show (-1 : Int32).toInt = -1 from rfl, show (4 : Int32).toInt = 4 from rfl]
        omega
      have h0 : ¬ nI s < 0 := nI_pos (by omega)
      rw [h, b2_t hy]; simp only [i10, if_neg h0]
      by_cases h60 : c ≤ 60
      · rw [if_pos h60, if_pos h60]
        by_cases hc0 : (0 : Int32) ≤ c
        · rw [if_pos hc0, if_pos hc0, lt_d, if_pos (show (0 : Int32) ≤ nI s from nI_pos' (by omega)), lt_d]
          obtain ⟨n, hn, rfl⟩ : ∃ n : Nat, n ≤ 60 ∧ c = nI n := by
            rw [p_le] at h60 hc0
            rw [show (60 : Int32).toInt = 60 from rfl] at h60
            rw [show (0 : Int32).toInt = 0 from rfl] at hc0
            exact ⟨c.toInt.toNat, by omega, p_nat hc0⟩
          obtain ⟨σt, ηt, η', c1, c2, c3⟩ := tp_set R ht (n := n) (s := nI s) hn (Or.inr ⟨s, hs, rfl⟩)
          rw [c1, bd_s, lt_d, lt_d, c2]
          exact ⟨_, _, _, _, _, rfl, rfl, c3, KP.up (by omega), up_ne (by omega)⟩
        · rw [if_neg hc0, if_neg hc0]; exact same _
      · rw [if_neg h60, if_neg h60]; exact same _
def SMl (nh : Nat) (σ : Ms) (ρ : Mm) (ℓ : Mz) (x : Option (Int32 × Mz)) (y : Option (Int32 × Mj)) : Prop := ∃ (r : Int32) (ℓ' : Mz) (η' : Mj), x = some (r, ℓ') ∧ y = some (r, η') ∧ RX nh σ ρ ℓ' η' ∧ ℓ' 29 = ℓ 29
theorem tp_fit {τ : Mm} {s : Nat} (hs : s < 5) (h : τ 1 0 = nI s) (v : Int64) : ∃ x : Int64, f_X6_fitted τ v = some x ∧ f_X9_narrow (nI s) v = some x := by
  unfold f_X6_fitted f_X6_fitted_0 f_X9_narrow f_X9_narrow_0
  rw [h]
  rcases (by omega : s = 0 ∨ s = 1 ∨ s = 2 ∨ s = 3 ∨ s = 4) with rfl | rfl | rfl | rfl | rfl
  · exact ⟨_, rfl, rfl⟩
  · exact ⟨_, rfl, rfl⟩
  · exact ⟨_, rfl, rfl⟩
  · exact ⟨_, rfl, rfl⟩
  · refine ⟨if lg_cmp v 0 = 0 then 0 else 1, ?_, ?_⟩
    · rw [if_neg (by decide), if_neg (by decide), if_neg (by decide), if_neg (by decide)]
      exact ite_some
    · rw [if_neg (by decide), if_neg (by decide), if_neg (by decide), if_pos (by decide)]
      exact ite_some
theorem S_item (R : RX nh σ ρ ℓ η) (a b : Int32) (v : Int64) : SMl nh σ ρ ℓ (f_X8_item σ ℓ a b v) (f_X9_item ρ η a b v) := by
  have same : ∀ r : Int32, SMl nh σ ρ ℓ (some (r, ℓ)) (some (r, η)) := fun r => ⟨r, ℓ, η, rfl, rfl, R, rfl⟩
  unfold f_X8_item f_X8_item_0 f_X9_item f_X9_item_0
  rw [q_w a 6 6 rfl, q_T, bd_s, bd_s]
  rcases bB_c a (n := 6) (by omega) with ⟨h, -⟩ | ⟨t, ht, rfl, h⟩
  · rw [h]; simp only [i00]; exact same _
  rw [h]; simp only [i10]
  have gt : ∀ {β : Type} {x : Option β}, gd (inB (nI t) 6) x = x := z_in (by omega) (by decide)
  have ct : (nI t).toNatClampNeg = t := nI_clamp (by omega)
  obtain ⟨⟨len, l1, l2, l3, l4, l5⟩, l6⟩ := R.2.2.2.2.2.2 t ht
  simp only [gt, ct]
  rw [l4]
  have hsm := sm_m1 (x := ρ 81 t) (l5.imp (fun z => z.1) id)
  by_cases hs : ρ 81 t = -1
  · rw [if_pos hs, if_neg (fun q => hsm.2.mp q hs)]; exact same _
  rw [if_neg hs, if_pos (hsm.2.mpr hs), q_has l1 l2, q_len l1 l3, bd_s, bd_s]
  rcases bB_c b (n := len) (by omega) with ⟨h, -⟩ | ⟨i, hi, rfl, h⟩
  · rw [h]; simp only [i00]; exact same _
  rw [h]; simp only [i10]
  obtain ⟨s, hs5, es⟩ := l5.resolve_left (fun z => hs z.1)
  obtain ⟨x, x1, x2⟩ := tp_fit hs5 (l4.trans es) v
  rw [x1, es, x2, bd_s, bd_s, show (60 : Int32) = nI 60 from rfl, pk_mul, nI_add, z_in (by omega) (by decide), z_in (by omega) (by decide), nI_clamp (by omega), nI_clamp (by omega), lt_d, lt_d, lt_d]
  refine ⟨1, _, _, rfl, rfl, R.tp (fun _ _ => rfl) (fun _ _ _ => rfl) (fun u hu => ?_), up_ne (by omega)⟩
  obtain ⟨m1, m2⟩ := R.2.2.2.2.2.2 u hu
  refine ⟨m1, fun q hq => ?_⟩
  rw [sl_v]
  by_cases hut : u = t
  · subst hut
    rw [up_eq, sl_v]
    by_cases hqi : q = i
    · rw [if_pos ⟨rfl, hqi⟩, if_pos ⟨rfl, by omega⟩]
    · rw [if_neg (fun z => hqi z.2), if_neg (by omega)]
      exact m2 q hq
  · rw [up_ne (by omega), if_neg (by omega)]
    exact m2 q hq
theorem S_read (R : RX nh σ ρ ℓ η) (a b : Int32) : ∃ r : Int64, f_X8_read σ ℓ a b = some r ∧ f_X9_read ρ η a b = some r := by
  unfold f_X8_read f_X8_read_0 f_X9_read f_X9_read_0 f_X9_read_34
  rw [q_w a 6 6 rfl, q_T, bd_s, bd_s]
  rcases bB_c a (n := 6) (by omega) with ⟨h, -⟩ | ⟨t, ht, rfl, h⟩
  · rw [h]; simp only [i00]; exact ⟨_, rfl, rfl⟩
  rw [h]; simp only [i10]
  have gt : ∀ {β : Type} {x : Option β}, gd (inB (nI t) 6) x = x := z_in (by omega) (by decide)
  have ct : (nI t).toNatClampNeg = t := nI_clamp (by omega)
  obtain ⟨⟨len, l1, l2, l3, l4, l5⟩, l6⟩ := R.2.2.2.2.2.2 t ht
  simp only [gt, ct]
  have hsm := sm_m1 (x := ρ 81 t) (l5.imp (fun z => z.1) id)
  rw [q_has l1 l2, bd_s, q_len l1 l3, bd_s]
  by_cases hs : ρ 81 t = -1
  · have h0 : len = 0 := by
      rcases l5 with z | ⟨s, hs5, es⟩
      · exact z.2
      · exact absurd (hs.symm.trans es) (fun q => z_m1 s (by omega) q.symm)
    subst h0
    rw [if_pos (hsm.1.mp hs)]
    rcases bB_c b (n := 0) (by omega) with ⟨h, -⟩ | ⟨i, hi, rfl, h⟩
    · rw [h]; simp only [i00]; exact ⟨_, rfl, rfl⟩
    · exact absurd hi (Nat.not_lt_zero _)
  rw [if_neg (fun q => hs (hsm.1.mpr q))]
  rcases bB_c b (n := len) (by omega) with ⟨h, -⟩ | ⟨i, hi, rfl, h⟩
  · rw [h]; simp only [i00]; exact ⟨_, rfl, rfl⟩
  rw [h]; simp only [i10]
  rw [show (60 : Int32) = nI 60 from rfl, pk_mul, nI_add, z_in (by omega) (by decide), z_in (by omega) (by decide), nI_clamp (by omega), nI_clamp (by omega), l6 i (by omega)]
  exact ⟨_, rfl, rfl⟩
theorem judL {t len i : Nat} (ht : t < 6) (hl : len ≤ 60) (hi : i < len) (l2 : σ (23 + t) 2 0 = nI len) (l3 : ρ 82 t = nI len) (h81 : ¬ ρ 81 t < 0) (l6 : ∀ q : Nat, q < 60 → ℓ (23 + t) 0 q = η 83 (60 * t + q)) (hw : ∀ f, f < 10 → σ 1 10 f = ρ 12 f) : ∀ (k f n n2 : Nat), f + k = 10 → k < n → k < n2 → ∃ r : Int32, f_X8_judge_40L σ ℓ (nI t) (nI i) n (nI f) = some r ∧ f_X9_judge_24L ρ η (nI t) (nI i) n2 (nI f) = some r := by
  intro k
  induction k with
  | zero =>
    intro f n n2 hf hn hn2
    obtain ⟨n, rfl⟩ : ∃ j, n = j + 1 := ⟨n - 1, by omega⟩
    obtain ⟨n2, rfl⟩ : ∃ j, n2 = j + 1 := ⟨n2 - 1, by omega⟩
    refine ⟨-5, ?_, ?_⟩
    · show f_X8_judge_40 _ _ _ _ _ _ = _
      unfold f_X8_judge_40
      rw [show f = 10 by omega, if_pos (by decide)]
    · show f_X9_judge_24 _ _ _ _ _ _ = _
      unfold f_X9_judge_24
      rw [show f = 10 by omega, if_pos (by decide)]
  | succ k ih =>
    intro f n n2 hf hn hn2
    obtain ⟨n, rfl⟩ : ∃ j, n = j + 1 := ⟨n - 1, by omega⟩
    obtain ⟨n2, rfl⟩ : ∃ j, n2 = j + 1 := ⟨n2 - 1, by omega⟩
    have g1 : f_X8_judge_40L σ ℓ (nI t) (nI i) (n + 1) (nI f) = f_X8_judge_40 σ ℓ (nI t) (nI i) (f_X8_judge_40L σ ℓ (nI t) (nI i) n) (nI f) := rfl
    have g2 : f_X9_judge_24L ρ η (nI t) (nI i) (n2 + 1) (nI f) = f_X9_judge_24 ρ η (nI t) (nI i) (f_X9_judge_24L ρ η (nI t) (nI i) n2) (nI f) := rfl
    rw [g1, g2]
    unfold f_X8_judge_40 f_X9_judge_24 f_X9_judge_57
    have n10 : ¬ (10 : Int32) ≤ nI f := nI_ge (b := 10) (by omega) (by omega)
    have gt : ∀ {β : Type} {x : Option β}, gd (inB (nI t) 6) x = x := z_in (by omega) (by decide)
    have ct : (nI t).toNatClampNeg = t := nI_clamp (by omega)
    have e1 : ((nI i).toInt64 + (nI f).toInt64).toInt = (i : Int) + (f : Int) := by
      rw [Int64.toInt_add, Int32.toInt_toInt64, Int32.toInt_toInt64, nI_toInt (by omega), nI_toInt (by omega), p_bml (by omega) (by omega)]
    have e2 : (nI len - nI f - 1 : Int32).toInt = (len : Int) - (f : Int) - 1 := by
      have a := pk_sub_toInt (a := len) (b := f) (by omega) (by omega)
      rw [p_sub, a] <;> (try rw [a]) <;> simp <;> omega
    rw [if_neg n10, if_neg n10, gt, gt, ct, p_has6, e1, l2, nI_toInt (show len < 2 ^ 31 by omega), bd_s, if_neg h81, if_neg (nI_pos (by omega)), l3]
    by_cases hc : i + f < len
    · have hc2 : nI i ≤ nI len - nI f - 1 := by
        rw [p_le, e2, nI_toInt (by omega)]
        omega
      rw [b2_t (by omega), i10, if_pos hc2, nI_add, show (60 : Int32) = nI 60 from rfl, pk_mul, nI_add, nI_add, z_in (by omega) (by decide), z_in (by omega) (by decide), z_in (by omega) (by decide), z_in (by omega) (by decide), nI_clamp (by omega), nI_clamp (by omega), nI_clamp (by omega), l6 (i + f) (by omega), hw f (by omega), lt_d, lt_d, nI_1, show 60 * t + (i + f) = 60 * t + i + f by omega]
      by_cases hq : lg_cmp (η 83 (60 * t + i + f)) (ρ 12 f).toInt64 = 0
      · rw [if_pos hq, if_pos hq]
        exact ih (f + 1) n n2 (by omega) (by omega) (by omega)
      · rw [if_neg hq, if_neg hq]
        exact ⟨_, rfl, rfl⟩
    · have hc2 : ¬ nI i ≤ nI len - nI f - 1 := by
        rw [p_le, e2, nI_toInt (by omega)]
        omega
      rw [b2_f (by omega), i00, if_neg hc2]
      exact ⟨_, rfl, rfl⟩
theorem S_judge (R : RX nh σ ρ ℓ η) (a b : Int32) : ∃ r : Int32, f_X8_judge σ ℓ a b = some r ∧ f_X9_judge ρ η a b = some r := by
  obtain ⟨M, m, w, H, -⟩ := R.1
  unfold f_X8_judge f_X8_judge_0 f_X9_judge f_X9_judge_0 f_X8_judge_37
  rw [q_w a 6 6 rfl, q_T, bd_s, bd_s]
  rcases bB_c a (n := 6) (by omega) with ⟨h, -⟩ | ⟨t, ht, rfl, h⟩
  · rw [h]; simp only [i00]; exact ⟨_, rfl, rfl⟩
  rw [h]; simp only [i10]
  have gt : ∀ {β : Type} {x : Option β}, gd (inB (nI t) 6) x = x := z_in (by omega) (by decide)
  have ct : (nI t).toNatClampNeg = t := nI_clamp (by omega)
  obtain ⟨⟨len, l1, l2, l3, l4, l5⟩, l6⟩ := R.2.2.2.2.2.2 t ht
  rw [gt, gt, ct, l4]
  -- outside the row: 100 at once
  have out : (bB b len = 0) → ∃ r : Int32, f_X8_judge_40L σ ℓ (nI t) b FU 0 = some r ∧ f_X9_judge_24L ρ η (nI t) b FU 0 = some r := by
    intro hb
    refine ⟨(100 : Int32) + 0, ?_, ?_⟩
    · show f_X8_judge_40 σ ℓ (nI t) b (f_X8_judge_40L σ ℓ (nI t) b 3999) 0 = _
      unfold f_X8_judge_40
      have e0 : b.toInt64 + (0 : Int32).toInt64 = b.toInt64 := by
        rw [show (0 : Int32).toInt64 = 0 from rfl, Int64.add_zero]
      rw [if_neg (by decide), ct, e0, q_has l1 l2, hb, bd_s, i00]
    · show f_X9_judge_24 ρ η (nI t) b (f_X9_judge_24L ρ η (nI t) b 3999) 0 = _
      unfold f_X9_judge_24 f_X9_judge_57
      rw [if_neg (by decide), gt, gt, ct, l3]
      by_cases h1 : ρ 81 t < 0
      · rw [if_pos h1]
      · rw [if_neg h1]
        by_cases h2 : b < 0
        · rw [if_pos h2]
        · rw [if_neg h2, if_neg]
          intro h3
          have e2 : (nI len - 0 - 1 : Int32).toInt = (len : Int) - 1 := by
            have a := pk_sub_toInt (a := len) (b := 1) (by omega) (by omega)
            rw [Int32.sub_zero]
            exact a
          rw [p_le, e2] at h3
          rw [p_lt, show (0 : Int32).toInt = 0 from rfl] at h2
          rcases bB_c b (n := len) (by omega) with ⟨-, h'⟩ | ⟨i, hi, rfl, h⟩
          · exact h' b.toInt.toNat (by omega) (p_nat (by omega))
          · rw [h] at hb
            exact absurd hb (by decide)
  rcases l5 with ⟨s1, s2⟩ | ⟨s, hs, es⟩
  · rw [if_pos s1, s1, if_pos (show (-1 : Int32) ≤ 0 by decide)]
    refine out ?_
    subst s2
    rcases bB_c b (n := 0) (by omega) with ⟨h, -⟩ | ⟨i, hi, rfl, h⟩
    · exact h
    · exact absurd hi (Nat.not_lt_zero _)
  · have hm1 : ¬ ρ 81 t = -1 := by rw [es]; exact z_m1 s (by omega)
    rw [if_neg hm1]
    by_cases h0 : s = 0
    · subst h0
      rw [es, if_pos (show nI 0 = 0 from rfl), if_pos (show nI 0 ≤ 0 by decide)]
      rcases bB_c b (n := len) (by omega) with ⟨h, -⟩ | ⟨i, hi, rfl, h⟩
      · exact out h
      · exact judL ht l1 hi l2 l3 (by rw [es]; decide) l6 (fun f hf => (H.2.2.2.2.2 f hf).1) 10 0 FU FU (by omega) (by rw [FU_e]; omega) (by rw [FU_e]; omega)
    · rw [es, if_neg (nI_ne0 (by omega) (by omega)), if_neg (nI_nle (by omega) (by omega))]
      exact ⟨_, rfl, rfl⟩
end CJ
