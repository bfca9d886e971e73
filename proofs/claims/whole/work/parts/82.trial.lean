/-! PURE: the calls that try minutes, in both: quiet, bells, means, odds, where one stands -/
section CD
variable {nh : Nat} {σ : Ms} {ρ : Mm} {ℓ : Mz} {η : Mj}
theorem SM.tr {α : Type} {σ' : Ms} (h : KP σ' σ) {x : Option (α × Ms)} {y : Option (α × Mm)} (H : SM nh σ' ℓ η x y) : SM nh σ ℓ η x y := by
  obtain ⟨r, σ2, ρ2, a, b, c, d⟩ := H
  exact ⟨r, σ2, ρ2, a, b, c, d.1.trans h.1, d.2.trans h.2⟩
theorem TR.one {C M m w : Nat} {τ2 ρ2 : Mm} (T : TR C M m w σ ρ τ2 ρ2) (hC : C ≤ 30000) (hn : m + 1 ≤ C) {hs : Ms} (hh : ∀ o, 14 ≤ o → o < 20 → hs o = σ o) : ∃ (w' : Nat) (τ3 ρ3 : Mm), f_X1_goes τ2 hs 1 = some τ3 ∧ f_X9_goMinute ρ2 = some ρ3 ∧ TR C M (m + 1) w' σ ρ τ3 ρ3 ∧ EF [4, 5, 6, 8, 11, 13, 14, 15] τ3 τ2 ∧ EF [2, 3, 4, 7, 8, 9, 10, 30] ρ3 ρ2 := by
  obtain ⟨w', τ3, ρ3, c1, c2, c3, c4, c5⟩ := T.mins (n := 1) hC hn hh
  obtain ⟨ρa, d1, d2⟩ := c2
  have d2 : ρ3 = ρa := d2
  subst d2
  exact ⟨w', τ3, ρ3, c1.goes (n := 1) (by omega), d1, c3, c4, c5⟩
theorem same_M {M M' : Nat} {x : Int32} (h : M ≤ 6) (h' : M' ≤ 6) (a : x = nI M) (b : x = nI M') : M' = M := (nI_eq (by omega) (by omega)).mp (b.symm.trans a)
theorem bd_eta {α β : Type} (x : Option (α × β)) : bd x (fun u => some (u.1, u.2)) = x := by cases x <;> rfl
theorem quietL (R : RX nh σ ρ ℓ η) {M : Nat} : ∀ (k i n n2 m w : Nat) (τ ρ' : Mm), i + k = 61 → k < n → k < n2 → m + k ≤ 20000 → TR 30000 M m w σ ρ τ ρ' → SM nh σ ℓ η (f_X8_quiet_13L n (va_up σ 2 τ) (nI i)) (f_X9_quiet_6L n2 ρ' (nI i)) := by
  intro k
  induction k with
  | zero =>
    intro i n n2 m w τ ρ' hi hn hn2 hm T
    obtain ⟨n, rfl⟩ : ∃ j, n = j + 1 := ⟨n - 1, by omega⟩
    obtain ⟨n2, rfl⟩ : ∃ j, n2 = j + 1 := ⟨n2 - 1, by omega⟩
    show SM nh σ ℓ η (f_X8_quiet_13 _ _ _) (f_X9_quiet_6 _ _ _)
    unfold f_X8_quiet_13 f_X9_quiet_6 f_X9_quiet_29
    obtain ⟨ρ4, b1, b2⟩ := SM.back R T (-5 : Int32)
    rw [show i = 61 by omega, if_pos (by decide), if_pos (by decide), b1, bd_s, if_pos (by decide)]
    exact b2
  | succ k ih =>
    intro i n n2 m w τ ρ' hi hn hn2 hm T
    obtain ⟨n, rfl⟩ : ∃ j, n = j + 1 := ⟨n - 1, by omega⟩
    obtain ⟨n2, rfl⟩ : ∃ j, n2 = j + 1 := ⟨n2 - 1, by omega⟩
    show SM nh σ ℓ η (f_X8_quiet_13 _ _ _) (f_X9_quiet_6 _ _ _)
    unfold f_X8_quiet_13 f_X9_quiet_6 f_X9_quiet_29
    have n61 : ¬ (61 : Int32) ≤ nI i := nI_ge (b := 61) (by omega) (by omega)
    rw [if_neg (show ¬ (60 : Int32) < nI i from nI_nlt (b := i) (a := 60) (by omega) (by omega)), if_neg n61, up_eq, T.1.2.2.2.1.1]
    by_cases h0 : ρ' 2 0 = 0
    · obtain ⟨ρ4, b1, b2⟩ := SM.back R T (nI i)
      rw [if_pos h0, if_pos h0, b1, bd_s, if_neg n61]
      exact b2
    · obtain ⟨w', τ3, ρ3, c1, c2, T3, -⟩ := T.one (by omega) (by omega) (hs := va_up σ 2 τ) up2
      rw [if_neg h0, if_neg h0, c1, c2, bd_s, bd_s, lt_d, lt_d, lt_d, up_up, nI_1]
      exact ih (i + 1) n n2 (m + 1) w' τ3 ρ3 (by omega) (by omega) (by omega) (by omega) T3
theorem S_quiet (R : RX nh σ ρ ℓ η) : SM nh σ ℓ η (f_X8_quiet σ) (f_X9_quiet ρ) := by
  obtain ⟨M, m, w, τ2, ρ2, a1, a2, T, hm, -⟩ := R.trial
  unfold f_X8_quiet f_X8_quiet_0 f_X9_quiet f_X9_quiet_0
  rw [a1, a2, bd_s, bd_s, lt_d]
  exact quietL R 61 0 FU FU m w τ2 ρ2 (by omega) (by rw [FU_e]; omega) (by rw [FU_e]; omega) (by omega) T
theorem soonL (R : RX nh σ ρ ℓ η) {M g : Nat} (hg : g < 10) : ∀ (k i n n2 m w : Nat) (τ ρ' : Mm), i + k = 60 → k < n → k + 2 < n2 → m + k ≤ 20000 → TR 30000 M m w σ ρ τ ρ' → bt (ρ' 2 0) g = true → SM nh σ ℓ η (f_X8_minutesTo_2L (nI g) n (va_up σ 2 τ) (nI (i + 1))) (f_X9_soonIfRung_18L (nI g) n2 ρ' (nI i)) := by
  intro k
  induction k with
  | zero =>
    intro i n n2 m w τ ρ' hi hn hn2 hm T hb
    obtain ⟨n, rfl⟩ : ∃ j, n = j + 1 := ⟨n - 1, by omega⟩
    obtain ⟨n2, rfl⟩ : ∃ j, n2 = j + 1 + 1 := ⟨n2 - 2, by omega⟩
    show SM nh σ ℓ η (f_X8_minutesTo_2 _ _ _ _) (f_X9_soonIfRung_18 _ (f_X9_soonIfRung_18 _ _) _ _)
    unfold f_X8_minutesTo_2 f_X9_soonIfRung_18
    obtain ⟨w', τ3, ρ3, c1, c2, T3, -⟩ := T.one (by omega) (by omega) (hs := va_up σ 2 τ) up2
    obtain ⟨ρ6, b1, b2, b3⟩ := R.back (σ' := va_up σ 2 τ) (fun o h => up_ne h) (by rw [up_eq]; exact T.2.2.2.2.2) T3.2.2.2.2.1
    unfold f_X9_soonIfRung_46
    rw [show i = 60 by omega, if_pos (show (60 : Int32) < nI (60 + 1) by decide), if_neg (show ¬ (61 : Int32) ≤ nI 60 by decide), p_has (by omega), b2_t hb, bd_s, i10, c2, bd_s, lt_d, nI_1, if_pos (show (61 : Int32) ≤ nI (60 + 1) by decide), b1, bd_s, if_pos (show (61 : Int32) ≤ nI (60 + 1) by decide)]
    exact ⟨_, _, _, rfl, rfl, b2, KP.up (by omega)⟩
  | succ k ih =>
    intro i n n2 m w τ ρ' hi hn hn2 hm T hb
    obtain ⟨n, rfl⟩ : ∃ j, n = j + 1 := ⟨n - 1, by omega⟩
    obtain ⟨n2, rfl⟩ : ∃ j, n2 = j + 1 + 1 := ⟨n2 - 2, by omega⟩
    have e2 : f_X9_soonIfRung_18L (nI g) (n2 + 1 + 1) ρ' (nI i) = f_X9_soonIfRung_18 (nI g) (f_X9_soonIfRung_18L (nI g) (n2 + 1)) ρ' (nI i) := rfl
    have e1 : f_X8_minutesTo_2L (nI g) (n + 1) (va_up σ 2 τ) (nI (i + 1)) = f_X8_minutesTo_2 (nI g) (f_X8_minutesTo_2L (nI g) n) (va_up σ 2 τ) (nI (i + 1)) := rfl
    rw [e1, e2]
    unfold f_X8_minutesTo_2 f_X9_soonIfRung_18
    obtain ⟨w', τ3, ρ3, c1, c2, T3, -⟩ := T.one (by omega) (by omega) (hs := va_up σ 2 τ) up2
    rw [if_neg (show ¬ (60 : Int32) < nI (i + 1) from nI_nlt (b := i + 1) (a := 60) (by omega) (by omega)), if_neg (show ¬ (61 : Int32) ≤ nI i from nI_ge (b := 61) (by omega) (by omega)), p_has (by omega), b2_t hb, bd_s, i10, up_eq, c1, c2, bd_s, bd_s, lt_d, lt_d, lt_d, up_up, up_eq, p_rung (by omega), bd_s, T3.1.2.2.2.1.1, nI_1, nI_1]
    by_cases hb3 : bt (ρ3 2 0) g = true
    · rw [b2_t hb3, i10]
      exact ih (i + 1) n (n2 + 1) (m + 1) w' τ3 ρ3 (by omega) (by omega) (by omega) (by omega) T3 hb3
    · rw [b2_f hb3, i00]
      show SM nh σ ℓ η _ (f_X9_soonIfRung_18 _ _ _ _)
      unfold f_X9_soonIfRung_18 f_X9_soonIfRung_46
      obtain ⟨ρ4, d1, d2⟩ := SM.back R T3 (nI (i + 1))
      rw [if_neg (show ¬ (61 : Int32) ≤ nI (i + 1) from nI_ge (b := 61) (by omega) (by omega)), p_has (by omega), b2_f hb3, bd_s, i00, d1, bd_s, if_neg (show ¬ (61 : Int32) ≤ nI (i + 1) from nI_ge (b := 61) (by omega) (by omega))]
      exact d2
theorem S_bell (R : RX nh σ ρ ℓ η) (a b : Int32) : SM nh σ ℓ η (f_X8_bell σ a b) (f_X9_bell ρ a b) := by
  unfold f_X8_bell f_X8_bell_0 f_X9_bell f_X9_bell_0
  rw [q_w a 10 10 rfl, q_F, bd_s, bd_s]
  rcases bB_c a (n := 10) (by omega) with ⟨h, -⟩ | ⟨f, hf, rfl, h⟩
  · rw [h]; simp only [i00]; exact SM.same R _
  rw [h]; simp only [i10]
  rw [q_w b 2 2 rfl, q_i b 0 1 2 rfl rfl, bd_s, bd_s]
  rcases bB_c b (n := 2) (by omega) with ⟨h, -⟩ | ⟨k, hk, rfl, h⟩
  · rw [h]; simp only [i00]; exact SM.same R _
  rw [h]; simp only [i10]
  obtain ⟨M, m, w, τ2, ρ2, a1, a2, T, hm, H, he, hr⟩ := R.trial
  have hM := H.1.1
  obtain ⟨e, g, hg, e'⟩ := H.2.2.2.2.2 f hf
  have e2 : τ2 10 f = nI g := (he.k10 hf).trans (e.trans e')
  have T2 := T.ring hg
  have gf : ∀ {β : Type} {x : Option β}, gd (inB (nI f) 10) x = x := z_in hf (by decide)
  rw [a1, bd_s, lt_d, up_eq, p_rings hf e2, bd_s, lt_d, up_up]
  simp only [gf, nI_clamp (show f < 2 ^ 31 by omega), e']
  have b0 : bt (ρ2 2 0 ||| ((1 : Int32) <<< (nI g &&& 31))) g = true := by rw [p_on (by omega) (by omega)]; simp
  rcases (by omega : k = 0 ∨ k = 1) with rfl | rfl
  · rw [if_pos (show nI 0 = 0 from rfl), if_pos (show nI 0 = 0 from rfl)]
    unfold f_X8_minutesTo f_X8_minutesTo_0 f_X9_soonIfRung f_X9_soonIfRung_0
    rw [a2, bd_s, lt_d, bd_eta, bd_eta]
    exact soonL R hg 60 0 FU FU m w _ _ (by omega) (by rw [FU_e]; omega) (by rw [FU_e]; omega) (by omega) T2 (by rw [st_eq]; exact b0)
  · rw [if_neg (show ¬ nI 1 = 0 by decide), if_neg (show ¬ nI 1 = 0 by decide)]
    unfold f_X8_whoGoesTo f_X8_whoGoesTo_0 f_X9_whoIfRung f_X9_whoIfRung_0
    obtain ⟨τ3, ρ3, c1, c2, T3⟩ := T2.gives (hs := va_up σ 2 (s_t τ2 13 0 (τ2 13 0 ||| ((1 : Int32) <<< (nI g &&& 31))))) up2
    obtain ⟨r, o1, o2, -⟩ := s_who T3.1 (nI g)
    rw [bd_eta, bd_eta, up_eq, c1, bd_s, lt_d, up_up, up_eq, o1, bd_s, a2, bd_s, lt_d, c2, bd_s, o2, bd_s]
    obtain ⟨ρ4, b1, b2⟩ := SM.back R T3 r
    rw [b1, bd_s]
    exact b2
/-! fractions in lowest terms -/
theorem gcd_st (x y : Nat) : Nat.gcd x y = Nat.gcd y (x % y) := by rw [Nat.gcd_comm x y, Nat.gcd_rec y x, Nat.gcd_comm]
theorem nz_n {y : Nat} (h0 : 0 < y) (h : y < 2 ^ 31) : nz (nI y) = true := by
  have := nI_ne0 h0 h
  unfold nz
  simpa using this
theorem low8 {p0 p1 p2 : Int32} : ∀ (y x i n : Nat), y + i < 100 → y < n → x < 2 ^ 31 → f_X8_lowest_8L p0 p1 p2 n (nI x) (nI y) (nI i) = f_X8_lowest_39 p0 p1 p2 (nI (Nat.gcd x y)) := by
  intro y
  induction y using Nat.strongRecOn with
  | ind y ih =>
    intro x i n hi hn hx
    obtain ⟨n, rfl⟩ : ∃ j, n = j + 1 := ⟨n - 1, by omega⟩
    show f_X8_lowest_8 _ _ _ _ _ _ _ = _
    unfold f_X8_lowest_8
    rw [if_neg (show ¬ (100 : Int32) ≤ nI i from nI_ge (b := 100) (by omega) (by omega))]
    by_cases h0 : y = 0
    · subst h0
      rw [if_pos (show nI 0 = 0 from rfl), Nat.gcd_zero_right]
    · have hm : x % y < y := Nat.mod_lt _ (by omega)
      rw [if_neg (nI_ne0 (by omega) (by omega)), gd_of (nz_n (by omega) (by omega)), pk_rem hx (by omega) (by omega), lt_d, lt_d, nI_1, ih (x % y) hm y (i + 1) n (by omega) (by omega) (by omega), ← gcd_st]
theorem low9 {p0 p1 : Int32} : ∀ (y x n : Nat), y < 100 → y < n → x < 2 ^ 31 → f_X9_divisor_5L p0 p1 n (nI x) (nI y) = some (nI (Nat.gcd x y)) := by
  intro y
  induction y using Nat.strongRecOn with
  | ind y ih =>
    intro x n hi hn hx
    obtain ⟨n, rfl⟩ : ∃ j, n = j + 1 := ⟨n - 1, by omega⟩
    show f_X9_divisor_5 _ _ _ _ _ = _
    unfold f_X9_divisor_5
    by_cases h0 : y = 0
    · subst h0
      rw [if_pos (show nI 0 = 0 from rfl), Nat.gcd_zero_right]
    · have hm : x % y < y := Nat.mod_lt _ (by omega)
      rw [if_neg (nI_ne0 (by omega) (by omega)), gd_of (nz_n (by omega) (by omega)), pk_rem hx (by omega) (by omega), lt_d, ih (x % y) hm y n (by omega) (by omega) (by omega), ← gcd_st]
theorem s_lowest {a b : Nat} (ha : a < 2 ^ 31) (hb0 : 0 < b) (hb : b ≤ 10) (part : Int32) : ∃ r : Int64, f_X8_lowest (nI a) (nI b) part = some r ∧ f_X9_lowest (nI a) (nI b) part = some r := by
  have hg : 0 < Nat.gcd b a := Nat.gcd_pos_of_pos_left _ hb0
  have hg2 : Nat.gcd b a ≤ b := Nat.le_of_dvd hb0 (Nat.gcd_dvd_left b a)
  have e8 : f_X8_lowest (nI a) (nI b) part = f_X8_lowest_39 (nI a) (nI b) part (nI (Nat.gcd b a)) := by
    show f_X8_lowest_8L (nI a) (nI b) part FU (nI b) (nI a) (nI 0) = _
    by_cases h0 : a = 0
    · rw [h0]
      exact low8 0 b 0 FU (by omega) (by rw [FU_e]; omega) (by omega)
    · show f_X8_lowest_8 (nI a) (nI b) part (f_X8_lowest_8L (nI a) (nI b) part 3999) (nI b) (nI a) (nI 0) = _
      unfold f_X8_lowest_8
      have hm : b % a ≤ b := Nat.mod_le b a
      rw [if_neg (show ¬ (100 : Int32) ≤ nI 0 by decide), if_neg (nI_ne0 (by omega) (by omega)), gd_of (nz_n (by omega) (by omega)), pk_rem (by omega) (by omega) (by omega), lt_d, lt_d, nI_1, low8 (b % a) a (0 + 1) 3999 (by omega) (by omega) (by omega), ← gcd_st]
  have e9 : f_X9_divisor (nI a) (nI b) = some (nI (Nat.gcd b a)) := by
    show f_X9_divisor_5L (nI a) (nI b) FU (nI a) (nI b) = _
    rw [low9 b a FU (by omega) (by rw [FU_e]; omega) ha, Nat.gcd_comm]
  unfold f_X9_lowest f_X9_lowest_0
  rw [e8, e9, bd_s]
  unfold f_X8_lowest_39 f_X8_lowest_48
  rw [if_neg (nI_ne0 hg (by omega)), if_neg (nI_ne0 hg (by omega)), gd_of (nz_n hg (by omega)), gd_of (nz_n hg (by omega)), ite_some]
  exact ⟨_, rfl, rfl⟩
theorem meanL (R : RX nh σ ρ ℓ η) {M m w : Nat} {τ ρ' : Mm} (T : TR 30000 M m w σ ρ τ ρ') (hM0 : 0 < M) (h0 : ρ 0 0 = nI M) (p0 part : Int32) : ∀ (k i n n2 s : Nat), i + k = M → k < n → k < n2 → s ≤ 30000 * i → SM nh σ ℓ η (f_X8_mean_57L p0 part n (va_up σ 2 τ) (nI s) (nI i)) (f_X9_mean_43L p0 part n2 ρ' (nI s) (nI i)) := by
  have H := T.1
  have hM := H.1.1
  have hm := H.2.1.1
  intro k
  induction k with
  | zero =>
    intro i n n2 s hi hn hn2 hs
    obtain ⟨n, rfl⟩ : ∃ j, n = j + 1 := ⟨n - 1, by omega⟩
    obtain ⟨n2, rfl⟩ : ∃ j, n2 = j + 1 := ⟨n2 - 1, by omega⟩
    show SM nh σ ℓ η (f_X8_mean_57 _ _ _ _ _ _) (f_X9_mean_43 _ _ _ _ _ _)
    unfold f_X8_mean_57 f_X9_mean_43
    obtain ⟨ρ4, b1, b2, b3⟩ := R.back (σ' := va_up σ 2 τ) (fun o h => up_ne h) (by rw [up_eq]; exact T.2.2.2.2.2) T.2.2.2.2.1
    obtain ⟨r, r1, r2⟩ := s_lowest (a := s) (b := M) (by omega) hM0 (by omega) part
    rw [up_eq, H.1.2.1, H.1.2.2, show i = M by omega, if_pos (nI_le (Nat.le_refl _) (by omega)), if_pos (nI_le (Nat.le_refl _) (by omega)), r1, bd_s, b1, bd_s, b3.1 0 (by omega), h0, r2, bd_s]
    exact ⟨_, _, _, rfl, rfl, b2, KP.up (by omega)⟩
  | succ k ih =>
    intro i n n2 s hi hn hn2 hs
    obtain ⟨n, rfl⟩ : ∃ j, n = j + 1 := ⟨n - 1, by omega⟩
    obtain ⟨n2, rfl⟩ : ∃ j, n2 = j + 1 := ⟨n2 - 1, by omega⟩
    show SM nh σ ℓ η (f_X8_mean_57 _ _ _ _ _ _) (f_X9_mean_43 _ _ _ _ _ _)
    unfold f_X8_mean_57 f_X9_mean_43
    obtain ⟨a8, c, hc, a8'⟩ := (H.2.2.2.2.1 i (by omega)).2.2.2.2.2.2.1
    rw [up_eq, H.1.2.1, H.1.2.2, if_neg (nI_ge (by omega) (by omega)), if_neg (nI_ge (by omega) (by omega)), z_in (by omega) (by decide), z_in (by omega) (by decide), nI_clamp (by omega), a8, a8', lt_d, lt_d, lt_d, lt_d, nI_add, nI_1]
    exact ih (i + 1) n n2 (s + c) (by omega) (by omega) (by omega) (by omega)
theorem S_mean (R : RX nh σ ρ ℓ η) (a b : Int32) : SM nh σ ℓ η (f_X8_mean σ a b) (f_X9_mean ρ a b) := by
  obtain ⟨M, m, w, τ2, ρ2, a1, a2, T, hm, H, he, hr⟩ := R.trial
  have hM := H.1.1
  unfold f_X8_mean f_X8_mean_0 f_X9_mean f_X9_mean_0
  rw [q_w a 61 61 rfl, q_Mi, bd_s, bd_s]
  rcases bB_c a (n := 61) (by omega) with ⟨h, -⟩ | ⟨n, hn, rfl, h⟩
  · rw [h]; simp only [i00]; exact SM.same R _
  rw [h]; simp only [i10]
  rw [q_w b 2 2 rfl, q_i b 0 1 2 rfl rfl, bd_s, bd_s]
  rcases bB_c b (n := 2) (by omega) with ⟨h, -⟩ | ⟨k, hk, rfl, h⟩
  · rw [h]; simp only [i00]; exact SM.same R _
  rw [h]; simp only [i10]
  rw [H.1.2.1, H.1.2.2]
  by_cases hM0 : M = 0
  · rw [hM0, if_pos (show nI 0 = 0 from rfl), if_pos (show nI 0 = 0 from rfl)]
    exact SM.same R _
  rw [if_neg (nI_ne0 (by omega) (by omega)), if_neg (nI_ne0 (by omega) (by omega))]
  obtain ⟨w2, τ3, ρ3, c1, c2, T3, -⟩ := T.mins (n := n) (by omega) (by omega) (hs := va_up σ 2 τ2) up2
  rw [a1, a2, bd_s, bd_s, lt_d, up_eq, c1.goes (by omega), c2.goes (by omega), bd_s, bd_s, lt_d, up_up]
  exact meanL R T3 (by omega) H.1.2.2 (nI n) (nI k) M 0 FU FU 0 (by omega) (by rw [FU_e]; omega) (by rw [FU_e]; omega) (by omega)
theorem oddsL {M p : Nat} (hp : p < M) (hM : M ≤ 6) (p1 : Int32) : ∀ (k i n n2 s : Nat) (σ : Ms) (ρ : Mm), RX nh σ ρ ℓ η → σ 1 12 0 = nI M → i + k = 10 → k < n → k < n2 → s ≤ i → SM nh σ ℓ η (f_X8_odds_27L (nI p) p1 n σ (nI s) (nI i)) (f_X9_odds_27L (nI p) p1 n2 ρ (nI s) (nI i)) := by
  intro k
  induction k with
  | zero =>
    intro i n n2 s σ ρ R hσ hi hn hn2 hs
    obtain ⟨n, rfl⟩ : ∃ j, n = j + 1 := ⟨n - 1, by omega⟩
    obtain ⟨n2, rfl⟩ : ∃ j, n2 = j + 1 := ⟨n2 - 1, by omega⟩
    show SM nh σ ℓ η (f_X8_odds_27 _ _ _ _ _ _) (f_X9_odds_27 _ _ _ _ _ _)
    unfold f_X8_odds_27 f_X9_odds_27
    obtain ⟨r, r1, r2⟩ := s_lowest (a := s) (b := 10) (by omega) (by omega) (by omega) p1
    have r1 : f_X8_lowest (nI s) 10 p1 = some r := r1
    have r2 : f_X9_lowest (nI s) 10 p1 = some r := r2
    rw [show i = 10 by omega, if_pos (by decide), if_pos (by decide), r1, r2, bd_s, bd_s]
    exact SM.same R _
  | succ k ih =>
    intro i n n2 s σ ρ R hσ hi hn hn2 hs
    obtain ⟨n, rfl⟩ : ∃ j, n = j + 1 := ⟨n - 1, by omega⟩
    obtain ⟨n2, rfl⟩ : ∃ j, n2 = j + 1 := ⟨n2 - 1, by omega⟩
    show SM nh σ ℓ η (f_X8_odds_27 _ _ _ _ _ _) (f_X9_odds_27 _ _ _ _ _ _)
    unfold f_X8_odds_27 f_X9_odds_27 f_X8_odds_79 f_X9_odds_75
    obtain ⟨M', m, w, τ2, ρ2, a1, a2, T, hm, H, he, hr⟩ := R.trial
    obtain rfl := same_M hM H.1.1 hσ H.1.2.1
    obtain ⟨e, g, hg, e'⟩ := H.2.2.2.2.2 i (by omega)
    have e2 : τ2 10 i = nI g := (he.k10 (by omega)).trans (e.trans e')
    have T2 := T.ring hg
    obtain ⟨τ3, ρ3, c1, c2, T3⟩ := T2.gives (hs := va_up σ 2 (s_t τ2 13 0 (τ2 13 0 ||| ((1 : Int32) <<< (nI g &&& 31))))) up2
    obtain ⟨ρ4, b1, b2, b3⟩ := R.back (σ' := va_up σ 2 τ3) (fun o h => up_ne h) (by rw [up_eq]; exact T3.2.2.2.2.2) T3.2.2.2.2.1
    have n10 : ¬ (10 : Int32) ≤ nI i := nI_ge (b := 10) (by omega) (by omega)
    have gp : ∀ {β : Type} {x : Option β}, gd (inB (nI p) 6) x = x := z_in (by omega) (by decide)
    rw [if_neg n10, if_neg n10, a1, bd_s, lt_d, up_eq, p_rings (by omega) e2, bd_s, lt_d, up_up, up_eq, c1, bd_s, lt_d, up_up, up_eq, gp, a2, bd_s, z_in (by omega) (by decide), nI_clamp (show i < 2 ^ 31 by omega), hr 12 (by omega), e']
    simp only [lt_d, c2, bd_s, gp, nI_clamp (show p < 2 ^ 31 by omega), b1, nI_1]
    have hg5 := (T3.1.2.2.2.2.1 p hp).2.2.2.1
    rw [hg5.1]
    have hpg := (p_goal hg5.2).2
    by_cases h5 : ρ3 8 p = -5
    · rw [if_pos h5, if_pos (hpg.mpr h5), Int32.add_zero]
      exact SM.tr (KP.up (by omega)) (ih (i + 1) n n2 s (va_up σ 2 τ3) ρ4 b2 (by rw [up_ne (by omega)]; exact hσ) (by omega) (by omega) (by omega) (by omega))
    · rw [if_neg h5, if_neg (fun q => h5 (hpg.mp q))]
      exact SM.tr (KP.up (by omega)) (ih (i + 1) n n2 (s + 1) (va_up σ 2 τ3) ρ4 b2 (by rw [up_ne (by omega)]; exact hσ) (by omega) (by omega) (by omega) (by omega))
theorem S_odds (R : RX nh σ ρ ℓ η) (a b : Int32) : SM nh σ ℓ η (f_X8_odds σ a b) (f_X9_odds ρ a b) := by
  obtain ⟨M, m, w, H, -⟩ := R.1
  have hM := H.1.1
  unfold f_X8_odds f_X8_odds_0 f_X9_odds f_X9_odds_0
  rw [q_M8 hM H.1.2.1, q_M9 hM H.1.2.2, bd_s, bd_s]
  rcases bB_c a (n := M) (by omega) with ⟨h, -⟩ | ⟨p, hp', rfl, h⟩
  · rw [h]; simp only [i00]; exact SM.same R _
  rw [h]; simp only [i10]
  rw [q_w b 2 2 rfl, q_i b 0 1 2 rfl rfl, bd_s, bd_s]
  rcases bB_c b (n := 2) (by omega) with ⟨h, -⟩ | ⟨k, hk, rfl, h⟩
  · rw [h]; simp only [i00]; exact SM.same R _
  rw [h]; simp only [i10]
  exact oddsL hp' hM (nI k) 10 0 FU FU 0 σ ρ R H.1.2.1 (by omega) (by rw [FU_e]; omega) (by rw [FU_e]; omega) (by omega)
end CD
