/-! PURE: THE TEXT read, in both: signs, numbers, tests -/
def TX (n : Nat) (T : Nat → Nat) : Prop := n ≤ 100 ∧ ∀ q, q < n → T q < 128
def T8 (n h : Nat) (T : Nat → Nat) (i : Nat) (t : Mm) : Prop := t 3 0 = nI n ∧ t 2 0 = nI i ∧ (∀ q, q < n → t 0 q = nI (T q)) ∧ t 4 0 = nI h
def M9 (n : Nat) (T : Nat → Nat) (i : Nat) (ρ : Mm) : Prop := ρ 15 0 = nI n ∧ ρ 16 0 = nI i ∧ ∀ q, q < n → ρ 18 q = nI (T q)
theorem T8.at {n h : Nat} {T : Nat → Nat} {i j : Nat} {t : Mm} (H : T8 n h T i t) : T8 n h T j (s_t t 2 0 (nI j)) := ⟨H.1, st_eq, H.2.2.1, H.2.2.2⟩
theorem M9.at {n : Nat} {T : Nat → Nat} {i j : Nat} {ρ : Mm} (H : M9 n T i ρ) : M9 n T j (s_t ρ 16 0 (nI j)) := ⟨H.1, st_eq, H.2.2⟩
theorem M9.ef {n : Nat} {T : Nat → Nat} {i : Nat} {ρ ρ' : Mm} (H : M9 n T i ρ) (e : ∀ k, k = 15 ∨ k = 16 ∨ k = 18 → ρ' k = ρ k) : M9 n T i ρ' := by
  unfold M9
  rw [e 15 (by omega), e 16 (by omega), e 18 (by omega)]
  exact H
def lookB (c : Nat) : Bool := (f_J0_indexOf_0f7a4 3 (((nI c).toUInt32 % 65536).toInt32) == f_X9_place (nI c)) && (match f_X9_place (nI c) with | some r => r == -1 || decide (r.toNatClampNeg < 6) && r == nI r.toNatClampNeg | none => false) && (f_J0_indexOf_0f7a4 4 (((nI c).toUInt32 % 65536).toInt32) == some (if 60 ≤ c ∧ c ≤ 62 then nI (c - 60) else -1))
theorem lookB_t : ∀ c, c < 128 → lookB c = true := by decide +kernel
theorem look3 {c : Nat} (hc : c < 128) : ∃ r : Int32, f_J0_indexOf_0f7a4 3 (((nI c).toUInt32 % 65536).toInt32) = some r ∧ f_X9_place (nI c) = some r ∧ (r = -1 ∨ ∃ l : Nat, l < 6 ∧ r = nI l) := by
  have := lookB_t c hc
  unfold lookB at this
  simp only [Bool.and_eq_true, beq_iff_eq] at this
  obtain ⟨⟨h1, h2⟩, -⟩ := this
  rcases hp : f_X9_place (nI c) with _ | r
  · rw [hp] at h2
    exact absurd h2 (fun z => Bool.false_ne_true z)
  · rw [hp] at h1 h2
    refine ⟨r, h1, rfl, ?_⟩
    have h2 : (r == -1 || decide (r.toNatClampNeg < 6) && r == nI r.toNatClampNeg) = true := h2
    simp only [Bool.or_eq_true, Bool.and_eq_true, beq_iff_eq, decide_eq_true_eq] at h2
    rcases h2 with h2 | ⟨h2, h3⟩
    · exact Or.inl h2
    · exact Or.inr ⟨_, h2, h3⟩
theorem look4 {c : Nat} (hc : c < 128) : f_J0_indexOf_0f7a4 4 (((nI c).toUInt32 % 65536).toInt32) = some (if 60 ≤ c ∧ c ≤ 62 then nI (c - 60) else -1) := by
  have := lookB_t c hc
  unfold lookB at this
  simp only [Bool.and_eq_true, beq_iff_eq] at this
  exact this.2
section TA
variable {n h i : Nat} {T : Nat → Nat} {t ρ : Mm}
theorem k_takes8 (X : TX n T) (H : T8 n h T i t) (hin : i ≤ n) {c : Nat} (hc : c < 128) : f_X7_takes t (nI c) = if i < n ∧ T i = c then some (1, s_t t 2 0 (nI (i + 1))) else some (0, t) := by
  obtain ⟨h1, h2, h3, -⟩ := H
  unfold f_X7_takes f_X7_takes_0
  rw [h1, h2]
  have hn := X.1
  by_cases hi : i < n
  · have := X.2 i hi
    rw [if_neg (nI_ge hi (by omega)), z_in (by omega) (by decide), nI_clamp (by omega), h3 i hi, lt_d, nI_1]
    by_cases he : T i = c
    · rw [if_pos (by rw [he]), if_pos ⟨hi, he⟩]
    · rw [if_neg (z_neq he (by omega) (by omega)), if_neg (fun q => he q.2)]
  · rw [if_pos (nI_le (by omega) (by omega)), if_neg (fun q : i < n ∧ T i = c => hi q.1)]
theorem k_next (X : TX n T) (H : M9 n T i ρ) (hin : i ≤ n) : f_X9_next ρ = some (if i < n then nI (T i) else -1) := by
  obtain ⟨h1, h2, h3⟩ := H
  unfold f_X9_next f_X9_next_0
  rw [h1, h2]
  have hn := X.1
  by_cases hi : i < n
  · rw [if_neg (nI_ge hi (by omega)), z_in (by omega) (by decide), nI_clamp (by omega), h3 i hi, if_pos hi]
  · rw [if_pos (nI_le (by omega) (by omega)), if_neg hi]
theorem k_is (X : TX n T) {c : Nat} (hc : c < 128) : ((if i < n then nI (T i) else -1) = nI c) ↔ (i < n ∧ T i = c) := by
  by_cases hi : i < n
  · have := X.2 i hi
    rw [if_pos hi, nI_eq (by omega) (by omega)]
    exact ⟨fun q => ⟨hi, q⟩, fun q => q.2⟩
  · rw [if_neg hi]
    exact ⟨fun q => absurd q.symm (z_m1 c (by omega)), fun q => absurd q.1 hi⟩
theorem k_takes9 (X : TX n T) (H : M9 n T i ρ) (hin : i ≤ n) {c : Nat} (hc : c < 128) : f_X9_takes ρ (nI c) = if i < n ∧ T i = c then some (1, s_t ρ 16 0 (nI (i + 1))) else some (0, ρ) := by
  unfold f_X9_takes f_X9_takes_0
  rw [k_next X H hin, bd_s, H.2.1, nI_1, lt_d]
  by_cases he : i < n ∧ T i = c
  · rw [if_pos ((k_is X hc).mpr he), if_pos he]
  · rw [if_neg (fun q => he ((k_is X hc).mp q)), if_neg he]
def dg (n : Nat) (T : Nat → Nat) (i : Nat) : Prop := i < n ∧ 48 ≤ T i ∧ T i ≤ 57
theorem k_dig9 (X : TX n T) (H : M9 n T i ρ) (hin : i ≤ n) : f_X9_isDigit ρ = some (b2 (i < n ∧ 48 ≤ T i ∧ T i ≤ 57)) := by
  unfold f_X9_isDigit f_X9_isDigit_0
  rw [k_next X H hin, bd_s, p_in, bd_s, gd_of p_isB]
  refine congrArg some (b2_c ?_)
  rw [show (48 : Int32).toInt = 48 from rfl, show (57 : Int32).toInt = 57 from rfl]
  by_cases hi : i < n
  · have := X.2 i hi
    rw [if_pos hi, nI_toInt (by omega)]
    omega
  · rw [if_neg hi, show (-1 : Int32).toInt = -1 from rfl]
    omega
/-- one more digit, in the class -/
theorem k_num8 (X : TX n T) (H : T8 n h T i t) (hin : i ≤ n) (q m : Nat) (hq : q < 2) (v1 : Int32) : (¬ (i < n ∧ 48 ≤ T i ∧ T i ≤ 57) → f_X7_number_4L (m + 1) t v1 (nI q) = some (v1, t)) ∧ ((i < n ∧ 48 ≤ T i ∧ T i ≤ 57) → f_X7_number_4L (m + 1) t v1 (nI q) = f_X7_number_4L m (s_t t 2 0 (nI (i + 1))) (if q = 0 then nI (T i - 48) else v1 * 10 + nI (T i - 48)) (nI (q + 1))) := by
  obtain ⟨h1, h2, h3, -⟩ := H
  have hn := X.1
  have n2 : ¬ (2 : Int32) ≤ nI q := nI_ge (b := 2) (by omega) (by omega)
  have g : f_X7_number_4L (m + 1) t v1 (nI q) = f_X7_number_4 (f_X7_number_4L m) t v1 (nI q) := rfl
  rw [g]
  unfold f_X7_number_4 f_X7_number_59
  rw [if_neg n2, h1, h2]
  constructor
  · intro hd
    by_cases hi : i < n
    · have := X.2 i hi
      rw [if_neg (nI_ge hi (by omega)), z_in (by omega) (by decide), nI_clamp (by omega), h3 i hi, lt_d]
      by_cases h48 : T i < 48
      · rw [if_pos (show nI (T i) - (48 : Int32) < 0 from pk_sneg (b := 48) (by omega) h48)]
      · rw [show nI (T i) - (48 : Int32) = nI (T i - 48) from pk_sub (b := 48) (by omega), if_neg (nI_pos (by omega)), if_neg (show ¬ nI (T i - 48) ≤ (9 : Int32) from nI_ge (a := 9) (by omega) (by omega))]
    · rw [if_pos (nI_le (by omega) (by omega))]
  · rintro ⟨hi, h48, h57⟩
    rw [if_neg (nI_ge hi (by omega)), z_in (by omega) (by decide), nI_clamp (by omega), h3 i hi, lt_d, show nI (T i) - (48 : Int32) = nI (T i - 48) from pk_sub (b := 48) (by omega), if_neg (nI_pos (by omega)), if_pos (show nI (T i - 48) ≤ (9 : Int32) from nI_le (b := 9) (by omega) (by omega))]
    by_cases h0 : q = 0
    · subst h0
      rw [if_pos (show nI 0 = 0 from rfl), if_pos rfl, lt_d, lt_d, nI_1, nI_1]
    · rw [if_neg (nI_ne0 (by omega) (by omega)), if_neg h0, lt_d, lt_d, nI_1, nI_1]
theorem k_num9 (X : TX n T) (H : M9 n T i ρ) (hin : i ≤ n) (q m : Nat) (hq : q < 2) : (¬ (i < n ∧ 48 ≤ T i ∧ T i ≤ 57) → f_X9_takesNumber_16L (m + 1) ρ (nI q) = some (1, ρ)) ∧ ((i < n ∧ 48 ≤ T i ∧ T i ≤ 57) → f_X9_takesNumber_16L (m + 1) ρ (nI q) = f_X9_takesNumber_16L m (s_t (s_t ρ 17 0 ((10 : Int32) * ρ 17 0 + nI (T i) - 48)) 16 0 (nI (i + 1))) (nI (q + 1))) := by
  have n2 : ¬ (2 : Int32) ≤ nI q := nI_ge (b := 2) (by omega) (by omega)
  have g : f_X9_takesNumber_16L (m + 1) ρ (nI q) = f_X9_takesNumber_16 (f_X9_takesNumber_16L m) ρ (nI q) := rfl
  rw [g]
  unfold f_X9_takesNumber_16
  rw [if_neg n2, k_dig9 X H hin, bd_s]
  constructor
  · intro hd
    rw [b2_f hd, i00]
  · intro hd
    rw [b2_t hd, i10, k_next X H hin, bd_s, if_pos hd.1, lt_d, lt_d, lt_d, st_ne (show (16 : Nat) ≠ 17 by omega), H.2.1, nI_1, nI_1]
theorem k_n2 {m : Nat} {v1 : Int32} {t : Mm} : f_X7_number_4L (m + 1) t v1 (nI 2) = some (v1, t) := by
  show f_X7_number_4 _ _ _ _ = _
  unfold f_X7_number_4
  rw [if_pos (by decide)]
theorem k_m2 {m : Nat} {ρ : Mm} : f_X9_takesNumber_16L (m + 1) ρ (nI 2) = some (1, ρ) := by
  show f_X9_takesNumber_16 _ _ _ = _
  unfold f_X9_takesNumber_16
  rw [if_pos (by decide)]
theorem k_number (X : TX n T) (H : T8 n h T i t) (K : M9 n T i ρ) (hin : i ≤ n) : (f_X7_number t = some (-1, t) ∧ f_X9_takesNumber ρ = some (0, ρ)) ∨ ∃ (v j : Nat) (ρ' : Mm), v < 100 ∧ i < j ∧ j ≤ n ∧ f_X7_number t = some (nI v, s_t t 2 0 (nI j)) ∧ f_X9_takesNumber ρ = some (1, ρ') ∧ M9 n T j ρ' ∧ ρ' 17 0 = nI v ∧ EF [16, 17] ρ' ρ := by
  have e8 : f_X7_number t = f_X7_number_4L (3999 + 1) t (-1) (nI 0) := rfl
  unfold f_X9_takesNumber f_X9_takesNumber_0
  rw [e8, k_dig9 X K hin, bd_s]
  by_cases d1 : i < n ∧ 48 ≤ T i ∧ T i ≤ 57
  · right
    rw [b2_t d1, i10, lt_d, (k_num8 X H hin 0 3999 (by omega) (-1)).2 d1]
    have K1 : M9 n T i (s_t ρ 17 0 0) := K.ef (fun k hk => st_ne (by omega))
    have e9 : f_X9_takesNumber_16L FU (s_t ρ 17 0 0) 0 = f_X9_takesNumber_16L (3999 + 1) (s_t ρ 17 0 0) (nI 0) := rfl
    rw [e9, (k_num9 X K1 hin 0 3999 (by omega)).2 d1, if_pos rfl]
    have v1 : (10 : Int32) * s_t ρ 17 0 0 17 0 + nI (T i) - 48 = nI (T i - 48) := by
      rw [st_eq, Int32.mul_zero, Int32.zero_add]
      exact pk_sub (b := 48) (by omega)
    rw [v1]
    have hin' : i + 1 ≤ n := d1.1
    have H1 : T8 n h T (i + 1) (s_t t 2 0 (nI (i + 1))) := H.at
    have K2 : M9 n T (i + 1) (s_t (s_t (s_t ρ 17 0 0) 17 0 (nI (T i - 48))) 16 0 (nI (i + 1))) := M9.at (i := i) (K1.ef (fun k hk => st_ne (by omega)))
    have ef1 : EF [16, 17] (s_t (s_t (s_t ρ 17 0 0) 17 0 (nI (T i - 48))) 16 0 (nI (i + 1))) ρ := (((EF.rf.st (by decide)).st (by decide)).st (by decide))
    by_cases d2 : i + 1 < n ∧ 48 ≤ T (i + 1) ∧ T (i + 1) ≤ 57
    · have f8 := (k_num8 X H1 hin' 1 3998 (by omega) (nI (T i - 48))).2 d2
      have f9 := (k_num9 X K2 hin' 1 3998 (by omega)).2 d2
      rw [f8, f9, if_neg (by decide)]
      have v2 : nI (T i - 48) * (10 : Int32) + nI (T (i + 1) - 48) = nI ((T i - 48) * 10 + (T (i + 1) - 48)) := by
        rw [show (10 : Int32) = nI 10 from rfl, pk_mul, nI_add]
      have v3 : (10 : Int32) * s_t (s_t (s_t ρ 17 0 0) 17 0 (nI (T i - 48))) 16 0 (nI (i + 1)) 17 0 + nI (T (i + 1)) - 48 = nI ((T i - 48) * 10 + (T (i + 1) - 48)) := by
        rw [st_ne (by omega), st_eq, show (10 : Int32) = nI 10 from rfl, pk_mul, nI_add, show (48 : Int32) = nI 48 from rfl, pk_sub (by omega)]
        congr 1
        omega
      rw [v2, v3, k_n2, k_m2]
      refine ⟨(T i - 48) * 10 + (T (i + 1) - 48), i + 1 + 1, _, by omega, by omega, by omega, ?_, rfl, M9.at (i := i + 1) (K2.ef (fun k hk => st_ne (by omega))), ?_, ((ef1.st (by decide)).st (by decide))⟩
      · congr 2
        funext k q
        rw [st_v, st_v, st_v]
        by_cases hk : k = 2 ∧ q = 0
        · rw [if_pos hk, if_pos hk]
        · rw [if_neg hk, if_neg hk, if_neg hk]
      · rw [st_ne (by omega), st_eq]
    · have f8 := (k_num8 X H1 hin' 1 3998 (by omega) (nI (T i - 48))).1 d2
      have f9 := (k_num9 X K2 hin' 1 3998 (by omega)).1 d2
      rw [f8, f9]
      refine ⟨T i - 48, i + 1, _, by omega, by omega, by omega, rfl, rfl, K2, ?_, ef1⟩
      rw [st_ne (by omega), st_eq]
  · left
    rw [b2_f d1, i00, (k_num8 X H hin 0 3999 (by omega) (-1)).1 d1]
    exact ⟨rfl, rfl⟩
/-- a test, in both -/
theorem k_test (X : TX n T) (H : T8 n h T i t) (K : M9 n T i ρ) (hin : i ≤ n) (hs : Ms) (hH : inH (nI h) = true) (hh : h < 30) : (∃ (j : Nat) (t' ρ' : Mm), i ≤ j ∧ j ≤ n ∧ f_X7_test t hs = some (0, t', hs) ∧ T8 n h T j t' ∧ EF [2] t' t ∧ f_X9_takesTest ρ = some (0, ρ') ∧ ρ' 16 0 = nI j ∧ EF [16, 17] ρ' ρ) ∨ ∃ (v j : Nat) (t' ρ1 : Mm), v < 1800 ∧ i + 3 ≤ j ∧ j ≤ n ∧ f_X7_test t hs = bd (f_X2_adds (hs h) (nI v)) (fun u8 => some (1, t', va_up hs h u8)) ∧ T8 n h T j t' ∧ EF [2] t' t ∧ f_X9_takesTest ρ = bd (f_X9_emits ρ1 (mcode v)) (fun u11 => bd (f_X9_whole u11) (fun u12 => some (1, u12))) ∧ M9 n T j ρ1 ∧ EF [16, 17] ρ1 ρ := by
  have hn := X.1
  have ch : (nI h).toNatClampNeg = h := nI_clamp (by omega)
  obtain ⟨h1, h2, h3, h4⟩ := id H
  have m1 : (0 : Int32) ≤ -1 ↔ False := ⟨fun q => absurd q (by decide), fun q => q.elim⟩
  have nf : ¬ (0 : Int32) ≤ -1 := by decide
  unfold f_X7_test f_X7_test_0 f_X9_takesTest f_X9_takesTest_0
  rw [k_next X K hin, bd_s]
  -- the letter
  by_cases hi : i < n
  · have hT := X.2 i hi
    obtain ⟨r, r1, r2, r3⟩ := look3 hT
    have e3 : f_X7_takesOne t 3 = if r < 0 then some (r, t) else some (r, s_t t 2 0 (nI (i + 1))) := by
      unfold f_X7_takesOne f_X7_takesOne_0 f_X7_takesOne_29
      rw [h1, h2, if_neg (nI_ge hi (by omega)), z_in (by omega) (by decide), nI_clamp (by omega), h3 i hi, r1, bd_s, lt_d, nI_1]
    rw [if_pos hi, r2, bd_s, e3]
    rcases r3 with rfl | ⟨l, hl, rfl⟩
    · left
      rw [if_pos (by decide), bd_s]
      dsimp only
      rw [if_neg nf, if_neg nf]
      exact ⟨i, t, ρ, Nat.le_refl _, hin, rfl, H, EF.rf, rfl, K.2.1, EF.rf⟩
    · have l0 : (0 : Int32) ≤ nI l := nI_pos' (by omega)
      rw [if_neg (nI_pos (by omega)), bd_s]
      dsimp only
      rw [if_pos l0, if_pos l0, lt_d, K.2.1, nI_1]
      have H1 : T8 n h T (i + 1) (s_t t 2 0 (nI (i + 1))) := H.at
      have K1 : M9 n T (i + 1) (s_t ρ 16 0 (nI (i + 1))) := K.at
      obtain ⟨g1, g2, g3, g4⟩ := id H1
      have ef1 : EF [16, 17] (s_t ρ 16 0 (nI (i + 1))) ρ := ef_s (by decide)
      have ft1 : EF [2] (s_t t 2 0 (nI (i + 1))) t := ef_s (by decide)
      rw [k_next X K1 hi, bd_s, p_in, bd_s, show (60 : Int32).toInt = 60 from rfl, show (62 : Int32).toInt = 62 from rfl]
      by_cases hr : i + 1 < n ∧ 60 ≤ T (i + 1) ∧ T (i + 1) ≤ 62
      · obtain ⟨hi1, r60, r62⟩ := hr
        have hT1 := X.2 (i + 1) hi1
        have e4 : f_X7_takesOne (s_t t 2 0 (nI (i + 1))) 4 = some (nI (T (i + 1) - 60), s_t (s_t t 2 0 (nI (i + 1))) 2 0 (nI (i + 1 + 1))) := by
          unfold f_X7_takesOne f_X7_takesOne_0 f_X7_takesOne_29
          rw [g1, g2, if_neg (nI_ge hi1 (by omega)), z_in (by omega) (by decide), nI_clamp (by omega), g3 (i + 1) hi1, look4 hT1, bd_s, if_pos (show 60 ≤ T (i + 1) ∧ T (i + 1) ≤ 62 from ⟨r60, r62⟩), lt_d, nI_1, if_neg (nI_pos (by omega))]
        rw [e4, bd_s, if_pos hi1, b2_t (by rw [nI_toInt (by omega)]; omega), i10]
        dsimp only
        rw [if_pos (show (0 : Int32) ≤ nI (T (i + 1) - 60) from nI_pos' (by omega)), lt_d, st_eq, nI_1]
        have H2 : T8 n h T (i + 1 + 1) (s_t (s_t t 2 0 (nI (i + 1))) 2 0 (nI (i + 1 + 1))) := H1.at
        have K2 : M9 n T (i + 1 + 1) (s_t (s_t ρ 16 0 (nI (i + 1))) 16 0 (nI (i + 1 + 1))) := K1.at
        have ef2 : EF [16, 17] (s_t (s_t ρ 16 0 (nI (i + 1))) 16 0 (nI (i + 1 + 1))) ρ := ef1.st (by decide)
        have ft2 : EF [2] (s_t (s_t t 2 0 (nI (i + 1))) 2 0 (nI (i + 1 + 1))) t := ft1.st (by decide)
        rcases k_number X H2 K2 hi1 with ⟨n8, n9⟩ | ⟨v, j, ρ', hv, j1, j2, n8, n9, M3, e17, ef3⟩
        · left
          rw [n8, n9, bd_s, bd_s]
          dsimp only
          rw [if_neg nf, i00]
          exact ⟨i + 1 + 1, _, _, by omega, hi1, rfl, H2, ft2, rfl, K2.2.1, ef2⟩
        · right
          rw [n8, n9, bd_s, bd_s]
          dsimp only
          have H3 : T8 n h T j (s_t (s_t (s_t t 2 0 (nI (i + 1))) 2 0 (nI (i + 1 + 1))) 2 0 (nI j)) := H2.at
          rw [if_pos (show (0 : Int32) ≤ nI v from nI_pos' (by omega)), i10, H3.2.2.2, gd_of hH, ch, e17]
          refine ⟨l * 300 + (T (i + 1) - 60) * 100 + v, j, _, ρ', by omega, by omega, j2, ?_, H3, ft2.st (by decide), ?_, M3, ef3.tr ef2⟩
          · rw [show (300 : Int32) = nI 300 from rfl, show (100 : Int32) = nI 100 from rfl, pk_mul, pk_mul, nI_add, nI_add]
            simp only [lt_e]
          · rw [show (60 : Int32) = nI 60 from rfl, pk_sub (by omega), show (1000 : Int32) = nI 1000 from rfl, show (100 : Int32) = nI 100 from rfl, pk_mul, pk_mul, nI_add, nI_add, mcode_t (by omega)]
            have x1 : (l * 300 + (T (i + 1) - 60) * 100 + v) / 300 = l := by omega
            have x2 : (l * 300 + (T (i + 1) - 60) * 100 + v) / 100 % 3 = T (i + 1) - 60 := by omega
            have x3 : (l * 300 + (T (i + 1) - 60) * 100 + v) % 100 = v := by omega
            rw [x1, x2, x3]
      · left
        have hb : ¬ (60 ≤ (if i + 1 < n then nI (T (i + 1)) else (-1 : Int32)).toInt ∧ (if i + 1 < n then nI (T (i + 1)) else (-1 : Int32)).toInt ≤ 62) := by
          by_cases hi1 : i + 1 < n
          · have hT1 := X.2 (i + 1) hi1
            rw [if_pos hi1, nI_toInt (by omega)]
            omega
          · rw [if_neg hi1, show (-1 : Int32).toInt = -1 from rfl]
            omega
        have e4 : f_X7_takesOne (s_t t 2 0 (nI (i + 1))) 4 = some (-1, s_t t 2 0 (nI (i + 1))) := by
          unfold f_X7_takesOne f_X7_takesOne_0 f_X7_takesOne_29
          rw [g1, g2]
          by_cases hi1 : i + 1 < n
          · have hT1 := X.2 (i + 1) hi1
            rw [if_neg (nI_ge hi1 (by omega)), z_in (by omega) (by decide), nI_clamp (by omega), g3 (i + 1) hi1, look4 hT1, bd_s, if_neg (show ¬ (60 ≤ T (i + 1) ∧ T (i + 1) ≤ 62) from fun q => hr ⟨hi1, q⟩), if_pos (by decide)]
          · rw [if_pos (nI_le (by omega) (by omega)), if_pos (by decide)]
        rw [e4, bd_s, b2_f hb, i00]
        dsimp only
        rw [if_neg nf]
        exact ⟨i + 1, _, _, by omega, hi, rfl, H1, ft1, rfl, K1.2.1, ef1⟩
  · left
    have e3 : f_X7_takesOne t 3 = some (-1, t) := by
      unfold f_X7_takesOne f_X7_takesOne_0 f_X7_takesOne_29
      rw [h1, h2, if_pos (nI_le (by omega) (by omega)), if_pos (by decide)]
    have p1 : f_X9_place (-1) = some (-1) := rfl
    rw [if_neg hi, p1, bd_s, e3, bd_s]
    dsimp only
    rw [if_neg nf, if_neg nf]
    exact ⟨i, t, ρ, Nat.le_refl _, hin, rfl, H, EF.rf, rfl, K.2.1, EF.rf⟩
end TA
