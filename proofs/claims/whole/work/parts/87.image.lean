/-! PURE: the image, in both (made by wip/whole/gen/gen87.py) -/
theorem L_image_290 : ∀ (k i n : Nat) (τ : Mm), i + k = 8 → k < n → ∃ τ' : Mm, f_X9_image_290L n τ (nI i) = some ((τ' 0 0), τ') ∧ (∀ q, q ∉ [77, 78] → τ' q = τ q) ∧ (∀ p, p < 8 → τ' 77 p = if i ≤ p then τ 52 p else τ 77 p) ∧ (∀ p, p < 8 → τ' 78 p = if i ≤ p then τ 53 p else τ 78 p) := by
  intro k
  induction k with
  | zero =>
    intro i n τ hi hn
    obtain ⟨n, rfl⟩ : ∃ j, n = j + 1 := ⟨n - 1, by omega⟩
    refine ⟨τ, ?_, fun _ _ => rfl, fun p hp => (if_neg (by omega)).symm, fun p hp => (if_neg (by omega)).symm⟩
    show f_X9_image_290 _ _ _ = _
    unfold f_X9_image_290
    rw [show i = 8 by omega, if_pos (by decide)]
  | succ k ih =>
    intro i n τ hi hn
    obtain ⟨n, rfl⟩ : ∃ j, n = j + 1 := ⟨n - 1, by omega⟩
    have g : ∀ {β : Type} {x : Option β}, gd (inB (nI i) 8) x = x := z_in (by omega) (by decide)
    have cc : (nI i).toNatClampNeg = i := nI_clamp (by omega)
    obtain ⟨τ', b1, b2, a0, a1⟩ := ih (i + 1) n (s_t (s_t τ 77 i (τ 52 i)) 78 i (τ 53 i)) (by omega) (by omega)
    refine ⟨τ', ?_, fun q hq => ?_, fun p hp => ?_, fun p hp => ?_⟩
    · show f_X9_image_290 _ _ _ = _
      unfold f_X9_image_290
      rw [if_neg (show ¬ (8 : Int32) ≤ nI i from nI_ge (b := 8) (by omega) (by omega))]
      simp only [g, cc, lt_d, nI_1]
      exact b1
    · have hq' : q ≠ 77 ∧ q ≠ 78 := by simpa using hq
      rw [b2 q hq, st_ne (by omega), st_ne (by omega)]
    · rw [a0 p hp]
      by_cases h1 : i + 1 ≤ p
      · rw [if_pos h1, if_pos (by omega), st_ne (by omega), st_ne (by omega)]
      · rw [if_neg h1]
        by_cases h2 : p = i
        · subst h2
          rw [if_pos (Nat.le_refl _)]
          simp [st_v]
        · rw [if_neg (by omega)]
          simp [st_v, h2]
    · rw [a1 p hp]
      by_cases h1 : i + 1 ≤ p
      · rw [if_pos h1, if_pos (by omega), st_ne (by omega), st_ne (by omega)]
      · rw [if_neg h1]
        by_cases h2 : p = i
        · subst h2
          rw [if_pos (Nat.le_refl _)]
          simp [st_v]
        · rw [if_neg (by omega)]
          simp [st_v, h2]
theorem L_image_240 : ∀ (k i n : Nat) (τ : Mm), i + k = 10 → k < n → ∃ τ' : Mm, f_X9_image_240L n τ (nI i) = f_X9_image_290L FU τ' (0 : Int32) ∧ (∀ q, q ∉ [71, 75, 76] → τ' q = τ q) ∧ (∀ p, p < 10 → τ' 71 p = if i ≤ p then τ 12 p else τ 71 p) ∧ (∀ p, p < 10 → τ' 75 p = if i ≤ p then τ 50 p else τ 75 p) ∧ (∀ p, p < 10 → τ' 76 p = if i ≤ p then τ 51 p else τ 76 p) := by
  intro k
  induction k with
  | zero =>
    intro i n τ hi hn
    obtain ⟨n, rfl⟩ : ∃ j, n = j + 1 := ⟨n - 1, by omega⟩
    refine ⟨τ, ?_, fun _ _ => rfl, fun p hp => (if_neg (by omega)).symm, fun p hp => (if_neg (by omega)).symm, fun p hp => (if_neg (by omega)).symm⟩
    show f_X9_image_240 _ _ _ = _
    unfold f_X9_image_240
    rw [show i = 10 by omega, if_pos (by decide)]
  | succ k ih =>
    intro i n τ hi hn
    obtain ⟨n, rfl⟩ : ∃ j, n = j + 1 := ⟨n - 1, by omega⟩
    have g : ∀ {β : Type} {x : Option β}, gd (inB (nI i) 10) x = x := z_in (by omega) (by decide)
    have cc : (nI i).toNatClampNeg = i := nI_clamp (by omega)
    obtain ⟨τ', b1, b2, a0, a1, a2⟩ := ih (i + 1) n (s_t (s_t (s_t τ 71 i (τ 12 i)) 75 i (τ 50 i)) 76 i (τ 51 i)) (by omega) (by omega)
    refine ⟨τ', ?_, fun q hq => ?_, fun p hp => ?_, fun p hp => ?_, fun p hp => ?_⟩
    · show f_X9_image_240 _ _ _ = _
      unfold f_X9_image_240
      rw [if_neg (show ¬ (10 : Int32) ≤ nI i from nI_ge (b := 10) (by omega) (by omega))]
      simp only [g, cc, lt_d, nI_1]
      exact b1
    · have hq' : q ≠ 71 ∧ q ≠ 75 ∧ q ≠ 76 := by simpa using hq
      rw [b2 q hq, st_ne (by omega), st_ne (by omega), st_ne (by omega)]
    · rw [a0 p hp]
      by_cases h1 : i + 1 ≤ p
      · rw [if_pos h1, if_pos (by omega), st_ne (by omega), st_ne (by omega), st_ne (by omega)]
      · rw [if_neg h1]
        by_cases h2 : p = i
        · subst h2
          rw [if_pos (Nat.le_refl _)]
          simp [st_v]
        · rw [if_neg (by omega)]
          simp [st_v, h2]
    · rw [a1 p hp]
      by_cases h1 : i + 1 ≤ p
      · rw [if_pos h1, if_pos (by omega), st_ne (by omega), st_ne (by omega), st_ne (by omega)]
      · rw [if_neg h1]
        by_cases h2 : p = i
        · subst h2
          rw [if_pos (Nat.le_refl _)]
          simp [st_v]
        · rw [if_neg (by omega)]
          simp [st_v, h2]
    · rw [a2 p hp]
      by_cases h1 : i + 1 ≤ p
      · rw [if_pos h1, if_pos (by omega), st_ne (by omega), st_ne (by omega), st_ne (by omega)]
      · rw [if_neg h1]
        by_cases h2 : p = i
        · subst h2
          rw [if_pos (Nat.le_refl _)]
          simp [st_v]
        · rw [if_neg (by omega)]
          simp [st_v, h2]
theorem L_image_191 : ∀ (k i n : Nat) (τ : Mm), i + k = 5 → k < n → ∃ τ' : Mm, f_X9_image_191L n τ (nI i) = f_X9_image_240L FU τ' (0 : Int32) ∧ (∀ q, q ∉ [72, 73, 74] → τ' q = τ q) ∧ (∀ p, p < 5 → τ' 72 p = if i ≤ p then τ 45 p else τ 72 p) ∧ (∀ p, p < 5 → τ' 73 p = if i ≤ p then τ 46 p else τ 73 p) ∧ (∀ p, p < 5 → τ' 74 p = if i ≤ p then τ 47 p else τ 74 p) := by
  intro k
  induction k with
  | zero =>
    intro i n τ hi hn
    obtain ⟨n, rfl⟩ : ∃ j, n = j + 1 := ⟨n - 1, by omega⟩
    refine ⟨τ, ?_, fun _ _ => rfl, fun p hp => (if_neg (by omega)).symm, fun p hp => (if_neg (by omega)).symm, fun p hp => (if_neg (by omega)).symm⟩
    show f_X9_image_191 _ _ _ = _
    unfold f_X9_image_191
    rw [show i = 5 by omega, if_pos (by decide)]
  | succ k ih =>
    intro i n τ hi hn
    obtain ⟨n, rfl⟩ : ∃ j, n = j + 1 := ⟨n - 1, by omega⟩
    have g : ∀ {β : Type} {x : Option β}, gd (inB (nI i) 5) x = x := z_in (by omega) (by decide)
    have cc : (nI i).toNatClampNeg = i := nI_clamp (by omega)
    obtain ⟨τ', b1, b2, a0, a1, a2⟩ := ih (i + 1) n (s_t (s_t (s_t τ 72 i (τ 45 i)) 73 i (τ 46 i)) 74 i (τ 47 i)) (by omega) (by omega)
    refine ⟨τ', ?_, fun q hq => ?_, fun p hp => ?_, fun p hp => ?_, fun p hp => ?_⟩
    · show f_X9_image_191 _ _ _ = _
      unfold f_X9_image_191
      rw [if_neg (show ¬ (5 : Int32) ≤ nI i from nI_ge (b := 5) (by omega) (by omega))]
      simp only [g, cc, lt_d, nI_1]
      exact b1
    · have hq' : q ≠ 72 ∧ q ≠ 73 ∧ q ≠ 74 := by simpa using hq
      rw [b2 q hq, st_ne (by omega), st_ne (by omega), st_ne (by omega)]
    · rw [a0 p hp]
      by_cases h1 : i + 1 ≤ p
      · rw [if_pos h1, if_pos (by omega), st_ne (by omega), st_ne (by omega), st_ne (by omega)]
      · rw [if_neg h1]
        by_cases h2 : p = i
        · subst h2
          rw [if_pos (Nat.le_refl _)]
          simp [st_v]
        · rw [if_neg (by omega)]
          simp [st_v, h2]
    · rw [a1 p hp]
      by_cases h1 : i + 1 ≤ p
      · rw [if_pos h1, if_pos (by omega), st_ne (by omega), st_ne (by omega), st_ne (by omega)]
      · rw [if_neg h1]
        by_cases h2 : p = i
        · subst h2
          rw [if_pos (Nat.le_refl _)]
          simp [st_v]
        · rw [if_neg (by omega)]
          simp [st_v, h2]
    · rw [a2 p hp]
      by_cases h1 : i + 1 ≤ p
      · rw [if_pos h1, if_pos (by omega), st_ne (by omega), st_ne (by omega), st_ne (by omega)]
      · rw [if_neg h1]
        by_cases h2 : p = i
        · subst h2
          rw [if_pos (Nat.le_refl _)]
          simp [st_v]
        · rw [if_neg (by omega)]
          simp [st_v, h2]
theorem L_image_165 : ∀ (k i n : Nat) (τ : Mm), i + k = 24 → k < n → ∃ τ' : Mm, f_X9_image_165L n τ (nI i) = f_X9_image_191L FU τ' (0 : Int32) ∧ (∀ q, q ∉ [70] → τ' q = τ q) ∧ (∀ p, p < 24 → τ' 70 p = if i ≤ p then τ 11 p else τ 70 p) := by
  intro k
  induction k with
  | zero =>
    intro i n τ hi hn
    obtain ⟨n, rfl⟩ : ∃ j, n = j + 1 := ⟨n - 1, by omega⟩
    refine ⟨τ, ?_, fun _ _ => rfl, fun p hp => (if_neg (by omega)).symm⟩
    show f_X9_image_165 _ _ _ = _
    unfold f_X9_image_165
    rw [show i = 24 by omega, if_pos (by decide)]
  | succ k ih =>
    intro i n τ hi hn
    obtain ⟨n, rfl⟩ : ∃ j, n = j + 1 := ⟨n - 1, by omega⟩
    have g : ∀ {β : Type} {x : Option β}, gd (inB (nI i) 24) x = x := z_in (by omega) (by decide)
    have cc : (nI i).toNatClampNeg = i := nI_clamp (by omega)
    obtain ⟨τ', b1, b2, a0⟩ := ih (i + 1) n (s_t τ 70 i (τ 11 i)) (by omega) (by omega)
    refine ⟨τ', ?_, fun q hq => ?_, fun p hp => ?_⟩
    · show f_X9_image_165 _ _ _ = _
      unfold f_X9_image_165
      rw [if_neg (show ¬ (24 : Int32) ≤ nI i from nI_ge (b := 24) (by omega) (by omega))]
      simp only [g, cc, lt_d, nI_1]
      exact b1
    · have hq' : q ≠ 70 := by simpa using hq
      rw [b2 q hq, st_ne (by omega)]
    · rw [a0 p hp]
      by_cases h1 : i + 1 ≤ p
      · rw [if_pos h1, if_pos (by omega), st_ne (by omega)]
      · rw [if_neg h1]
        by_cases h2 : p = i
        · subst h2
          rw [if_pos (Nat.le_refl _)]
          simp [st_v]
        · rw [if_neg (by omega)]
          simp [st_v, h2]
theorem L_image_79 : ∀ (k i n : Nat) (τ : Mm), i + k = 6 → k < n → ∃ τ' : Mm, f_X9_image_79L n τ (nI i) = f_X9_image_165L FU τ' (0 : Int32) ∧ (∀ q, q ∉ [64, 65, 66, 67, 68, 69] → τ' q = τ q) ∧ (∀ p, p < 6 → τ' 64 p = if i ≤ p then τ 5 p else τ 64 p) ∧ (∀ p, p < 6 → τ' 65 p = if i ≤ p then τ 6 p else τ 65 p) ∧ (∀ p, p < 6 → τ' 66 p = if i ≤ p then τ 7 p else τ 66 p) ∧ (∀ p, p < 6 → τ' 67 p = if i ≤ p then τ 8 p else τ 67 p) ∧ (∀ p, p < 6 → τ' 68 p = if i ≤ p then τ 9 p else τ 68 p) ∧ (∀ p, p < 6 → τ' 69 p = if i ≤ p then τ 10 p else τ 69 p) := by
  intro k
  induction k with
  | zero =>
    intro i n τ hi hn
    obtain ⟨n, rfl⟩ : ∃ j, n = j + 1 := ⟨n - 1, by omega⟩
    refine ⟨τ, ?_, fun _ _ => rfl, fun p hp => (if_neg (by omega)).symm, fun p hp => (if_neg (by omega)).symm, fun p hp => (if_neg (by omega)).symm, fun p hp => (if_neg (by omega)).symm, fun p hp => (if_neg (by omega)).symm, fun p hp => (if_neg (by omega)).symm⟩
    show f_X9_image_79 _ _ _ = _
    unfold f_X9_image_79
    rw [show i = 6 by omega, if_pos (by decide)]
  | succ k ih =>
    intro i n τ hi hn
    obtain ⟨n, rfl⟩ : ∃ j, n = j + 1 := ⟨n - 1, by omega⟩
    have g : ∀ {β : Type} {x : Option β}, gd (inB (nI i) 6) x = x := z_in (by omega) (by decide)
    have cc : (nI i).toNatClampNeg = i := nI_clamp (by omega)
    obtain ⟨τ', b1, b2, a0, a1, a2, a3, a4, a5⟩ := ih (i + 1) n (s_t (s_t (s_t (s_t (s_t (s_t τ 64 i (τ 5 i)) 65 i (τ 6 i)) 66 i (τ 7 i)) 67 i (τ 8 i)) 68 i (τ 9 i)) 69 i (τ 10 i)) (by omega) (by omega)
    refine ⟨τ', ?_, fun q hq => ?_, fun p hp => ?_, fun p hp => ?_, fun p hp => ?_, fun p hp => ?_, fun p hp => ?_, fun p hp => ?_⟩
    · show f_X9_image_79 _ _ _ = _
      unfold f_X9_image_79
      rw [if_neg (show ¬ (6 : Int32) ≤ nI i from nI_ge (b := 6) (by omega) (by omega))]
      simp only [g, cc, lt_d, nI_1]
      exact b1
    · have hq' : q ≠ 64 ∧ q ≠ 65 ∧ q ≠ 66 ∧ q ≠ 67 ∧ q ≠ 68 ∧ q ≠ 69 := by simpa using hq
      rw [b2 q hq, st_ne (by omega), st_ne (by omega), st_ne (by omega), st_ne (by omega), st_ne (by omega), st_ne (by omega)]
    · rw [a0 p hp]
      by_cases h1 : i + 1 ≤ p
      · rw [if_pos h1, if_pos (by omega), st_ne (by omega), st_ne (by omega), st_ne (by omega), st_ne (by omega), st_ne (by omega), st_ne (by omega)]
      · rw [if_neg h1]
        by_cases h2 : p = i
        · subst h2
          rw [if_pos (Nat.le_refl _)]
          simp [st_v]
        · rw [if_neg (by omega)]
          simp [st_v, h2]
    · rw [a1 p hp]
      by_cases h1 : i + 1 ≤ p
      · rw [if_pos h1, if_pos (by omega), st_ne (by omega), st_ne (by omega), st_ne (by omega), st_ne (by omega), st_ne (by omega), st_ne (by omega)]
      · rw [if_neg h1]
        by_cases h2 : p = i
        · subst h2
          rw [if_pos (Nat.le_refl _)]
          simp [st_v]
        · rw [if_neg (by omega)]
          simp [st_v, h2]
    · rw [a2 p hp]
      by_cases h1 : i + 1 ≤ p
      · rw [if_pos h1, if_pos (by omega), st_ne (by omega), st_ne (by omega), st_ne (by omega), st_ne (by omega), st_ne (by omega), st_ne (by omega)]
      · rw [if_neg h1]
        by_cases h2 : p = i
        · subst h2
          rw [if_pos (Nat.le_refl _)]
          simp [st_v]
        · rw [if_neg (by omega)]
          simp [st_v, h2]
    · rw [a3 p hp]
      by_cases h1 : i + 1 ≤ p
      · rw [if_pos h1, if_pos (by omega), st_ne (by omega), st_ne (by omega), st_ne (by omega), st_ne (by omega), st_ne (by omega), st_ne (by omega)]
      · rw [if_neg h1]
        by_cases h2 : p = i
        · subst h2
          rw [if_pos (Nat.le_refl _)]
          simp [st_v]
        · rw [if_neg (by omega)]
          simp [st_v, h2]
    · rw [a4 p hp]
      by_cases h1 : i + 1 ≤ p
      · rw [if_pos h1, if_pos (by omega), st_ne (by omega), st_ne (by omega), st_ne (by omega), st_ne (by omega), st_ne (by omega), st_ne (by omega)]
      · rw [if_neg h1]
        by_cases h2 : p = i
        · subst h2
          rw [if_pos (Nat.le_refl _)]
          simp [st_v]
        · rw [if_neg (by omega)]
          simp [st_v, h2]
    · rw [a5 p hp]
      by_cases h1 : i + 1 ≤ p
      · rw [if_pos h1, if_pos (by omega), st_ne (by omega), st_ne (by omega), st_ne (by omega), st_ne (by omega), st_ne (by omega), st_ne (by omega)]
      · rw [if_neg h1]
        by_cases h2 : p = i
        · subst h2
          rw [if_pos (Nat.le_refl _)]
          simp [st_v]
        · rw [if_neg (by omega)]
          simp [st_v, h2]
theorem L_undo_295 : ∀ (k i n : Nat) (τ : Mm), i + k = 8 → k < n → ∃ τ' : Mm, f_X9_undo_295L n τ (nI i) = some ((τ' 0 0), τ') ∧ (∀ q, q ∉ [52, 53] → τ' q = τ q) ∧ (∀ p, p < 8 → τ' 52 p = if i ≤ p then τ 77 p else τ 52 p) ∧ (∀ p, p < 8 → τ' 53 p = if i ≤ p then τ 78 p else τ 53 p) := by
  intro k
  induction k with
  | zero =>
    intro i n τ hi hn
    obtain ⟨n, rfl⟩ : ∃ j, n = j + 1 := ⟨n - 1, by omega⟩
    refine ⟨τ, ?_, fun _ _ => rfl, fun p hp => (if_neg (by omega)).symm, fun p hp => (if_neg (by omega)).symm⟩
    show f_X9_undo_295 _ _ _ = _
    unfold f_X9_undo_295
    rw [show i = 8 by omega, if_pos (by decide)]
  | succ k ih =>
    intro i n τ hi hn
    obtain ⟨n, rfl⟩ : ∃ j, n = j + 1 := ⟨n - 1, by omega⟩
    have g : ∀ {β : Type} {x : Option β}, gd (inB (nI i) 8) x = x := z_in (by omega) (by decide)
    have cc : (nI i).toNatClampNeg = i := nI_clamp (by omega)
    obtain ⟨τ', b1, b2, a0, a1⟩ := ih (i + 1) n (s_t (s_t τ 52 i (τ 77 i)) 53 i (τ 78 i)) (by omega) (by omega)
    refine ⟨τ', ?_, fun q hq => ?_, fun p hp => ?_, fun p hp => ?_⟩
    · show f_X9_undo_295 _ _ _ = _
      unfold f_X9_undo_295
      rw [if_neg (show ¬ (8 : Int32) ≤ nI i from nI_ge (b := 8) (by omega) (by omega))]
      simp only [g, cc, lt_d, nI_1]
      exact b1
    · have hq' : q ≠ 52 ∧ q ≠ 53 := by simpa using hq
      rw [b2 q hq, st_ne (by omega), st_ne (by omega)]
    · rw [a0 p hp]
      by_cases h1 : i + 1 ≤ p
      · rw [if_pos h1, if_pos (by omega), st_ne (by omega), st_ne (by omega)]
      · rw [if_neg h1]
        by_cases h2 : p = i
        · subst h2
          rw [if_pos (Nat.le_refl _)]
          simp [st_v]
        · rw [if_neg (by omega)]
          simp [st_v, h2]
    · rw [a1 p hp]
      by_cases h1 : i + 1 ≤ p
      · rw [if_pos h1, if_pos (by omega), st_ne (by omega), st_ne (by omega)]
      · rw [if_neg h1]
        by_cases h2 : p = i
        · subst h2
          rw [if_pos (Nat.le_refl _)]
          simp [st_v]
        · rw [if_neg (by omega)]
          simp [st_v, h2]
theorem L_undo_245 : ∀ (k i n : Nat) (τ : Mm), i + k = 10 → k < n → ∃ τ' : Mm, f_X9_undo_245L n τ (nI i) = f_X9_undo_295L FU τ' (0 : Int32) ∧ (∀ q, q ∉ [12, 50, 51] → τ' q = τ q) ∧ (∀ p, p < 10 → τ' 12 p = if i ≤ p then τ 71 p else τ 12 p) ∧ (∀ p, p < 10 → τ' 50 p = if i ≤ p then τ 75 p else τ 50 p) ∧ (∀ p, p < 10 → τ' 51 p = if i ≤ p then τ 76 p else τ 51 p) := by
  intro k
  induction k with
  | zero =>
    intro i n τ hi hn
    obtain ⟨n, rfl⟩ : ∃ j, n = j + 1 := ⟨n - 1, by omega⟩
    refine ⟨τ, ?_, fun _ _ => rfl, fun p hp => (if_neg (by omega)).symm, fun p hp => (if_neg (by omega)).symm, fun p hp => (if_neg (by omega)).symm⟩
    show f_X9_undo_245 _ _ _ = _
    unfold f_X9_undo_245
    rw [show i = 10 by omega, if_pos (by decide)]
  | succ k ih =>
    intro i n τ hi hn
    obtain ⟨n, rfl⟩ : ∃ j, n = j + 1 := ⟨n - 1, by omega⟩
    have g : ∀ {β : Type} {x : Option β}, gd (inB (nI i) 10) x = x := z_in (by omega) (by decide)
    have cc : (nI i).toNatClampNeg = i := nI_clamp (by omega)
    obtain ⟨τ', b1, b2, a0, a1, a2⟩ := ih (i + 1) n (s_t (s_t (s_t τ 12 i (τ 71 i)) 50 i (τ 75 i)) 51 i (τ 76 i)) (by omega) (by omega)
    refine ⟨τ', ?_, fun q hq => ?_, fun p hp => ?_, fun p hp => ?_, fun p hp => ?_⟩
    · show f_X9_undo_245 _ _ _ = _
      unfold f_X9_undo_245
      rw [if_neg (show ¬ (10 : Int32) ≤ nI i from nI_ge (b := 10) (by omega) (by omega))]
      simp only [g, cc, lt_d, nI_1]
      exact b1
    · have hq' : q ≠ 12 ∧ q ≠ 50 ∧ q ≠ 51 := by simpa using hq
      rw [b2 q hq, st_ne (by omega), st_ne (by omega), st_ne (by omega)]
    · rw [a0 p hp]
      by_cases h1 : i + 1 ≤ p
      · rw [if_pos h1, if_pos (by omega), st_ne (by omega), st_ne (by omega), st_ne (by omega)]
      · rw [if_neg h1]
        by_cases h2 : p = i
        · subst h2
          rw [if_pos (Nat.le_refl _)]
          simp [st_v]
        · rw [if_neg (by omega)]
          simp [st_v, h2]
    · rw [a1 p hp]
      by_cases h1 : i + 1 ≤ p
      · rw [if_pos h1, if_pos (by omega), st_ne (by omega), st_ne (by omega), st_ne (by omega)]
      · rw [if_neg h1]
        by_cases h2 : p = i
        · subst h2
          rw [if_pos (Nat.le_refl _)]
          simp [st_v]
        · rw [if_neg (by omega)]
          simp [st_v, h2]
    · rw [a2 p hp]
      by_cases h1 : i + 1 ≤ p
      · rw [if_pos h1, if_pos (by omega), st_ne (by omega), st_ne (by omega), st_ne (by omega)]
      · rw [if_neg h1]
        by_cases h2 : p = i
        · subst h2
          rw [if_pos (Nat.le_refl _)]
          simp [st_v]
        · rw [if_neg (by omega)]
          simp [st_v, h2]
theorem L_undo_196 : ∀ (k i n : Nat) (τ : Mm), i + k = 5 → k < n → ∃ τ' : Mm, f_X9_undo_196L n τ (nI i) = f_X9_undo_245L FU τ' (0 : Int32) ∧ (∀ q, q ∉ [45, 46, 47] → τ' q = τ q) ∧ (∀ p, p < 5 → τ' 45 p = if i ≤ p then τ 72 p else τ 45 p) ∧ (∀ p, p < 5 → τ' 46 p = if i ≤ p then τ 73 p else τ 46 p) ∧ (∀ p, p < 5 → τ' 47 p = if i ≤ p then τ 74 p else τ 47 p) := by
  intro k
  induction k with
  | zero =>
    intro i n τ hi hn
    obtain ⟨n, rfl⟩ : ∃ j, n = j + 1 := ⟨n - 1, by omega⟩
    refine ⟨τ, ?_, fun _ _ => rfl, fun p hp => (if_neg (by omega)).symm, fun p hp => (if_neg (by omega)).symm, fun p hp => (if_neg (by omega)).symm⟩
    show f_X9_undo_196 _ _ _ = _
    unfold f_X9_undo_196
    rw [show i = 5 by omega, if_pos (by decide)]
  | succ k ih =>
    intro i n τ hi hn
    obtain ⟨n, rfl⟩ : ∃ j, n = j + 1 := ⟨n - 1, by omega⟩
    have g : ∀ {β : Type} {x : Option β}, gd (inB (nI i) 5) x = x := z_in (by omega) (by decide)
    have cc : (nI i).toNatClampNeg = i := nI_clamp (by omega)
    obtain ⟨τ', b1, b2, a0, a1, a2⟩ := ih (i + 1) n (s_t (s_t (s_t τ 45 i (τ 72 i)) 46 i (τ 73 i)) 47 i (τ 74 i)) (by omega) (by omega)
    refine ⟨τ', ?_, fun q hq => ?_, fun p hp => ?_, fun p hp => ?_, fun p hp => ?_⟩
    · show f_X9_undo_196 _ _ _ = _
      unfold f_X9_undo_196
      rw [if_neg (show ¬ (5 : Int32) ≤ nI i from nI_ge (b := 5) (by omega) (by omega))]
      simp only [g, cc, lt_d, nI_1]
      exact b1
    · have hq' : q ≠ 45 ∧ q ≠ 46 ∧ q ≠ 47 := by simpa using hq
      rw [b2 q hq, st_ne (by omega), st_ne (by omega), st_ne (by omega)]
    · rw [a0 p hp]
      by_cases h1 : i + 1 ≤ p
      · rw [if_pos h1, if_pos (by omega), st_ne (by omega), st_ne (by omega), st_ne (by omega)]
      · rw [if_neg h1]
        by_cases h2 : p = i
        · subst h2
          rw [if_pos (Nat.le_refl _)]
          simp [st_v]
        · rw [if_neg (by omega)]
          simp [st_v, h2]
    · rw [a1 p hp]
      by_cases h1 : i + 1 ≤ p
      · rw [if_pos h1, if_pos (by omega), st_ne (by omega), st_ne (by omega), st_ne (by omega)]
      · rw [if_neg h1]
        by_cases h2 : p = i
        · subst h2
          rw [if_pos (Nat.le_refl _)]
          simp [st_v]
        · rw [if_neg (by omega)]
          simp [st_v, h2]
    · rw [a2 p hp]
      by_cases h1 : i + 1 ≤ p
      · rw [if_pos h1, if_pos (by omega), st_ne (by omega), st_ne (by omega), st_ne (by omega)]
      · rw [if_neg h1]
        by_cases h2 : p = i
        · subst h2
          rw [if_pos (Nat.le_refl _)]
          simp [st_v]
        · rw [if_neg (by omega)]
          simp [st_v, h2]
theorem L_undo_170 : ∀ (k i n : Nat) (τ : Mm), i + k = 24 → k < n → ∃ τ' : Mm, f_X9_undo_170L n τ (nI i) = f_X9_undo_196L FU τ' (0 : Int32) ∧ (∀ q, q ∉ [11] → τ' q = τ q) ∧ (∀ p, p < 24 → τ' 11 p = if i ≤ p then τ 70 p else τ 11 p) := by
  intro k
  induction k with
  | zero =>
    intro i n τ hi hn
    obtain ⟨n, rfl⟩ : ∃ j, n = j + 1 := ⟨n - 1, by omega⟩
    refine ⟨τ, ?_, fun _ _ => rfl, fun p hp => (if_neg (by omega)).symm⟩
    show f_X9_undo_170 _ _ _ = _
    unfold f_X9_undo_170
    rw [show i = 24 by omega, if_pos (by decide)]
  | succ k ih =>
    intro i n τ hi hn
    obtain ⟨n, rfl⟩ : ∃ j, n = j + 1 := ⟨n - 1, by omega⟩
    have g : ∀ {β : Type} {x : Option β}, gd (inB (nI i) 24) x = x := z_in (by omega) (by decide)
    have cc : (nI i).toNatClampNeg = i := nI_clamp (by omega)
    obtain ⟨τ', b1, b2, a0⟩ := ih (i + 1) n (s_t τ 11 i (τ 70 i)) (by omega) (by omega)
    refine ⟨τ', ?_, fun q hq => ?_, fun p hp => ?_⟩
    · show f_X9_undo_170 _ _ _ = _
      unfold f_X9_undo_170
      rw [if_neg (show ¬ (24 : Int32) ≤ nI i from nI_ge (b := 24) (by omega) (by omega))]
      simp only [g, cc, lt_d, nI_1]
      exact b1
    · have hq' : q ≠ 11 := by simpa using hq
      rw [b2 q hq, st_ne (by omega)]
    · rw [a0 p hp]
      by_cases h1 : i + 1 ≤ p
      · rw [if_pos h1, if_pos (by omega), st_ne (by omega)]
      · rw [if_neg h1]
        by_cases h2 : p = i
        · subst h2
          rw [if_pos (Nat.le_refl _)]
          simp [st_v]
        · rw [if_neg (by omega)]
          simp [st_v, h2]
theorem L_undo_84 : ∀ (k i n : Nat) (τ : Mm), i + k = 6 → k < n → ∃ τ' : Mm, f_X9_undo_84L n τ (nI i) = f_X9_undo_170L FU τ' (0 : Int32) ∧ (∀ q, q ∉ [5, 6, 7, 8, 9, 10] → τ' q = τ q) ∧ (∀ p, p < 6 → τ' 5 p = if i ≤ p then τ 64 p else τ 5 p) ∧ (∀ p, p < 6 → τ' 6 p = if i ≤ p then τ 65 p else τ 6 p) ∧ (∀ p, p < 6 → τ' 7 p = if i ≤ p then τ 66 p else τ 7 p) ∧ (∀ p, p < 6 → τ' 8 p = if i ≤ p then τ 67 p else τ 8 p) ∧ (∀ p, p < 6 → τ' 9 p = if i ≤ p then τ 68 p else τ 9 p) ∧ (∀ p, p < 6 → τ' 10 p = if i ≤ p then τ 69 p else τ 10 p) := by
  intro k
  induction k with
  | zero =>
    intro i n τ hi hn
    obtain ⟨n, rfl⟩ : ∃ j, n = j + 1 := ⟨n - 1, by omega⟩
    refine ⟨τ, ?_, fun _ _ => rfl, fun p hp => (if_neg (by omega)).symm, fun p hp => (if_neg (by omega)).symm, fun p hp => (if_neg (by omega)).symm, fun p hp => (if_neg (by omega)).symm, fun p hp => (if_neg (by omega)).symm, fun p hp => (if_neg (by omega)).symm⟩
    show f_X9_undo_84 _ _ _ = _
    unfold f_X9_undo_84
    rw [show i = 6 by omega, if_pos (by decide)]
  | succ k ih =>
    intro i n τ hi hn
    obtain ⟨n, rfl⟩ : ∃ j, n = j + 1 := ⟨n - 1, by omega⟩
    have g : ∀ {β : Type} {x : Option β}, gd (inB (nI i) 6) x = x := z_in (by omega) (by decide)
    have cc : (nI i).toNatClampNeg = i := nI_clamp (by omega)
    obtain ⟨τ', b1, b2, a0, a1, a2, a3, a4, a5⟩ := ih (i + 1) n (s_t (s_t (s_t (s_t (s_t (s_t τ 5 i (τ 64 i)) 6 i (τ 65 i)) 7 i (τ 66 i)) 8 i (τ 67 i)) 9 i (τ 68 i)) 10 i (τ 69 i)) (by omega) (by omega)
    refine ⟨τ', ?_, fun q hq => ?_, fun p hp => ?_, fun p hp => ?_, fun p hp => ?_, fun p hp => ?_, fun p hp => ?_, fun p hp => ?_⟩
    · show f_X9_undo_84 _ _ _ = _
      unfold f_X9_undo_84
      rw [if_neg (show ¬ (6 : Int32) ≤ nI i from nI_ge (b := 6) (by omega) (by omega))]
      simp only [g, cc, lt_d, nI_1]
      exact b1
    · have hq' : q ≠ 5 ∧ q ≠ 6 ∧ q ≠ 7 ∧ q ≠ 8 ∧ q ≠ 9 ∧ q ≠ 10 := by simpa using hq
      rw [b2 q hq, st_ne (by omega), st_ne (by omega), st_ne (by omega), st_ne (by omega), st_ne (by omega), st_ne (by omega)]
    · rw [a0 p hp]
      by_cases h1 : i + 1 ≤ p
      · rw [if_pos h1, if_pos (by omega), st_ne (by omega), st_ne (by omega), st_ne (by omega), st_ne (by omega), st_ne (by omega), st_ne (by omega)]
      · rw [if_neg h1]
        by_cases h2 : p = i
        · subst h2
          rw [if_pos (Nat.le_refl _)]
          simp [st_v]
        · rw [if_neg (by omega)]
          simp [st_v, h2]
    · rw [a1 p hp]
      by_cases h1 : i + 1 ≤ p
      · rw [if_pos h1, if_pos (by omega), st_ne (by omega), st_ne (by omega), st_ne (by omega), st_ne (by omega), st_ne (by omega), st_ne (by omega)]
      · rw [if_neg h1]
        by_cases h2 : p = i
        · subst h2
          rw [if_pos (Nat.le_refl _)]
          simp [st_v]
        · rw [if_neg (by omega)]
          simp [st_v, h2]
    · rw [a2 p hp]
      by_cases h1 : i + 1 ≤ p
      · rw [if_pos h1, if_pos (by omega), st_ne (by omega), st_ne (by omega), st_ne (by omega), st_ne (by omega), st_ne (by omega), st_ne (by omega)]
      · rw [if_neg h1]
        by_cases h2 : p = i
        · subst h2
          rw [if_pos (Nat.le_refl _)]
          simp [st_v]
        · rw [if_neg (by omega)]
          simp [st_v, h2]
    · rw [a3 p hp]
      by_cases h1 : i + 1 ≤ p
      · rw [if_pos h1, if_pos (by omega), st_ne (by omega), st_ne (by omega), st_ne (by omega), st_ne (by omega), st_ne (by omega), st_ne (by omega)]
      · rw [if_neg h1]
        by_cases h2 : p = i
        · subst h2
          rw [if_pos (Nat.le_refl _)]
          simp [st_v]
        · rw [if_neg (by omega)]
          simp [st_v, h2]
    · rw [a4 p hp]
      by_cases h1 : i + 1 ≤ p
      · rw [if_pos h1, if_pos (by omega), st_ne (by omega), st_ne (by omega), st_ne (by omega), st_ne (by omega), st_ne (by omega), st_ne (by omega)]
      · rw [if_neg h1]
        by_cases h2 : p = i
        · subst h2
          rw [if_pos (Nat.le_refl _)]
          simp [st_v]
        · rw [if_neg (by omega)]
          simp [st_v, h2]
    · rw [a5 p hp]
      by_cases h1 : i + 1 ≤ p
      · rw [if_pos h1, if_pos (by omega), st_ne (by omega), st_ne (by omega), st_ne (by omega), st_ne (by omega), st_ne (by omega), st_ne (by omega)]
      · rw [if_neg h1]
        by_cases h2 : p = i
        · subst h2
          rw [if_pos (Nat.le_refl _)]
          simp [st_v]
        · rw [if_neg (by omega)]
          simp [st_v, h2]
/-- the same to all that an image holds -/
def EQI (ρ' ρ : Mm) : Prop := ((∀ k, k ≤ 4 → ρ' k 0 = ρ k 0) ∧ ρ' 14 0 = ρ 14 0 ∧ (∀ k p, 5 ≤ k → k ≤ 10 → p < 6 → ρ' k p = ρ k p) ∧ (∀ p, p < 24 → ρ' 11 p = ρ 11 p) ∧ ∀ p, p < 10 → ρ' 12 p = ρ 12 p) ∧ (ρ' 44 0 = ρ 44 0 ∧ ρ' 48 0 = ρ 48 0 ∧ ρ' 49 0 = ρ 49 0) ∧ (∀ k p, 45 ≤ k → k ≤ 47 → p < 5 → ρ' k p = ρ k p) ∧ (∀ k p, 50 ≤ k → k ≤ 51 → p < 10 → ρ' k p = ρ k p) ∧ ∀ k p, 52 ≤ k → k ≤ 53 → p < 8 → ρ' k p = ρ k p
theorem HR_i {M m w cb : Nat} {τ ρ ρ' : Mm} (H : HR M m w cb τ ρ) (e : EQI ρ' ρ) : HR M m w cb τ ρ' := by
  obtain ⟨⟨e0, e14, e5, e11, e12⟩, -⟩ := e
  obtain ⟨⟨a1, a2, a3⟩, ⟨b1, b2, b3⟩, ⟨c1, c2, c3⟩, d, f, g⟩ := H
  refine ⟨⟨a1, a2, (e0 0 (by omega)).trans a3⟩, ⟨b1, b2, (e0 4 (by omega)).trans b3⟩, ⟨c1, c2, (e0 3 (by omega)).trans c3⟩, by rw [e0 2 (by omega)]; exact d, fun p hp => ?_, fun q hq => by rw [e12 q hq]; exact g q hq⟩
  have := f p hp
  unfold MR at this ⊢
  rw [e5 5 p (by omega) (by omega) (by omega), e5 6 p (by omega) (by omega) (by omega), e5 7 p (by omega) (by omega) (by omega), e5 8 p (by omega) (by omega) (by omega), e5 9 p (by omega) (by omega) (by omega), e5 10 p (by omega) (by omega) (by omega), e0 1 (by omega)]
  obtain ⟨t1, t2, t3, t4, t5, t6, t7, t10⟩ := this
  exact ⟨t1, t2, t3, t4, t5, t6, t7, fun k hk => by rw [e11 _ (by omega)]; exact t10 k hk⟩
theorem Core_i {nh : Nat} {τ s p b ρ τ' s' p' b' ρ' : Mm} (H : Core nh τ s p b ρ) (h1 : EQ1 τ' τ) (h2 : EQI ρ' ρ) (h3 : EQR 5 s' s) (h4 : EQR 10 p' p) (h5 : EQR 8 b' b) : Core nh τ' s' p' b' ρ' := by
  obtain ⟨M, m, w, a1, a2, a3, a4, a5, a6, a7, a8, a9⟩ := H
  refine ⟨M, m, w, HR_i (HR_e a1 h1 EQ9.rf) h2, a2, a3, HZ_e a4 h1, PW_e a5 h1, ?_, ?_, ?_, ?_⟩
  · rw [h1.k0 (by omega), h2.1.2.1]
    exact a6
  · obtain ⟨k, a, b, c, d⟩ := NS_e a7 h3 (fun _ _ _ => rfl)
    refine ⟨k, a, b, h2.2.1.1.trans c, fun i hi => ?_⟩
    rw [h2.2.2.1 45 i (by omega) (by omega) (by omega), h2.2.2.1 46 i (by omega) (by omega) (by omega), h2.2.2.1 47 i (by omega) (by omega) (by omega)]
    exact d i hi
  · obtain ⟨k, a, b, c, d⟩ := NP_e a8 h4 (fun _ _ _ => rfl)
    refine ⟨k, a, b, h2.2.1.2.1.trans c, fun i hi => ?_⟩
    rw [h2.2.2.2.1 50 i (by omega) (by omega) (by omega), h2.2.2.2.1 51 i (by omega) (by omega) (by omega)]
    exact d i hi
  · obtain ⟨k, a, b, c, d⟩ := NB_e a9 h5 (fun _ _ _ => rfl)
    refine ⟨k, a, b, h2.2.1.2.2.trans c, fun i hi => ?_⟩
    rw [h2.2.2.2.2 52 i (by omega) (by omega) (by omega), h2.2.2.2.2 53 i (by omega) (by omega) (by omega)]
    exact d i hi
theorem m_image {ρ : Mm} : ∃ ρ' : Mm, f_X9_image ρ = some (ρ' 0 0, ρ') ∧ (∀ q, q ∉ [54, 55, 56, 57, 58, 59, 60, 61, 62, 63, 64, 65, 66, 67, 68, 69, 70, 72, 73, 74, 71, 75, 76, 77, 78] → ρ' q = ρ q) ∧ ρ' 54 0 = 1 ∧ ρ' 55 0 = ρ 14 0 ∧ ρ' 56 0 = ρ 0 0 ∧ ρ' 57 0 = ρ 1 0 ∧ ρ' 58 0 = ρ 2 0 ∧ ρ' 59 0 = ρ 3 0 ∧ ρ' 60 0 = ρ 4 0 ∧ ρ' 61 0 = ρ 44 0 ∧ ρ' 62 0 = ρ 48 0 ∧ ρ' 63 0 = ρ 49 0 ∧ (∀ p, p < 6 → ρ' 64 p = ρ 5 p) ∧ (∀ p, p < 6 → ρ' 65 p = ρ 6 p) ∧ (∀ p, p < 6 → ρ' 66 p = ρ 7 p) ∧ (∀ p, p < 6 → ρ' 67 p = ρ 8 p) ∧ (∀ p, p < 6 → ρ' 68 p = ρ 9 p) ∧ (∀ p, p < 6 → ρ' 69 p = ρ 10 p) ∧ (∀ p, p < 24 → ρ' 70 p = ρ 11 p) ∧ (∀ p, p < 5 → ρ' 72 p = ρ 45 p) ∧ (∀ p, p < 5 → ρ' 73 p = ρ 46 p) ∧ (∀ p, p < 5 → ρ' 74 p = ρ 47 p) ∧ (∀ p, p < 10 → ρ' 71 p = ρ 12 p) ∧ (∀ p, p < 10 → ρ' 75 p = ρ 50 p) ∧ (∀ p, p < 10 → ρ' 76 p = ρ 51 p) ∧ (∀ p, p < 8 → ρ' 77 p = ρ 52 p) ∧ (∀ p, p < 8 → ρ' 78 p = ρ 53 p) := by
  obtain ⟨ρ0, b0, f0, c0_0, c0_1, c0_2, c0_3, c0_4, c0_5⟩ := L_image_79 6 0 FU (s_t (s_t (s_t (s_t (s_t (s_t (s_t (s_t (s_t (s_t ρ 54 0 1) 55 0 (ρ 14 0)) 56 0 (ρ 0 0)) 57 0 (ρ 1 0)) 58 0 (ρ 2 0)) 59 0 (ρ 3 0)) 60 0 (ρ 4 0)) 61 0 (ρ 44 0)) 62 0 (ρ 48 0)) 63 0 (ρ 49 0)) (by omega) (by rw [FU_e]; omega)
  obtain ⟨ρ1, b1, f1, c1_0⟩ := L_image_165 24 0 FU ρ0 (by omega) (by rw [FU_e]; omega)
  obtain ⟨ρ2, b2, f2, c2_0, c2_1, c2_2⟩ := L_image_191 5 0 FU ρ1 (by omega) (by rw [FU_e]; omega)
  obtain ⟨ρ3, b3, f3, c3_0, c3_1, c3_2⟩ := L_image_240 10 0 FU ρ2 (by omega) (by rw [FU_e]; omega)
  obtain ⟨ρ4, b4, f4, c4_0, c4_1⟩ := L_image_290 8 0 FU ρ3 (by omega) (by rw [FU_e]; omega)
  have fin : f_X9_image ρ = some (ρ4 0 0, ρ4) := by
    unfold f_X9_image f_X9_image_0
    simp only [lt_d]
    exact b0.trans (b1.trans (b2.trans (b3.trans (b4))))
  refine ⟨ρ4, fin, fun q hq => ?_, ?_, ?_, ?_, ?_, ?_, ?_, ?_, ?_, ?_, ?_, fun p hp => ?_, fun p hp => ?_, fun p hp => ?_, fun p hp => ?_, fun p hp => ?_, fun p hp => ?_, fun p hp => ?_, fun p hp => ?_, fun p hp => ?_, fun p hp => ?_, fun p hp => ?_, fun p hp => ?_, fun p hp => ?_, fun p hp => ?_, fun p hp => ?_⟩
  · have hq' := hq
    simp only [List.mem_cons, List.not_mem_nil, or_false, not_or] at hq'
    rw [f4 q (by simp; omega), f3 q (by simp; omega), f2 q (by simp; omega), f1 q (by simp; omega), f0 q (by simp; omega), st_ne (by omega), st_ne (by omega), st_ne (by omega), st_ne (by omega), st_ne (by omega), st_ne (by omega), st_ne (by omega), st_ne (by omega), st_ne (by omega), st_ne (by omega)]
  · rw [f4 54 (by decide), f3 54 (by decide), f2 54 (by decide), f1 54 (by decide), f0 54 (by decide)]
    simp [st_v]
  · rw [f4 55 (by decide), f3 55 (by decide), f2 55 (by decide), f1 55 (by decide), f0 55 (by decide)]
    simp [st_v]
  · rw [f4 56 (by decide), f3 56 (by decide), f2 56 (by decide), f1 56 (by decide), f0 56 (by decide)]
    simp [st_v]
  · rw [f4 57 (by decide), f3 57 (by decide), f2 57 (by decide), f1 57 (by decide), f0 57 (by decide)]
    simp [st_v]
  · rw [f4 58 (by decide), f3 58 (by decide), f2 58 (by decide), f1 58 (by decide), f0 58 (by decide)]
    simp [st_v]
  · rw [f4 59 (by decide), f3 59 (by decide), f2 59 (by decide), f1 59 (by decide), f0 59 (by decide)]
    simp [st_v]
  · rw [f4 60 (by decide), f3 60 (by decide), f2 60 (by decide), f1 60 (by decide), f0 60 (by decide)]
    simp [st_v]
  · rw [f4 61 (by decide), f3 61 (by decide), f2 61 (by decide), f1 61 (by decide), f0 61 (by decide)]
    simp [st_v]
  · rw [f4 62 (by decide), f3 62 (by decide), f2 62 (by decide), f1 62 (by decide), f0 62 (by decide)]
    simp [st_v]
  · rw [f4 63 (by decide), f3 63 (by decide), f2 63 (by decide), f1 63 (by decide), f0 63 (by decide)]
    simp [st_v]
  · rw [f4 64 (by decide), f3 64 (by decide), f2 64 (by decide), f1 64 (by decide), c0_0 p hp, if_pos (Nat.zero_le _), st_ne (by omega), st_ne (by omega), st_ne (by omega), st_ne (by omega), st_ne (by omega), st_ne (by omega), st_ne (by omega), st_ne (by omega), st_ne (by omega), st_ne (by omega)]
  · rw [f4 65 (by decide), f3 65 (by decide), f2 65 (by decide), f1 65 (by decide), c0_1 p hp, if_pos (Nat.zero_le _), st_ne (by omega), st_ne (by omega), st_ne (by omega), st_ne (by omega), st_ne (by omega), st_ne (by omega), st_ne (by omega), st_ne (by omega), st_ne (by omega), st_ne (by omega)]
  · rw [f4 66 (by decide), f3 66 (by decide), f2 66 (by decide), f1 66 (by decide), c0_2 p hp, if_pos (Nat.zero_le _), st_ne (by omega), st_ne (by omega), st_ne (by omega), st_ne (by omega), st_ne (by omega), st_ne (by omega), st_ne (by omega), st_ne (by omega), st_ne (by omega), st_ne (by omega)]
  · rw [f4 67 (by decide), f3 67 (by decide), f2 67 (by decide), f1 67 (by decide), c0_3 p hp, if_pos (Nat.zero_le _), st_ne (by omega), st_ne (by omega), st_ne (by omega), st_ne (by omega), st_ne (by omega), st_ne (by omega), st_ne (by omega), st_ne (by omega), st_ne (by omega), st_ne (by omega)]
  · rw [f4 68 (by decide), f3 68 (by decide), f2 68 (by decide), f1 68 (by decide), c0_4 p hp, if_pos (Nat.zero_le _), st_ne (by omega), st_ne (by omega), st_ne (by omega), st_ne (by omega), st_ne (by omega), st_ne (by omega), st_ne (by omega), st_ne (by omega), st_ne (by omega), st_ne (by omega)]
  · rw [f4 69 (by decide), f3 69 (by decide), f2 69 (by decide), f1 69 (by decide), c0_5 p hp, if_pos (Nat.zero_le _), st_ne (by omega), st_ne (by omega), st_ne (by omega), st_ne (by omega), st_ne (by omega), st_ne (by omega), st_ne (by omega), st_ne (by omega), st_ne (by omega), st_ne (by omega)]
  · rw [f4 70 (by decide), f3 70 (by decide), f2 70 (by decide), c1_0 p hp, if_pos (Nat.zero_le _), f0 11 (by decide), st_ne (by omega), st_ne (by omega), st_ne (by omega), st_ne (by omega), st_ne (by omega), st_ne (by omega), st_ne (by omega), st_ne (by omega), st_ne (by omega), st_ne (by omega)]
  · rw [f4 72 (by decide), f3 72 (by decide), c2_0 p hp, if_pos (Nat.zero_le _), f1 45 (by decide), f0 45 (by decide), st_ne (by omega), st_ne (by omega), st_ne (by omega), st_ne (by omega), st_ne (by omega), st_ne (by omega), st_ne (by omega), st_ne (by omega), st_ne (by omega), st_ne (by omega)]
  · rw [f4 73 (by decide), f3 73 (by decide), c2_1 p hp, if_pos (Nat.zero_le _), f1 46 (by decide), f0 46 (by decide), st_ne (by omega), st_ne (by omega), st_ne (by omega), st_ne (by omega), st_ne (by omega), st_ne (by omega), st_ne (by omega), st_ne (by omega), st_ne (by omega), st_ne (by omega)]
  · rw [f4 74 (by decide), f3 74 (by decide), c2_2 p hp, if_pos (Nat.zero_le _), f1 47 (by decide), f0 47 (by decide), st_ne (by omega), st_ne (by omega), st_ne (by omega), st_ne (by omega), st_ne (by omega), st_ne (by omega), st_ne (by omega), st_ne (by omega), st_ne (by omega), st_ne (by omega)]
  · rw [f4 71 (by decide), c3_0 p hp, if_pos (Nat.zero_le _), f2 12 (by decide), f1 12 (by decide), f0 12 (by decide), st_ne (by omega), st_ne (by omega), st_ne (by omega), st_ne (by omega), st_ne (by omega), st_ne (by omega), st_ne (by omega), st_ne (by omega), st_ne (by omega), st_ne (by omega)]
  · rw [f4 75 (by decide), c3_1 p hp, if_pos (Nat.zero_le _), f2 50 (by decide), f1 50 (by decide), f0 50 (by decide), st_ne (by omega), st_ne (by omega), st_ne (by omega), st_ne (by omega), st_ne (by omega), st_ne (by omega), st_ne (by omega), st_ne (by omega), st_ne (by omega), st_ne (by omega)]
  · rw [f4 76 (by decide), c3_2 p hp, if_pos (Nat.zero_le _), f2 51 (by decide), f1 51 (by decide), f0 51 (by decide), st_ne (by omega), st_ne (by omega), st_ne (by omega), st_ne (by omega), st_ne (by omega), st_ne (by omega), st_ne (by omega), st_ne (by omega), st_ne (by omega), st_ne (by omega)]
  · rw [c4_0 p hp, if_pos (Nat.zero_le _), f3 52 (by decide), f2 52 (by decide), f1 52 (by decide), f0 52 (by decide), st_ne (by omega), st_ne (by omega), st_ne (by omega), st_ne (by omega), st_ne (by omega), st_ne (by omega), st_ne (by omega), st_ne (by omega), st_ne (by omega), st_ne (by omega)]
  · rw [c4_1 p hp, if_pos (Nat.zero_le _), f3 53 (by decide), f2 53 (by decide), f1 53 (by decide), f0 53 (by decide), st_ne (by omega), st_ne (by omega), st_ne (by omega), st_ne (by omega), st_ne (by omega), st_ne (by omega), st_ne (by omega), st_ne (by omega), st_ne (by omega), st_ne (by omega)]
theorem m_undo {ρ : Mm} (h54 : ¬ ρ 54 0 = 0) : ∃ ρ' : Mm, f_X9_undo ρ = some (ρ' 0 0, ρ') ∧ (∀ q, q ∉ [14, 0, 1, 2, 3, 4, 44, 48, 49, 5, 6, 7, 8, 9, 10, 11, 45, 46, 47, 12, 50, 51, 52, 53] → ρ' q = ρ q) ∧ ρ' 14 0 = ρ 55 0 ∧ ρ' 0 0 = ρ 56 0 ∧ ρ' 1 0 = ρ 57 0 ∧ ρ' 2 0 = ρ 58 0 ∧ ρ' 3 0 = ρ 59 0 ∧ ρ' 4 0 = ρ 60 0 ∧ ρ' 44 0 = ρ 61 0 ∧ ρ' 48 0 = ρ 62 0 ∧ ρ' 49 0 = ρ 63 0 ∧ (∀ p, p < 6 → ρ' 5 p = ρ 64 p) ∧ (∀ p, p < 6 → ρ' 6 p = ρ 65 p) ∧ (∀ p, p < 6 → ρ' 7 p = ρ 66 p) ∧ (∀ p, p < 6 → ρ' 8 p = ρ 67 p) ∧ (∀ p, p < 6 → ρ' 9 p = ρ 68 p) ∧ (∀ p, p < 6 → ρ' 10 p = ρ 69 p) ∧ (∀ p, p < 24 → ρ' 11 p = ρ 70 p) ∧ (∀ p, p < 5 → ρ' 45 p = ρ 72 p) ∧ (∀ p, p < 5 → ρ' 46 p = ρ 73 p) ∧ (∀ p, p < 5 → ρ' 47 p = ρ 74 p) ∧ (∀ p, p < 10 → ρ' 12 p = ρ 71 p) ∧ (∀ p, p < 10 → ρ' 50 p = ρ 75 p) ∧ (∀ p, p < 10 → ρ' 51 p = ρ 76 p) ∧ (∀ p, p < 8 → ρ' 52 p = ρ 77 p) ∧ (∀ p, p < 8 → ρ' 53 p = ρ 78 p) := by
  obtain ⟨ρ0, b0, f0, c0_0, c0_1, c0_2, c0_3, c0_4, c0_5⟩ := L_undo_84 6 0 FU (s_t (s_t (s_t (s_t (s_t (s_t (s_t (s_t (s_t ρ 14 0 (ρ 55 0)) 0 0 (ρ 56 0)) 1 0 (ρ 57 0)) 2 0 (ρ 58 0)) 3 0 (ρ 59 0)) 4 0 (ρ 60 0)) 44 0 (ρ 61 0)) 48 0 (ρ 62 0)) 49 0 (ρ 63 0)) (by omega) (by rw [FU_e]; omega)
  obtain ⟨ρ1, b1, f1, c1_0⟩ := L_undo_170 24 0 FU ρ0 (by omega) (by rw [FU_e]; omega)
  obtain ⟨ρ2, b2, f2, c2_0, c2_1, c2_2⟩ := L_undo_196 5 0 FU ρ1 (by omega) (by rw [FU_e]; omega)
  obtain ⟨ρ3, b3, f3, c3_0, c3_1, c3_2⟩ := L_undo_245 10 0 FU ρ2 (by omega) (by rw [FU_e]; omega)
  obtain ⟨ρ4, b4, f4, c4_0, c4_1⟩ := L_undo_295 8 0 FU ρ3 (by omega) (by rw [FU_e]; omega)
  have fin : f_X9_undo ρ = some (ρ4 0 0, ρ4) := by
    unfold f_X9_undo f_X9_undo_0
    rw [if_neg h54]
    simp only [lt_d]
    exact b0.trans (b1.trans (b2.trans (b3.trans (b4))))
  refine ⟨ρ4, fin, fun q hq => ?_, ?_, ?_, ?_, ?_, ?_, ?_, ?_, ?_, ?_, fun p hp => ?_, fun p hp => ?_, fun p hp => ?_, fun p hp => ?_, fun p hp => ?_, fun p hp => ?_, fun p hp => ?_, fun p hp => ?_, fun p hp => ?_, fun p hp => ?_, fun p hp => ?_, fun p hp => ?_, fun p hp => ?_, fun p hp => ?_, fun p hp => ?_⟩
  · have hq' := hq
    simp only [List.mem_cons, List.not_mem_nil, or_false, not_or] at hq'
    rw [f4 q (by simp; omega), f3 q (by simp; omega), f2 q (by simp; omega), f1 q (by simp; omega), f0 q (by simp; omega), st_ne (by omega), st_ne (by omega), st_ne (by omega), st_ne (by omega), st_ne (by omega), st_ne (by omega), st_ne (by omega), st_ne (by omega), st_ne (by omega)]
  · rw [f4 14 (by decide), f3 14 (by decide), f2 14 (by decide), f1 14 (by decide), f0 14 (by decide)]
    simp [st_v]
  · rw [f4 0 (by decide), f3 0 (by decide), f2 0 (by decide), f1 0 (by decide), f0 0 (by decide)]
    simp [st_v]
  · rw [f4 1 (by decide), f3 1 (by decide), f2 1 (by decide), f1 1 (by decide), f0 1 (by decide)]
    simp [st_v]
  · rw [f4 2 (by decide), f3 2 (by decide), f2 2 (by decide), f1 2 (by decide), f0 2 (by decide)]
    simp [st_v]
  · rw [f4 3 (by decide), f3 3 (by decide), f2 3 (by decide), f1 3 (by decide), f0 3 (by decide)]
    simp [st_v]
  · rw [f4 4 (by decide), f3 4 (by decide), f2 4 (by decide), f1 4 (by decide), f0 4 (by decide)]
    simp [st_v]
  · rw [f4 44 (by decide), f3 44 (by decide), f2 44 (by decide), f1 44 (by decide), f0 44 (by decide)]
    simp [st_v]
  · rw [f4 48 (by decide), f3 48 (by decide), f2 48 (by decide), f1 48 (by decide), f0 48 (by decide)]
    simp [st_v]
  · rw [f4 49 (by decide), f3 49 (by decide), f2 49 (by decide), f1 49 (by decide), f0 49 (by decide)]
    simp [st_v]
  · rw [f4 5 (by decide), f3 5 (by decide), f2 5 (by decide), f1 5 (by decide), c0_0 p hp, if_pos (Nat.zero_le _), st_ne (by omega), st_ne (by omega), st_ne (by omega), st_ne (by omega), st_ne (by omega), st_ne (by omega), st_ne (by omega), st_ne (by omega), st_ne (by omega)]
  · rw [f4 6 (by decide), f3 6 (by decide), f2 6 (by decide), f1 6 (by decide), c0_1 p hp, if_pos (Nat.zero_le _), st_ne (by omega), st_ne (by omega), st_ne (by omega), st_ne (by omega), st_ne (by omega), st_ne (by omega), st_ne (by omega), st_ne (by omega), st_ne (by omega)]
  · rw [f4 7 (by decide), f3 7 (by decide), f2 7 (by decide), f1 7 (by decide), c0_2 p hp, if_pos (Nat.zero_le _), st_ne (by omega), st_ne (by omega), st_ne (by omega), st_ne (by omega), st_ne (by omega), st_ne (by omega), st_ne (by omega), st_ne (by omega), st_ne (by omega)]
  · rw [f4 8 (by decide), f3 8 (by decide), f2 8 (by decide), f1 8 (by decide), c0_3 p hp, if_pos (Nat.zero_le _), st_ne (by omega), st_ne (by omega), st_ne (by omega), st_ne (by omega), st_ne (by omega), st_ne (by omega), st_ne (by omega), st_ne (by omega), st_ne (by omega)]
  · rw [f4 9 (by decide), f3 9 (by decide), f2 9 (by decide), f1 9 (by decide), c0_4 p hp, if_pos (Nat.zero_le _), st_ne (by omega), st_ne (by omega), st_ne (by omega), st_ne (by omega), st_ne (by omega), st_ne (by omega), st_ne (by omega), st_ne (by omega), st_ne (by omega)]
  · rw [f4 10 (by decide), f3 10 (by decide), f2 10 (by decide), f1 10 (by decide), c0_5 p hp, if_pos (Nat.zero_le _), st_ne (by omega), st_ne (by omega), st_ne (by omega), st_ne (by omega), st_ne (by omega), st_ne (by omega), st_ne (by omega), st_ne (by omega), st_ne (by omega)]
  · rw [f4 11 (by decide), f3 11 (by decide), f2 11 (by decide), c1_0 p hp, if_pos (Nat.zero_le _), f0 70 (by decide), st_ne (by omega), st_ne (by omega), st_ne (by omega), st_ne (by omega), st_ne (by omega), st_ne (by omega), st_ne (by omega), st_ne (by omega), st_ne (by omega)]
  · rw [f4 45 (by decide), f3 45 (by decide), c2_0 p hp, if_pos (Nat.zero_le _), f1 72 (by decide), f0 72 (by decide), st_ne (by omega), st_ne (by omega), st_ne (by omega), st_ne (by omega), st_ne (by omega), st_ne (by omega), st_ne (by omega), st_ne (by omega), st_ne (by omega)]
  · rw [f4 46 (by decide), f3 46 (by decide), c2_1 p hp, if_pos (Nat.zero_le _), f1 73 (by decide), f0 73 (by decide), st_ne (by omega), st_ne (by omega), st_ne (by omega), st_ne (by omega), st_ne (by omega), st_ne (by omega), st_ne (by omega), st_ne (by omega), st_ne (by omega)]
  · rw [f4 47 (by decide), f3 47 (by decide), c2_2 p hp, if_pos (Nat.zero_le _), f1 74 (by decide), f0 74 (by decide), st_ne (by omega), st_ne (by omega), st_ne (by omega), st_ne (by omega), st_ne (by omega), st_ne (by omega), st_ne (by omega), st_ne (by omega), st_ne (by omega)]
  · rw [f4 12 (by decide), c3_0 p hp, if_pos (Nat.zero_le _), f2 71 (by decide), f1 71 (by decide), f0 71 (by decide), st_ne (by omega), st_ne (by omega), st_ne (by omega), st_ne (by omega), st_ne (by omega), st_ne (by omega), st_ne (by omega), st_ne (by omega), st_ne (by omega)]
  · rw [f4 50 (by decide), c3_1 p hp, if_pos (Nat.zero_le _), f2 75 (by decide), f1 75 (by decide), f0 75 (by decide), st_ne (by omega), st_ne (by omega), st_ne (by omega), st_ne (by omega), st_ne (by omega), st_ne (by omega), st_ne (by omega), st_ne (by omega), st_ne (by omega)]
  · rw [f4 51 (by decide), c3_2 p hp, if_pos (Nat.zero_le _), f2 76 (by decide), f1 76 (by decide), f0 76 (by decide), st_ne (by omega), st_ne (by omega), st_ne (by omega), st_ne (by omega), st_ne (by omega), st_ne (by omega), st_ne (by omega), st_ne (by omega), st_ne (by omega)]
  · rw [c4_0 p hp, if_pos (Nat.zero_le _), f3 77 (by decide), f2 77 (by decide), f1 77 (by decide), f0 77 (by decide), st_ne (by omega), st_ne (by omega), st_ne (by omega), st_ne (by omega), st_ne (by omega), st_ne (by omega), st_ne (by omega), st_ne (by omega), st_ne (by omega)]
  · rw [c4_1 p hp, if_pos (Nat.zero_le _), f3 78 (by decide), f2 78 (by decide), f1 78 (by decide), f0 78 (by decide), st_ne (by omega), st_ne (by omega), st_ne (by omega), st_ne (by omega), st_ne (by omega), st_ne (by omega), st_ne (by omega), st_ne (by omega), st_ne (by omega)]
section CI
variable {nh : Nat} {σ : Ms} {ρ : Mm} {ℓ : Mz} {η : Mj}
theorem x3_5 (σ : Ms) : ∃ s p b : Mm, f_X3_copies_5 σ = some (va_up (va_up (va_up σ 9 s) 10 p) 11 b) ∧ EQR 5 s (σ 6) ∧ EQR 10 p (σ 7) ∧ EQR 8 b (σ 8) := by
  obtain ⟨s, s1, s2⟩ := s_copies4 (τ := σ 9) (τo := σ 6) (N := 5) (by omega)
  obtain ⟨p, p1, p2⟩ := s_copies4 (τ := σ 10) (τo := σ 7) (N := 10) (by omega)
  obtain ⟨b, b1, b2⟩ := s_copies4 (τ := σ 11) (τo := σ 8) (N := 8) (by omega)
  refine ⟨s, p, b, ?_, s2, p2, b2⟩
  have r9 : rl 9 = 5 := rfl
  have r10 : rl 10 = 10 := rfl
  have r11 : rl 11 = 8 := rfl
  unfold f_X3_copies_5 f_X3_copies_5_0
  rw [rl6, rl7, rl8, r9, r10, r11, s1, bd_s, lt_d, up_ne (show (10 : Nat) ≠ 9 by omega), up_ne (show (7 : Nat) ≠ 9 by omega), p1, bd_s, lt_d, up_ne (show (11 : Nat) ≠ 10 by omega), up_ne (show (11 : Nat) ≠ 9 by omega), up_ne (show (8 : Nat) ≠ 10 by omega), up_ne (show (8 : Nat) ≠ 9 by omega), b1, bd_s, lt_d]
theorem x3_4 (σ : Ms) : ∃ s p b : Mm, f_X3_copies_4 σ = some (va_up (va_up (va_up σ 6 s) 7 p) 8 b) ∧ EQR 5 s (σ 9) ∧ EQR 10 p (σ 10) ∧ EQR 8 b (σ 11) := by
  obtain ⟨s, s1, s2⟩ := s_copies4 (τ := σ 6) (τo := σ 9) (N := 5) (by omega)
  obtain ⟨p, p1, p2⟩ := s_copies4 (τ := σ 7) (τo := σ 10) (N := 10) (by omega)
  obtain ⟨b, b1, b2⟩ := s_copies4 (τ := σ 8) (τo := σ 11) (N := 8) (by omega)
  refine ⟨s, p, b, ?_, s2, p2, b2⟩
  have r9 : rl 9 = 5 := rfl
  have r10 : rl 10 = 10 := rfl
  have r11 : rl 11 = 8 := rfl
  unfold f_X3_copies_4 f_X3_copies_4_0
  rw [rl6, rl7, rl8, r9, r10, r11, s1, bd_s, lt_d, up_ne (show (7 : Nat) ≠ 6 by omega), up_ne (show (10 : Nat) ≠ 6 by omega), p1, bd_s, lt_d, up_ne (show (8 : Nat) ≠ 7 by omega), up_ne (show (8 : Nat) ≠ 6 by omega), up_ne (show (11 : Nat) ≠ 7 by omega), up_ne (show (11 : Nat) ≠ 6 by omega), b1, bd_s, lt_d]
theorem S_image (R : RX nh σ ρ ℓ η) : SM nh σ ℓ η (f_X8_image σ) (f_X9_image ρ) := by
  have hH := R.1
  obtain ⟨M, m, w, H, -⟩ := R.1
  obtain ⟨τ3, a1, a2, -⟩ := s_copies (τ := σ 3) (τo := σ 1)
  obtain ⟨s, p, b, c1, c2, c3, c4⟩ := x3_5 (va_up σ 3 τ3)
  rw [up_ne (by omega)] at c2 c3 c4
  obtain ⟨ρ', m1, m2, IMG⟩ := m_image (ρ := ρ)
  unfold f_X8_image f_X8_image_0
  rw [a1, bd_s, lt_d, c1, bd_s, lt_d, lt_d, m1, m2 0 (by decide), H.1.2.2]
  have z : ∀ o, o ≠ 0 → o ≠ 3 → ¬ (9 ≤ o ∧ o ≤ 11) → va_up (va_up (va_up (va_up (va_up σ 3 τ3) 9 s) 10 p) 11 b) 0 (s_t ((va_up (va_up (va_up (va_up σ 3 τ3) 9 s) 10 p) 11 b) 0) 5 0 1) o = σ o := fun o h0 h3 h9 => by
    rw [up_ne h0, up_ne (by omega), up_ne (by omega), up_ne (by omega), up_ne h3]
  have z0 : (va_up (va_up (va_up (va_up σ 3 τ3) 9 s) 10 p) 11 b) 0 = σ 0 := by
    rw [up_ne (by omega), up_ne (by omega), up_ne (by omega), up_ne (by omega)]
  rw [z 1 (by omega) (by omega) (by omega), H.1.2.1]
  obtain ⟨-, ⟨⟨l2, l3⟩, ⟨l4, l5⟩, l6⟩, hs, tx, -, ac, tp⟩ := R
  obtain ⟨i54, i55, i56, i57, i58, i59, i60, i61, i62, i63, i64, i65, i66, i67, i68, i69, i70, i72, i73, i74, i71, i75, i76, i77, i78⟩ := IMG
  refine ⟨_, _, _, rfl, rfl, ⟨?_, ⟨?_, ?_, ?_⟩, HsR_e hs ?_ (fun j q r => z j (by omega) (by omega) (by omega)) (fun k hk => m2 k (by simp; omega)), ?_, ⟨?_, Or.inr ⟨i54, ?_⟩⟩, ?_, TpR_e tp (fun o q r => z o (by omega) (by omega) (by omega)) ⟨m2 81 (by decide), m2 82 (by decide)⟩⟩, z 20 (by omega) (by omega) (by omega), z 29 (by omega) (by omega) (by omega)⟩
  · rw [z 1 (by omega) (by omega) (by omega), z 6 (by omega) (by omega) (by omega), z 7 (by omega) (by omega) (by omega), z 8 (by omega) (by omega) (by omega)]
    exact Core_k hH (fun k hk => m2 k (by simp; omega))
  · rw [z 1 (by omega) (by omega) (by omega)]
    exact ⟨l2, l3⟩
  · rw [z 2 (by omega) (by omega) (by omega)]
    exact ⟨l4, l5⟩
  · rw [m2 31 (by decide), m2 32 (by decide)]
    exact l6
  · rw [up_eq, z0, st_ne (by omega)]
  · rw [z 12 (by omega) (by omega) (by omega)]
    exact TxR_e tx ⟨m2 15 (by decide), m2 18 (by decide), m2 29 (by decide)⟩
  · rw [up_eq, st_eq, i54]
  · rw [up_ne (show (3 : Nat) ≠ 0 by omega), up_ne (show (3 : Nat) ≠ 11 by omega), up_ne (show (3 : Nat) ≠ 10 by omega), up_ne (show (3 : Nat) ≠ 9 by omega), up_eq, up_ne (show (9 : Nat) ≠ 0 by omega), up_ne (show (9 : Nat) ≠ 11 by omega), up_ne (show (9 : Nat) ≠ 10 by omega), up_eq, up_ne (show (10 : Nat) ≠ 0 by omega), up_ne (show (10 : Nat) ≠ 11 by omega), up_eq, up_ne (show (11 : Nat) ≠ 0 by omega), up_eq]
    refine Core_i hH a2 ⟨⟨fun k hk => ?_, i55, fun k q k1 k2 hq => ?_, fun q hq => i70 q hq, fun q hq => i71 q hq⟩, ⟨i61, i62, i63⟩, fun k q k1 k2 hq => ?_, fun k q k1 k2 hq => ?_, fun k q k1 k2 hq => ?_⟩ c2 c3 c4
    · rcases (by omega : k = 0 ∨ k = 1 ∨ k = 2 ∨ k = 3 ∨ k = 4) with rfl | rfl | rfl | rfl | rfl
      · exact i56
      · exact i57
      · exact i58
      · exact i59
      · exact i60
    · rcases (by omega : k = 5 ∨ k = 6 ∨ k = 7 ∨ k = 8 ∨ k = 9 ∨ k = 10) with rfl | rfl | rfl | rfl | rfl | rfl
      · exact i64 q hq
      · exact i65 q hq
      · exact i66 q hq
      · exact i67 q hq
      · exact i68 q hq
      · exact i69 q hq
    · rcases (by omega : k = 45 ∨ k = 46 ∨ k = 47) with rfl | rfl | rfl
      · exact i72 q hq
      · exact i73 q hq
      · exact i74 q hq
    · rcases (by omega : k = 50 ∨ k = 51) with rfl | rfl
      · exact i75 q hq
      · exact i76 q hq
    · rcases (by omega : k = 52 ∨ k = 53) with rfl | rfl
      · exact i77 q hq
      · exact i78 q hq
  · rw [z 21 (by omega) (by omega) (by omega)]
    exact AcR_e ac ⟨m2 79 (by decide), m2 80 (by decide)⟩
theorem S_undo (R : RX nh σ ρ ℓ η) : SM nh σ ℓ η (f_X8_undo σ) (f_X9_undo ρ) := by
  obtain ⟨h5, hi⟩ := R.2.2.2.2.1
  unfold f_X8_undo f_X8_undo_0
  rw [h5]
  rcases hi with hi | ⟨hi, hC⟩
  · unfold f_X9_undo f_X9_undo_0
    rw [if_pos hi, if_pos hi]
    exact SM.same R _
  have hn : ¬ ρ 54 0 = 0 := by rw [hi]; decide
  obtain ⟨ρ', m1, m2, IMG⟩ := m_undo (ρ := ρ) hn
  obtain ⟨M, m, w, H, -⟩ := id hC
  obtain ⟨τ1, a1, a2, a3, a4⟩ := s_copies (τ := σ 1) (τo := σ 3)
  obtain ⟨s, p, b, c1, c2, c3, c4⟩ := x3_4 (va_up σ 1 τ1)
  rw [up_ne (by omega)] at c2 c3 c4
  rw [if_neg hn, a1, bd_s, lt_d, c1, bd_s, m1]
  have z : ∀ o, o ≠ 1 → ¬ (6 ≤ o ∧ o ≤ 8) → va_up (va_up (va_up (va_up σ 1 τ1) 6 s) 7 p) 8 b o = σ o := fun o h1 h6 => by
    rw [up_ne (by omega), up_ne (by omega), up_ne (by omega), up_ne h1]
  have z1 : va_up (va_up (va_up (va_up σ 1 τ1) 6 s) 7 p) 8 b 1 = τ1 := by
    rw [up_ne (by omega), up_ne (by omega), up_ne (by omega), up_eq]
  obtain ⟨u14, u0, u1, u2, u3, u4, u44, u48, u49, u5, u6, u7, u8, u9, u10, u11, u45, u46, u47, u12, u50, u51, u52, u53⟩ := IMG
  have eI : EQI ρ' (im ρ) := by
    refine ⟨⟨fun k hk => ?_, u14, fun k q k1 k2 hq => ?_, fun q hq => u11 q hq, fun q hq => u12 q hq⟩, ⟨u44, u48, u49⟩, fun k q k1 k2 hq => ?_, fun k q k1 k2 hq => ?_, fun k q k1 k2 hq => ?_⟩
    · rcases (by omega : k = 0 ∨ k = 1 ∨ k = 2 ∨ k = 3 ∨ k = 4) with rfl | rfl | rfl | rfl | rfl
      · exact u0
      · exact u1
      · exact u2
      · exact u3
      · exact u4
    · rcases (by omega : k = 5 ∨ k = 6 ∨ k = 7 ∨ k = 8 ∨ k = 9 ∨ k = 10) with rfl | rfl | rfl | rfl | rfl | rfl
      · exact u5 q hq
      · exact u6 q hq
      · exact u7 q hq
      · exact u8 q hq
      · exact u9 q hq
      · exact u10 q hq
    · rcases (by omega : k = 45 ∨ k = 46 ∨ k = 47) with rfl | rfl | rfl
      · exact u45 q hq
      · exact u46 q hq
      · exact u47 q hq
    · rcases (by omega : k = 50 ∨ k = 51) with rfl | rfl
      · exact u50 q hq
      · exact u51 q hq
    · rcases (by omega : k = 52 ∨ k = 53) with rfl | rfl
      · exact u52 q hq
      · exact u53 q hq
  have hC' : Core nh τ1 s p b ρ' := Core_i hC a2 eI c2 c3 c4
  have hm0 : ρ' 0 0 = nI M := (eI.1.1 0 (by omega)).trans H.1.2.2
  have hm1 : τ1 12 0 = nI M := (a2.k0 (by omega)).trans H.1.2.1
  rw [z1, hm1, hm0]
  refine ⟨_, _, _, rfl, rfl, R.now (fun o h1 _ h6 h7 h8 _ => z o h1 (by omega)) (by rw [z1]; exact ⟨a3, a4⟩) (z 2 (by omega) (by omega)) (fun k hk => m2 k (by simp; omega)) ?_, z 20 (by omega) (by omega), z 29 (by omega) (by omega)⟩
  rw [z1, up_ne (show (6 : Nat) ≠ 8 by omega), up_ne (show (6 : Nat) ≠ 7 by omega), up_eq, up_ne (show (7 : Nat) ≠ 8 by omega), up_eq, up_eq]
  exact hC'
end CI
