/-! PURE: the image, in both (made by wip/whole/gen/gen87.py) -/
theorem L_image_290 : ∀ (k i n : Nat) (τ : Mm), i + k = 8 → k < n → ∃ τ' : Mm, f_X9_image_290L n τ (nI i) = some ((τ' 0 0), τ') ∧ (∀ q, q ∉ [77, 78] → τ' q = τ q) ∧ (∀ p, p < 8 → τ' 77 p = if i ≤ p then τ 52 p else τ 77 p) ∧ (∀ p, p < 8 → τ' 78 p = if i ≤ p then τ 53 p else τ 78 p) := by
  intro k
  induction k with
  | zero =>
    intro i n τ hi hn
    obtain ⟨n, rfl⟩ : ∃ j, n = j + 1 := ⟨n - 1, by omega⟩
    refine ⟨τ, ?_, fun _ _ => rfl, fun p hp => (if_neg (by omega)).symm, fun p hp => (if_neg (by omega)).symm⟩
    show f_X9_image_290 _ _ _ = _
    unfold f_X9_image_290
    rw [show i = 8 by omega, if_pos (by decide)]
  | succ k ih =>
    intro i n τ hi hn
    obtain ⟨n, rfl⟩ : ∃ j, n = j + 1 := ⟨n - 1, by omega⟩
    have g : ∀ {β : Type} {x : Option β}, gd (inB (nI i) 8) x = x := z_in (by omega) (by decide)
    have cc : (nI i).toNatClampNeg = i := nI_clamp (by omega)
    obtain ⟨τ', b1, b2, a0, a1⟩ := ih (i + 1) n (s_t (s_t τ 77 i (τ 52 i)) 78 i (τ 53 i)) (by omega) (by omega)
    refine ⟨τ', ?_, fun q hq => ?_, fun p hp => ?_, fun p hp => ?_⟩
    · show f_X9_image_290 _ _ _ = _
      unfold f_X9_image_290
      rw [if_neg (show ¬ (8 : Int32) ≤ nI i from nI_ge (b := 8) (by omega) (by omega))]
      simp only [g, cc, lt_d, nI_1, st_ne (show (53 : Nat) ≠ 77 by decide)]
      exact b1
    · have hq' : q ≠ 77 ∧ q ≠ 78 := by simpa using hq
      rw [b2 q hq, st_ne (by omega), st_ne (by omega)]
    · rw [a0 p hp]
      by_cases h1 : i + 1 ≤ p
      · rw [if_pos h1, if_pos (by omega), st_ne (by omega), st_ne (by omega)]
      · rw [if_neg h1]
        by_cases h2 : p = i
        · subst h2
          rw [if_pos (Nat.le_refl _)]
          simp [st_v]
        · rw [if_neg (by omega)]
          simp [st_v, h2]
    · rw [a1 p hp]
      by_cases h1 : i + 1 ≤ p
      · rw [if_pos h1, if_pos (by omega), st_ne (by omega), st_ne (by omega)]
      · rw [if_neg h1]
        by_cases h2 : p = i
        · subst h2
          rw [if_pos (Nat.le_refl _)]
          simp [st_v]
        · rw [if_neg (by omega)]
          simp [st_v, h2]
theorem L_image_240 : ∀ (k i n : Nat) (τ : Mm), i + k = 10 → k < n → ∃ τ' : Mm, f_X9_image_240L n τ (nI i) = f_X9_image_290L FU τ' (0 : Int32) ∧ (∀ q, q ∉ [71, 75, 76] → τ' q = τ q) ∧ (∀ p, p < 10 → τ' 71 p = if i ≤ p then τ 12 p else τ 71 p) ∧ (∀ p, p < 10 → τ' 75 p = if i ≤ p then τ 50 p else τ 75 p) ∧ (∀ p, p < 10 → τ' 76 p = if i ≤ p then τ 51 p else τ 76 p) := by
  intro k
  induction k with
  | zero =>
    intro i n τ hi hn
    obtain ⟨n, rfl⟩ : ∃ j, n = j + 1 := ⟨n - 1, by omega⟩
    refine ⟨τ, ?_, fun _ _ => rfl, fun p hp => (if_neg (by omega)).symm, fun p hp => (if_neg (by omega)).symm, fun p hp => (if_neg (by omega)).symm⟩
    show f_X9_image_240 _ _ _ = _
    unfold f_X9_image_240
    rw [show i = 10 by omega, if_pos (by decide)]
  | succ k ih =>
    intro i n τ hi hn
    obtain ⟨n, rfl⟩ : ∃ j, n = j + 1 := ⟨n - 1, by omega⟩
    have g : ∀ {β : Type} {x : Option β}, gd (inB (nI i) 10) x = x := z_in (by omega) (by decide)
    have cc : (nI i).toNatClampNeg = i := nI_clamp (by omega)
    obtain ⟨τ', b1, b2, a0, a1, a2⟩ := ih (i + 1) n (s_t (s_t (s_t τ 71 i (τ 12 i)) 75 i (τ 50 i)) 76 i (τ 51 i)) (by omega) (by omega)
    refine ⟨τ', ?_, fun q hq => ?_, fun p hp => ?_, fun p hp => ?_, fun p hp => ?_⟩
    · show f_X9_image_240 _ _ _ = _
      unfold f_X9_image_240
      rw [if_neg (show ¬ (10 : Int32) ≤ nI i from nI_ge (b := 10) (by omega) (by omega))]
      simp only [g, cc, lt_d, nI_1, st_ne (show (50 : Nat) ≠ 71 by decide), st_ne (show (51 : Nat) ≠ 71 by decide), st_ne (show (51 : Nat) ≠ 75 by decide)]
      exact b1
    · have hq' : q ≠ 71 ∧ q ≠ 75 ∧ q ≠ 76 := by simpa using hq
      rw [b2 q hq, st_ne (by omega), st_ne (by omega), st_ne (by omega)]
    · rw [a0 p hp]
      by_cases h1 : i + 1 ≤ p
      · rw [if_pos h1, if_pos (by omega), st_ne (by omega), st_ne (by omega), st_ne (by omega)]
      · rw [if_neg h1]
        by_cases h2 : p = i
        · subst h2
          rw [if_pos (Nat.le_refl _)]
          simp [st_v]
        · rw [if_neg (by omega)]
          simp [st_v, h2]
    · rw [a1 p hp]
      by_cases h1 : i + 1 ≤ p
      · rw [if_pos h1, if_pos (by omega), st_ne (by omega), st_ne (by omega), st_ne (by omega)]
      · rw [if_neg h1]
        by_cases h2 : p = i
        · subst h2
          rw [if_pos (Nat.le_refl _)]
          simp [st_v]
        · rw [if_neg (by omega)]
          simp [st_v, h2]
    · rw [a2 p hp]
      by_cases h1 : i + 1 ≤ p
      · rw [if_pos h1, if_pos (by omega), st_ne (by omega), st_ne (by omega), st_ne (by omega)]
      · rw [if_neg h1]
        by_cases h2 : p = i
        · subst h2
          rw [if_pos (Nat.le_refl _)]
          simp [st_v]
        · rw [if_neg (by omega)]
          simp [st_v, h2]
theorem L_image_191 : ∀ (k i n : Nat) (τ : Mm), i + k = 5 → k < n → ∃ τ' : Mm, f_X9_image_191L n τ (nI i) = f_X9_image_240L FU τ' (0 : Int32) ∧ (∀ q, q ∉ [72, 73, 74] → τ' q = τ q) ∧ (∀ p, p < 5 → τ' 72 p = if i ≤ p then τ 45 p else τ 72 p) ∧ (∀ p, p < 5 → τ' 73 p = if i ≤ p then τ 46 p else τ 73 p) ∧ (∀ p, p < 5 → τ' 74 p = if i ≤ p then τ 47 p else τ 74 p) := by
  intro k
  induction k with
  | zero =>
    intro i n τ hi hn
    obtain ⟨n, rfl⟩ : ∃ j, n = j + 1 := ⟨n - 1, by omega⟩
    refine ⟨τ, ?_, fun _ _ => rfl, fun p hp => (if_neg (by omega)).symm, fun p hp => (if_neg (by omega)).symm, fun p hp => (if_neg (by omega)).symm⟩
    show f_X9_image_191 _ _ _ = _
    unfold f_X9_image_191
    rw [show i = 5 by omega, if_pos (by decide)]
  | succ k ih =>
    intro i n τ hi hn
    obtain ⟨n, rfl⟩ : ∃ j, n = j + 1 := ⟨n - 1, by omega⟩
    have g : ∀ {β : Type} {x : Option β}, gd (inB (nI i) 5) x = x := z_in (by omega) (by decide)
    have cc : (nI i).toNatClampNeg = i := nI_clamp (by omega)
    obtain ⟨τ', b1, b2, a0, a1, a2⟩ := ih (i + 1) n (s_t (s_t (s_t τ 72 i (τ 45 i)) 73 i (τ 46 i)) 74 i (τ 47 i)) (by omega) (by omega)
    refine ⟨τ', ?_, fun q hq => ?_, fun p hp => ?_, fun p hp => ?_, fun p hp => ?_⟩
    · show f_X9_image_191 _ _ _ = _
      unfold f_X9_image_191
      rw [if_neg (show ¬ (5 : Int32) ≤ nI i from nI_ge (b := 5) (by omega) (by omega))]
      simp only [g, cc, lt_d, nI_1, st_ne (show (46 : Nat) ≠ 72 by decide), st_ne (show (47 : Nat) ≠ 72 by decide), st_ne (show (47 : Nat) ≠ 73 by decide)]
      exact b1
    · have hq' : q ≠ 72 ∧ q ≠ 73 ∧ q ≠ 74 := by simpa using hq
      rw [b2 q hq, st_ne (by omega), st_ne (by omega), st_ne (by omega)]
    · rw [a0 p hp]
      by_cases h1 : i + 1 ≤ p
      · rw [if_pos h1, if_pos (by omega), st_ne (by omega), st_ne (by omega), st_ne (by omega)]
      · rw [if_neg h1]
        by_cases h2 : p = i
        · subst h2
          rw [if_pos (Nat.le_refl _)]
          simp [st_v]
        · rw [if_neg (by omega)]
          simp [st_v, h2]
    · rw [a1 p hp]
      by_cases h1 : i + 1 ≤ p
      · rw [if_pos h1, if_pos (by omega), st_ne (by omega), st_ne (by omega), st_ne (by omega)]
      · rw [if_neg h1]
        by_cases h2 : p = i
        · subst h2
          rw [if_pos (Nat.le_refl _)]
          simp [st_v]
        · rw [if_neg (by omega)]
          simp [st_v, h2]
    · rw [a2 p hp]
      by_cases h1 : i + 1 ≤ p
      · rw [if_pos h1, if_pos (by omega), st_ne (by omega), st_ne (by omega), st_ne (by omega)]
      · rw [if_neg h1]
        by_cases h2 : p = i
        · subst h2
          rw [if_pos (Nat.le_refl _)]
          simp [st_v]
        · rw [if_neg (by omega)]
          simp [st_v, h2]
theorem L_image_165 : ∀ (k i n : Nat) (τ : Mm), i + k = 24 → k < n → ∃ τ' : Mm, f_X9_image_165L n τ (nI i) = f_X9_image_191L FU τ' (0 : Int32) ∧ (∀ q, q ∉ [70] → τ' q = τ q) ∧ (∀ p, p < 24 → τ' 70 p = if i ≤ p then τ 11 p else τ 70 p) := by
  intro k
  induction k with
  | zero =>
    intro i n τ hi hn
    obtain ⟨n, rfl⟩ : ∃ j, n = j + 1 := ⟨n - 1, by omega⟩
    refine ⟨τ, ?_, fun _ _ => rfl, fun p hp => (if_neg (by omega)).symm⟩
    show f_X9_image_165 _ _ _ = _
    unfold f_X9_image_165
    rw [show i = 24 by omega, if_pos (by decide)]
  | succ k ih =>
    intro i n τ hi hn
    obtain ⟨n, rfl⟩ : ∃ j, n = j + 1 := ⟨n - 1, by omega⟩
    have g : ∀ {β : Type} {x : Option β}, gd (inB (nI i) 24) x = x := z_in (by omega) (by decide)
    have cc : (nI i).toNatClampNeg = i := nI_clamp (by omega)
    obtain ⟨τ', b1, b2, a0⟩ := ih (i + 1) n (s_t τ 70 i (τ 11 i)) (by omega) (by omega)
    refine ⟨τ', ?_, fun q hq => ?_, fun p hp => ?_⟩
    · show f_X9_image_165 _ _ _ = _
      unfold f_X9_image_165
      rw [if_neg (show ¬ (24 : Int32) ≤ nI i from nI_ge (b := 24) (by omega) (by omega))]
      simp only [g, cc, lt_d, nI_1]
      exact b1
    · have hq' : q ≠ 70 := by simpa using hq
      rw [b2 q hq, st_ne (by omega)]
    · rw [a0 p hp]
      by_cases h1 : i + 1 ≤ p
      · rw [if_pos h1, if_pos (by omega), st_ne (by omega)]
      · rw [if_neg h1]
        by_cases h2 : p = i
        · subst h2
          rw [if_pos (Nat.le_refl _)]
          simp [st_v]
        · rw [if_neg (by omega)]
          simp [st_v, h2]
theorem L_image_79 : ∀ (k i n : Nat) (τ : Mm), i + k = 6 → k < n → ∃ τ' : Mm, f_X9_image_79L n τ (nI i) = f_X9_image_165L FU τ' (0 : Int32) ∧ (∀ q, q ∉ [64, 65, 66, 67, 68, 69] → τ' q = τ q) ∧ (∀ p, p < 6 → τ' 64 p = if i ≤ p then τ 5 p else τ 64 p) ∧ (∀ p, p < 6 → τ' 65 p = if i ≤ p then τ 6 p else τ 65 p) ∧ (∀ p, p < 6 → τ' 66 p = if i ≤ p then τ 7 p else τ 66 p) ∧ (∀ p, p < 6 → τ' 67 p = if i ≤ p then τ 8 p else τ 67 p) ∧ (∀ p, p < 6 → τ' 68 p = if i ≤ p then τ 9 p else τ 68 p) ∧ (∀ p, p < 6 → τ' 69 p = if i ≤ p then τ 10 p else τ 69 p) := by
  intro k
  induction k with
  | zero =>
    intro i n τ hi hn
    obtain ⟨n, rfl⟩ : ∃ j, n = j + 1 := ⟨n - 1, by omega⟩
    refine ⟨τ, ?_, fun _ _ => rfl, fun p hp => (if_neg (by omega)).symm, fun p hp => (if_neg (by omega)).symm, fun p hp => (if_neg (by omega)).symm, fun p hp => (if_neg (by omega)).symm, fun p hp => (if_neg (by omega)).symm, fun p hp => (if_neg (by omega)).symm⟩
    show f_X9_image_79 _ _ _ = _
    unfold f_X9_image_79
    rw [show i = 6 by omega, if_pos (by decide)]
  | succ k ih =>
    intro i n τ hi hn
    obtain ⟨n, rfl⟩ : ∃ j, n = j + 1 := ⟨n - 1, by omega⟩
    have g : ∀ {β : Type} {x : Option β}, gd (inB (nI i) 6) x = x := z_in (by omega) (by decide)
    have cc : (nI i).toNatClampNeg = i := nI_clamp (by omega)
    obtain ⟨τ', b1, b2, a0, a1, a2, a3, a4, a5⟩ := ih (i + 1) n (s_t (s_t (s_t (s_t (s_t (s_t τ 64 i (τ 5 i)) 65 i (τ 6 i)) 66 i (τ 7 i)) 67 i (τ 8 i)) 68 i (τ 9 i)) 69 i (τ 10 i)) (by omega) (by omega)
    refine ⟨τ', ?_, fun q hq => ?_, fun p hp => ?_, fun p hp => ?_, fun p hp => ?_, fun p hp => ?_, fun p hp => ?_, fun p hp => ?_⟩
    · show f_X9_image_79 _ _ _ = _
      unfold f_X9_image_79
      rw [if_neg (show ¬ (6 : Int32) ≤ nI i from nI_ge (b := 6) (by omega) (by omega))]
      simp only [g, cc, lt_d, nI_1, st_ne (show (6 : Nat) ≠ 64 by decide), st_ne (show (7 : Nat) ≠ 64 by decide), st_ne (show (7 : Nat) ≠ 65 by decide), st_ne (show (8 : Nat) ≠ 64 by decide), st_ne (show (8 : Nat) ≠ 65 by decide), st_ne (show (8 : Nat) ≠ 66 by decide), st_ne (show (9 : Nat) ≠ 64 by decide), st_ne (show (9 : Nat) ≠ 65 by decide), st_ne (show (9 : Nat) ≠ 66 by decide), st_ne (show (9 : Nat) ≠ 67 by decide), st_ne (show (10 : Nat) ≠ 64 by decide), st_ne (show (10 : Nat) ≠ 65 by decide), st_ne (show (10 : Nat) ≠ 66 by decide), st_ne (show (10 : Nat) ≠ 67 by decide), st_ne (show (10 : Nat) ≠ 68 by decide)]
      exact b1
    · have hq' : q ≠ 64 ∧ q ≠ 65 ∧ q ≠ 66 ∧ q ≠ 67 ∧ q ≠ 68 ∧ q ≠ 69 := by simpa using hq
      rw [b2 q hq, st_ne (by omega), st_ne (by omega), st_ne (by omega), st_ne (by omega), st_ne (by omega), st_ne (by omega)]
    · rw [a0 p hp]
      by_cases h1 : i + 1 ≤ p
      · rw [if_pos h1, if_pos (by omega), st_ne (by omega), st_ne (by omega), st_ne (by omega), st_ne (by omega), st_ne (by omega), st_ne (by omega)]
      · rw [if_neg h1]
        by_cases h2 : p = i
        · subst h2
          rw [if_pos (Nat.le_refl _)]
          simp [st_v]
        · rw [if_neg (by omega)]
          simp [st_v, h2]
    · rw [a1 p hp]
      by_cases h1 : i + 1 ≤ p
      · rw [if_pos h1, if_pos (by omega), st_ne (by omega), st_ne (by omega), st_ne (by omega), st_ne (by omega), st_ne (by omega), st_ne (by omega)]
      · rw [if_neg h1]
        by_cases h2 : p = i
        · subst h2
          rw [if_pos (Nat.le_refl _)]
          simp [st_v]
        · rw [if_neg (by omega)]
          simp [st_v, h2]
    · rw [a2 p hp]
      by_cases h1 : i + 1 ≤ p
      · rw [if_pos h1, if_pos (by omega), st_ne (by omega), st_ne (by omega), st_ne (by omega), st_ne (by omega), st_ne (by omega), st_ne (by omega)]
      · rw [if_neg h1]
        by_cases h2 : p = i
        · subst h2
          rw [if_pos (Nat.le_refl _)]
          simp [st_v]
        · rw [if_neg (by omega)]
          simp [st_v, h2]
    · rw [a3 p hp]
      by_cases h1 : i + 1 ≤ p
      · rw [if_pos h1, if_pos (by omega), st_ne (by omega), st_ne (by omega), st_ne (by omega), st_ne (by omega), st_ne (by omega), st_ne (by omega)]
      · rw [if_neg h1]
        by_cases h2 : p = i
        · subst h2
          rw [if_pos (Nat.le_refl _)]
          simp [st_v]
        · rw [if_neg (by omega)]
          simp [st_v, h2]
    · rw [a4 p hp]
      by_cases h1 : i + 1 ≤ p
      · rw [if_pos h1, if_pos (by omega), st_ne (by omega), st_ne (by omega), st_ne (by omega), st_ne (by omega), st_ne (by omega), st_ne (by omega)]
      · rw [if_neg h1]
        by_cases h2 : p = i
        · subst h2
          rw [if_pos (Nat.le_refl _)]
          simp [st_v]
        · rw [if_neg (by omega)]
          simp [st_v, h2]
    · rw [a5 p hp]
      by_cases h1 : i + 1 ≤ p
      · rw [if_pos h1, if_pos (by omega), st_ne (by omega), st_ne (by omega), st_ne (by omega), st_ne (by omega), st_ne (by omega), st_ne (by omega)]
      · rw [if_neg h1]
        by_cases h2 : p = i
        · subst h2
          rw [if_pos (Nat.le_refl _)]
          simp [st_v]
        · rw [if_neg (by omega)]
          simp [st_v, h2]
theorem L_undo_295 : ∀ (k i n : Nat) (τ : Mm), i + k = 8 → k < n → ∃ τ' : Mm, f_X9_undo_295L n τ (nI i) = some ((τ' 0 0), τ') ∧ (∀ q, q ∉ [52, 53] → τ' q = τ q) ∧ (∀ p, p < 8 → τ' 52 p = if i ≤ p then τ 77 p else τ 52 p) ∧ (∀ p, p < 8 → τ' 53 p = if i ≤ p then τ 78 p else τ 53 p) := by
  intro k
  induction k with
  | zero =>
    intro i n τ hi hn
    obtain ⟨n, rfl⟩ : ∃ j, n = j + 1 := ⟨n - 1, by omega⟩
    refine ⟨τ, ?_, fun _ _ => rfl, fun p hp => (if_neg (by omega)).symm, fun p hp => (if_neg (by omega)).symm⟩
    show f_X9_undo_295 _ _ _ = _
    unfold f_X9_undo_295
    rw [show i = 8 by omega, if_pos (by decide)]
  | succ k ih =>
    intro i n τ hi hn
    obtain ⟨n, rfl⟩ : ∃ j, n = j + 1 := ⟨n - 1, by omega⟩
    have g : ∀ {β : Type} {x : Option β}, gd (inB (nI i) 8) x = x := z_in (by omega) (by decide)
    have cc : (nI i).toNatClampNeg = i := nI_clamp (by omega)
    obtain ⟨τ', b1, b2, a0, a1⟩ := ih (i + 1) n (s_t (s_t τ 52 i (τ 77 i)) 53 i (τ 78 i)) (by omega) (by omega)
    refine ⟨τ', ?_, fun q hq => ?_, fun p hp => ?_, fun p hp => ?_⟩
    · show f_X9_undo_295 _ _ _ = _
      unfold f_X9_undo_295
      rw [if_neg (show ¬ (8 : Int32) ≤ nI i from nI_ge (b := 8) (by omega) (by omega))]
      simp only [g, cc, lt_d, nI_1, st_ne (show (78 : Nat) ≠ 52 by decide)]
      exact b1
    · have hq' : q ≠ 52 ∧ q ≠ 53 := by simpa using hq
      rw [b2 q hq, st_ne (by omega), st_ne (by omega)]
    · rw [a0 p hp]
      by_cases h1 : i + 1 ≤ p
      · rw [if_pos h1, if_pos (by omega), st_ne (by omega), st_ne (by omega)]
      · rw [if_neg h1]
        by_cases h2 : p = i
        · subst h2
          rw [if_pos (Nat.le_refl _)]
          simp [st_v]
        · rw [if_neg (by omega)]
          simp [st_v, h2]
    · rw [a1 p hp]
      by_cases h1 : i + 1 ≤ p
      · rw [if_pos h1, if_pos (by omega), st_ne (by omega), st_ne (by omega)]
      · rw [if_neg h1]
        by_cases h2 : p = i
        · subst h2
          rw [if_pos (Nat.le_refl _)]
          simp [st_v]
        · rw [if_neg (by omega)]
          simp [st_v, h2]
theorem L_undo_245 : ∀ (k i n : Nat) (τ : Mm), i + k = 10 → k < n → ∃ τ' : Mm, f_X9_undo_245L n τ (nI i) = f_X9_undo_295L FU τ' (0 : Int32) ∧ (∀ q, q ∉ [12, 50, 51] → τ' q = τ q) ∧ (∀ p, p < 10 → τ' 12 p = if i ≤ p then τ 71 p else τ 12 p) ∧ (∀ p, p < 10 → τ' 50 p = if i ≤ p then τ 75 p else τ 50 p) ∧ (∀ p, p < 10 → τ' 51 p = if i ≤ p then τ 76 p else τ 51 p) := by
  intro k
  induction k with
  | zero =>
    intro i n τ hi hn
    obtain ⟨n, rfl⟩ : ∃ j, n = j + 1 := ⟨n - 1, by omega⟩
    refine ⟨τ, ?_, fun _ _ => rfl, fun p hp => (if_neg (by omega)).symm, fun p hp => (if_neg (by omega)).symm, fun p hp => (if_neg (by omega)).symm⟩
    show f_X9_undo_245 _ _ _ = _
    unfold f_X9_undo_245
    rw [show i = 10 by omega, if_pos (by decide)]
  | succ k ih =>
    intro i n τ hi hn
    obtain ⟨n, rfl⟩ : ∃ j, n = j + 1 := ⟨n - 1, by omega⟩
    have g : ∀ {β : Type} {x : Option β}, gd (inB (nI i) 10) x = x := z_in (by omega) (by decide)
    have cc : (nI i).toNatClampNeg = i := nI_clamp (by omega)
    obtain ⟨τ', b1, b2, a0, a1, a2⟩ := ih (i + 1) n (s_t (s_t (s_t τ 12 i (τ 71 i)) 50 i (τ 75 i)) 51 i (τ 76 i)) (by omega) (by omega)
    refine ⟨τ', ?_, fun q hq => ?_, fun p hp => ?_, fun p hp => ?_, fun p hp => ?_⟩
    · show f_X9_undo_245 _ _ _ = _
      unfold f_X9_undo_245
      rw [if_neg (show ¬ (10 : Int32) ≤ nI i from nI_ge (b := 10) (by omega) (by omega))]
      simp only [g, cc, lt_d, nI_1, st_ne (show (75 : Nat) ≠ 12 by decide), st_ne (show (76 : Nat) ≠ 12 by decide), st_ne (show (76 : Nat) ≠ 50 by decide)]
      exact b1
    · have hq' : q ≠ 12 ∧ q ≠ 50 ∧ q ≠ 51 := by simpa using hq
      rw [b2 q hq, st_ne (by omega), st_ne (by omega), st_ne (by omega)]
    · rw [a0 p hp]
      by_cases h1 : i + 1 ≤ p
      · rw [if_pos h1, if_pos (by omega), st_ne (by omega), st_ne (by omega), st_ne (by omega)]
      · rw [if_neg h1]
        by_cases h2 : p = i
        · subst h2
          rw [if_pos (Nat.le_refl _)]
          simp [st_v]
        · rw [if_neg (by omega)]
          simp [st_v, h2]
    · rw [a1 p hp]
      by_cases h1 : i + 1 ≤ p
      · rw [if_pos h1, if_pos (by omega), st_ne (by omega), st_ne (by omega), st_ne (by omega)]
      · rw [if_neg h1]
        by_cases h2 : p = i
        · subst h2
          rw [if_pos (Nat.le_refl _)]
          simp [st_v]
        · rw [if_neg (by omega)]
          simp [st_v, h2]
    · rw [a2 p hp]
      by_cases h1 : i + 1 ≤ p
      · rw [if_pos h1, if_pos (by omega), st_ne (by omega), st_ne (by omega), st_ne (by omega)]
      · rw [if_neg h1]
        by_cases h2 : p = i
        · subst h2
          rw [if_pos (Nat.le_refl _)]
          simp [st_v]
        · rw [if_neg (by omega)]
          simp [st_v, h2]
theorem L_undo_196 : ∀ (k i n : Nat) (τ : Mm), i + k = 5 → k < n → ∃ τ' : Mm, f_X9_undo_196L n τ (nI i) = f_X9_undo_245L FU τ' (0 : Int32) ∧ (∀ q, q ∉ [45, 46, 47] → τ' q = τ q) ∧ (∀ p, p < 5 → τ' 45 p = if i ≤ p then τ 72 p else τ 45 p) ∧ (∀ p, p < 5 → τ' 46 p = if i ≤ p then τ 73 p else τ 46 p) ∧ (∀ p, p < 5 → τ' 47 p = if i ≤ p then τ 74 p else τ 47 p) := by
  intro k
  induction k with
  | zero =>
    intro i n τ hi hn
    obtain ⟨n, rfl⟩ : ∃ j, n = j + 1 := ⟨n - 1, by omega⟩
    refine ⟨τ, ?_, fun _ _ => rfl, fun p hp => (if_neg (by omega)).symm, fun p hp => (if_neg (by omega)).symm, fun p hp => (if_neg (by omega)).symm⟩
    show f_X9_undo_196 _ _ _ = _
    unfold f_X9_undo_196
    rw [show i = 5 by omega, if_pos (by decide)]
  | succ k ih =>
    intro i n τ hi hn
    obtain ⟨n, rfl⟩ : ∃ j, n = j + 1 := ⟨n - 1, by omega⟩
    have g : ∀ {β : Type} {x : Option β}, gd (inB (nI i) 5) x = x := z_in (by omega) (by decide)
    have cc : (nI i).toNatClampNeg = i := nI_clamp (by omega)
    obtain ⟨τ', b1, b2, a0, a1, a2⟩ := ih (i + 1) n (s_t (s_t (s_t τ 45 i (τ 72 i)) 46 i (τ 73 i)) 47 i (τ 74 i)) (by omega) (by omega)
    refine ⟨τ', ?_, fun q hq => ?_, fun p hp => ?_, fun p hp => ?_, fun p hp => ?_⟩
    · show f_X9_undo_196 _ _ _ = _
      unfold f_X9_undo_196
      rw [if_neg (show ¬ (5 : Int32) ≤ nI i from nI_ge (b := 5) (by omega) (by omega))]
      simp only [g, cc, lt_d, nI_1, st_ne (show (73 : Nat) ≠ 45 by decide), st_ne (show (74 : Nat) ≠ 45 by decide), st_ne (show (74 : Nat) ≠ 46 by decide)]
      exact b1
    · have hq' : q ≠ 45 ∧ q ≠ 46 ∧ q ≠ 47 := by simpa using hq
      rw [b2 q hq, st_ne (by omega), st_ne (by omega), st_ne (by omega)]
    · rw [a0 p hp]
      by_cases h1 : i + 1 ≤ p
      · rw [if_pos h1, if_pos (by omega), st_ne (by omega), st_ne (by omega), st_ne (by omega)]
      · rw [if_neg h1]
        by_cases h2 : p = i
        · subst h2
          rw [if_pos (Nat.le_refl _)]
          simp [st_v]
        · rw [if_neg (by omega)]
          simp [st_v, h2]
    · rw [a1 p hp]
      by_cases h1 : i + 1 ≤ p
      · rw [if_pos h1, if_pos (by omega), st_ne (by omega), st_ne (by omega), st_ne (by omega)]
      · rw [if_neg h1]
        by_cases h2 : p = i
        · subst h2
          rw [if_pos (Nat.le_refl _)]
          simp [st_v]
        · rw [if_neg (by omega)]
          simp [st_v, h2]
    · rw [a2 p hp]
      by_cases h1 : i + 1 ≤ p
      · rw [if_pos h1, if_pos (by omega), st_ne (by omega), st_ne (by omega), st_ne (by omega)]
      · rw [if_neg h1]
        by_cases h2 : p = i
        · subst h2
          rw [if_pos (Nat.le_refl _)]
          simp [st_v]
        · rw [if_neg (by omega)]
          simp [st_v, h2]
theorem L_undo_170 : ∀ (k i n : Nat) (τ : Mm), i + k = 24 → k < n → ∃ τ' : Mm, f_X9_undo_170L n τ (nI i) = f_X9_undo_196L FU τ' (0 : Int32) ∧ (∀ q, q ∉ [11] → τ' q = τ q) ∧ (∀ p, p < 24 → τ' 11 p = if i ≤ p then τ 70 p else τ 11 p) := by
  intro k
  induction k with
  | zero =>
    intro i n τ hi hn
    obtain ⟨n, rfl⟩ : ∃ j, n = j + 1 := ⟨n - 1, by omega⟩
    refine ⟨τ, ?_, fun _ _ => rfl, fun p hp => (if_neg (by omega)).symm⟩
    show f_X9_undo_170 _ _ _ = _
    unfold f_X9_undo_170
    rw [show i = 24 by omega, if_pos (by decide)]
  | succ k ih =>
    intro i n τ hi hn
    obtain ⟨n, rfl⟩ : ∃ j, n = j + 1 := ⟨n - 1, by omega⟩
    have g : ∀ {β : Type} {x : Option β}, gd (inB (nI i) 24) x = x := z_in (by omega) (by decide)
    have cc : (nI i).toNatClampNeg = i := nI_clamp (by omega)
    obtain ⟨τ', b1, b2, a0⟩ := ih (i + 1) n (s_t τ 11 i (τ 70 i)) (by omega) (by omega)
    refine ⟨τ', ?_, fun q hq => ?_, fun p hp => ?_⟩
    · show f_X9_undo_170 _ _ _ = _
      unfold f_X9_undo_170
      rw [if_neg (show ¬ (24 : Int32) ≤ nI i from nI_ge (b := 24) (by omega) (by omega))]
      simp only [g, cc, lt_d, nI_1]
      exact b1
    · have hq' : q ≠ 11 := by simpa using hq
      rw [b2 q hq, st_ne (by omega)]
    · rw [a0 p hp]
      by_cases h1 : i + 1 ≤ p
      · rw [if_pos h1, if_pos (by omega), st_ne (by omega)]
      · rw [if_neg h1]
        by_cases h2 : p = i
        · subst h2
          rw [if_pos (Nat.le_refl _)]
          simp [st_v]
        · rw [if_neg (by omega)]
          simp [st_v, h2]
theorem L_undo_84 : ∀ (k i n : Nat) (τ : Mm), i + k = 6 → k < n → ∃ τ' : Mm, f_X9_undo_84L n τ (nI i) = f_X9_undo_170L FU τ' (0 : Int32) ∧ (∀ q, q ∉ [5, 6, 7, 8, 9, 10] → τ' q = τ q) ∧ (∀ p, p < 6 → τ' 5 p = if i ≤ p then τ 64 p else τ 5 p) ∧ (∀ p, p < 6 → τ' 6 p = if i ≤ p then τ 65 p else τ 6 p) ∧ (∀ p, p < 6 → τ' 7 p = if i ≤ p then τ 66 p else τ 7 p) ∧ (∀ p, p < 6 → τ' 8 p = if i ≤ p then τ 67 p else τ 8 p) ∧ (∀ p, p < 6 → τ' 9 p = if i ≤ p then τ 68 p else τ 9 p) ∧ (∀ p, p < 6 → τ' 10 p = if i ≤ p then τ 69 p else τ 10 p) := by
  intro k
  induction k with
  | zero =>
    intro i n τ hi hn
    obtain ⟨n, rfl⟩ : ∃ j, n = j + 1 := ⟨n - 1, by omega⟩
    refine ⟨τ, ?_, fun _ _ => rfl, fun p hp => (if_neg (by omega)).symm, fun p hp => (if_neg (by omega)).symm, fun p hp => (if_neg (by omega)).symm, fun p hp => (if_neg (by omega)).symm, fun p hp => (if_neg (by omega)).symm, fun p hp => (if_neg (by omega)).symm⟩
    show f_X9_undo_84 _ _ _ = _
    unfold f_X9_undo_84
    rw [show i = 6 by omega, if_pos (by decide)]
  | succ k ih =>
    intro i n τ hi hn
    obtain ⟨n, rfl⟩ : ∃ j, n = j + 1 := ⟨n - 1, by omega⟩
    have g : ∀ {β : Type} {x : Option β}, gd (inB (nI i) 6) x = x := z_in (by omega) (by decide)
    have cc : (nI i).toNatClampNeg = i := nI_clamp (by omega)
    obtain ⟨τ', b1, b2, a0, a1, a2, a3, a4, a5⟩ := ih (i + 1) n (s_t (s_t (s_t (s_t (s_t (s_t τ 5 i (τ 64 i)) 6 i (τ 65 i)) 7 i (τ 66 i)) 8 i (τ 67 i)) 9 i (τ 68 i)) 10 i (τ 69 i)) (by omega) (by omega)
    refine ⟨τ', ?_, fun q hq => ?_, fun p hp => ?_, fun p hp => ?_, fun p hp => ?_, fun p hp => ?_, fun p hp => ?_, fun p hp => ?_⟩
    · show f_X9_undo_84 _ _ _ = _
      unfold f_X9_undo_84
      rw [if_neg (show ¬ (6 : Int32) ≤ nI i from nI_ge (b := 6) (by omega) (by omega))]
      simp only [g, cc, lt_d, nI_1, st_ne (show (65 : Nat) ≠ 5 by decide), st_ne (show (66 : Nat) ≠ 5 by decide), st_ne (show (66 : Nat) ≠ 6 by decide), st_ne (show (67 : Nat) ≠ 5 by decide), st_ne (show (67 : Nat) ≠ 6 by decide), st_ne (show (67 : Nat) ≠ 7 by decide), st_ne (show (68 : Nat) ≠ 5 by decide), st_ne (show (68 : Nat) ≠ 6 by decide), st_ne (show (68 : Nat) ≠ 7 by decide), st_ne (show (68 : Nat) ≠ 8 by decide), st_ne (show (69 : Nat) ≠ 5 by decide), st_ne (show (69 : Nat) ≠ 6 by decide), st_ne (show (69 : Nat) ≠ 7 by decide), st_ne (show (69 : Nat) ≠ 8 by decide), st_ne (show (69 : Nat) ≠ 9 by decide)]
      exact b1
    · have hq' : q ≠ 5 ∧ q ≠ 6 ∧ q ≠ 7 ∧ q ≠ 8 ∧ q ≠ 9 ∧ q ≠ 10 := by simpa using hq
      rw [b2 q hq, st_ne (by omega), st_ne (by omega), st_ne (by omega), st_ne (by omega), st_ne (by omega), st_ne (by omega)]
    · rw [a0 p hp]
      by_cases h1 : i + 1 ≤ p
      · rw [if_pos h1, if_pos (by omega), st_ne (by omega), st_ne (by omega), st_ne (by omega), st_ne (by omega), st_ne (by omega), st_ne (by omega)]
      · rw [if_neg h1]
        by_cases h2 : p = i
        · subst h2
          rw [if_pos (Nat.le_refl _)]
          simp [st_v]
        · rw [if_neg (by omega)]
          simp [st_v, h2]
    · rw [a1 p hp]
      by_cases h1 : i + 1 ≤ p
      · rw [if_pos h1, if_pos (by omega), st_ne (by omega), st_ne (by omega), st_ne (by omega), st_ne (by omega), st_ne (by omega), st_ne (by omega)]
      · rw [if_neg h1]
        by_cases h2 : p = i
        · subst h2
          rw [if_pos (Nat.le_refl _)]
          simp [st_v]
        · rw [if_neg (by omega)]
          simp [st_v, h2]
    · rw [a2 p hp]
      by_cases h1 : i + 1 ≤ p
      · rw [if_pos h1, if_pos (by omega), st_ne (by omega), st_ne (by omega), st_ne (by omega), st_ne (by omega), st_ne (by omega), st_ne (by omega)]
      · rw [if_neg h1]
        by_cases h2 : p = i
        · subst h2
          rw [if_pos (Nat.le_refl _)]
          simp [st_v]
        · rw [if_neg (by omega)]
          simp [st_v, h2]
    · rw [a3 p hp]
      by_cases h1 : i + 1 ≤ p
      · rw [if_pos h1, if_pos (by omega), st_ne (by omega), st_ne (by omega), st_ne (by omega), st_ne (by omega), st_ne (by omega), st_ne (by omega)]
      · rw [if_neg h1]
        by_cases h2 : p = i
        · subst h2
          rw [if_pos (Nat.le_refl _)]
          simp [st_v]
        · rw [if_neg (by omega)]
          simp [st_v, h2]
    · rw [a4 p hp]
      by_cases h1 : i + 1 ≤ p
      · rw [if_pos h1, if_pos (by omega), st_ne (by omega), st_ne (by omega), st_ne (by omega), st_ne (by omega), st_ne (by omega), st_ne (by omega)]
      · rw [if_neg h1]
        by_cases h2 : p = i
        · subst h2
          rw [if_pos (Nat.le_refl _)]
          simp [st_v]
        · rw [if_neg (by omega)]
          simp [st_v, h2]
    · rw [a5 p hp]
      by_cases h1 : i + 1 ≤ p
      · rw [if_pos h1, if_pos (by omega), st_ne (by omega), st_ne (by omega), st_ne (by omega), st_ne (by omega), st_ne (by omega), st_ne (by omega)]
      · rw [if_neg h1]
        by_cases h2 : p = i
        · subst h2
          rw [if_pos (Nat.le_refl _)]
          simp [st_v]
        · rw [if_neg (by omega)]
          simp [st_v, h2]
