/-! PURE: the image taken -/
theorem m_image {ρ : Mm} : ∃ ρ' : Mm, f_X9_image ρ = some (ρ' 0 0, ρ') ∧ (∀ q, q ∉ [54, 55, 56, 57, 58, 59, 60, 61, 62, 63, 64, 65, 66, 67, 68, 69, 70, 72, 73, 74, 71, 75, 76, 77, 78] → ρ' q = ρ q) ∧ ρ' 54 0 = 1 ∧ ρ' 55 0 = ρ 14 0 ∧ ρ' 56 0 = ρ 0 0 ∧ ρ' 57 0 = ρ 1 0 ∧ ρ' 58 0 = ρ 2 0 ∧ ρ' 59 0 = ρ 3 0 ∧ ρ' 60 0 = ρ 4 0 ∧ ρ' 61 0 = ρ 44 0 ∧ ρ' 62 0 = ρ 48 0 ∧ ρ' 63 0 = ρ 49 0 ∧ (∀ p, p < 6 → ρ' 64 p = ρ 5 p) ∧ (∀ p, p < 6 → ρ' 65 p = ρ 6 p) ∧ (∀ p, p < 6 → ρ' 66 p = ρ 7 p) ∧ (∀ p, p < 6 → ρ' 67 p = ρ 8 p) ∧ (∀ p, p < 6 → ρ' 68 p = ρ 9 p) ∧ (∀ p, p < 6 → ρ' 69 p = ρ 10 p) ∧ (∀ p, p < 24 → ρ' 70 p = ρ 11 p) ∧ (∀ p, p < 5 → ρ' 72 p = ρ 45 p) ∧ (∀ p, p < 5 → ρ' 73 p = ρ 46 p) ∧ (∀ p, p < 5 → ρ' 74 p = ρ 47 p) ∧ (∀ p, p < 10 → ρ' 71 p = ρ 12 p) ∧ (∀ p, p < 10 → ρ' 75 p = ρ 50 p) ∧ (∀ p, p < 10 → ρ' 76 p = ρ 51 p) ∧ (∀ p, p < 8 → ρ' 77 p = ρ 52 p) ∧ (∀ p, p < 8 → ρ' 78 p = ρ 53 p) := by
  obtain ⟨ρ0, b0, f0, c0_0, c0_1, c0_2, c0_3, c0_4, c0_5⟩ := L_image_79 6 0 FU (s_t (s_t (s_t (s_t (s_t (s_t (s_t (s_t (s_t (s_t ρ 54 0 1) 55 0 (ρ 14 0)) 56 0 (ρ 0 0)) 57 0 (ρ 1 0)) 58 0 (ρ 2 0)) 59 0 (ρ 3 0)) 60 0 (ρ 4 0)) 61 0 (ρ 44 0)) 62 0 (ρ 48 0)) 63 0 (ρ 49 0)) (by omega) (by rw [FU_e]; omega)
  obtain ⟨ρ1, b1, f1, c1_0⟩ := L_image_165 24 0 FU ρ0 (by omega) (by rw [FU_e]; omega)
  obtain ⟨ρ2, b2, f2, c2_0, c2_1, c2_2⟩ := L_image_191 5 0 FU ρ1 (by omega) (by rw [FU_e]; omega)
  obtain ⟨ρ3, b3, f3, c3_0, c3_1, c3_2⟩ := L_image_240 10 0 FU ρ2 (by omega) (by rw [FU_e]; omega)
  obtain ⟨ρ4, b4, f4, c4_0, c4_1⟩ := L_image_290 8 0 FU ρ3 (by omega) (by rw [FU_e]; omega)
  have fin : f_X9_image ρ = some (ρ4 0 0, ρ4) := by
    unfold f_X9_image f_X9_image_0
    simp only [lt_d, st_ne (show (14 : Nat) ≠ 54 by decide), st_ne (show (0 : Nat) ≠ 54 by decide), st_ne (show (0 : Nat) ≠ 55 by decide), st_ne (show (1 : Nat) ≠ 54 by decide), st_ne (show (1 : Nat) ≠ 55 by decide), st_ne (show (1 : Nat) ≠ 56 by decide), st_ne (show (2 : Nat) ≠ 54 by decide), st_ne (show (2 : Nat) ≠ 55 by decide), st_ne (show (2 : Nat) ≠ 56 by decide), st_ne (show (2 : Nat) ≠ 57 by decide), st_ne (show (3 : Nat) ≠ 54 by decide), st_ne (show (3 : Nat) ≠ 55 by decide), st_ne (show (3 : Nat) ≠ 56 by decide), st_ne (show (3 : Nat) ≠ 57 by decide), st_ne (show (3 : Nat) ≠ 58 by decide), st_ne (show (4 : Nat) ≠ 54 by decide), st_ne (show (4 : Nat) ≠ 55 by decide), st_ne (show (4 : Nat) ≠ 56 by decide), st_ne (show (4 : Nat) ≠ 57 by decide), st_ne (show (4 : Nat) ≠ 58 by decide), st_ne (show (4 : Nat) ≠ 59 by decide), st_ne (show (44 : Nat) ≠ 54 by decide), st_ne (show (44 : Nat) ≠ 55 by decide), st_ne (show (44 : Nat) ≠ 56 by decide), st_ne (show (44 : Nat) ≠ 57 by decide), st_ne (show (44 : Nat) ≠ 58 by decide), st_ne (show (44 : Nat) ≠ 59 by decide), st_ne (show (44 : Nat) ≠ 60 by decide), st_ne (show (48 : Nat) ≠ 54 by decide), st_ne (show (48 : Nat) ≠ 55 by decide), st_ne (show (48 : Nat) ≠ 56 by decide), st_ne (show (48 : Nat) ≠ 57 by decide), st_ne (show (48 : Nat) ≠ 58 by decide), st_ne (show (48 : Nat) ≠ 59 by decide), st_ne (show (48 : Nat) ≠ 60 by decide), st_ne (show (48 : Nat) ≠ 61 by decide), st_ne (show (49 : Nat) ≠ 54 by decide), st_ne (show (49 : Nat) ≠ 55 by decide), st_ne (show (49 : Nat) ≠ 56 by decide), st_ne (show (49 : Nat) ≠ 57 by decide), st_ne (show (49 : Nat) ≠ 58 by decide), st_ne (show (49 : Nat) ≠ 59 by decide), st_ne (show (49 : Nat) ≠ 60 by decide), st_ne (show (49 : Nat) ≠ 61 by decide), st_ne (show (49 : Nat) ≠ 62 by decide)]
    exact b0.trans (b1.trans (b2.trans (b3.trans (b4))))
  refine ⟨ρ4, fin, fun q hq => ?_, ?_, ?_, ?_, ?_, ?_, ?_, ?_, ?_, ?_, ?_, fun p hp => ?_, fun p hp => ?_, fun p hp => ?_, fun p hp => ?_, fun p hp => ?_, fun p hp => ?_, fun p hp => ?_, fun p hp => ?_, fun p hp => ?_, fun p hp => ?_, fun p hp => ?_, fun p hp => ?_, fun p hp => ?_, fun p hp => ?_, fun p hp => ?_⟩
  · have hq' := hq
    simp only [List.mem_cons, List.not_mem_nil, or_false, not_or] at hq'
    rw [f4 q (by simp; omega), f3 q (by simp; omega), f2 q (by simp; omega), f1 q (by simp; omega), f0 q (by simp; omega), st_ne (by omega), st_ne (by omega), st_ne (by omega), st_ne (by omega), st_ne (by omega), st_ne (by omega), st_ne (by omega), st_ne (by omega), st_ne (by omega), st_ne (by omega)]
  · rw [f4 54 (by decide), f3 54 (by decide), f2 54 (by decide), f1 54 (by decide), f0 54 (by decide)]
    simp [st_v]
  · rw [f4 55 (by decide), f3 55 (by decide), f2 55 (by decide), f1 55 (by decide), f0 55 (by decide)]
    simp [st_v]
  · rw [f4 56 (by decide), f3 56 (by decide), f2 56 (by decide), f1 56 (by decide), f0 56 (by decide)]
    simp [st_v]
  · rw [f4 57 (by decide), f3 57 (by decide), f2 57 (by decide), f1 57 (by decide), f0 57 (by decide)]
    simp [st_v]
  · rw [f4 58 (by decide), f3 58 (by decide), f2 58 (by decide), f1 58 (by decide), f0 58 (by decide)]
    simp [st_v]
  · rw [f4 59 (by decide), f3 59 (by decide), f2 59 (by decide), f1 59 (by decide), f0 59 (by decide)]
    simp [st_v]
  · rw [f4 60 (by decide), f3 60 (by decide), f2 60 (by decide), f1 60 (by decide), f0 60 (by decide)]
    simp [st_v]
  · rw [f4 61 (by decide), f3 61 (by decide), f2 61 (by decide), f1 61 (by decide), f0 61 (by decide)]
    simp [st_v]
  · rw [f4 62 (by decide), f3 62 (by decide), f2 62 (by decide), f1 62 (by decide), f0 62 (by decide)]
    simp [st_v]
  · rw [f4 63 (by decide), f3 63 (by decide), f2 63 (by decide), f1 63 (by decide), f0 63 (by decide)]
    simp [st_v]
  · rw [f4 64 (by decide), f3 64 (by decide), f2 64 (by decide), f1 64 (by decide), c0_0 p hp, if_pos (Nat.zero_le _), st_ne (by omega), st_ne (by omega), st_ne (by omega), st_ne (by omega), st_ne (by omega), st_ne (by omega), st_ne (by omega), st_ne (by omega), st_ne (by omega), st_ne (by omega)]
  · rw [f4 65 (by decide), f3 65 (by decide), f2 65 (by decide), f1 65 (by decide), c0_1 p hp, if_pos (Nat.zero_le _), st_ne (by omega), st_ne (by omega), st_ne (by omega), st_ne (by omega), st_ne (by omega), st_ne (by omega), st_ne (by omega), st_ne (by omega), st_ne (by omega), st_ne (by omega)]
  · rw [f4 66 (by decide), f3 66 (by decide), f2 66 (by decide), f1 66 (by decide), c0_2 p hp, if_pos (Nat.zero_le _), st_ne (by omega), st_ne (by omega), st_ne (by omega), st_ne (by omega), st_ne (by omega), st_ne (by omega), st_ne (by omega), st_ne (by omega), st_ne (by omega), st_ne (by omega)]
  · rw [f4 67 (by decide), f3 67 (by decide), f2 67 (by decide), f1 67 (by decide), c0_3 p hp, if_pos (Nat.zero_le _), st_ne (by omega), st_ne (by omega), st_ne (by omega), st_ne (by omega), st_ne (by omega), st_ne (by omega), st_ne (by omega), st_ne (by omega), st_ne (by omega), st_ne (by omega)]
  · rw [f4 68 (by decide), f3 68 (by decide), f2 68 (by decide), f1 68 (by decide), c0_4 p hp, if_pos (Nat.zero_le _), st_ne (by omega), st_ne (by omega), st_ne (by omega), st_ne (by omega), st_ne (by omega), st_ne (by omega), st_ne (by omega), st_ne (by omega), st_ne (by omega), st_ne (by omega)]
  · rw [f4 69 (by decide), f3 69 (by decide), f2 69 (by decide), f1 69 (by decide), c0_5 p hp, if_pos (Nat.zero_le _), st_ne (by omega), st_ne (by omega), st_ne (by omega), st_ne (by omega), st_ne (by omega), st_ne (by omega), st_ne (by omega), st_ne (by omega), st_ne (by omega), st_ne (by omega)]
  · rw [f4 70 (by decide), f3 70 (by decide), f2 70 (by decide), c1_0 p hp, if_pos (Nat.zero_le _), f0 11 (by decide), st_ne (by omega), st_ne (by omega), st_ne (by omega), st_ne (by omega), st_ne (by omega), st_ne (by omega), st_ne (by omega), st_ne (by omega), st_ne (by omega), st_ne (by omega)]
  · rw [f4 72 (by decide), f3 72 (by decide), c2_0 p hp, if_pos (Nat.zero_le _), f1 45 (by decide), f0 45 (by decide), st_ne (by omega), st_ne (by omega), st_ne (by omega), st_ne (by omega), st_ne (by omega), st_ne (by omega), st_ne (by omega), st_ne (by omega), st_ne (by omega), st_ne (by omega)]
  · rw [f4 73 (by decide), f3 73 (by decide), c2_1 p hp, if_pos (Nat.zero_le _), f1 46 (by decide), f0 46 (by decide), st_ne (by omega), st_ne (by omega), st_ne (by omega), st_ne (by omega), st_ne (by omega), st_ne (by omega), st_ne (by omega), st_ne (by omega), st_ne (by omega), st_ne (by omega)]
  · rw [f4 74 (by decide), f3 74 (by decide), c2_2 p hp, if_pos (Nat.zero_le _), f1 47 (by decide), f0 47 (by decide), st_ne (by omega), st_ne (by omega), st_ne (by omega), st_ne (by omega), st_ne (by omega), st_ne (by omega), st_ne (by omega), st_ne (by omega), st_ne (by omega), st_ne (by omega)]
  · rw [f4 71 (by decide), c3_0 p hp, if_pos (Nat.zero_le _), f2 12 (by decide), f1 12 (by decide), f0 12 (by decide), st_ne (by omega), st_ne (by omega), st_ne (by omega), st_ne (by omega), st_ne (by omega), st_ne (by omega), st_ne (by omega), st_ne (by omega), st_ne (by omega), st_ne (by omega)]
  · rw [f4 75 (by decide), c3_1 p hp, if_pos (Nat.zero_le _), f2 50 (by decide), f1 50 (by decide), f0 50 (by decide), st_ne (by omega), st_ne (by omega), st_ne (by omega), st_ne (by omega), st_ne (by omega), st_ne (by omega), st_ne (by omega), st_ne (by omega), st_ne (by omega), st_ne (by omega)]
  · rw [f4 76 (by decide), c3_2 p hp, if_pos (Nat.zero_le _), f2 51 (by decide), f1 51 (by decide), f0 51 (by decide), st_ne (by omega), st_ne (by omega), st_ne (by omega), st_ne (by omega), st_ne (by omega), st_ne (by omega), st_ne (by omega), st_ne (by omega), st_ne (by omega), st_ne (by omega)]
  · rw [c4_0 p hp, if_pos (Nat.zero_le _), f3 52 (by decide), f2 52 (by decide), f1 52 (by decide), f0 52 (by decide), st_ne (by omega), st_ne (by omega), st_ne (by omega), st_ne (by omega), st_ne (by omega), st_ne (by omega), st_ne (by omega), st_ne (by omega), st_ne (by omega), st_ne (by omega)]
  · rw [c4_1 p hp, if_pos (Nat.zero_le _), f3 53 (by decide), f2 53 (by decide), f1 53 (by decide), f0 53 (by decide), st_ne (by omega), st_ne (by omega), st_ne (by omega), st_ne (by omega), st_ne (by omega), st_ne (by omega), st_ne (by omega), st_ne (by omega), st_ne (by omega), st_ne (by omega)]
