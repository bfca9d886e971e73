/-! PURE: the image put back -/
theorem m_undo {ρ : Mm} (h54 : ¬ ρ 54 0 = 0) : ∃ ρ' : Mm, f_X9_undo ρ = some (ρ' 0 0, ρ') ∧ (∀ q, q ∉ [14, 0, 1, 2, 3, 4, 44, 48, 49, 5, 6, 7, 8, 9, 10, 11, 45, 46, 47, 12, 50, 51, 52, 53] → ρ' q = ρ q) ∧ ρ' 14 0 = ρ 55 0 ∧ ρ' 0 0 = ρ 56 0 ∧ ρ' 1 0 = ρ 57 0 ∧ ρ' 2 0 = ρ 58 0 ∧ ρ' 3 0 = ρ 59 0 ∧ ρ' 4 0 = ρ 60 0 ∧ ρ' 44 0 = ρ 61 0 ∧ ρ' 48 0 = ρ 62 0 ∧ ρ' 49 0 = ρ 63 0 ∧ (∀ p, p < 6 → ρ' 5 p = ρ 64 p) ∧ (∀ p, p < 6 → ρ' 6 p = ρ 65 p) ∧ (∀ p, p < 6 → ρ' 7 p = ρ 66 p) ∧ (∀ p, p < 6 → ρ' 8 p = ρ 67 p) ∧ (∀ p, p < 6 → ρ' 9 p = ρ 68 p) ∧ (∀ p, p < 6 → ρ' 10 p = ρ 69 p) ∧ (∀ p, p < 24 → ρ' 11 p = ρ 70 p) ∧ (∀ p, p < 5 → ρ' 45 p = ρ 72 p) ∧ (∀ p, p < 5 → ρ' 46 p = ρ 73 p) ∧ (∀ p, p < 5 → ρ' 47 p = ρ 74 p) ∧ (∀ p, p < 10 → ρ' 12 p = ρ 71 p) ∧ (∀ p, p < 10 → ρ' 50 p = ρ 75 p) ∧ (∀ p, p < 10 → ρ' 51 p = ρ 76 p) ∧ (∀ p, p < 8 → ρ' 52 p = ρ 77 p) ∧ (∀ p, p < 8 → ρ' 53 p = ρ 78 p) := by
  obtain ⟨ρ0, b0, f0, c0_0, c0_1, c0_2, c0_3, c0_4, c0_5⟩ := L_undo_84 6 0 FU (s_t (s_t (s_t (s_t (s_t (s_t (s_t (s_t (s_t ρ 14 0 (ρ 55 0)) 0 0 (ρ 56 0)) 1 0 (ρ 57 0)) 2 0 (ρ 58 0)) 3 0 (ρ 59 0)) 4 0 (ρ 60 0)) 44 0 (ρ 61 0)) 48 0 (ρ 62 0)) 49 0 (ρ 63 0)) (by omega) (by rw [FU_e]; omega)
  obtain ⟨ρ1, b1, f1, c1_0⟩ := L_undo_170 24 0 FU ρ0 (by omega) (by rw [FU_e]; omega)
  obtain ⟨ρ2, b2, f2, c2_0, c2_1, c2_2⟩ := L_undo_196 5 0 FU ρ1 (by omega) (by rw [FU_e]; omega)
  obtain ⟨ρ3, b3, f3, c3_0, c3_1, c3_2⟩ := L_undo_245 10 0 FU ρ2 (by omega) (by rw [FU_e]; omega)
  obtain ⟨ρ4, b4, f4, c4_0, c4_1⟩ := L_undo_295 8 0 FU ρ3 (by omega) (by rw [FU_e]; omega)
  have fin : f_X9_undo ρ = some (ρ4 0 0, ρ4) := by
    unfold f_X9_undo f_X9_undo_0
    rw [if_neg h54]
    simp only [lt_d, st_ne (show (56 : Nat) ≠ 14 by decide), st_ne (show (57 : Nat) ≠ 14 by decide), st_ne (show (57 : Nat) ≠ 0 by decide), st_ne (show (58 : Nat) ≠ 14 by decide), st_ne (show (58 : Nat) ≠ 0 by decide), st_ne (show (58 : Nat) ≠ 1 by decide), st_ne (show (59 : Nat) ≠ 14 by decide), st_ne (show (59 : Nat) ≠ 0 by decide), st_ne (show (59 : Nat) ≠ 1 by decide), st_ne (show (59 : Nat) ≠ 2 by decide), st_ne (show (60 : Nat) ≠ 14 by decide), st_ne (show (60 : Nat) ≠ 0 by decide), st_ne (show (60 : Nat) ≠ 1 by decide), st_ne (show (60 : Nat) ≠ 2 by decide), st_ne (show (60 : Nat) ≠ 3 by decide), st_ne (show (61 : Nat) ≠ 14 by decide), st_ne (show (61 : Nat) ≠ 0 by decide), st_ne (show (61 : Nat) ≠ 1 by decide), st_ne (show (61 : Nat) ≠ 2 by decide), st_ne (show (61 : Nat) ≠ 3 by decide), st_ne (show (61 : Nat) ≠ 4 by decide), st_ne (show (62 : Nat) ≠ 14 by decide), st_ne (show (62 : Nat) ≠ 0 by decide), st_ne (show (62 : Nat) ≠ 1 by decide), st_ne (show (62 : Nat) ≠ 2 by decide), st_ne (show (62 : Nat) ≠ 3 by decide), st_ne (show (62 : Nat) ≠ 4 by decide), st_ne (show (62 : Nat) ≠ 44 by decide), st_ne (show (63 : Nat) ≠ 14 by decide), st_ne (show (63 : Nat) ≠ 0 by decide), st_ne (show (63 : Nat) ≠ 1 by decide), st_ne (show (63 : Nat) ≠ 2 by decide), st_ne (show (63 : Nat) ≠ 3 by decide), st_ne (show (63 : Nat) ≠ 4 by decide), st_ne (show (63 : Nat) ≠ 44 by decide), st_ne (show (63 : Nat) ≠ 48 by decide)]
    exact b0.trans (b1.trans (b2.trans (b3.trans (b4))))
  refine ⟨ρ4, fin, fun q hq => ?_, ?_, ?_, ?_, ?_, ?_, ?_, ?_, ?_, ?_, fun p hp => ?_, fun p hp => ?_, fun p hp => ?_, fun p hp => ?_, fun p hp => ?_, fun p hp => ?_, fun p hp => ?_, fun p hp => ?_, fun p hp => ?_, fun p hp => ?_, fun p hp => ?_, fun p hp => ?_, fun p hp => ?_, fun p hp => ?_, fun p hp => ?_⟩
  · have hq' := hq
    simp only [List.mem_cons, List.not_mem_nil, or_false, not_or] at hq'
    rw [f4 q (by simp; omega), f3 q (by simp; omega), f2 q (by simp; omega), f1 q (by simp; omega), f0 q (by simp; omega), st_ne (by omega), st_ne (by omega), st_ne (by omega), st_ne (by omega), st_ne (by omega), st_ne (by omega), st_ne (by omega), st_ne (by omega), st_ne (by omega)]
  · rw [f4 14 (by decide), f3 14 (by decide), f2 14 (by decide), f1 14 (by decide), f0 14 (by decide)]
    simp [st_v]
  · rw [f4 0 (by decide), f3 0 (by decide), f2 0 (by decide), f1 0 (by decide), f0 0 (by decide)]
    simp [st_v]
  · rw [f4 1 (by decide), f3 1 (by decide), f2 1 (by decide), f1 1 (by decide), f0 1 (by decide)]
    simp [st_v]
  · rw [f4 2 (by decide), f3 2 (by decide), f2 2 (by decide), f1 2 (by decide), f0 2 (by decide)]
    simp [st_v]
  · rw [f4 3 (by decide), f3 3 (by decide), f2 3 (by decide), f1 3 (by decide), f0 3 (by decide)]
    simp [st_v]
  · rw [f4 4 (by decide), f3 4 (by decide), f2 4 (by decide), f1 4 (by decide), f0 4 (by decide)]
    simp [st_v]
  · rw [f4 44 (by decide), f3 44 (by decide), f2 44 (by decide), f1 44 (by decide), f0 44 (by decide)]
    simp [st_v]
  · rw [f4 48 (by decide), f3 48 (by decide), f2 48 (by decide), f1 48 (by decide), f0 48 (by decide)]
    simp [st_v]
  · rw [f4 49 (by decide), f3 49 (by decide), f2 49 (by decide), f1 49 (by decide), f0 49 (by decide)]
    simp [st_v]
  · rw [f4 5 (by decide), f3 5 (by decide), f2 5 (by decide), f1 5 (by decide), c0_0 p hp, if_pos (Nat.zero_le _), st_ne (by omega), st_ne (by omega), st_ne (by omega), st_ne (by omega), st_ne (by omega), st_ne (by omega), st_ne (by omega), st_ne (by omega), st_ne (by omega)]
  · rw [f4 6 (by decide), f3 6 (by decide), f2 6 (by decide), f1 6 (by decide), c0_1 p hp, if_pos (Nat.zero_le _), st_ne (by omega), st_ne (by omega), st_ne (by omega), st_ne (by omega), st_ne (by omega), st_ne (by omega), st_ne (by omega), st_ne (by omega), st_ne (by omega)]
  · rw [f4 7 (by decide), f3 7 (by decide), f2 7 (by decide), f1 7 (by decide), c0_2 p hp, if_pos (Nat.zero_le _), st_ne (by omega), st_ne (by omega), st_ne (by omega), st_ne (by omega), st_ne (by omega), st_ne (by omega), st_ne (by omega), st_ne (by omega), st_ne (by omega)]
  · rw [f4 8 (by decide), f3 8 (by decide), f2 8 (by decide), f1 8 (by decide), c0_3 p hp, if_pos (Nat.zero_le _), st_ne (by omega), st_ne (by omega), st_ne (by omega), st_ne (by omega), st_ne (by omega), st_ne (by omega), st_ne (by omega), st_ne (by omega), st_ne (by omega)]
  · rw [f4 9 (by decide), f3 9 (by decide), f2 9 (by decide), f1 9 (by decide), c0_4 p hp, if_pos (Nat.zero_le _), st_ne (by omega), st_ne (by omega), st_ne (by omega), st_ne (by omega), st_ne (by omega), st_ne (by omega), st_ne (by omega), st_ne (by omega), st_ne (by omega)]
  · rw [f4 10 (by decide), f3 10 (by decide), f2 10 (by decide), f1 10 (by decide), c0_5 p hp, if_pos (Nat.zero_le _), st_ne (by omega), st_ne (by omega), st_ne (by omega), st_ne (by omega), st_ne (by omega), st_ne (by omega), st_ne (by omega), st_ne (by omega), st_ne (by omega)]
  · rw [f4 11 (by decide), f3 11 (by decide), f2 11 (by decide), c1_0 p hp, if_pos (Nat.zero_le _), f0 70 (by decide), st_ne (by omega), st_ne (by omega), st_ne (by omega), st_ne (by omega), st_ne (by omega), st_ne (by omega), st_ne (by omega), st_ne (by omega), st_ne (by omega)]
  · rw [f4 45 (by decide), f3 45 (by decide), c2_0 p hp, if_pos (Nat.zero_le _), f1 72 (by decide), f0 72 (by decide), st_ne (by omega), st_ne (by omega), st_ne (by omega), st_ne (by omega), st_ne (by omega), st_ne (by omega), st_ne (by omega), st_ne (by omega), st_ne (by omega)]
  · rw [f4 46 (by decide), f3 46 (by decide), c2_1 p hp, if_pos (Nat.zero_le _), f1 73 (by decide), f0 73 (by decide), st_ne (by omega), st_ne (by omega), st_ne (by omega), st_ne (by omega), st_ne (by omega), st_ne (by omega), st_ne (by omega), st_ne (by omega), st_ne (by omega)]
  · rw [f4 47 (by decide), f3 47 (by decide), c2_2 p hp, if_pos (Nat.zero_le _), f1 74 (by decide), f0 74 (by decide), st_ne (by omega), st_ne (by omega), st_ne (by omega), st_ne (by omega), st_ne (by omega), st_ne (by omega), st_ne (by omega), st_ne (by omega), st_ne (by omega)]
  · rw [f4 12 (by decide), c3_0 p hp, if_pos (Nat.zero_le _), f2 71 (by decide), f1 71 (by decide), f0 71 (by decide), st_ne (by omega), st_ne (by omega), st_ne (by omega), st_ne (by omega), st_ne (by omega), st_ne (by omega), st_ne (by omega), st_ne (by omega), st_ne (by omega)]
  · rw [f4 50 (by decide), c3_1 p hp, if_pos (Nat.zero_le _), f2 75 (by decide), f1 75 (by decide), f0 75 (by decide), st_ne (by omega), st_ne (by omega), st_ne (by omega), st_ne (by omega), st_ne (by omega), st_ne (by omega), st_ne (by omega), st_ne (by omega), st_ne (by omega)]
  · rw [f4 51 (by decide), c3_2 p hp, if_pos (Nat.zero_le _), f2 76 (by decide), f1 76 (by decide), f0 76 (by decide), st_ne (by omega), st_ne (by omega), st_ne (by omega), st_ne (by omega), st_ne (by omega), st_ne (by omega), st_ne (by omega), st_ne (by omega), st_ne (by omega)]
  · rw [c4_0 p hp, if_pos (Nat.zero_le _), f3 77 (by decide), f2 77 (by decide), f1 77 (by decide), f0 77 (by decide), st_ne (by omega), st_ne (by omega), st_ne (by omega), st_ne (by omega), st_ne (by omega), st_ne (by omega), st_ne (by omega), st_ne (by omega), st_ne (by omega)]
  · rw [c4_1 p hp, if_pos (Nat.zero_le _), f3 78 (by decide), f2 78 (by decide), f1 78 (by decide), f0 78 (by decide), st_ne (by omega), st_ne (by omega), st_ne (by omega), st_ne (by omega), st_ne (by omega), st_ne (by omega), st_ne (by omega), st_ne (by omega), st_ne (by omega)]
