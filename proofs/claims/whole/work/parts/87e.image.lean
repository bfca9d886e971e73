/-! PURE: image, undo -/
section CI
variable {nh : Nat} {σ : Ms} {ρ : Mm} {ℓ : Mz} {η : Mj}
theorem x3_5 (σ : Ms) : ∃ s p b : Mm, f_X3_copies_5 σ = some (va_up (va_up (va_up σ 9 s) 10 p) 11 b) ∧ EQR 5 s (σ 6) ∧ EQR 10 p (σ 7) ∧ EQR 8 b (σ 8) := by
  obtain ⟨s, s1, s2⟩ := s_copies4 (τ := σ 9) (τo := σ 6) (N := 5) (by omega)
  obtain ⟨p, p1, p2⟩ := s_copies4 (τ := σ 10) (τo := σ 7) (N := 10) (by omega)
  obtain ⟨b, b1, b2⟩ := s_copies4 (τ := σ 11) (τo := σ 8) (N := 8) (by omega)
  refine ⟨s, p, b, ?_, s2, p2, b2⟩
  have r9 : rl 9 = 5 := rfl
  have r10 : rl 10 = 10 := rfl
  have r11 : rl 11 = 8 := rfl
  unfold f_X3_copies_5 f_X3_copies_5_0
  rw [rl6, rl7, rl8, r9, r10, r11, s1, bd_s, lt_d, up_ne (show (10 : Nat) ≠ 9 by omega), up_ne (show (7 : Nat) ≠ 9 by omega), p1, bd_s, lt_d, up_ne (show (11 : Nat) ≠ 10 by omega), up_ne (show (11 : Nat) ≠ 9 by omega), up_ne (show (8 : Nat) ≠ 10 by omega), up_ne (show (8 : Nat) ≠ 9 by omega), b1, bd_s, lt_d]
theorem x3_4 (σ : Ms) : ∃ s p b : Mm, f_X3_copies_4 σ = some (va_up (va_up (va_up σ 6 s) 7 p) 8 b) ∧ EQR 5 s (σ 9) ∧ EQR 10 p (σ 10) ∧ EQR 8 b (σ 11) := by
  obtain ⟨s, s1, s2⟩ := s_copies4 (τ := σ 6) (τo := σ 9) (N := 5) (by omega)
  obtain ⟨p, p1, p2⟩ := s_copies4 (τ := σ 7) (τo := σ 10) (N := 10) (by omega)
  obtain ⟨b, b1, b2⟩ := s_copies4 (τ := σ 8) (τo := σ 11) (N := 8) (by omega)
  refine ⟨s, p, b, ?_, s2, p2, b2⟩
  have r9 : rl 9 = 5 := rfl
  have r10 : rl 10 = 10 := rfl
  have r11 : rl 11 = 8 := rfl
  unfold f_X3_copies_4 f_X3_copies_4_0
  rw [rl6, rl7, rl8, r9, r10, r11, s1, bd_s, lt_d, up_ne (show (7 : Nat) ≠ 6 by omega), up_ne (show (10 : Nat) ≠ 6 by omega), p1, bd_s, lt_d, up_ne (show (8 : Nat) ≠ 7 by omega), up_ne (show (8 : Nat) ≠ 6 by omega), up_ne (show (11 : Nat) ≠ 7 by omega), up_ne (show (11 : Nat) ≠ 6 by omega), b1, bd_s, lt_d]
theorem S_image (R : RX nh σ ρ ℓ η) : SM nh σ ℓ η (f_X8_image σ) (f_X9_image ρ) := by
  have hH := R.1
  obtain ⟨M, m, w, H, -⟩ := R.1
  obtain ⟨τ3, a1, a2, -⟩ := s_copies (τ := σ 3) (τo := σ 1)
  obtain ⟨s, p, b, c1, c2, c3, c4⟩ := x3_5 (va_up σ 3 τ3)
  rw [up_ne (by omega)] at c2 c3 c4
  obtain ⟨ρ', m1, m2, IMG⟩ := m_image (ρ := ρ)
  unfold f_X8_image f_X8_image_0
  rw [a1, bd_s, lt_d, c1, bd_s, lt_d, lt_d, m1, m2 0 (by decide), H.1.2.2]
  have z : ∀ o, o ≠ 0 → o ≠ 3 → ¬ (9 ≤ o ∧ o ≤ 11) → va_up (va_up (va_up (va_up (va_up σ 3 τ3) 9 s) 10 p) 11 b) 0 (s_t ((va_up (va_up (va_up (va_up σ 3 τ3) 9 s) 10 p) 11 b) 0) 5 0 1) o = σ o := fun o h0 h3 h9 => by
    rw [up_ne h0, up_ne (by omega), up_ne (by omega), up_ne (by omega), up_ne h3]
  have z0 : (va_up (va_up (va_up (va_up σ 3 τ3) 9 s) 10 p) 11 b) 0 = σ 0 := by
    rw [up_ne (by omega), up_ne (by omega), up_ne (by omega), up_ne (by omega)]
  rw [z 1 (by omega) (by omega) (by omega), H.1.2.1]
  obtain ⟨-, ⟨⟨l2, l3⟩, ⟨l4, l5⟩, l6⟩, hs, tx, -, ac, tp⟩ := R
  obtain ⟨i54, i55, i56, i57, i58, i59, i60, i61, i62, i63, i64, i65, i66, i67, i68, i69, i70, i72, i73, i74, i71, i75, i76, i77, i78⟩ := IMG
  refine ⟨_, _, _, rfl, rfl, ⟨?_, ⟨?_, ?_, ?_⟩, HsR_e hs ?_ (fun j q r => z j (by omega) (by omega) (by omega)) (fun k hk => m2 k (by simp; omega)), ?_, ⟨?_, Or.inr ⟨i54, ?_⟩⟩, ?_, TpR_e tp (fun o q r => z o (by omega) (by omega) (by omega)) ⟨m2 81 (by decide), m2 82 (by decide)⟩⟩, z 20 (by omega) (by omega) (by omega), z 29 (by omega) (by omega) (by omega)⟩
  · rw [z 1 (by omega) (by omega) (by omega), z 6 (by omega) (by omega) (by omega), z 7 (by omega) (by omega) (by omega), z 8 (by omega) (by omega) (by omega)]
    exact Core_k hH (fun k hk => m2 k (by simp; omega))
  · rw [z 1 (by omega) (by omega) (by omega)]
    exact ⟨l2, l3⟩
  · rw [z 2 (by omega) (by omega) (by omega)]
    exact ⟨l4, l5⟩
  · rw [m2 31 (by decide), m2 32 (by decide)]
    exact l6
  · rw [up_eq, z0, st_ne (by omega)]
  · rw [z 12 (by omega) (by omega) (by omega)]
    exact TxR_e tx ⟨m2 15 (by decide), m2 18 (by decide), m2 29 (by decide)⟩
  · rw [up_eq, st_eq, i54]
  · rw [up_ne (show (3 : Nat) ≠ 0 by omega), up_ne (show (3 : Nat) ≠ 11 by omega), up_ne (show (3 : Nat) ≠ 10 by omega), up_ne (show (3 : Nat) ≠ 9 by omega), up_eq, up_ne (show (9 : Nat) ≠ 0 by omega), up_ne (show (9 : Nat) ≠ 11 by omega), up_ne (show (9 : Nat) ≠ 10 by omega), up_eq, up_ne (show (10 : Nat) ≠ 0 by omega), up_ne (show (10 : Nat) ≠ 11 by omega), up_eq, up_ne (show (11 : Nat) ≠ 0 by omega), up_eq]
    refine Core_i hH a2 ⟨⟨fun k hk => ?_, i55, fun k q k1 k2 hq => ?_, fun q hq => i70 q hq, fun q hq => i71 q hq⟩, ⟨i61, i62, i63⟩, fun k q k1 k2 hq => ?_, fun k q k1 k2 hq => ?_, fun k q k1 k2 hq => ?_⟩ c2 c3 c4
    · rcases (by omega : k = 0 ∨ k = 1 ∨ k = 2 ∨ k = 3 ∨ k = 4) with rfl | rfl | rfl | rfl | rfl
      · exact i56
      · exact i57
      · exact i58
      · exact i59
      · exact i60
    · rcases (by omega : k = 5 ∨ k = 6 ∨ k = 7 ∨ k = 8 ∨ k = 9 ∨ k = 10) with rfl | rfl | rfl | rfl | rfl | rfl
      · exact i64 q hq
      · exact i65 q hq
      · exact i66 q hq
      · exact i67 q hq
      · exact i68 q hq
      · exact i69 q hq
    · rcases (by omega : k = 45 ∨ k = 46 ∨ k = 47) with rfl | rfl | rfl
      · exact i72 q hq
      · exact i73 q hq
      · exact i74 q hq
    · rcases (by omega : k = 50 ∨ k = 51) with rfl | rfl
      · exact i75 q hq
      · exact i76 q hq
    · rcases (by omega : k = 52 ∨ k = 53) with rfl | rfl
      · exact i77 q hq
      · exact i78 q hq
  · rw [z 21 (by omega) (by omega) (by omega)]
    exact AcR_e ac ⟨m2 79 (by decide), m2 80 (by decide)⟩
theorem S_undo (R : RX nh σ ρ ℓ η) : SM nh σ ℓ η (f_X8_undo σ) (f_X9_undo ρ) := by
  obtain ⟨h5, hi⟩ := R.2.2.2.2.1
  unfold f_X8_undo f_X8_undo_0
  rw [h5]
  rcases hi with hi | ⟨hi, hC⟩
  · unfold f_X9_undo f_X9_undo_0
    rw [if_pos hi, if_pos hi]
    exact SM.same R _
  have hn : ¬ ρ 54 0 = 0 := by rw [hi]; decide
  obtain ⟨ρ', m1, m2, IMG⟩ := m_undo (ρ := ρ) hn
  obtain ⟨M, m, w, H, -⟩ := id hC
  obtain ⟨τ1, a1, a2, a3, a4⟩ := s_copies (τ := σ 1) (τo := σ 3)
  obtain ⟨s, p, b, c1, c2, c3, c4⟩ := x3_4 (va_up σ 1 τ1)
  rw [up_ne (by omega)] at c2 c3 c4
  rw [if_neg hn, a1, bd_s, lt_d, c1, bd_s, m1]
  have z : ∀ o, o ≠ 1 → ¬ (6 ≤ o ∧ o ≤ 8) → va_up (va_up (va_up (va_up σ 1 τ1) 6 s) 7 p) 8 b o = σ o := fun o h1 h6 => by
    rw [up_ne (by omega), up_ne (by omega), up_ne (by omega), up_ne h1]
  have z1 : va_up (va_up (va_up (va_up σ 1 τ1) 6 s) 7 p) 8 b 1 = τ1 := by
    rw [up_ne (by omega), up_ne (by omega), up_ne (by omega), up_eq]
  obtain ⟨u14, u0, u1, u2, u3, u4, u44, u48, u49, u5, u6, u7, u8, u9, u10, u11, u45, u46, u47, u12, u50, u51, u52, u53⟩ := IMG
  have eI : EQI ρ' (im ρ) := by
    refine ⟨⟨fun k hk => ?_, u14, fun k q k1 k2 hq => ?_, fun q hq => u11 q hq, fun q hq => u12 q hq⟩, ⟨u44, u48, u49⟩, fun k q k1 k2 hq => ?_, fun k q k1 k2 hq => ?_, fun k q k1 k2 hq => ?_⟩
    · rcases (by omega : k = 0 ∨ k = 1 ∨ k = 2 ∨ k = 3 ∨ k = 4) with rfl | rfl | rfl | rfl | rfl
      · exact u0
      · exact u1
      · exact u2
      · exact u3
      · exact u4
    · rcases (by omega : k = 5 ∨ k = 6 ∨ k = 7 ∨ k = 8 ∨ k = 9 ∨ k = 10) with rfl | rfl | rfl | rfl | rfl | rfl
      · exact u5 q hq
      · exact u6 q hq
      · exact u7 q hq
      · exact u8 q hq
      · exact u9 q hq
      · exact u10 q hq
    · rcases (by omega : k = 45 ∨ k = 46 ∨ k = 47) with rfl | rfl | rfl
      · exact u45 q hq
      · exact u46 q hq
      · exact u47 q hq
    · rcases (by omega : k = 50 ∨ k = 51) with rfl | rfl
      · exact u50 q hq
      · exact u51 q hq
    · rcases (by omega : k = 52 ∨ k = 53) with rfl | rfl
      · exact u52 q hq
      · exact u53 q hq
  have hC' : Core nh τ1 s p b ρ' := Core_i hC a2 eI c2 c3 c4
  have hm0 : ρ' 0 0 = nI M := (eI.1.1 0 (by omega)).trans H.1.2.2
  have hm1 : τ1 12 0 = nI M := (a2.k0 (by omega)).trans H.1.2.1
  rw [z1, hm1, hm0]
  refine ⟨_, _, _, rfl, rfl, R.now (fun o h1 _ h6 h7 h8 _ => z o h1 (by omega)) (by rw [z1]; exact ⟨a3, a4⟩) (z 2 (by omega) (by omega)) (fun k hk => m2 k (by simp; omega)) ?_, z 20 (by omega) (by omega), z 29 (by omega) (by omega)⟩
  rw [z1, up_ne (show (6 : Nat) ≠ 8 by omega), up_ne (show (6 : Nat) ≠ 7 by omega), up_eq, up_ne (show (7 : Nat) ≠ 8 by omega), up_eq, up_eq]
  exact hC'
end CI
