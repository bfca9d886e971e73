/-! PURE: told -/
section CG
variable {nh : Nat} {σ : Ms} {ρ : Mm} {ℓ : Mz} {η : Mj}
theorem s_firstC {W : Nat → Nat} {τ ρ : Mm} (h : WR W τ ρ) : ∃ r : Int32, f_X1_firstCrossed τ = some r ∧ f_X9_firstCrossed ρ = some r := by
  unfold f_X1_firstCrossed f_X1_firstCrossed_0 f_X9_firstCrossed f_X9_firstCrossed_0
  exact s_first h 10 0 FU FU (by omega) (by rw [FU_e]; omega) (by rw [FU_e]; omega)
theorem SM.ask (R : RX nh σ ρ ℓ η) {x y : Option Int32} (h : ∃ r : Int32, x = some r ∧ y = some r) : SM nh σ ℓ η (bd x (fun u => some (u, σ))) (bd y (fun u => some (u, ρ))) := by
  obtain ⟨r, h1, h2⟩ := h
  rw [h1, h2]
  exact SM.same R r
theorem S_told (R : RX nh σ ρ ℓ η) (b : Int32) : SM nh σ ℓ η (f_X8_told σ b) (f_X9_told ρ b) := by
  obtain ⟨M, m, w, H, hm, hw, hz, hp, hl, ns, np, nb⟩ := R.1
  obtain ⟨W, hW⟩ := HR_WR H hp
  unfold f_X8_told f_X8_told_0 f_X9_told f_X9_told_0
  rw [q_wc b 10 10 10 10 rfl (by omega) rfl, q_ic b 10 19 10 10 rfl rfl, bd_s, bd_s]
  rcases bC_c b (a := 10) (n := 10) (by omega) with ⟨h, -⟩ | ⟨f, hf, rfl, h⟩
  · rw [h]; simp only [i00]
    rw [q_wc b 20 10 20 10 rfl (by omega) rfl, q_ic b 20 29 20 10 rfl rfl, bd_s, bd_s]
    rcases bC_c b (a := 20) (n := 10) (by omega) with ⟨h, -⟩ | ⟨f, hf, rfl, h⟩
    · rw [h]; simp only [i00]
      by_cases b0 : b = 0
      · rw [if_pos b0, if_pos b0, H.2.1.2.1, H.2.1.2.2]; exact SM.same R _
      rw [if_neg b0, if_neg b0]
      by_cases b1 : b = 1
      · rw [if_pos b1, if_pos b1]
        obtain ⟨-, ⟨r, hr, g2, g3⟩, g4⟩ := R.HH (hs := σ) (fun _ _ _ => rfl)
        rw [g3 ρ (fun _ _ => rfl), bd_s]
        by_cases hx : σ 1 16 0 = 0
        · rw [if_pos hx]
          rw [if_pos hx] at g2
          rw [g2]
          exact SM.same R _
        · rw [if_neg hx]
          rw [if_neg hx] at g2
          rw [gd_of (g4.resolve_left hx), gd_of (g4.resolve_left hx), g2]
          exact SM.same R _
      rw [if_neg b1, if_neg b1]
      by_cases b2' : b = 2
      · rw [if_pos b2', if_pos b2', H.2.2.2.1.1]; exact SM.same R _
      rw [if_neg b2', if_neg b2']
      by_cases b3 : b = 3
      · rw [if_pos b3, if_pos b3, H.2.2.1.2.1, H.2.2.1.2.2]; exact SM.same R _
      rw [if_neg b3, if_neg b3]
      by_cases b4 : b = 4
      · have hq := S_quiet R
        rw [if_pos b4, if_pos b4, bd_eta, bd_eta]; exact hq
      rw [if_neg b4, if_neg b4]
      by_cases b5 : b = 5
      · rw [if_pos b5, if_pos b5]
        exact SM.ask R (s_cross hW)
      rw [if_neg b5, if_neg b5]
      by_cases b6 : b = 6
      · rw [if_pos b6, if_pos b6]
        exact SM.ask R (s_firstC hW)
      rw [if_neg b6, if_neg b6]
      exact SM.same R _
    · rw [h]; simp only [i10]
      obtain ⟨r, r1, r2⟩ := s_loop hW hf
      rw [show (20 : Int32) = nI 20 from rfl, z_subc, r1, r2, bd_s, bd_s]
      exact SM.same R _
  · rw [h]; simp only [i10]
    rw [show (10 : Int32) = nI 10 from rfl, z_subc, z_in hf (by decide), z_in hf (by decide), nI_clamp (by omega), (hW.2 f hf).1, (hW.2 f hf).2]
    exact SM.same R _
end CG
