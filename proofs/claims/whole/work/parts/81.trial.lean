/-! PURE: the calls that try minutes, in both -/
theorem bC_lo {k a n : Nat} (h : k < a) (hk : k < 2 ^ 31) : bC (nI k) a n = 0 := b2_f (by rw [nI_toInt hk]; omega)
section CC
variable {nh : Nat} {σ : Ms} {ρ : Mm} {ℓ : Mz} {η : Mj}
theorem TR.of {C M m w : Nat} {τ2 ρ2 τ3 ρ3 : Mm} (T : TR C M m w σ ρ τ2 ρ2) (H : HR M m w m τ3 ρ3) (e16 : τ3 16 = τ2 16) (e0 : τ3 0 = τ2 0) (e1 : τ3 1 = τ2 1) (e : EF [1, 2, 3, 4, 7, 8, 9, 10, 30] ρ3 ρ2) : TR C M m w σ ρ τ3 ρ3 := by
  obtain ⟨-, hw, hH, L, S, z0, z1⟩ := T
  refine ⟨H, hw, fun hs hh => ?_, L.of e0 e1 (e 31 (by decide)) (e 32 (by decide)), S.ef e, e0.trans z0, e1.trans z1⟩
  rw [e16]
  exact (hH hs hh).of (fun k hk => e k (by simp; omega))
theorem TR.ring {C M m w g : Nat} {τ2 ρ2 : Mm} (T : TR C M m w σ ρ τ2 ρ2) (hg : g < 10) : TR C M m w σ ρ (s_t τ2 13 0 (τ2 13 0 ||| ((1 : Int32) <<< (nI g &&& 31)))) (s_t ρ2 2 0 (ρ2 2 0 ||| ((1 : Int32) <<< (nI g &&& 31)))) :=
  T.of (HR_ring T.1 hg) rfl rfl rfl (ef_s (by decide))
theorem HR_floor {M m w cb : Nat} {τ ρ : Mm} (H : HR M m w cb τ ρ) {p f : Nat} (hf : f < 10) : HR M m w cb (s_t τ 4 p (nI f)) (s_t ρ 7 p (nI f)) := by
  refine HR_at H (Nat.le_refl _) (p := p) (fun k q r1 r2 r3 => ?_) (fun k q r1 r2 r3 => ?_) (fun hp => ?_) H.2.2.2.1
  · rw [st_v, if_neg (by omega)]
  · rw [st_v, if_neg (by omega)]
  · obtain ⟨a2, a3, a4, a5, a6, a7, a8, a9⟩ := H.2.2.2.2.1 p hp
    refine ⟨a2, a3, ⟨?_, f, hf, st_eq⟩, a5, a6, a7, a8, a9⟩
    rw [st_eq, st_eq]
/-- a trial of the class is at hall 2 alone -/
theorem up2 {τ : Mm} : ∀ o, 14 ≤ o → o < 20 → va_up σ 2 τ o = σ o := fun o h1 h2 => up_ne (by omega)
theorem SM.back {α : Type} (R : RX nh σ ρ ℓ η) {C M m w : Nat} {τ3 ρ3 : Mm} (T : TR C M m w σ ρ τ3 ρ3) (r : α) : ∃ ρ4 : Mm, f_X9_putBack ρ3 = some ρ4 ∧ SM nh σ ℓ η (some (r, va_up σ 2 τ3)) (some (r, ρ4)) := by
  obtain ⟨ρ4, b1, b2, b3⟩ := R.back (σ' := va_up σ 2 τ3) (fun o h => up_ne h) (by rw [up_eq]; exact T.2.2.2.2.2) T.2.2.2.2.1
  exact ⟨ρ4, b1, r, _, _, rfl, rfl, b2, KP.up (by omega)⟩
theorem S_pass (R : RX nh σ ρ ℓ η) (a : Int32) : SM nh σ ℓ η (f_X8_pass σ a) (f_X9_pass ρ a) := by
  obtain ⟨M, m, w, H, hm, hw, hz, hp, hl, ns, np, nb⟩ := R.1
  have L := R.2.1
  unfold f_X8_pass f_X8_pass_0 f_X9_pass f_X9_pass_0
  rw [q_w a 61 61 rfl, q_Mi, bd_s, bd_s]
  rcases bB_c a (n := 61) (by omega) with ⟨h, -⟩ | ⟨n, hn, rfl, h⟩
  · rw [h]; simp only [i00]; exact SM.same R _
  rw [h]; simp only [i10]
  rw [H.2.1.2.1, H.2.1.2.2, nI_add]
  by_cases h1 : m + n ≤ 9999
  · rw [if_pos (show nI (m + n) ≤ 9999 from nI_le (b := 9999) h1 (by omega)), if_pos (show nI (m + n) ≤ 9999 from nI_le (b := 9999) h1 (by omega))]
    obtain ⟨τ1, ρ1, w1, c1, c2, c3, c4, c5, c6, c7⟩ := s_mins (C := 9999) (by omega) n m w (σ 1) ρ H (R.HH (hs := σ) (fun _ _ _ => rfl)) (by
      unfold Lim
      rw [L.1.1, L.1.2, L.2.2.1, L.2.2.2]
      decide +kernel) h1 hw
    rw [c1.goes (by omega), c2.goes (by omega), bd_s, bd_s, lt_d, up_eq, c4.2.1.2.1, c4.2.1.2.2]
    refine SM.now R _ ⟨c5 0 (by decide), c5 1 (by decide)⟩ (fun q hq => c6 q (by simp; omega)) (Core_s c4 h1 c3 ⟨fun p p1 p2 => ?_, fun p p1 p2 => ?_⟩ ?_ ?_ ns np nb (fun q r s => c6 q (by simp; omega)))
    · obtain ⟨y6, y7, y8, y9⟩ := hz.1 p p1 p2
      refine ⟨(c7 6 p (by omega) p1).trans y6, ?_, (c7 8 p (by omega) p1).trans y8, ?_⟩
      · rw [c5 7 (by decide)]; exact y7
      · rw [c5 9 (by decide)]; exact y9
    · rw [c5 2 (by decide), c5 3 (by decide), c5 9 (by decide)]
      exact hz.2 p p1 p2
    · unfold PW
      rw [c5 10 (by decide)]
      exact hp
    · rw [c5 16 (by decide), c6 14 (by decide)]
      exact hl
  · rw [if_neg (show ¬ nI (m + n) ≤ 9999 from nI_ge (b := m + n) (a := 9999) (by omega) (by omega)), if_neg (show ¬ nI (m + n) ≤ 9999 from nI_ge (b := m + n) (a := 9999) (by omega) (by omega))]
    exact SM.same R _
theorem on_ok (R : RX nh σ ρ ℓ η) (a b : Int32) {M m w : Nat} (H : HR M m w m (σ 1) ρ) (hb : (b = 0 ∨ b = 1) ∨ (∃ p : Nat, p < M ∧ b = nI (10 + p)) ∨ ∃ p : Nat, p < M ∧ b = nI (20 + p)) : SM nh σ ℓ η (f_X8_on_43 a b σ (bC b 10 M) (bC b 20 M)) (f_X9_on_46 a b ρ) := by
  have hM := H.1.1
  unfold f_X8_on_43 f_X9_on_46 f_X9_on_116
  rw [q_w a 61 61 rfl, q_Mi, bd_s, bd_s]
  rcases bB_c a (n := 61) (by omega) with ⟨h, -⟩ | ⟨n, hn, rfl, h⟩
  · rw [h]; simp only [i00]; exact SM.same R _
  rw [h]; simp only [i10]
  obtain ⟨M', m', w', τ2, ρ2, a1, a2, T, hm, H', -⟩ := R.trial
  obtain rfl : M' = M := by
    have e := H'.1.2.1.symm.trans H.1.2.1
    exact (nI_eq (by have := H'.1.1; omega) (by omega)).mp e
  obtain ⟨w2, τ3, ρ3, c1, c2, T3, -⟩ := T.mins (n := n) (by omega) (by omega) (hs := va_up σ 2 τ2) up2
  rw [a1, a2, bd_s, bd_s, lt_d, up_eq, c1.goes (by omega), c2.goes (by omega), bd_s, bd_s, lt_d, up_up, up_eq]
  have key : ∀ r : Int32, SM nh σ ℓ η (some (r, va_up σ 2 τ3)) (bd (f_X9_putBack ρ3) fun u11 => some (r, u11)) := by
    intro r
    obtain ⟨ρ4, b1, b2⟩ := SM.back R T3 r
    rw [b1]
    exact b2
  obtain ⟨H3, -⟩ := T3
  have c0 : ∀ k : Nat, k < 30 → ∀ j : Nat, j < 30 → (nI k = nI j ↔ k = j) := fun k hk j hj => nI_eq (by omega) (by omega)
  rcases hb with (rfl | rfl) | ⟨p, hp, rfl⟩ | ⟨p, hp, rfl⟩
  · rw [show bC (0 : Int32) 10 M' = 0 from bC_lo (k := 0) (by omega) (by omega), show bC (0 : Int32) 20 M' = 0 from bC_lo (k := 0) (by omega) (by omega), i00, i00, if_pos rfl, if_pos rfl, H3.2.2.2.1.1]
    exact key _
  · rw [show bC (1 : Int32) 10 M' = 0 from bC_lo (k := 1) (by omega) (by omega), show bC (1 : Int32) 20 M' = 0 from bC_lo (k := 1) (by omega) (by omega), i00, i00, if_neg (by decide), if_neg (by decide), if_pos rfl, H3.2.2.1.2.1, H3.2.2.1.2.2]
    exact key _
  · have e1 : bC (nI (10 + p)) 10 M' = 1 := b2_t (by rw [nI_toInt (by omega)]; omega)
    rw [e1, i10, if_neg (show ¬ nI (10 + p) = 0 from z_neq (b := 0) (by omega) (by omega) (by omega)), if_neg (show ¬ nI (10 + p) = 1 from z_neq (b := 1) (by omega) (by omega) (by omega)), if_neg (show ¬ (20 : Int32) ≤ nI (10 + p) from nI_ge (b := 20) (by omega) (by omega)), show (10 : Int32) = nI 10 from rfl, z_subc, z_in (by omega) (by decide), z_in (by omega) (by decide), nI_clamp (by omega), (H3.2.2.2.2.1 p hp).2.2.1.1]
    exact key _
  · have e1 : bC (nI (20 + p)) 20 M' = 1 := b2_t (by rw [nI_toInt (by omega)]; omega)
    have e2 : bC (nI (20 + p)) 10 M' = 0 := b2_f (by rw [nI_toInt (by omega)]; omega)
    rw [e1, e2, i10, i00, if_neg (show ¬ nI (20 + p) = 0 from z_neq (b := 0) (by omega) (by omega) (by omega)), if_neg (show ¬ nI (20 + p) = 1 from z_neq (b := 1) (by omega) (by omega) (by omega)), if_pos (show (20 : Int32) ≤ nI (20 + p) from nI_le (a := 20) (by omega) (by omega)), show (20 : Int32) = nI 20 from rfl, z_subc, z_in (by omega) (by decide), z_in (by omega) (by decide), nI_clamp (by omega), (H3.2.2.2.2.1 p hp).2.2.2.1.1]
    exact key _
theorem S_on (R : RX nh σ ρ ℓ η) (a b : Int32) : SM nh σ ℓ η (f_X8_on σ a b) (f_X9_on ρ a b) := by
  obtain ⟨M, m, w, H, hm, hw, hz, hp, hl, ns, np, nb⟩ := R.1
  have hM := H.1.1
  unfold f_X8_on f_X8_on_0 f_X9_on f_X9_on_0
  have e9 : ((9 : Int32) + ρ 0 0).toInt + 1 = (10 : Nat) + (M : Nat) := by
    rw [H.1.2.2, show (9 : Int32) = nI 9 from rfl, nI_add, nI_toInt (by omega)]
    omega
  have e19 : ((19 : Int32) + ρ 0 0).toInt + 1 = (20 : Nat) + (M : Nat) := by
    rw [H.1.2.2, show (19 : Int32) = nI 19 from rfl, nI_add, nI_toInt (by omega)]
    omega
  rw [q_M8c hM H.1.2.1 b 10 10 rfl (by omega), q_M8c hM H.1.2.1 b 20 20 rfl (by omega), q_w b 2 2 rfl, q_i b 0 1 2 rfl rfl, q_ic b 10 _ 10 M rfl e9, q_ic b 20 _ 20 M rfl e19]
  simp only [bd_s]
  rcases bB_c b (n := 2) (by omega) with ⟨h, -⟩ | ⟨k, hk, rfl, h⟩
  · rw [h]; simp only [i00]
    rcases bC_c b (a := 10) (n := M) (by omega) with ⟨h1, -⟩ | ⟨p, hp', rfl, h1⟩
    · rcases bC_c b (a := 20) (n := M) (by omega) with ⟨h2, -⟩ | ⟨p, hp', rfl, h2⟩
      · rw [h1, h2]; simp only [i00]; exact SM.same R _
      · have := on_ok R a (nI (20 + p)) H (Or.inr (Or.inr ⟨p, hp', rfl⟩))
        rw [h1, h2] at this ⊢; simp only [i00, i10]; exact this
    · have := on_ok R a (nI (10 + p)) H (Or.inr (Or.inl ⟨p, hp', rfl⟩))
      rw [h1] at this ⊢; simp only [i10]; exact this
  · rw [h]; simp only [i10]
    exact on_ok R a (nI k) H (Or.inl (by rcases (by omega : k = 0 ∨ k = 1) with rfl | rfl; exact Or.inl rfl; exact Or.inr rfl))
end CC
