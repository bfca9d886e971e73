/-! PURE: the calls, in both: masters, bells, rows by hand -/
section CA
variable {nh : Nat} {σ : Ms} {ρ : Mm} {ℓ : Mz} {η : Mj}
theorem m_128 {p0 p1 p2 : Int32} {M : Nat} (hM : M < 6) : ∀ (k i n : Nat) (τ : Mm), i + k = 4 → k < n → τ 0 0 = nI M → ∃ τ' : Mm, f_X9_master_128L p0 p1 p2 n τ (nI i) = some (nI M, τ') ∧ (∀ q, q ≠ 11 → q ≠ 0 → τ' q = τ q) ∧ τ' 0 0 = nI (M + 1) ∧ ∀ q, τ' 11 q = if 4 * M + i ≤ q ∧ q < 4 * M + 4 then 0 else τ 11 q := by
  intro k
  induction k with
  | zero =>
    intro i n τ hi hn h0
    obtain ⟨n, rfl⟩ : ∃ j, n = j + 1 := ⟨n - 1, by omega⟩
    refine ⟨s_t τ 0 0 (nI (M + 1)), ?_, fun q h1 h2 => st_ne h2, st_eq, fun q => ?_⟩
    · show f_X9_master_128 p0 p1 p2 _ τ (nI i) = _
      unfold f_X9_master_128
      rw [show i = 4 by omega, if_pos (by decide), lt_d, h0, nI_1, st_eq, nI_pred]
    · rw [st_ne (by omega), if_neg (by omega)]
  | succ k ih =>
    intro i n τ hi hn h0
    obtain ⟨n, rfl⟩ : ∃ j, n = j + 1 := ⟨n - 1, by omega⟩
    obtain ⟨τ', b1, b2, b3, b4⟩ := ih (i + 1) n (s_t τ 11 (4 * M + i) 0) (by omega) (by omega) (by rw [st_ne (by omega)]; exact h0)
    refine ⟨τ', ?_, fun q h1 h2 => (b2 q h1 h2).trans (st_ne h1), b3, fun q => ?_⟩
    · show f_X9_master_128 p0 p1 p2 _ τ (nI i) = _
      unfold f_X9_master_128
      rw [if_neg (show ¬ (4 : Int32) ≤ nI i from nI_ge (b := 4) (by omega) (by omega)), h0, n4, pk_mul, nI_add, z_in (by omega) (by decide), nI_clamp (by omega), lt_d, lt_d, nI_1]
      exact b1
    · rw [b4 q, st_k]
      by_cases h1 : q = 4 * M + i
      · rw [if_pos h1, if_neg (by omega), if_pos (by omega)]
      · rw [if_neg h1]
        by_cases h2 : 4 * M + i ≤ q ∧ q < 4 * M + 4
        · rw [if_pos h2, if_pos (by omega)]
        · rw [if_neg h2, if_neg (by omega)]
theorem S_master (R : RX nh σ ρ ℓ η) (a b c : Int32) : SM nh σ ℓ η (f_X8_master σ a b c) (f_X9_master ρ a b c) := by
  obtain ⟨M, m, w, H, hm, hw, hz, hp, hl, ns, np, nb⟩ := R.1
  have hM := H.1.1
  unfold f_X8_master f_X8_master_0 f_X9_master f_X9_master_0
  rw [q_w a 7 7 rfl, q_i a 0 6 7 rfl rfl, bd_s, bd_s]
  rcases bB_c a (n := 7) (by omega) with ⟨h, -⟩ | ⟨k, hk, rfl, h⟩
  · rw [h]; simp only [i00]; exact SM.same R _
  rw [h]; simp only [i10]
  rw [q_w c 10 10 rfl, q_F, bd_s, bd_s]
  rcases bB_c c (n := 10) (by omega) with ⟨h, -⟩ | ⟨f, hf, rfl, h⟩
  · rw [h]; simp only [i00]; exact SM.same R _
  rw [h]; simp only [i10]
  rw [q_w b 10 10 rfl, q_i b 0 9 10 rfl rfl, bd_s, bd_s]
  rcases bB_c b (n := 10) (by omega) with ⟨h, -⟩ | ⟨v, hv, rfl, h⟩
  · rw [h]; simp only [i00]; exact SM.same R _
  rw [h]; simp only [i10]
  rw [H.1.2.1, H.1.2.2]
  by_cases hf6 : M = 6
  · rw [hf6, if_neg (show ¬ nI 6 < 6 by decide), if_pos (show nI 6 = 6 from rfl)]
    exact SM.same R _
  rw [if_pos (show nI M < 6 from nI_lt (b := 6) (by omega) (by omega)), if_neg (show ¬ nI M = 6 from z_neq (b := 6) hf6 (by omega) (by omega))]
  have ip : ∀ {β : Type} {x : Option β}, gd (inB (nI M) 6) x = x := z_in (by omega) (by decide)
  have ic : (nI M).toNatClampNeg = M := nI_clamp (by omega)
  have e8 : f_X1_comes (σ 1) (nI k) (nI v) (nI f) = some (nI M, s_t (s_t (s_t (s_t (s_t (σ 1) 2 M (nI k)) 3 M (nI v)) 4 M (nI f)) 5 M (-5)) 12 0 (nI (M + 1))) := by
    unfold f_X1_comes f_X1_comes_0
    rw [H.1.2.1, lt_d, if_pos (show nI M < 6 from nI_lt (b := 6) (by omega) (by omega))]
    simp only [ip, ic, lt_d]
    rw [st_ne (show (12 : Nat) ≠ 5 by omega), st_ne (show (12 : Nat) ≠ 4 by omega), st_ne (show (12 : Nat) ≠ 3 by omega), st_ne (show (12 : Nat) ≠ 2 by omega), H.1.2.1, nI_1]
  have z0 : ∀ (r : Mm) (q i : Nat) (x : Int32), q ≠ 0 → s_t r q i x 0 = r 0 := fun r q i x h => st_ne (Ne.symm h)
  obtain ⟨ρ', b1, b2, b3, b4⟩ := m_128 (p0 := nI k) (p1 := nI v) (p2 := nI f) (M := M) (by omega) 4 0 FU (s_t (s_t (s_t (s_t (s_t (s_t (s_t ρ 5 M (nI k)) 6 M (nI v)) 7 M (nI f)) 8 M (-5)) 9 M 0) 10 M 0) 1 0 (ρ 1 0 &&& (((1 : Int32) <<< (nI M &&& 31)) ^^^ (-1 : Int32)))) (by omega) (by rw [FU_e]; omega) (by
    rw [z0 _ 1 _ _ (by omega), z0 _ 10 _ _ (by omega), z0 _ 9 _ _ (by omega), z0 _ 8 _ _ (by omega), z0 _ 7 _ _ (by omega), z0 _ 6 _ _ (by omega), z0 _ 5 _ _ (by omega)]
    exact H.1.2.2)
  have e9 : gd (inB (nI M) 6) (lt (s_t ρ 5 (nI M).toNatClampNeg (nI k)) fun τ9 => gd (inB (τ9 0 0) 6) (lt (s_t τ9 6 (τ9 0 0).toNatClampNeg (nI v)) fun τ11 => gd (inB (τ11 0 0) 6) (lt (s_t τ11 7 (τ11 0 0).toNatClampNeg (nI f)) fun τ13 => gd (inB (τ13 0 0) 6) (lt (s_t τ13 8 (τ13 0 0).toNatClampNeg (-5 : Int32)) fun τ15 => gd (inB (τ15 0 0) 6) (lt (s_t τ15 9 (τ15 0 0).toNatClampNeg (0 : Int32)) fun τ17 => gd (inB (τ17 0 0) 6) (lt (s_t τ17 10 (τ17 0 0).toNatClampNeg (0 : Int32)) fun τ19 => lt (s_t τ19 1 0 ((τ19 1 0) &&& (((1 : Int32) <<< ((τ19 0 0) &&& 31)) ^^^ (-1 : Int32)))) fun τ20 => f_X9_master_128L (nI k) (nI v) (nI f) FU τ20 (0 : Int32))))))) = some (nI M, ρ') := by
    rw [← b1]
    simp only [lt_d, z0 _ 10 _ _ (show (10 : Nat) ≠ 0 by omega), z0 _ 9 _ _ (show (9 : Nat) ≠ 0 by omega), z0 _ 8 _ _ (show (8 : Nat) ≠ 0 by omega), z0 _ 7 _ _ (show (7 : Nat) ≠ 0 by omega), z0 _ 6 _ _ (show (6 : Nat) ≠ 0 by omega), z0 _ 5 _ _ (show (5 : Nat) ≠ 0 by omega), H.1.2.2, ip, ic]
    rfl
  rw [e8, bd_s, lt_d, e9]
  dsimp only
  obtain ⟨h1, h2, h3, h4, h5, h6⟩ := H
  have kz : ∀ q, q ≠ 11 → q ≠ 0 → q ≠ 1 → ¬ (5 ≤ q ∧ q ≤ 10) → ρ' q = ρ q := fun q r1 r2 r3 r4 => by
    rw [b2 q r1 r2, st_ne (by omega), st_ne (by omega), st_ne (by omega), st_ne (by omega), st_ne (by omega), st_ne (by omega), st_ne (by omega)]
  have kb : ∀ i, i < 6 → bt (ρ' 1 0) i = (bt (ρ 1 0) i && !decide (i = M)) := fun i hi => by
    rw [b2 1 (by omega) (by omega), st_eq, p_off (by omega) (by omega)]
  refine SM.now R _ ⟨rfl, rfl⟩ (fun q hq => kz q (by omega) (by omega) (by omega) (by omega)) ⟨M + 1, m, w, ⟨⟨by omega, st_eq, b3⟩, ⟨h2.1, h2.2.1, by rw [kz 4 (by omega) (by omega) (by omega) (by omega)]; exact h2.2.2⟩, ⟨h3.1, h3.2.1, by rw [kz 3 (by omega) (by omega) (by omega) (by omega)]; exact h3.2.2⟩, ⟨by rw [kz 2 (by omega) (by omega) (by omega) (by omega)]; exact h4.1, by rw [kz 2 (by omega) (by omega) (by omega) (by omega)]; exact h4.2⟩, fun p hp => ?_, fun g hg => by rw [kz 12 (by omega) (by omega) (by omega) (by omega)]; exact h6 g hg⟩, hm, hw, ⟨fun p p1 p2 => hz.1 p (by omega) p2, fun p p1 p2 => ?_⟩, hp, by rw [kz 14 (by omega) (by omega) (by omega) (by omega)]; exact hl, ?_, ?_, ?_⟩
  · by_cases hpM : p = M
    · subst hpM
      obtain ⟨y6, y7, y8, y9⟩ := hz.1 p (Nat.le_refl _) (by omega)
      refine ⟨?_, ?_, ⟨?_, f, hf, ?_⟩, ⟨?_, Or.inl ?_⟩, ⟨?_, 0, by omega, ?_⟩, ?_, ⟨?_, 0, by omega, ?_⟩, fun j hj => ?_⟩
      · rw [b2 5 (by omega) (by omega)]; simp [st_v]
      · rw [b2 6 (by omega) (by omega)]; simp [st_v]
      · rw [b2 7 (by omega) (by omega)]; simp [st_v]
      · rw [b2 7 (by omega) (by omega)]; simp [st_v]
      · rw [b2 8 (by omega) (by omega)]; simp [st_v]
      · rw [b2 8 (by omega) (by omega)]; simp [st_v]
      · rw [b2 9 (by omega) (by omega)]; simp [st_v, y6]
      · rw [b2 9 (by omega) (by omega)]; simp [st_v, nI_0]
      · rw [kb p (by omega)]; simp [st_v, y7]
      · rw [b2 10 (by omega) (by omega)]; simp [st_v, y8]
      · rw [b2 10 (by omega) (by omega)]; simp [st_v, nI_0]
      · rw [b4, if_pos (by omega), st_ne (by omega), st_ne (by omega), st_ne (by omega), st_ne (by omega), st_ne (by omega)]
        exact y9 j hj
    · obtain ⟨t2, t3, t4, t5, t6, t7, t8, t9⟩ := h5 p (by omega)
      have k8 : ∀ q, q ≠ 12 → s_t (s_t (s_t (s_t (s_t (σ 1) 2 M (nI k)) 3 M (nI v)) 4 M (nI f)) 5 M (-5)) 12 0 (nI (M + 1)) q p = σ 1 q p := fun q hq => by
        simp only [st_v, hpM, hq, and_false, false_and, if_false]
      have k9 : ∀ q, q ≠ 11 → q ≠ 0 → q ≠ 1 → ρ' q p = ρ q p := fun q r1 r2 r3 => by
        rw [b2 q r1 r2]
        simp only [st_v, hpM, r3, and_false, false_and, if_false]
      unfold MR
      rw [k8 2 (by omega), k8 3 (by omega), k8 4 (by omega), k8 5 (by omega), k8 6 (by omega), k8 7 (by omega), k8 8 (by omega), k9 5 (by omega) (by omega) (by omega), k9 6 (by omega) (by omega) (by omega), k9 7 (by omega) (by omega) (by omega), k9 8 (by omega) (by omega) (by omega), k9 9 (by omega) (by omega) (by omega), k9 10 (by omega) (by omega) (by omega), kb p (by omega)]
      refine ⟨t2, t3, t4, t5, t6, ?_, t8, fun j hj => ?_⟩
      · rw [t7]; simp [hpM]
      · rw [b4, if_neg (by omega), st_ne (by omega), st_ne (by omega), st_ne (by omega), st_ne (by omega), st_ne (by omega), st_ne (by omega), st_ne (by omega), st_ne (by omega), st_ne (by omega), st_ne (by omega), st_ne (by omega), st_ne (by omega)]
        exact t9 j hj
  · by_cases hpM : p = M
    · subst hpM
      obtain ⟨y6, y7, y8, y9⟩ := hz.1 p (Nat.le_refl _) (by omega)
      exact ⟨⟨k, hk, by simp [st_v]⟩, ⟨v, hv, by simp [st_v]⟩, fun j hj => ⟨0, by omega, (y9 j hj).trans nI_0.symm⟩⟩
    · have := hz.2 p (by omega) p2
      refine ⟨?_, ?_, this.2.2⟩
      · simpa [st_v, hpM] using this.1
      · simpa [st_v, hpM] using this.2.1
  · obtain ⟨q, d1, d2, d3, d4⟩ := ns
    refine ⟨q, d1, d2, by rw [kz 44 (by omega) (by omega) (by omega) (by omega)]; exact d3, fun i hi => ?_⟩
    rw [kz 45 (by omega) (by omega) (by omega) (by omega), kz 46 (by omega) (by omega) (by omega) (by omega), kz 47 (by omega) (by omega) (by omega) (by omega)]
    obtain ⟨s1, s2, s3, ⟨x, s4, s5⟩, s6⟩ := d4 i hi
    exact ⟨s1, s2, s3, ⟨x, by omega, s5⟩, s6⟩
  · obtain ⟨q, d1, d2, d3, d4⟩ := np
    refine ⟨q, d1, d2, by rw [kz 48 (by omega) (by omega) (by omega) (by omega)]; exact d3, fun i hi => ?_⟩
    rw [kz 50 (by omega) (by omega) (by omega) (by omega), kz 51 (by omega) (by omega) (by omega) (by omega)]
    obtain ⟨s1, n, s2, s3, s4⟩ := d4 i hi
    refine ⟨s1, n, s2, s3, s4.imp id (fun ⟨g1, g2, g3⟩ => ⟨g1, g2, fun g4 => ?_⟩)⟩
    obtain ⟨x, s4, s5⟩ := g3 g4
    exact ⟨x, by omega, s5⟩
  · obtain ⟨q, d1, d2, d3, d4⟩ := nb
    refine ⟨q, d1, d2, by rw [kz 49 (by omega) (by omega) (by omega) (by omega)]; exact d3, fun i hi => ?_⟩
    rw [kz 52 (by omega) (by omega) (by omega) (by omega), kz 53 (by omega) (by omega) (by omega) (by omega)]
    obtain ⟨s1, s2, x, s4, s5⟩ := d4 i hi
    exact ⟨s1, s2, x, by omega, s5⟩
theorem S_set (R : RX nh σ ρ ℓ η) (a b c : Int32) : SM nh σ ℓ η (f_X8_set σ a b c) (f_X9_set ρ a b c) := by
  obtain ⟨M, m, w, H, hm, hw, hz, hp, hl, ns, np, nb⟩ := R.1
  have hM := H.1.1
  unfold f_X8_set f_X8_set_0 f_X9_set f_X9_set_0
  rw [q_M8 hM H.1.2.1, q_M9 hM H.1.2.2, bd_s, bd_s]
  rcases bB_c a (n := M) (by omega) with ⟨h, -⟩ | ⟨p, hp', rfl, h⟩
  · rw [h]; simp only [i00]; exact SM.same R _
  rw [h]; simp only [i10]
  have ip : ∀ {β : Type} {x : Option β}, gd (inB (nI p) 6) x = x := z_in (by omega) (by decide)
  have ic : (nI p).toNatClampNeg = p := nI_clamp (by omega)
  obtain ⟨a2, a3, ⟨a4, a4'⟩, a5, ⟨a6, a6'⟩, a7, a8, a9⟩ := H.2.2.2.2.1 p hp'
  rw [q_w b 2 2 rfl, q_i b 0 1 2 rfl rfl, bd_s, bd_s]
  rcases bB_c b (n := 2) (by omega) with ⟨h, -⟩ | ⟨k, hk, rfl, h⟩
  · rw [h]; simp only [i00]; exact SM.same R _
  rw [h]; simp only [i10]
  unfold f_X8_set_33 f_X9_set_49 f_X9_set_68 f_X8_swapIn_3 f_X8_swapIn_3_0 f_X8_swapIn_5 f_X8_swapIn_5_0
  rcases (by omega : k = 0 ∨ k = 1) with rfl | rfl
  · simp only [if_pos (show nI 0 = 0 from rfl)]
    rw [q_w c 10 10 rfl, q_F, bd_s, bd_s]
    rcases bB_c c (n := 10) (by omega) with ⟨h, -⟩ | ⟨f, hf, rfl, h⟩
    · rw [h]; simp only [i00]; exact SM.same R _
    rw [h]; simp only [i10, ip, ic, lt_d, bd_s]
    rw [a4]
    refine SM.now R _ ⟨rfl, rfl⟩ (fun q hq => st_ne (by omega)) (Core_s (M := M) (m := m) (w := w) ?_ hm hw ⟨hz.1, hz.2⟩ hp hl ns np nb (fun q r s => st_ne (by omega)))
    refine HR_at H (Nat.le_refl _) (p := p) (fun k q r1 r2 r3 => ?_) (fun k q r1 r2 r3 => ?_) (fun _ => ?_) H.2.2.2.1
    · rw [st_v, if_neg (by omega)]
    · rw [st_v, if_neg (by omega)]
    · refine ⟨a2, a3, ⟨?_, f, hf, st_eq⟩, a5, ⟨a6, a6'⟩, a7, a8, a9⟩
      rw [st_eq, st_eq]
  · simp only [if_neg (show ¬ nI 1 = 0 by decide)]
    rw [q_w c 100 100 rfl, q_i c 0 99 100 rfl rfl, bd_s, bd_s]
    rcases bB_c c (n := 100) (by omega) with ⟨h, -⟩ | ⟨f, hf, rfl, h⟩
    · rw [h]; simp only [i00]; exact SM.same R _
    rw [h]; simp only [i10, ip, ic, lt_d, bd_s]
    rw [a6]
    refine SM.now R _ ⟨rfl, rfl⟩ (fun q hq => st_ne (by omega)) (Core_s (M := M) (m := m) (w := w) ?_ hm hw ⟨fun q q1 q2 => ?_, hz.2⟩ hp hl ns np nb (fun q r s => st_ne (by omega)))
    · refine HR_at H (Nat.le_refl _) (p := p) (fun k q r1 r2 r3 => ?_) (fun k q r1 r2 r3 => ?_) (fun _ => ?_) H.2.2.2.1
      · rw [st_v, if_neg (by omega)]
      · rw [st_v, if_neg (by omega)]
      · refine ⟨a2, a3, ⟨a4, a4'⟩, a5, ⟨?_, f, by omega, st_eq⟩, a7, a8, a9⟩
        rw [st_eq, st_eq]
    · have := hz.1 q q1 q2
      rw [st_v, if_neg (by omega)]
      exact this
theorem S_away (R : RX nh σ ρ ℓ η) (a b : Int32) : SM nh σ ℓ η (f_X8_away σ a b) (f_X9_away ρ a b) := by
  obtain ⟨M, m, w, H, hm, hw, hz, hp, hl, ns, np, nb⟩ := R.1
  have hM := H.1.1
  unfold f_X8_away f_X8_away_0 f_X9_away f_X9_away_0
  rw [q_M8 hM H.1.2.1, q_M9 hM H.1.2.2, bd_s, bd_s]
  rcases bB_c a (n := M) (by omega) with ⟨h, -⟩ | ⟨p, hp', rfl, h⟩
  · rw [h]; simp only [i00]; exact SM.same R _
  rw [h]; simp only [i10]
  have ip : ∀ {β : Type} {x : Option β}, gd (inB (nI p) 6) x = x := z_in (by omega) (by decide)
  have ic : (nI p).toNatClampNeg = p := nI_clamp (by omega)
  obtain ⟨a2, a3, a4, a5, a6, a7, a8, a9⟩ := H.2.2.2.2.1 p hp'
  unfold f_X8_away_26 f_X8_swapIn_6 f_X8_swapIn_6_0 f_X9_away_27 f_X9_goes f_X9_goes_0 f_X9_goes_26
  rw [p_has (show p < 32 by omega)]
  simp only [ip, ic, lt_d, bd_s]
  have key : ∀ (v : Bool) (x : Int32), (∀ i, i < 6 → bt x i = if i = p then v else bt (ρ 1 0) i) → SM nh σ ℓ η (some (σ 1 7 p, va_up σ 1 (s_t (σ 1) 7 p (if v = true then 1 else 0)))) (some (if bt (ρ 1 0) p = true then (1 : Int32) else 0, s_t ρ 1 0 x)) := by
    intro v x hx
    rw [a7]
    refine SM.now R _ ⟨rfl, rfl⟩ (fun q hq => st_ne (by omega)) (Core_s (M := M) (m := m) (w := w) (HR_away H v hx) hm hw ⟨fun q q1 q2 => ?_, hz.2⟩ hp hl ns np nb (fun q r s => st_ne (by omega)))
    obtain ⟨y6, y7, y8, y9⟩ := hz.1 q q1 q2
    refine ⟨y6, ?_, y8, y9⟩
    rw [st_k, if_neg (by omega)]
    exact y7
  by_cases hb : b = 0
  · simp only [if_pos hb]
    have := key false (ρ 1 0 &&& (((1 : Int32) <<< (nI p &&& 31)) ^^^ (-1))) (fun i hi => by
      rw [p_off (by omega) (by omega)]
      by_cases hi : i = p <;> simp [hi])
    by_cases hq : bt (ρ 1 0) p = true
    · rw [b2_t hq, i10]; rw [if_pos hq] at this; exact this
    · rw [b2_f hq, i00]; rw [if_neg hq] at this; exact this
  · simp only [if_neg hb]
    have := key true (ρ 1 0 ||| ((1 : Int32) <<< (nI p &&& 31))) (fun i hi => by
      rw [p_on (by omega) (by omega)]
      by_cases hi : i = p <;> simp [hi])
    by_cases hq : bt (ρ 1 0) p = true
    · rw [b2_t hq, i10]; rw [if_pos hq] at this; exact this
    · rw [b2_f hq, i00]; rw [if_neg hq] at this; exact this
theorem S_ring (R : RX nh σ ρ ℓ η) (a : Int32) : SM nh σ ℓ η (f_X8_ring σ a) (f_X9_ring ρ a) := by
  obtain ⟨M, m, w, H, hm, hw, hz, hp, hl, ns, np, nb⟩ := R.1
  unfold f_X8_ring f_X8_ring_0 f_X9_ring f_X9_ring_0
  rw [q_w a 10 10 rfl, q_F, bd_s, bd_s]
  rcases bB_c a (n := 10) (by omega) with ⟨h, -⟩ | ⟨f, hf, rfl, h⟩
  · rw [h]; simp only [i00]; exact SM.same R _
  rw [h]; simp only [i10]
  obtain ⟨e, g, hg, e'⟩ := H.2.2.2.2.2 f hf
  rw [p_rings hf (e.trans e'), bd_s, lt_d, z_in hf (by decide), nI_clamp (by omega), e', lt_d, z_in hf (by decide), st_ne (by omega), e']
  exact SM.now R _ ⟨rfl, rfl⟩ (fun q hq => st_ne (by omega)) (Core_s (M := M) (m := m) (w := w) (HR_ring H hg) hm hw hz hp hl ns np nb (fun q r s => st_ne (by omega)))
theorem S_cross (R : RX nh σ ρ ℓ η) (a b : Int32) : SM nh σ ℓ η (f_X8_cross σ a b) (f_X9_cross ρ a b) := by
  obtain ⟨M, m, w, H, hm, hw, hz, hp, hl, ns, np, nb⟩ := R.1
  unfold f_X8_cross f_X8_cross_0 f_X9_cross f_X9_cross_0
  rw [q_w a 10 10 rfl, q_F, bd_s, bd_s]
  rcases bB_c a (n := 10) (by omega) with ⟨h, -⟩ | ⟨i, hi, rfl, h⟩
  · rw [h]; simp only [i00]; exact SM.same R _
  rw [h]; simp only [i10]
  rw [q_w b 10 10 rfl, q_F, bd_s, bd_s]
  rcases bB_c b (n := 10) (by omega) with ⟨h, -⟩ | ⟨j, hj, rfl, h⟩
  · rw [h]; simp only [i00]; exact SM.same R _
  rw [h]; simp only [i10]
  by_cases hij : i = j
  · subst hij
    rw [if_pos rfl, if_pos rfl]
    exact SM.same R _
  rw [if_neg (z_neq hij (by omega) (by omega)), if_neg (z_neq hij (by omega) (by omega))]
  have ci : (nI i).toNatClampNeg = i := nI_clamp (by omega)
  have cj : (nI j).toNatClampNeg = j := nI_clamp (by omega)
  have gi : ∀ {β : Type} {x : Option β}, gd (inB (nI i) 10) x = x := z_in hi (by decide)
  have gj : ∀ {β : Type} {x : Option β}, gd (inB (nI j) 10) x = x := z_in hj (by decide)
  obtain ⟨ei, g1, hg1, ei'⟩ := H.2.2.2.2.2 i hi
  obtain ⟨ej, g2, hg2, ej'⟩ := H.2.2.2.2.2 j hj
  unfold f_X8_swapIn_9 f_X8_swapIn_9_0
  simp only [gi, gj, ci, cj, lt_d, bd_s, up_eq, up_up, ei, ej]
  have o1 : s_t (s_t (σ 1) 10 i (ρ 12 j)) 10 j (ρ 12 i) 10 i = ρ 12 j := by rw [st_k, if_neg hij, st_eq]
  have o2 : s_t (s_t ρ 12 i (ρ 12 j)) 12 j (ρ 12 i) 12 i = ρ 12 j := by rw [st_k, if_neg hij, st_eq]
  rw [o1, o2]
  refine SM.now R _ ⟨rfl, rfl⟩ (fun q hq => by rw [st_ne (by omega), st_ne (by omega)]) (Core_s (M := M) (m := m) (w := w) ?_ hm hw hz ?_ hl ns np nb (fun q r s => by rw [st_ne (by omega), st_ne (by omega)]))
  · obtain ⟨h1, h2, h3, h4, h5, h6⟩ := H
    refine ⟨h1, h2, h3, h4, h5, fun f hf => ?_⟩
    simp only [st_k]
    by_cases f1 : f = j
    · rw [if_pos f1, if_pos f1]
      exact ⟨rfl, g1, hg1, ei'⟩
    · rw [if_neg f1, if_neg f1]
      by_cases f2 : f = i
      · rw [if_pos f2, if_pos f2]
        exact ⟨rfl, g2, hg2, ej'⟩
      · rw [if_neg f2, if_neg f2]
        exact h6 f hf
  · have key : ∀ f, s_t (s_t (σ 1) 10 i (ρ 12 j)) 10 j (ρ 12 i) 10 f = σ 1 10 (if f = j then i else if f = i then j else f) := by
      intro f
      simp only [st_k]
      by_cases f1 : f = j
      · rw [if_pos f1, if_pos f1, ei]
      · rw [if_neg f1, if_neg f1]
        by_cases f2 : f = i
        · rw [if_pos f2, if_pos f2, ej]
        · rw [if_neg f2, if_neg f2]
    intro f g hf hg e
    rw [key f, key g] at e
    have := hp _ _ (by split <;> (try split) <;> omega) (by split <;> (try split) <;> omega) e
    revert this
    split <;> split <;> (try split) <;> (try split) <;> omega
theorem S_row (R : RX nh σ ρ ℓ η) (a b c : Int32) : SM nh σ ℓ η (f_X8_row σ a b c) (f_X9_row ρ a b c) := by
  obtain ⟨M, m, w, H, hm, hw, hz, hp, hl, ns, np, nb⟩ := R.1
  have hM := H.1.1
  unfold f_X8_row f_X8_row_0 f_X9_row f_X9_row_0
  rw [q_M8 hM H.1.2.1, q_M9 hM H.1.2.2, bd_s, bd_s]
  rcases bB_c a (n := M) (by omega) with ⟨h, -⟩ | ⟨p, hp', rfl, h⟩
  · rw [h]; simp only [i00]; exact SM.same R _
  rw [h]; simp only [i10]
  rw [q_w b 4 4 rfl, q_i b 0 3 4 rfl rfl, bd_s, bd_s]
  rcases bB_c b (n := 4) (by omega) with ⟨h, -⟩ | ⟨k, hk, rfl, h⟩
  · rw [h]; simp only [i00]; exact SM.same R _
  rw [h]; simp only [i10]
  rw [q_w c 10 10 rfl, q_i c 0 9 10 rfl rfl, bd_s, bd_s]
  rcases bB_c c (n := 10) (by omega) with ⟨h, -⟩ | ⟨x, hx, rfl, h⟩
  · rw [h]; simp only [i00]; exact SM.same R _
  rw [h]; simp only [i10]
  have ip : ∀ {β : Type} {x : Option β}, gd (inB (nI p) 6) x = x := z_in (by omega) (by decide)
  have ic : (nI p).toNatClampNeg = p := nI_clamp (by omega)
  obtain ⟨a2, a3, a4, a5, a6, a7, a8, a9⟩ := H.2.2.2.2.1 p hp'
  rw [ip, ip, ic, a2]
  by_cases h6 : ρ 5 p = 6
  · rw [if_pos h6, if_pos h6]
    unfold f_X8_swapIn_8 f_X8_swapIn_8_0
    rw [n4, pk_mul, pk_mul, nI_add, nI_add, Nat.mul_comm p 4]
    have i24 : ∀ {β : Type} {x : Option β}, gd (inB (nI (4 * p + k)) 24) x = x := z_in (by omega) (by decide)
    have c24 : (nI (4 * p + k)).toNatClampNeg = 4 * p + k := nI_clamp (by omega)
    simp only [i24, c24, lt_d, bd_s]
    rw [a9 k hk]
    refine SM.now R _ ⟨rfl, rfl⟩ (fun q hq => st_ne (by omega)) (Core_s (M := M) (m := m) (w := w) ?_ hm hw ⟨fun q q1 q2 => ?_, fun q q1 q2 => ?_⟩ hp hl ns np nb (fun q r s => st_ne (by omega)))
    · obtain ⟨h1, h2, h3, h4, h5, h6⟩ := H
      refine ⟨h1, h2, h3, h4, fun q hq => ?_, h6⟩
      obtain ⟨t2, t3, t4, t5, t6, t7, t8, t9⟩ := h5 q hq
      refine ⟨t2, t3, t4, t5, t6, t7, t8, fun j hj => ?_⟩
      rw [st_k, st_k]
      by_cases e : 4 * q + j = 4 * p + k
      · rw [if_pos e, if_pos e]
      · rw [if_neg e, if_neg e]
        exact t9 j hj
    · obtain ⟨y6, y7, y8, y9⟩ := hz.1 q q1 q2
      refine ⟨y6, y7, y8, fun j hj => ?_⟩
      rw [st_k, if_neg (by omega)]
      exact y9 j hj
    · obtain ⟨y6, y7, y8⟩ := hz.2 q q1 q2
      refine ⟨y6, y7, fun j hj => ?_⟩
      rw [st_k]
      by_cases e : 4 * q + j = 4 * p + k
      · rw [if_pos e]
        exact ⟨x, hx, rfl⟩
      · rw [if_neg e]
        exact y8 j hj
  · rw [if_neg h6, if_neg h6]
    exact SM.same R _
theorem z_byte : ∀ c, c < 128 → vp_nar .byte (nI c).toInt8.toInt32 = nI c := fun c hc => (pk_vb _).trans ((by decide : ∀ c, c < 128 → (nI c).toInt8.toInt32 = nI c) c hc)
theorem S_feed (R : RX nh σ ρ ℓ η) (a : Int32) : SM nh σ ℓ η (f_X8_feed σ a) (f_X9_feed ρ a) := by
  obtain ⟨⟨n, hn, t1, t2, t3⟩, tl⟩ := R.2.2.2.1
  unfold f_X8_feed f_X8_feed_0 f_X9_feed f_X9_feed_0
  rw [q_w a 128 128 rfl, q_i a 0 127 128 rfl rfl, bd_s, bd_s]
  rcases bB_c a (n := 128) (by omega) with ⟨h, -⟩ | ⟨c, hc, rfl, h⟩
  · rw [h]; simp only [i00]; exact SM.same R _
  rw [h]; simp only [i10]
  rw [t1, t2]
  by_cases h1 : n = 100
  · rw [h1, if_neg (by decide), if_pos (show nI 100 = 100 from rfl)]
    exact SM.same R _
  rw [if_pos (show nI n < 100 from nI_lt (b := 100) (by omega) (by omega)), if_neg (show ¬ nI n = 100 from z_neq (b := 100) h1 (by omega) (by omega))]
  unfold f_X7_adds f_X7_adds_0 f_X7_adds_33
  rw [t1, if_neg (nI_ge (by omega) (by omega)), z_in (by omega) (by decide), z_in (by omega) (by decide), nI_clamp (by omega), z_byte c hc]
  simp only [lt_d, bd_s]
  rw [st_ne (show (1 : Nat) ≠ 0 by omega), st_ne (show (15 : Nat) ≠ 18 by omega), t1, t2, nI_1, st_eq, st_eq]
  refine ⟨nI (n + 1), _, _, rfl, rfl, R.gen (fun o _ h _ _ => up_ne h) (fun k hk => by rw [st_ne (by omega), st_ne (by omega)]) ?_ ?_, ⟨up_ne (by omega), up_ne (by omega)⟩⟩
  · rw [up_eq]
    refine ⟨⟨n + 1, by omega, st_eq, st_eq, fun i hi => ?_⟩, by rw [st_ne (by omega), st_ne (by omega)]; exact tl⟩
    rw [st_ne (show (0 : Nat) ≠ 1 by omega), st_ne (show (18 : Nat) ≠ 15 by omega), st_k, st_k]
    by_cases hi2 : i = n
    · rw [if_pos hi2, if_pos hi2]
      exact ⟨rfl, c, hc, rfl⟩
    · rw [if_neg hi2, if_neg hi2]
      exact t3 i (by omega)
  · rw [up_ne (by omega)]
    exact AcR_e R.2.2.2.2.2.1 ⟨by rw [st_ne (by omega), st_ne (by omega)], by rw [st_ne (by omega), st_ne (by omega)]⟩
end CA
