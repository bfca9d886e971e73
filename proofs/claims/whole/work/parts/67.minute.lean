/-! PURE: a minute, in both: all masters -/
theorem p_cap {c C : Nat} {x : Int32} (h : c ≤ C) (hx : (C : Int) ≤ x.toInt) : (if nI c < x then nI c else x) = nI c ∧ (if x ≤ nI c then x else nI c) = nI c := by
  have h31 : c < 2 ^ 31 := by have := (p_rng x).2; omega
  have e := nI_toInt h31
  constructor
  · by_cases q : nI c < x
    · rw [if_pos q]
    · rw [if_neg q, p_eq]
      rw [p_lt] at q
      omega
  · by_cases q : x ≤ nI c
    · rw [if_pos q, p_eq]
      rw [p_le] at q
      omega
    · rw [if_neg q]
theorem EF.sub {L L' : List Nat} {a b : Mm} (h : EF L a b) (hs : ∀ k, k ∈ L → k ∈ L') : EF L' a b := fun k hk => h k (fun q => hk (hs k q))
theorem ef_s {L : List Nat} {a : Mm} {k i : Nat} {x : Int32} (hk : k ∈ L) : EF L (s_t a k i x) a := EF.st EF.rf hk
theorem s_mv1 {M m w C : Nat} {τ ρ : Mm} {hs : Ms} (H : HR M m w (m + 1) τ ρ) (G : HH (τ 16 0) hs ρ) (L : Lim C τ ρ) (hm : m + 1 ≤ C) {i : Nat} (hi : i < M) (hc : ∃ c : Nat, c ≤ m ∧ ρ 10 i = nI c) : ∃ τ1 ρ1 : Mm, (∀ K : Mm → Option Mm, (if τ 7 i = 0 then bd (f_X1_moves τ hs (nI i)) K else K τ) = K τ1) ∧ (∀ K : Mm → Option Mm, bd (f_X9_has (ρ 1 0) (nI i)) (fun u7 => if u7 = (0 : Int32) then gd (inB (nI i) 6) (if ρ 8 (nI i).toNatClampNeg < (0 : Int32) then gd (inB (nI i) 6) (if ρ 9 (nI i).toNatClampNeg ≤ (0 : Int32) then K ρ else gd (inB (nI i) 6) (gd (inB (nI i) 6) (lt (s_t ρ 9 (nI i).toNatClampNeg (ρ 9 (nI i).toNatClampNeg - (1 : Int32))) K))) else bd (f_X9_comes ρ (nI i)) K) else K ρ) = K ρ1) ∧ HR M m w (m + 1) τ1 ρ1 ∧ EF [4, 5, 6, 8, 13] τ1 τ ∧ EF [2, 7, 8, 9, 10] ρ1 ρ ∧ (∀ p, p ≠ i → ρ1 10 p = ρ 10 p) ∧ ∀ k q, q ≠ i → k ≠ 13 → τ1 k q = τ k q := by
  have hM := H.1.1
  have ip := p_inN (i := i) (n := 6) (by omega) (by decide)
  have ic : (nI i).toNatClampNeg = i := nI_clamp (by omega)
  have hMR := H.2.2.2.2.1 i hi
  obtain ⟨a2, a3, ⟨a4, f, hf, a4'⟩, ⟨a5, a5'⟩, ⟨a6, r, hr, a6'⟩, a7, ⟨a8, c0, -, -⟩, a9⟩ := hMR
  obtain ⟨c, hc1, hc2⟩ := hc
  have hR := H.2.2.2.1
  have n10 : ¬ (1 : Int32) = 0 := by decide
  simp only [p_has (x := ρ 1 0) (show i < 32 by omega), bd_s, gd_of ip, ic]
  by_cases hb : bt (ρ 1 0) i = true
  · rw [if_pos hb] at a7
    refine ⟨τ, ρ, fun K => ?_, fun K => ?_, H, EF.rf, EF.rf, fun _ _ => rfl, fun _ _ _ _ => rfl⟩
    · rw [a7, if_neg n10]
    · rw [b2_t hb, if_neg n10]
  rw [if_neg hb] at a7
  simp only [b2_f hb, if_true, a7]
  rcases a5' with a5' | ⟨g, hg, a5'⟩
  · have t5 : τ 5 i = -5 := a5.trans a5'
    have m50 : (-5 : Int32) < 0 := by decide
    simp only [a5', if_pos m50]
    have e8 : ∀ K : Mm → Option Mm, bd (f_X1_moves τ hs (nI i)) K = K (s_t τ 6 i (if 0 < τ 6 i - (1 : Int32) then τ 6 i - (1 : Int32) else 0)) := by
      intro K
      unfold f_X1_moves f_X1_moves_0
      simp only [gd_of ip, ic, t5, if_true, lt_d, bd_s]
    by_cases r0 : r = 0
    · subst r0
      refine ⟨_, ρ, e8, fun K => ?_, ?_, ef_s (by decide), EF.rf, fun _ _ => rfl, fun k q h1 h2 => by rw [st_v, if_neg (by omega)]⟩
      · rw [a6']
        exact if_pos (by decide)
      · refine HR_at H (Nat.le_refl _) (p := i) (fun k q h1 h2 h3 => ?_) (fun _ _ _ _ _ => rfl) (fun _ => ?_) (by rw [st_ne (by decide)]; exact hR)
        · rw [st_v, if_neg (by omega)]
        · refine ⟨a2, a3, ⟨a4, f, hf, a4'⟩, ⟨a5, Or.inl a5'⟩, ⟨?_, 0, by omega, a6'⟩, ?_, ⟨a8, c, by omega, hc2⟩, a9⟩
          · rw [st_eq, a6, a6']
            decide
          · rw [st_ne (by decide), a7, if_neg hb]
    · obtain ⟨r, rfl⟩ : ∃ j, r = j + 1 := ⟨r - 1, by omega⟩
      have e6 : (if 0 < τ 6 i - (1 : Int32) then τ 6 i - (1 : Int32) else 0) = nI r := by
        rw [a6, a6', nI_pred]
        by_cases h0 : r = 0
        · subst h0; rfl
        · rw [if_pos (by have := nI_lt (a := 0) (b := r) (by omega) (by omega); exact this)]
      rw [e6] at e8
      refine ⟨_, s_t ρ 9 i (nI r), e8, fun K => ?_, ?_, ef_s (by decide), ef_s (by decide), fun _ _ => rfl, fun k q h1 h2 => by rw [st_v, if_neg (by omega)]⟩
      · rw [a6', if_neg (nI_nle (by omega) (by omega)), lt_d, nI_pred]
      · refine HR_at H (Nat.le_refl _) (p := i) (fun k q h1 h2 h3 => ?_) (fun k q h1 h2 h3 => ?_) (fun _ => ?_) (by rw [st_ne (by decide), st_ne (by decide)]; exact hR)
        · rw [st_v, if_neg (by omega)]
        · rw [st_v, if_neg (by omega)]
        · refine ⟨a2, a3, ⟨a4, f, hf, a4'⟩, ⟨a5, Or.inl a5'⟩, ⟨?_, r, by omega, ?_⟩, ?_, ⟨a8, c, by omega, hc2⟩, a9⟩
          · rw [st_eq, st_eq]
          · rw [st_eq]
          · rw [st_ne (by decide), st_ne (by decide), a7, if_neg hb]
  · have t4 := a4.trans a4'
    have t5 := a5.trans a5'
    have hg0 : ¬ nI g < 0 := nI_pos (by omega)
    simp only [a5', if_neg hg0]
    obtain ⟨G1, ⟨rr, hrr, G2, G3⟩, G4⟩ := G
    obtain ⟨ρa, z1, z2, z3⟩ := s_comes9 (i := i) (by omega) hf hg a4' a5' G3
    rw [z3, s_moves8 (i := i) (by omega) hf hg t4 t5 G4, G2, a8, hc2, nI_1, (p_cap (c := c + 1) (by omega) L.1.1).1, (p_cap (c := c + 1) (by omega) L.2.1).2]
    have hl := stp_lt hf hg
    by_cases h : stp f g = g
    · simp only [if_pos h, bd_s]
      refine ⟨_, _, fun K => rfl, fun K => rfl, ?_, ?_, ?_, fun p hp => ?_, fun k q h1 h2 => by simp only [st_v]; rw [if_neg (by omega), if_neg (by omega), if_neg (by omega), if_neg (by omega), if_neg (by omega)]⟩
      · refine HR_at H (Nat.le_refl _) (p := i) (fun k q h1 h2 h3 => ?_) (fun k q h1 h2 h3 => ?_) (fun _ => ?_) ?_
        · simp only [st_v]
          rw [if_neg (by omega), if_neg (by omega), if_neg (by omega), if_neg (by omega), if_neg (by omega)]
        · simp only [st_v]
          rw [if_neg (by omega), if_neg (by omega), if_neg (by omega), if_neg (by omega), z2 k q (by omega)]
        · refine ⟨?_, ?_, ⟨?_, stp f g, hl, ?_⟩, ⟨?_, Or.inl ?_⟩, ⟨?_, rr, by omega, ?_⟩, ?_, ⟨?_, c + 1, by omega, ?_⟩, fun k hk => ?_⟩
          · simp [st_v, z2 5 i (by omega), a2]
          · simp [st_v, z2 6 i (by omega), a3]
          · simp [st_v, z1]
          · simp [st_v, z1]
          · simp [st_v]
          · simp [st_v]
          · simp [st_v]
          · simp [st_v]
          · simp [st_v, z2 1 0 (by omega), a7, hb]
          · simp [st_v]
          · simp [st_v]
          · simp [st_v, z2 11 (4 * i + k) (by omega), a9 k hk]
        · simp only [st_v]
          refine ⟨by simp [hR.1], fun j hj => ?_⟩
          simp only [show ¬ ((2 : Nat) = 9 ∧ 0 = i) by omega, show ¬ ((2 : Nat) = 8 ∧ 0 = i) by omega, if_false, true_and, if_true]
          rw [b_and, hR.2 j hj, Bool.false_and]
      · exact (((((EF.rf.st (by decide)).st (by decide)).st (by decide)).st (by decide)).st (by decide))
      · refine fun k hk => ?_
        have : k ≠ 2 ∧ k ≠ 7 ∧ k ≠ 8 ∧ k ≠ 9 ∧ k ≠ 10 := by simpa using hk
        rw [st_ne (by omega), st_ne (by omega), st_ne (by omega), st_ne (by omega)]
        funext q
        exact z2 k q (by omega)
      · simp only [st_v]
        rw [if_neg (by omega), if_neg (by omega), if_neg (by omega), if_neg (by omega), z2 10 p (by omega)]
    · simp only [if_neg h, bd_s]
      refine ⟨_, _, fun K => rfl, fun K => rfl, ?_, ef_s (by decide), ?_, fun p hp => z2 10 p (by omega), fun k q h1 h2 => by rw [st_v, if_neg (by omega)]⟩
      · refine HR_at H (Nat.le_refl _) (p := i) (fun k q h1 h2 h3 => ?_) (fun k q h1 h2 h3 => z2 k q (by omega)) (fun _ => ?_) ?_
        · rw [st_v, if_neg (by omega)]
        · refine ⟨?_, ?_, ⟨?_, stp f g, hl, ?_⟩, ⟨?_, Or.inr ⟨g, hg, ?_⟩⟩, ⟨?_, r, by omega, ?_⟩, ?_, ⟨?_, c, by omega, ?_⟩, fun k hk => ?_⟩
          · simp [st_v, z2 5 i (by omega), a2]
          · simp [st_v, z2 6 i (by omega), a3]
          · simp [st_v, z1]
          · simp [z1]
          · simp [st_v, z2 8 i (by omega), a5]
          · simp [z2 8 i (by omega), a5']
          · simp [st_v, z2 9 i (by omega), a6]
          · simp [z2 9 i (by omega), a6']
          · simp [st_v, z2 1 0 (by omega), a7, hb]
          · simp [st_v, z2 10 i (by omega), a8]
          · simp [z2 10 i (by omega), hc2]
          · simp [st_v, z2 11 (4 * i + k) (by omega), a9 k hk]
        · rw [st_ne (by decide), z2 2 0 (by omega)]
          exact hR
      · intro k hk
        have : k ≠ 7 := by
          intro q
          exact hk (by simp [q])
        funext q
        exact z2 k q (by omega)
