/-! PURE: minutes, in both -/
theorem HR_w {M m w cb : Nat} {τ ρ : Mm} (H : HR M m w cb τ ρ) {cb' : Nat} (h : cb ≤ cb') : HR M m w cb' τ ρ := by
  obtain ⟨h1, h2, h3, h4, h5, h6⟩ := H
  refine ⟨h1, h2, h3, h4, fun p hp => ?_, h6⟩
  obtain ⟨t1, t2, t3, t4, t5, t6, ⟨t7, c, t8, t9⟩, t10⟩ := h5 p hp
  exact ⟨t1, t2, t3, t4, t5, t6, ⟨t7, c, by omega, t9⟩, t10⟩
theorem Lim.of {C : Nat} {τ ρ τ' ρ' : Mm} (h : Lim C τ ρ) (h1 : τ' 0 = τ 0) (h2 : τ' 1 = τ 1) (h3 : ρ' 31 = ρ 31) (h4 : ρ' 32 = ρ 32) : Lim C τ' ρ' := by
  unfold Lim at h ⊢
  rw [h1, h2, h3, h4]
  exact h
theorem s_mvL {M m w C : Nat} {τ0 ρ0 : Mm} {hs : Ms} (G : HH (τ0 16 0) hs ρ0) (L : Lim C τ0 ρ0) (hm : m + 1 ≤ C) (hC : C ≤ 30000) (hw : w ≤ 10 * m) : ∀ (k i : Nat), i + k = M → ∀ (τ ρ : Mm), HR M m w (m + 1) τ ρ → EF [4, 5, 6, 8, 11, 13] τ τ0 → EF [2, 7, 8, 9, 10, 30] ρ ρ0 → (∀ p, i ≤ p → p < M → ∃ c : Nat, c ≤ m ∧ ρ 10 p = nI c) → ∃ (τ1 ρ1 : Mm) (w1 : Nat), (∀ (n : Nat) (p0 : Int32) (k2 : Mm → Int32 → Option Mm) (v2 : Int32), k < n → f_X1_goes_13L hs p0 k2 n τ v2 (nI i) = k2 τ1 (v2 + 1)) ∧ (∀ n, k < n → f_X9_goMinute_6L n ρ (nI i) = some ρ1) ∧ w1 ≤ 10 * (m + 1) ∧ HR M (m + 1) w1 (m + 1) τ1 ρ1 ∧ EF [4, 5, 6, 8, 11, 13, 14, 15] τ1 τ0 ∧ EF [2, 3, 4, 7, 8, 9, 10, 30] ρ1 ρ0 ∧ ∀ k q, k = 6 ∨ k = 8 → M ≤ q → τ1 k q = τ k q := by
  intro k
  induction k with
  | zero =>
    intro i hi τ ρ H e1 e2 hc
    obtain ⟨⟨a1, a2, a3⟩, ⟨b1, b2, b3⟩, ⟨c1, c2, c3⟩, d, e, f⟩ := H
    obtain ⟨b, hb, u1, u2⟩ := p_bits d.2
    have L' := L.of (e1 0 (by decide)) (e1 1 (by decide)) (e2 31 (by decide)) (e2 32 (by decide))
    refine ⟨s_t (s_t τ 14 0 (nI (w + b))) 15 0 (nI (m + 1)), s_t (s_t ρ 3 0 (nI (w + b))) 4 0 (nI (m + 1)), w + b, ?_, ?_, by omega, ?_, ?_, ?_, fun k q h1 h2 => by rw [st_ne (by omega), st_ne (by omega)]⟩
    · intro n p0 k2 v2 hn
      obtain ⟨n, rfl⟩ : ∃ j, n = j + 1 := ⟨n - 1, by omega⟩
      show f_X1_goes_13 hs p0 k2 _ τ v2 (nI i) = _
      unfold f_X1_goes_13
      rw [a2, show i = M by omega, if_pos (nI_le (Nat.le_refl _) (by omega)), d.1, u1, bd_s, lt_d, lt_d, lt_d, c2, nI_add, (p_cap (c := w + b) (C := 10 * C) (by omega) L'.1.2).1, st_ne (by decide), b2, nI_1]
    · intro n hn
      obtain ⟨n, rfl⟩ : ∃ j, n = j + 1 := ⟨n - 1, by omega⟩
      show f_X9_goMinute_6 _ ρ (nI i) = _
      unfold f_X9_goMinute_6
      have e3 : f_X9_least (nI (w + b)) (ρ 32 0) = some (nI (w + b)) := by
        unfold f_X9_least f_X9_least_0
        rw [ite_some, (p_cap (c := w + b) (C := 10 * C) (by omega) L'.2.2).2]
      rw [a3, show i = M by omega, if_pos (nI_le (Nat.le_refl _) (by omega)), u2, bd_s, c3, nI_add, e3, bd_s, lt_d, lt_d, st_ne (by decide), b3, nI_1]
    · refine ⟨⟨a1, ?_, ?_⟩, ⟨by omega, ?_, ?_⟩, ⟨by omega, ?_, ?_⟩, ⟨?_, ?_⟩, fun p hp => ?_, fun g hg => ?_⟩
      · rw [st_ne (by decide), st_ne (by decide), a2]
      · rw [st_ne (by decide), st_ne (by decide), a3]
      · rw [st_eq]
      · rw [st_eq]
      · rw [st_ne (by decide), st_eq]
      · rw [st_ne (by decide), st_eq]
      · rw [st_ne (by decide), st_ne (by decide), st_ne (by decide), st_ne (by decide), d.1]
      · rw [st_ne (by decide), st_ne (by decide)]
        exact d.2
      · exact e p hp
      · exact f g hg
    · exact ((e1.sub (by decide)).st (by decide)).st (by decide)
    · exact ((e2.sub (by decide)).st (by decide)).st (by decide)
  | succ k ih =>
    intro i hi τ ρ H e1 e2 hc
    have hM := H.1.1
    have G' : HH (τ 16 0) hs ρ := by
      rw [e1 16 (by decide)]
      exact G.of (fun k hk => e2 k (by simp; omega))
    obtain ⟨τ1, ρ1, k1, k2, k3, k4, k5, k6, k7⟩ := s_mv1 H G' (L.of (e1 0 (by decide)) (e1 1 (by decide)) (e2 31 (by decide)) (e2 32 (by decide))) hm (i := i) (by omega) (hc i (Nat.le_refl _) (by omega))
    obtain ⟨τ2, ρ2, w1, j1, j2, j3, j4, j5, j6, j7⟩ := ih (i + 1) (by omega) τ1 ρ1 k3 ((k4.sub (by decide)).tr e1) ((k5.sub (by decide)).tr e2) (fun p h1 h2 => by rw [k6 p (by omega)]; exact hc p (by omega) h2)
    refine ⟨τ2, ρ2, w1, ?_, ?_, j3, j4, j5, j6, fun k q h1 h2 => (j7 k q h1 h2).trans (k7 k q (by omega) (by omega))⟩
    · intro n p0 k2' v2 hn
      obtain ⟨n, rfl⟩ : ∃ j, n = j + 1 := ⟨n - 1, by omega⟩
      show f_X1_goes_13 hs p0 k2' _ τ v2 (nI i) = _
      unfold f_X1_goes_13
      rw [H.1.2.1, if_neg (p_nle (by omega) (by omega)), gd_of (p_inN (by omega) (by decide)), nI_clamp (by omega)]
      refine (k1 (fun u => f_X1_goes_35 hs p0 k2' _ u v2 (nI i))).trans ?_
      unfold f_X1_goes_35
      rw [lt_d, nI_1]
      exact j1 n p0 k2' v2 (by omega)
    · intro n hn
      obtain ⟨n, rfl⟩ : ∃ j, n = j + 1 := ⟨n - 1, by omega⟩
      show f_X9_goMinute_6 _ ρ (nI i) = _
      unfold f_X9_goMinute_6
      rw [H.1.2.2, if_neg (p_nle (by omega) (by omega))]
      refine (k2 (fun u => f_X9_goMinute_65 _ u (nI i))).trans ?_
      unfold f_X9_goMinute_65
      rw [lt_d, nI_1]
      exact j2 n (by omega)
/-- a minute of the class, and many -/
def cmin (hs : Ms) (τ τ1 : Mm) : Prop := ∀ (n : Nat) (p0 : Int32) (v2 : Int32), ¬ p0 ≤ v2 → f_X1_goes_2L hs p0 (n + 1) τ v2 = f_X1_goes_2L hs p0 n τ1 (v2 + 1)
theorem s_min {M m w C : Nat} {τ ρ : Mm} {hs : Ms} (H : HR M m w m τ ρ) (G : HH (τ 16 0) hs ρ) (L : Lim C τ ρ) (hm : m + 1 ≤ C) (hC : C ≤ 30000) (hw : w ≤ 10 * m) : ∃ (τ1 ρ1 : Mm) (w1 : Nat), cmin hs τ τ1 ∧ f_X9_goMinute ρ = some ρ1 ∧ w1 ≤ 10 * (m + 1) ∧ HR M (m + 1) w1 (m + 1) τ1 ρ1 ∧ EF [4, 5, 6, 8, 11, 13, 14, 15] τ1 τ ∧ EF [2, 3, 4, 7, 8, 9, 10, 30] ρ1 ρ ∧ ∀ k q, k = 6 ∨ k = 8 → M ≤ q → τ1 k q = τ k q := by
  obtain ⟨τa, ρa, g1, g2, g3, g4, g5⟩ := s_gives H G
  have hM := H.1.1
  have G' : HH (τa 16 0) hs ρa := by
    rw [g4 16 (by decide)]
    exact G.of (fun k hk => g5 k (by simp; omega))
  obtain ⟨τ1, ρ1, w1, h1, h2, h3, h4, h5, h6, h7⟩ := s_mvL G' (L.of (g4 0 (by decide)) (g4 1 (by decide)) (g5 31 (by decide)) (g5 32 (by decide))) hm hC hw M 0 (by omega) τa ρa (HR_w g3 (by omega)) EF.rf EF.rf (fun p _ hp => (g3.2.2.2.2.1 p hp).2.2.2.2.2.2.1.2)
  refine ⟨τ1, ρ1, w1, ?_, ?_, h3, h4, h5.tr (g4.sub (by decide)), h6.tr (g5.sub (by decide)), fun k q r1 r2 => (h7 k q r1 r2).trans (by rw [g4 k (by simp; omega)])⟩
  · intro n p0 v2 hv
    show f_X1_goes_2 hs p0 _ τ v2 = _
    unfold f_X1_goes_2
    rw [if_neg hv, g1, bd_s]
    exact h1 FU p0 _ v2 (by rw [FU_e]; omega)
  · show f_X9_goMinute_0 ρ = _
    unfold f_X9_goMinute_0
    rw [g2, bd_s]
    exact h2 FU (by rw [FU_e]; omega)
/-- n minutes -/
def cmins (hs : Ms) : Nat → Mm → Mm → Prop
  | 0, τ, τ1 => τ1 = τ
  | n + 1, τ, τ1 => ∃ τa, cmin hs τ τa ∧ cmins hs n τa τ1
def mmins : Nat → Mm → Mm → Prop
  | 0, ρ, ρ1 => ρ1 = ρ
  | n + 1, ρ, ρ1 => ∃ ρa, f_X9_goMinute ρ = some ρa ∧ mmins n ρa ρ1
theorem cmins.go {hs : Ms} : ∀ (n : Nat) (τ τ1 : Mm), cmins hs n τ τ1 → ∀ (i j N : Nat), i + n = N → N < 2 ^ 31 → n < j → f_X1_goes_2L hs (nI N) j τ (nI i) = some τ1 := by
  intro n
  induction n with
  | zero =>
    intro τ τ1 h i j N hi hN hj
    obtain ⟨j, rfl⟩ : ∃ q, j = q + 1 := ⟨j - 1, by omega⟩
    show f_X1_goes_2 hs _ _ _ _ = _
    unfold f_X1_goes_2
    rw [if_pos (nI_le (by omega) (by omega))]
    exact congrArg some (show τ1 = τ from h).symm
  | succ n ih =>
    intro τ τ1 h i j N hi hN hj
    obtain ⟨τa, h1, h2⟩ := h
    obtain ⟨j, rfl⟩ : ∃ q, j = q + 1 := ⟨j - 1, by omega⟩
    rw [h1 j (nI N) (nI i) (nI_ge (by omega) (by omega)), nI_1]
    exact ih τa τ1 h2 (i + 1) j N (by omega) hN (by omega)
theorem cmins.goes {hs : Ms} {n : Nat} {τ τ1 : Mm} (h : cmins hs n τ τ1) (hn : n < 4000) : f_X1_goes τ hs (nI n) = some τ1 := cmins.go n τ τ1 h 0 FU n (by omega) (by omega) (by rw [FU_e]; omega)
theorem mmins.go : ∀ (n : Nat) (τ τ1 : Mm), mmins n τ τ1 → ∀ (i j N : Nat), i + n = N → N < 2 ^ 31 → n < j → f_X9_goMinutes_2L (nI N) j τ (nI i) = some τ1 := by
  intro n
  induction n with
  | zero =>
    intro τ τ1 h i j N hi hN hj
    obtain ⟨j, rfl⟩ : ∃ q, j = q + 1 := ⟨j - 1, by omega⟩
    show f_X9_goMinutes_2 _ _ _ _ = _
    unfold f_X9_goMinutes_2
    rw [if_pos (nI_le (by omega) (by omega))]
    exact congrArg some (show τ1 = τ from h).symm
  | succ n ih =>
    intro τ τ1 h i j N hi hN hj
    obtain ⟨τa, h1, h2⟩ := h
    obtain ⟨j, rfl⟩ : ∃ q, j = q + 1 := ⟨j - 1, by omega⟩
    show f_X9_goMinutes_2 _ _ _ _ = _
    unfold f_X9_goMinutes_2
    rw [if_neg (nI_ge (by omega) (by omega)), h1, bd_s, lt_d, nI_1]
    exact ih τa τ1 h2 (i + 1) j N (by omega) hN (by omega)
theorem mmins.goes {n : Nat} {τ τ1 : Mm} (h : mmins n τ τ1) (hn : n < 4000) : f_X9_goMinutes τ (nI n) = some τ1 := mmins.go n τ τ1 h 0 FU n (by omega) (by omega) (by rw [FU_e]; omega)
theorem cmin.one {hs : Ms} {τ τ1 : Mm} (h : cmin hs τ τ1) : f_X1_goes τ hs 1 = some τ1 := cmins.goes (n := 1) ⟨τ1, h, rfl⟩ (by omega)
theorem s_mins {M C : Nat} {hs : Ms} (hC : C ≤ 30000) : ∀ (n m w : Nat) (τ ρ : Mm), HR M m w m τ ρ → HH (τ 16 0) hs ρ → Lim C τ ρ → m + n ≤ C → w ≤ 10 * m → ∃ (τ1 ρ1 : Mm) (w1 : Nat), cmins hs n τ τ1 ∧ mmins n ρ ρ1 ∧ w1 ≤ 10 * (m + n) ∧ HR M (m + n) w1 (m + n) τ1 ρ1 ∧ EF [4, 5, 6, 8, 11, 13, 14, 15] τ1 τ ∧ EF [2, 3, 4, 7, 8, 9, 10, 30] ρ1 ρ ∧ ∀ k q, k = 6 ∨ k = 8 → M ≤ q → τ1 k q = τ k q := by
  intro n
  induction n with
  | zero =>
    intro m w τ ρ H G L h1 h2
    exact ⟨τ, ρ, w, rfl, rfl, h2, H, EF.rf, EF.rf, fun _ _ _ _ => rfl⟩
  | succ n ih =>
    intro m w τ ρ H G L h1 h2
    obtain ⟨τa, ρa, wa, g1, g2, g3, g4, g5, g6, g7⟩ := s_min H G L (by omega) hC h2
    have G' : HH (τa 16 0) hs ρa := by
      rw [g5 16 (by decide)]
      exact G.of (fun k hk => g6 k (by simp; omega))
    obtain ⟨τ1, ρ1, w1, j1, j2, j3, j4, j5, j6, j7⟩ := ih (m + 1) wa τa ρa g4 G' (L.of (g5 0 (by decide)) (g5 1 (by decide)) (g6 31 (by decide)) (g6 32 (by decide))) (by omega) g3
    refine ⟨τ1, ρ1, w1, ⟨τa, g1, j1⟩, ⟨ρa, g2, j2⟩, by omega, ?_, j5.tr g5, j6.tr g6, fun k q r1 r2 => (j7 k q r1 r2).trans (g7 k q r1 r2)⟩
    rw [show m + (n + 1) = m + 1 + n by omega]
    exact j4
