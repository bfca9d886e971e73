/-! PURE: a minute, in both -/
theorem p_lt1024 {x : Int32} (h : ∀ i : Nat, 10 ≤ i → bt x i = false) : ∃ n : Nat, n < 1024 ∧ x = nI n := by
  refine ⟨x.toBitVec.toNat, ?_, ?_⟩
  · have : x.toBitVec.toNat < 2 ^ 10 := Nat.lt_pow_two_of_testBit _ (fun i hi => by
      have := h i hi
      unfold bt at this
      rwa [BitVec.getLsbD] at this)
    exact this
  · rw [← Int32.toBitVec_inj]
    show x.toBitVec = BitVec.ofNat 32 x.toBitVec.toNat
    rw [BitVec.ofNat_toNat, BitVec.setWidth_eq]
def cB (n : Nat) : Bool := match f_J6_bitCount_0f7a4 (nI n), f_X9_bits (nI n) with
  | some a, some b => a == b && decide (a.toNatClampNeg ≤ 10) && a == nI a.toNatClampNeg
  | _, _ => false
theorem cB_t : ∀ n, n < 1024 → cB n = true := by decide +kernel
theorem p_bits {x : Int32} (h : ∀ i : Nat, 10 ≤ i → bt x i = false) : ∃ b : Nat, b ≤ 10 ∧ f_J6_bitCount_0f7a4 x = some (nI b) ∧ f_X9_bits x = some (nI b) := by
  obtain ⟨n, hn, rfl⟩ := p_lt1024 h
  have := cB_t n hn
  unfold cB at this
  rcases ha : f_J6_bitCount_0f7a4 (nI n) with _ | a
  · rw [ha] at this; simp at this
  rcases hb : f_X9_bits (nI n) with _ | b
  · rw [ha, hb] at this; simp at this
  rw [ha, hb] at this
  simp only [Bool.and_eq_true, decide_eq_true_eq, beq_iff_eq] at this
  obtain ⟨⟨h1, h2⟩, h3⟩ := this
  subst h1
  exact ⟨a.toNatClampNeg, h2, by rw [← h3], by rw [← h3]⟩
theorem nI_m1 {n : Nat} (h : 0 < n) : nI n + (-1 : Int32) = nI (n - 1) := by
  obtain ⟨k, rfl⟩ : ∃ k, n = k + 1 := ⟨n - 1, by omega⟩
  show nI (k + 1) + (-1 : Int32) = nI k
  rw [nI_succ, Int32.add_assoc, show (1 : Int32) + -1 = 0 from by decide, Int32.add_zero]
theorem HR_at {M m w cb cb' : Nat} {τ ρ τ' ρ' : Mm} (H : HR M m w cb τ ρ) (hcb : cb ≤ cb') {p : Nat} (h1 : ∀ k q, ¬ ((k = 4 ∨ k = 5 ∨ k = 6 ∨ k = 8) ∧ q = p) → k ≠ 13 → k ≠ 11 → τ' k q = τ k q) (h2 : ∀ k q, ¬ ((k = 7 ∨ k = 8 ∨ k = 9 ∨ k = 10) ∧ q = p) → k ≠ 2 → k ≠ 30 → ρ' k q = ρ k q) (h3 : p < M → MR cb' τ' ρ' p) (h4 : τ' 13 0 = ρ' 2 0 ∧ ∀ i : Nat, 10 ≤ i → bt (ρ' 2 0) i = false) : HR M m w cb' τ' ρ' := by
  obtain ⟨⟨a1, a2, a3⟩, ⟨b1, b2, b3⟩, ⟨c1, c2, c3⟩, d, e, f⟩ := H
  refine ⟨⟨a1, (h1 12 0 (by omega) (by omega) (by omega)).trans a2, (h2 0 0 (by omega) (by omega) (by omega)).trans a3⟩, ⟨b1, (h1 15 0 (by omega) (by omega) (by omega)).trans b2, (h2 4 0 (by omega) (by omega) (by omega)).trans b3⟩, ⟨c1, (h1 14 0 (by omega) (by omega) (by omega)).trans c2, (h2 3 0 (by omega) (by omega) (by omega)).trans c3⟩, h4, fun q hq => ?_, fun g hg => ?_⟩
  · by_cases hqp : q = p
    · subst hqp; exact h3 hq
    · have := e q hq
      unfold MR at this ⊢
      have z1 : ∀ k, k ≠ 13 → k ≠ 11 → τ' k q = τ k q := fun k => h1 k q (by omega)
      have z2 : ∀ k, k ≠ 2 → k ≠ 30 → ρ' k q = ρ k q := fun k => h2 k q (by omega)
      rw [z1 2 (by omega) (by omega), z1 3 (by omega) (by omega), z1 4 (by omega) (by omega), z1 5 (by omega) (by omega), z1 6 (by omega) (by omega), z1 7 (by omega) (by omega), z1 8 (by omega) (by omega), z2 5 (by omega) (by omega), z2 6 (by omega) (by omega), z2 7 (by omega) (by omega), z2 8 (by omega) (by omega), z2 9 (by omega) (by omega), z2 10 (by omega) (by omega), h2 1 0 (by omega) (by omega) (by omega)]
      obtain ⟨t1, t2, t3, t4, t5, t6, ⟨t7, c, t8, t9⟩, t10⟩ := this
      exact ⟨t1, t2, t3, t4, t5, t6, ⟨t7, c, by omega, t9⟩, fun k hk => by rw [h1 9 _ (by omega) (by omega) (by omega), h2 11 _ (by omega) (by omega) (by omega)]; exact t10 k hk⟩
  · rw [h1 10 g (by omega) (by omega) (by omega), h2 12 g (by omega) (by omega) (by omega)]
    exact f g hg
/-- the step toward a goal -/
def stp (f g : Nat) : Nat := if f < g then f + 1 else if g < f then f - 1 else f
theorem stp_lt {f g : Nat} (hf : f < 10) (hg : g < 10) : stp f g < 10 := by
  unfold stp
  by_cases h1 : f < g
  · rw [if_pos h1]; omega
  · rw [if_neg h1]
    by_cases h2 : g < f
    · rw [if_pos h2]; omega
    · rw [if_neg h2]; omega
theorem p_cmp {f g : Nat} (hf : f < 10) (hg : g < 10) : ∃ u : Int32, f_J6_compare_7cf53 (nI g) (nI f) = some u ∧ nI f + u = nI (stp f g) := by
  unfold f_J6_compare_7cf53 f_J6_compare_7cf53_0 stp
  by_cases h1 : f < g
  · rw [if_pos (nI_le (by omega) (by omega)), if_neg (fun q => by rw [nI_eq (by omega) (by omega)] at q; omega), if_pos h1]
    exact ⟨1, rfl, nI_1 f⟩
  · rw [if_neg h1]
    by_cases h2 : g < f
    · rw [if_neg (nI_ge h2 (by omega)), if_pos h2]
      exact ⟨-1, rfl, nI_m1 (by omega)⟩
    · have : f = g := by omega
      subst this
      rw [if_neg h2, if_pos (nI_le (by omega) (by omega)), if_pos rfl]
      exact ⟨0, rfl, Int32.add_zero _⟩
theorem s_moves8 {τ : Mm} {hs : Ms} {i f g : Nat} (hi : i < 6) (hf : f < 10) (hg : g < 10) (h4 : τ 4 i = nI f) (h5 : τ 5 i = nI g) (h16 : τ 16 0 = 0 ∨ inH (τ 16 0) = true) : f_X1_moves τ hs (nI i) = if stp f g = g then some (s_t (s_t (s_t (s_t (s_t τ 4 i (nI (stp f g))) 8 i (if τ 8 i + 1 < τ 0 0 then τ 8 i + 1 else τ 0 0)) 13 0 (τ 13 0 &&& (((1 : Int32) <<< (nI g &&& 31)) ^^^ (-1 : Int32)))) 5 i (-5)) 6 i (if τ 16 0 = 0 then 2 else hs (τ 16 0).toNatClampNeg 2 0)) else some (s_t τ 4 i (nI (stp f g))) := by
  have ip := p_inN (i := i) (n := 6) hi (by decide)
  have ic : (nI i).toNatClampNeg = i := nI_clamp (by omega)
  obtain ⟨u, u1, u2⟩ := p_cmp hf hg
  have hl := stp_lt hf hg
  unfold f_X1_moves f_X1_moves_0
  simp only [gd_of ip, ic, h4, h5, if_neg (p_m5 (show g < 2 ^ 30 by omega)), u1, bd_s, u2, lt_d]
  have x4 : s_t τ 4 i (nI (stp f g)) 4 i = nI (stp f g) := st_eq
  have x5 : s_t τ 4 i (nI (stp f g)) 5 i = nI g := by rw [st_ne (by omega), h5]
  simp only [x4, x5, nI_eq (show stp f g < 2 ^ 31 by omega) (show g < 2 ^ 31 by omega)]
  by_cases h : stp f g = g
  · rw [if_pos h, if_pos h]
    unfold f_X1_moves_140
    simp only [gd_of ip, ic, lt_d]
    rcases h16 with h16 | h16
    · simp [st_v, h16, h5]
    · have hn : ¬ τ 16 0 = 0 := by
        intro q
        rw [q] at h16
        exact absurd h16 (by decide)
      simp [st_v, hn, h5, gd_of h16]
  · rw [if_neg h, if_neg h]
theorem s_comes9 {ρ : Mm} {i f g r : Nat} (hi : i < 6) (hf : f < 10) (hg : g < 10) (h4 : ρ 7 i = nI f) (h5 : ρ 8 i = nI g) (hr : ∀ ρ' : Mm, (∀ k, k = 14 ∨ (19 ≤ k ∧ k ≤ 24) → ρ' k = ρ k) → f_X9_rest ρ' = some (nI r)) : ∃ ρa : Mm, ρa 7 i = nI (stp f g) ∧ (∀ k q, ¬ (k = 7 ∧ q = i) → ρa k q = ρ k q) ∧ f_X9_comes ρ (nI i) = if stp f g = g then some (s_t (s_t (s_t (s_t ρa 10 i (if ρ 31 0 ≤ ρ 10 i + 1 then ρ 31 0 else ρ 10 i + 1)) 2 0 (ρ 2 0 &&& (((1 : Int32) <<< (nI g &&& 31)) ^^^ (-1 : Int32)))) 8 i (-5)) 9 i (nI r)) else some ρa := by
  have ip := p_inN (i := i) (n := 6) hi (by decide)
  have ic : (nI i).toNatClampNeg = i := nI_clamp (by omega)
  have hl := stp_lt hf hg
  have key : ∀ ρa : Mm, ρa 7 i = nI (stp f g) → (∀ k q, ¬ (k = 7 ∧ q = i) → ρa k q = ρ k q) → f_X9_comes_41 (nI i) ρa (nI g) = if stp f g = g then some (s_t (s_t (s_t (s_t ρa 10 i (if ρ 31 0 ≤ ρ 10 i + 1 then ρ 31 0 else ρ 10 i + 1)) 2 0 (ρ 2 0 &&& (((1 : Int32) <<< (nI g &&& 31)) ^^^ (-1 : Int32)))) 8 i (-5)) 9 i (nI r)) else some ρa := by
    intro ρa e1 e2
    unfold f_X9_comes_41
    simp only [gd_of ip, ic, e1, nI_eq (show stp f g < 2 ^ 31 by omega) (show g < 2 ^ 31 by omega)]
    by_cases h : stp f g = g
    · rw [if_pos h, if_pos h, e2 10 i (by omega), e2 31 0 (by omega)]
      have e3 : f_X9_least (ρ 10 i + 1) (ρ 31 0) = some (if ρ 31 0 ≤ ρ 10 i + 1 then ρ 31 0 else ρ 10 i + 1) := by
        unfold f_X9_least f_X9_least_0
        rw [ite_some]
      rw [e3, bd_s, lt_d, lt_d, lt_d, hr, bd_s, lt_d]
      · simp only [st_v]
        rw [if_neg (show ¬ ((2 : Nat) = 10 ∧ 0 = i) by omega), e2 2 0 (by omega)]
      · intro k hk
        funext q
        simp only [st_v]
        rw [if_neg (by omega), if_neg (by omega), if_neg (by omega), e2 k q (by omega)]
    · rw [if_neg h, if_neg h]
  by_cases hfg : f = g
  · refine ⟨ρ, by rw [h4, hfg]; unfold stp; simp, fun _ _ _ => rfl, ?_⟩
    rw [← key ρ (by rw [h4, hfg]; unfold stp; simp) (fun _ _ _ => rfl)]
    unfold f_X9_comes f_X9_comes_0
    simp only [gd_of ip, ic, h4, h5, lt_d, if_pos (show nI f = nI g by rw [hfg])]
  · refine ⟨s_t ρ 7 i (nI (stp f g)), by simp [st_v], fun k q hk => by simp only [st_v]; rw [if_neg (by omega)], ?_⟩
    rw [← key (s_t ρ 7 i (nI (stp f g))) (by simp [st_v]) (fun k q hk => by simp only [st_v]; rw [if_neg (by omega)])]
    unfold f_X9_comes f_X9_comes_0 f_X9_comes_39 stp
    simp only [gd_of ip, ic, h4, h5, lt_d, if_neg (show ¬ nI f = nI g by rw [nI_eq (by omega) (by omega)]; exact hfg)]
    by_cases h1 : f < g
    · rw [if_neg (nI_ge h1 (by omega)), if_pos h1, nI_1]
    · rw [if_neg h1, if_pos (show g < f by omega), if_pos (nI_le (show g ≤ f by omega) (by omega)), nI_m1 (by omega)]
