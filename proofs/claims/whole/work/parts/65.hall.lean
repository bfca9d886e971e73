/-! PURE: the hall and the model -/
def MR (m : Nat) (τ ρ : Mm) (p : Nat) : Prop :=
  τ 2 p = ρ 5 p ∧ τ 3 p = ρ 6 p ∧ (τ 4 p = ρ 7 p ∧ ∃ f : Nat, f < 10 ∧ ρ 7 p = nI f) ∧ (τ 5 p = ρ 8 p ∧ (ρ 8 p = -5 ∨ ∃ f : Nat, f < 10 ∧ ρ 8 p = nI f)) ∧ (τ 6 p = ρ 9 p ∧ ∃ r : Nat, r < 1000 ∧ ρ 9 p = nI r) ∧ (τ 7 p = if bt (ρ 1 0) p = true then 1 else 0) ∧ (τ 8 p = ρ 10 p ∧ ∃ c : Nat, c ≤ m ∧ ρ 10 p = nI c) ∧ ∀ k : Nat, k < 4 → τ 9 (4 * p + k) = ρ 11 (4 * p + k)
/-- M masters, minute m, w waited, cb a bound of CAME -/
def HR (M m w cb : Nat) (τ ρ : Mm) : Prop :=
  (M ≤ 6 ∧ τ 12 0 = nI M ∧ ρ 0 0 = nI M) ∧ (m ≤ 30000 ∧ τ 15 0 = nI m ∧ ρ 4 0 = nI m) ∧ (w ≤ 300000 ∧ τ 14 0 = nI w ∧ ρ 3 0 = nI w) ∧ (τ 13 0 = ρ 2 0 ∧ ∀ i : Nat, 10 ≤ i → bt (ρ 2 0) i = false) ∧ (∀ p : Nat, p < M → MR cb τ ρ p) ∧ (∀ f : Nat, f < 10 → τ 10 f = ρ 12 f ∧ ∃ g : Nat, g < 10 ∧ ρ 12 f = nI g)
theorem HR_c {M m w cb : Nat} {τ ρ τ' ρ' : Mm} (h : HR M m w cb τ ρ) (h1 : ∀ k, k ≠ 11 → τ' k = τ k) (h2 : ∀ k, k ≠ 30 → ρ' k = ρ k) : HR M m w cb τ' ρ' := by
  unfold HR MR at h ⊢
  simp only [h1 2 (by decide), h1 3 (by decide), h1 4 (by decide), h1 5 (by decide), h1 6 (by decide), h1 7 (by decide), h1 8 (by decide), h1 9 (by decide), h1 10 (by decide), h1 12 (by decide), h1 13 (by decide), h1 14 (by decide), h1 15 (by decide), h2 0 (by decide), h2 1 (by decide), h2 2 (by decide), h2 3 (by decide), h2 4 (by decide), h2 5 (by decide), h2 6 (by decide), h2 7 (by decide), h2 8 (by decide), h2 9 (by decide), h2 10 (by decide), h2 11 (by decide), h2 12 (by decide)]
  exact h
/-- no cap binds up to minute C -/
def Lim (C : Nat) (τ ρ : Mm) : Prop := ((C : Int) ≤ (τ 0 0).toInt ∧ 10 * (C : Int) ≤ (τ 1 0).toInt) ∧ (C : Int) ≤ (ρ 31 0).toInt ∧ 10 * (C : Int) ≤ (ρ 32 0).toInt
/-- what a sum is, in both -/
def SO (M : Nat) (τ : Mm) (hs : Ms) (ρ : Mm) : Prop := ∀ p f : Nat, p < M → f < 10 → ∃ (S : Int32) (τ1 ρ1 : Mm), f_X1_sum τ hs (nI p) (nI f) = some (S, τ1) ∧ (∀ k, k ≠ 11 → τ1 k = τ k) ∧ f_X9_sum ρ (nI p) (nI f) = some (S, ρ1) ∧ ∀ k, k ≠ 30 → ρ1 k = ρ k
theorem p_free8 {τ : Mm} {p : Nat} (hp : p < 6) : f_X1_isFree τ (nI p) = some (b2 (τ 7 p = 0 ∧ τ 5 p = -5 ∧ τ 6 p = 0)) := by
  unfold f_X1_isFree f_X1_isFree_0
  rw [gd_of (p_inN hp (by decide)), gd_of (p_inN hp (by decide)), gd_of (p_inN hp (by decide)), nI_clamp (by omega)]
  by_cases h1 : τ 7 p = 0
  · rw [if_pos h1]
    by_cases h2 : τ 5 p = -5
    · rw [if_pos h2]
      by_cases h3 : τ 6 p = 0
      · rw [if_pos h3, b2_t ⟨h1, h2, h3⟩]
      · rw [if_neg h3, b2_f (fun q => h3 q.2.2)]
    · rw [if_neg h2, b2_f (fun q => h2 q.2.1)]
  · rw [if_neg h1, b2_f (fun q => h1 q.1)]
theorem p_free9 {ρ : Mm} {p : Nat} (hp : p < 6) : f_X9_isFree ρ (nI p) = some (b2 (¬ bt (ρ 1 0) p = true ∧ ¬ (0 : Int32) ≤ ρ 8 p ∧ ρ 9 p = 0)) := by
  unfold f_X9_isFree f_X9_isFree_0
  rw [p_has (by omega), bd_s, gd_of (p_inN hp (by decide)), gd_of (p_inN hp (by decide)), nI_clamp (by omega)]
  by_cases h1 : bt (ρ 1 0) p = true
  · rw [b2_t h1, if_neg (by decide), b2_f (fun q => q.1 h1)]
  · rw [b2_f h1, if_pos rfl]
    by_cases h2 : (0 : Int32) ≤ ρ 8 p
    · rw [if_pos h2, b2_f (fun q => q.2.1 h2)]
    · rw [if_neg h2]
      by_cases h3 : ρ 9 p = 0
      · rw [if_pos h3, b2_t ⟨h1, h2, h3⟩]
      · rw [if_neg h3, b2_f (fun q => h3 q.2.2)]
theorem p_goal {x : Int32} (h : x = -5 ∨ ∃ f : Nat, f < 10 ∧ x = nI f) : (x = -5 ↔ ¬ (0 : Int32) ≤ x) ∧ (x < 0 ↔ x = -5) := by
  rcases h with h | ⟨f, hf, h⟩
  · subst h
    exact ⟨by decide, by decide⟩
  · have h0 : (0 : Int32) ≤ x := by rw [h]; exact nI_pos' (by omega)
    have h1 : ¬ x = -5 := by
      intro q
      rw [q] at h0
      exact absurd h0 (by decide)
    refine ⟨⟨fun q => absurd q h1, fun q => absurd h0 q⟩, ⟨fun q => ?_, fun q => absurd q h1⟩⟩
    rw [p_lt] at q
    rw [p_le] at h0
    omega
theorem s_free {M m w cb : Nat} {τ ρ : Mm} (H : HR M m w cb τ ρ) {p : Nat} (hp : p < M) : f_X1_isFree τ (nI p) = some (b2 (τ 7 p = 0 ∧ τ 5 p = -5 ∧ τ 6 p = 0)) ∧ f_X9_isFree ρ (nI p) = some (b2 (τ 7 p = 0 ∧ τ 5 p = -5 ∧ τ 6 p = 0)) := by
  have hM := H.1.1
  refine ⟨p_free8 (by omega), ?_⟩
  rw [p_free9 (by omega)]
  obtain ⟨-, -, -, ⟨a5, a5'⟩, ⟨a6, -⟩, a7, -⟩ := H.2.2.2.2.1 p hp
  refine congrArg some (b2_c ?_)
  rw [a5, a6, a7, (p_goal a5').1]
  by_cases hb : bt (ρ 1 0) p = true
  · simp [hb]
  · simp [hb]
theorem p_whoN {τ : Mm} {x : Int32} {M : Nat} (hM : M ≤ 6) (h : τ 0 0 = nI M) : ∀ (k i n : Nat), i + k = M → k < n → f_X9_whoGoes_2L τ x n (nI i) = some (ff (fun p => decide (τ 8 p = x)) i k) := by
  intro k
  induction k with
  | zero =>
    intro i n hi hn
    obtain ⟨n, rfl⟩ : ∃ j, n = j + 1 := ⟨n - 1, by omega⟩
    show f_X9_whoGoes_2 τ x _ _ = _
    unfold f_X9_whoGoes_2
    rw [h, show i = M by omega, if_pos (nI_le (Nat.le_refl _) (by omega))]
    rfl
  | succ k ih =>
    intro i n hi hn
    obtain ⟨n, rfl⟩ : ∃ j, n = j + 1 := ⟨n - 1, by omega⟩
    show f_X9_whoGoes_2 τ x _ _ = _
    unfold f_X9_whoGoes_2 ff
    rw [h, if_neg (p_nle (by omega) (by omega)), gd_of (p_inN (by omega) (by decide)), nI_clamp (by omega)]
    by_cases he : τ 8 i = x
    · rw [if_pos he, if_pos (by simp [he])]
    · rw [if_neg he, if_neg (by simp [he]), lt_d, nI_1, ih (i + 1) n (by omega) (by omega)]
theorem s_who {M m w cb : Nat} {τ ρ : Mm} (H : HR M m w cb τ ρ) (x : Int32) : ∃ r : Int32, f_X1_whoseGoal τ x = some r ∧ f_X9_whoGoes ρ x = some r ∧ (r = -5 ∨ ∃ p : Nat, p < M ∧ r = nI p ∧ τ 5 p = x) := by
  refine ⟨_, p_whoseGoal H.1.1 H.1.2.1, ?_, ?_⟩
  · show f_X9_whoGoes_2L ρ x FU (nI 0) = _
    rw [p_whoN H.1.1 H.1.2.2 M 0 FU (by omega) (by have := H.1.1; rw [FU_e]; omega)]
    refine congrArg some (ff_c M 0 (fun p _ h2 => ?_))
    have := (H.2.2.2.2.1 p (by omega)).2.2.2.1.1
    rw [this]
  · rcases ff_r (b := fun p => decide (τ 5 p = x)) M 0 with h | ⟨p, h1, h2, h3, h4⟩
    · exact Or.inl h
    · exact Or.inr ⟨p, by omega, h3, of_decide_eq_true h4⟩
theorem p_m5 {p : Nat} (h : p < 2 ^ 30) : ¬ nI p = -5 := by
  intro q
  have := nI_toInt (n := p) (by omega)
  rw [q] at this
  rw [show (-5 : Int32).toInt = -5 from rfl] at this
  omega
theorem s_open {M m w cb : Nat} {τ ρ : Mm} (H : HR M m w cb τ ρ) {f : Nat} (hf : f < 10) : ∃ r : Int32, f_X1_waitsFor τ (nI f) = some r ∧ f_X9_isOpen ρ (nI f) = some r := by
  obtain ⟨r, h1, h2, h3⟩ := s_who H (nI f)
  unfold f_X1_waitsFor f_X1_waitsFor_0 f_X9_isOpen f_X9_isOpen_0
  rw [p_rung (by omega), bd_s, p_has (by omega), bd_s, h1, h2, bd_s, bd_s, H.2.2.2.1.1]
  by_cases hb : bt (ρ 2 0) f = true
  · have n10 : ¬ (1 : Int32) = 0 := by decide
    rw [b2_t hb, if_neg n10, if_neg n10]
    rcases h3 with h | ⟨p, hp, h, -⟩
    · rw [h, if_pos rfl, if_neg (by decide)]
      exact ⟨1, rfl, rfl⟩
    · have hM := H.1.1
      rw [h, if_neg (p_m5 (by omega)), if_pos (nI_pos' (by omega))]
      exact ⟨0, rfl, rfl⟩
  · rw [b2_f hb, if_pos rfl, if_pos rfl]
    exact ⟨0, rfl, rfl⟩
theorem n2 : (2 : Int32) = nI 2 := rfl
theorem n4 : (4 : Int32) = nI 4 := rfl
theorem p_r2 {m : Nat} (h : m < 2 ^ 31) : nI m - nI m / (2 : Int32) * (2 : Int32) = nI (m % 2) := pk_rem (d := 2) h (by decide) (by decide)
theorem p_r4 {m : Nat} (h : m < 2 ^ 31) : nI m - nI m / (4 : Int32) * (4 : Int32) = nI (m % 4) := pk_rem (d := 4) h (by decide) (by decide)
theorem s_cost {M m w cb : Nat} {τ ρ : Mm} {hs : Ms} (H : HR M m w cb τ ρ) (S : SO M τ hs ρ) {p f : Nat} (hp : p < M) (hf : f < 10) : ∃ (c : Int32) (τ1 ρ1 : Mm), f_X1_cost τ hs (nI p) (nI f) = some (c, τ1) ∧ (∀ k, k ≠ 11 → τ1 k = τ k) ∧ f_X9_cost ρ (nI p) (nI f) = some (c, ρ1) ∧ ∀ k, k ≠ 30 → ρ1 k = ρ k := by
  obtain ⟨s, τ1, ρ1, h1, e1, h2, e2⟩ := S p f hp hf
  have hM := H.1.1
  have H1 := HR_c H e1 e2
  obtain ⟨a2, a3, ⟨a4, -⟩, -, -, -, ⟨a8, -⟩, a9⟩ := H1.2.2.2.2.1 p hp
  obtain ⟨hm, m1, m2⟩ := H1.2.1
  have ip := p_inN (i := p) (n := 6) (by omega) (by decide)
  have ic : (nI p).toNatClampNeg = p := nI_clamp (by omega)
  -- both tails, for any w0
  have key : ∀ w0 : Int32, ∃ c : Int32, f_X1_cost_27 hs (nI p) (nI f) τ1 s w0 = some (c, τ1) ∧ f_X9_cost_29 (nI p) (nI f) ρ1 s (s + w0) = some (c, ρ1) := by
    intro w0
    unfold f_X1_cost_27 f_X9_cost_29 f_X9_cost_116
    simp only [gd_of ip, ic, a2, a3, a8, lt_d, m1, m2]
    rw [p_r2 (by omega), p_r4 (by omega), n4, pk_mul, pk_mul, nI_add, nI_add, Nat.mul_comm p 4, gd_of (p_inN (i := 4 * p + m % 4) (n := 24) (by omega) (by decide)), gd_of (p_inN (i := 4 * p + m % 4) (n := 24) (by omega) (by decide)), nI_clamp (by omega), a9 (m % 4) (by omega)]
    by_cases k1 : ρ1 5 p = 1
    · simp only [if_pos k1]; exact ⟨_, rfl, rfl⟩
    simp only [if_neg k1]
    by_cases k2 : ρ1 5 p = 2
    · simp only [if_pos k2]; exact ⟨_, rfl, rfl⟩
    simp only [if_neg k2]
    by_cases k3 : ρ1 5 p = 3
    · simp only [if_pos k3]; exact ⟨_, rfl, rfl⟩
    simp only [if_neg k3]
    by_cases k4 : ρ1 5 p = nI 4
    · simp only [if_pos k4]
      rcases Nat.mod_two_eq_zero_or_one m with q | q
      · rw [q]
        exact ⟨_, rfl, rfl⟩
      · rw [q]
        exact ⟨_, rfl, rfl⟩
    simp only [if_neg k4]
    by_cases k5 : ρ1 5 p = 5
    · simp only [if_pos k5]; exact ⟨_, rfl, rfl⟩
    simp only [if_neg k5]
    by_cases k6 : ρ1 5 p = 6
    · simp only [if_pos k6]; exact ⟨_, rfl, rfl⟩
    simp only [if_neg k6]
    exact ⟨_, rfl, rfl⟩
  unfold f_X1_cost f_X1_cost_0 f_X9_cost f_X9_cost_0
  rw [h1, h2, bd_s, bd_s]
  simp only [gd_of ip, ic, a4, a3]
  by_cases hl : ρ1 7 p ≤ nI f
  · simp only [if_pos hl]
    obtain ⟨c, c1, c2⟩ := key 0
    rw [show s + (0 : Int32) = s from by simp] at c2
    exact ⟨c, τ1, ρ1, c1, e1, c2, e2⟩
  · simp only [if_neg hl]
    obtain ⟨c, c1, c2⟩ := key (ρ1 6 p)
    exact ⟨c, τ1, ρ1, c1, e1, c2, e2⟩
def EF (L : List Nat) (τ' τ : Mm) : Prop := ∀ k, k ∉ L → τ' k = τ k
theorem EF.rf {L : List Nat} {τ : Mm} : EF L τ τ := fun _ _ => rfl
theorem EF.tr {L : List Nat} {a b c : Mm} (h1 : EF L a b) (h2 : EF L b c) : EF L a c := fun k hk => (h1 k hk).trans (h2 k hk)
theorem EF.st {L : List Nat} {a b : Mm} {k i : Nat} {x : Int32} (h : EF L a b) (hk : k ∈ L) : EF L (s_t a k i x) b := fun j hj => (st_ne (fun q => hj (by rw [q]; exact hk))).trans (h j hj)
/-- the houses: what is asked of the one that holds, in both -/
def HH (x : Int32) (hs : Ms) (ρ : Mm) : Prop := (∀ (M m w cb : Nat) (τ' ρ' : Mm), HR M m w cb τ' ρ' → τ' 16 0 = x → (∀ k, k = 14 ∨ (19 ≤ k ∧ k ≤ 24) → ρ' k = ρ k) → SO M τ' hs ρ') ∧ (∃ r : Nat, r < 100 ∧ (if x = 0 then (2 : Int32) else hs x.toNatClampNeg 2 0) = nI r ∧ ∀ ρ' : Mm, (∀ k, k = 14 ∨ (19 ≤ k ∧ k ≤ 24) → ρ' k = ρ k) → f_X9_rest ρ' = some (nI r)) ∧ (x = 0 ∨ inH x = true)
theorem HH.of {x : Int32} {hs : Ms} {ρ ρ' : Mm} (h : HH x hs ρ) (e : ∀ k, k = 14 ∨ (19 ≤ k ∧ k ≤ 24) → ρ' k = ρ k) : HH x hs ρ' := by
  obtain ⟨h1, ⟨r, h2, h3, h4⟩, h5⟩ := h
  exact ⟨fun M m w cb τ1 ρ1 k1 k2 k3 => h1 M m w cb τ1 ρ1 k1 k2 (fun k hk => (k3 k hk).trans (e k hk)), ⟨r, h2, h3, fun ρ1 k3 => h4 ρ1 (fun k hk => (k3 k hk).trans (e k hk))⟩, h5⟩
def Fr (τ : Mm) (p : Nat) : Prop := τ 7 p = 0 ∧ τ 5 p = -5 ∧ τ 6 p = 0
theorem s_chL {M m w cb : Nat} {τ ρ : Mm} {hs : Ms} (H : HR M m w cb τ ρ) (G : HH (τ 16 0) hs ρ) {f : Nat} (hf : f < 10) : ∀ (k i n n2 : Nat), i + k = M → k < n → k < n2 → ∀ (τ' ρ' : Mm) (b l : Int32), EF [11] τ' τ → EF [30] ρ' ρ → (b = -5 ∨ ∃ q : Nat, q < M ∧ b = nI q) → (b = -5 → ∀ p, p < i → ¬ Fr τ p) → ∃ (r : Int32) (τ1 ρ1 : Mm), f_X1_cheapest_8L hs (nI f) n τ' b l (nI i) = some (r, τ1) ∧ EF [11] τ1 τ ∧ f_X9_cheapest_8L (nI f) n2 ρ' b l (nI i) = some (r, ρ1) ∧ EF [30] ρ1 ρ ∧ (r = -5 ∨ ∃ q : Nat, q < M ∧ r = nI q) ∧ (r = -5 → ∀ p, p < M → ¬ Fr τ p) := by
  have hM := H.1.1
  intro k
  induction k with
  | zero =>
    intro i n n2 hi hn hn2 τ' ρ' b l e1 e2 hb hnf
    obtain ⟨n, rfl⟩ : ∃ j, n = j + 1 := ⟨n - 1, by omega⟩
    obtain ⟨n2, rfl⟩ : ∃ j, n2 = j + 1 := ⟨n2 - 1, by omega⟩
    have H' := HR_c H (fun k hk => e1 k (by simpa using hk)) (fun k hk => e2 k (by simpa using hk))
    refine ⟨b, τ', ρ', ?_, e1, ?_, e2, hb, fun q p hp => hnf q p (by omega)⟩
    · show f_X1_cheapest_8 hs (nI f) _ _ _ _ _ = _
      unfold f_X1_cheapest_8
      rw [H'.1.2.1, show i = M by omega, if_pos (nI_le (Nat.le_refl _) (by omega))]
    · show f_X9_cheapest_8 (nI f) _ _ _ _ _ = _
      unfold f_X9_cheapest_8
      rw [H'.1.2.2, show i = M by omega, if_pos (nI_le (Nat.le_refl _) (by omega))]
  | succ k ih =>
    intro i n n2 hi hn hn2 τ' ρ' b l e1 e2 hb hnf
    obtain ⟨n, rfl⟩ : ∃ j, n = j + 1 := ⟨n - 1, by omega⟩
    obtain ⟨n2, rfl⟩ : ∃ j, n2 = j + 1 := ⟨n2 - 1, by omega⟩
    have H' := HR_c H (fun k hk => e1 k (by simpa using hk)) (fun k hk => e2 k (by simpa using hk))
    have hx16 : τ' 16 0 = τ 16 0 := by rw [e1 16 (by decide)]
    have S' := G.1 M m w cb τ' ρ' H' hx16 (fun k hk => e2 k (by simp; omega))
    obtain ⟨f1, f2⟩ := s_free H' (p := i) (by omega)
    have hFr : (τ' 7 i = 0 ∧ τ' 5 i = -5 ∧ τ' 6 i = 0) ↔ Fr τ i := by unfold Fr; rw [e1 7 (by decide), e1 5 (by decide), e1 6 (by decide)]
    have g1 : f_X1_cheapest_8L hs (nI f) (n + 1) τ' b l (nI i) = f_X1_cheapest_8 hs (nI f) (f_X1_cheapest_8L hs (nI f) n) τ' b l (nI i) := rfl
    have g2 : f_X9_cheapest_8L (nI f) (n2 + 1) ρ' b l (nI i) = f_X9_cheapest_8 (nI f) (f_X9_cheapest_8L (nI f) n2) ρ' b l (nI i) := rfl
    rw [g1, g2]
    unfold f_X1_cheapest_8 f_X9_cheapest_8
    rw [H'.1.2.1, H'.1.2.2, if_neg (p_nle (by omega) (by omega)), if_neg (p_nle (by omega) (by omega)), f1, f2, bd_s, bd_s]
    by_cases hF : (τ' 7 i = 0 ∧ τ' 5 i = -5 ∧ τ' 6 i = 0)
    · have n10 : ¬ (1 : Int32) = 0 := by decide
      rw [b2_t hF, if_neg n10, if_neg n10]
      obtain ⟨c, τ1, ρ1, c1, c2, c3, c4⟩ := s_cost H' S' (p := i) (f := f) (by omega) hf
      have e1' : EF [11] τ1 τ := fun k hk => (c2 k (by simpa using hk)).trans (e1 k hk)
      have e2' : EF [30] ρ1 ρ := fun k hk => (c4 k (by simpa using hk)).trans (e2 k hk)
      rw [c1, c3, bd_s, bd_s]
      have tk := ih (i + 1) n n2 (by omega) (by omega) (by omega) τ1 ρ1 (nI i) c e1' e2' (Or.inr ⟨i, by omega, rfl⟩) (fun q => absurd q (p_m5 (by omega)))
      have sk := fun (q : ¬ b = -5) => ih (i + 1) n n2 (by omega) (by omega) (by omega) τ1 ρ1 b l e1' e2' hb (fun z => absurd z q)
      unfold f_X1_cheapest_47 f_X1_cheapest_53 f_X9_cheapest_51 f_X9_cheapest_57
      simp only [lt_d, nI_1]
      rcases hb with hb | ⟨q, hq, hb⟩
      · rw [if_pos hb, if_pos (by rw [hb]; decide)]
        exact tk
      · have hb5 : ¬ b = -5 := by rw [hb]; exact p_m5 (by omega)
        have hb0 : ¬ b < 0 := by rw [hb]; exact nI_pos (by omega)
        rw [if_neg hb5, if_neg hb0]
        by_cases hl : l ≤ c
        · have hlc : ¬ c < l := by rw [p_lt]; rw [p_le] at hl; omega
          rw [if_pos hl, if_neg hlc]
          exact sk hb5
        · have hlc : c < l := by rw [p_lt]; rw [p_le] at hl; omega
          rw [if_neg hl, if_pos hlc]
          exact tk
    · rw [b2_f hF, if_pos rfl, if_pos rfl]
      unfold f_X1_cheapest_53 f_X9_cheapest_57
      simp only [lt_d, nI_1]
      refine ih (i + 1) n n2 (by omega) (by omega) (by omega) τ' ρ' b l e1 e2 hb (fun q p hp => ?_)
      rcases Nat.lt_or_ge p i with z | z
      · exact hnf q p z
      · rw [show p = i by omega, ← hFr]; exact hF
theorem s_cheap {M m w cb : Nat} {τ ρ : Mm} {hs : Ms} (H : HR M m w cb τ ρ) (G : HH (τ 16 0) hs ρ) {f : Nat} (hf : f < 10) : ∃ (r : Int32) (τ1 ρ1 : Mm), f_X1_cheapest τ hs (nI f) = some (r, τ1) ∧ EF [11] τ1 τ ∧ f_X9_cheapest ρ (nI f) = some (r, ρ1) ∧ EF [30] ρ1 ρ ∧ (r = -5 ∨ ∃ q : Nat, q < M ∧ r = nI q) ∧ (r = -5 → ∀ p, p < M → ¬ Fr τ p) := by
  have := H.1.1
  exact s_chL H G hf M 0 FU FU (by omega) (by rw [FU_e]; omega) (by rw [FU_e]; omega) τ ρ (-5) 0 EF.rf EF.rf (Or.inl rfl) (fun _ p hp => absurd hp (Nat.not_lt_zero _))
/-- nobody is free: the model goes on, and does nothing -/
theorem s_nf {M m w cb : Nat} {τ ρ : Mm} (H : HR M m w cb τ ρ) (hN : ∀ p, p < M → ¬ Fr τ p) (f : Nat) : ∀ (k i n : Nat) (l : Int32), i + k = M → k < n → f_X9_cheapest_8L (nI f) n ρ (-5) l (nI i) = some (-5, ρ) := by
  have hM := H.1.1
  intro k
  induction k with
  | zero =>
    intro i n l hi hn
    obtain ⟨n, rfl⟩ : ∃ j, n = j + 1 := ⟨n - 1, by omega⟩
    show f_X9_cheapest_8 (nI f) _ _ _ _ _ = _
    unfold f_X9_cheapest_8
    rw [H.1.2.2, show i = M by omega, if_pos (nI_le (Nat.le_refl _) (by omega))]
  | succ k ih =>
    intro i n l hi hn
    obtain ⟨n, rfl⟩ : ∃ j, n = j + 1 := ⟨n - 1, by omega⟩
    show f_X9_cheapest_8 (nI f) _ _ _ _ _ = _
    unfold f_X9_cheapest_8
    have hF : ¬ (τ 7 i = 0 ∧ τ 5 i = -5 ∧ τ 6 i = 0) := hN i (by omega)
    rw [H.1.2.2, if_neg (p_nle (by omega) (by omega)), (s_free H (p := i) (by omega)).2, bd_s, b2_f hF, if_pos rfl]
    unfold f_X9_cheapest_57
    rw [lt_d, nI_1, ih (i + 1) n l (by omega) (by omega)]
theorem s_nfL {M m w cb : Nat} {τ ρ : Mm} (H : HR M m w cb τ ρ) (hN : ∀ p, p < M → ¬ Fr τ p) : ∀ (k i n : Nat), i + k = 10 → k < n → f_X9_giveGoals_2L n ρ (nI i) = some ρ := by
  have hM := H.1.1
  intro k
  induction k with
  | zero =>
    intro i n hi hn
    obtain ⟨n, rfl⟩ : ∃ j, n = j + 1 := ⟨n - 1, by omega⟩
    show f_X9_giveGoals_2 _ _ _ = _
    unfold f_X9_giveGoals_2
    rw [show i = 10 by omega, if_pos (by decide)]
  | succ k ih =>
    intro i n hi hn
    obtain ⟨n, rfl⟩ : ∃ j, n = j + 1 := ⟨n - 1, by omega⟩
    show f_X9_giveGoals_2 _ _ _ = _
    unfold f_X9_giveGoals_2
    have h10 : ¬ (10 : Int32) ≤ nI i := nI_ge (a := i) (b := 10) (by omega) (by decide)
    obtain ⟨r, -, o2⟩ := s_open H (f := i) (by omega)
    have hc : f_X9_cheapest ρ (nI i) = some (-5, ρ) := s_nf H hN i M 0 FU 0 (by omega) (by rw [FU_e]; omega)
    rw [if_neg h10, o2, bd_s, hc, bd_s]
    unfold f_X9_giveGoals_36
    simp only [lt_d, nI_1]
    have hneg : (-5 : Int32) < 0 := by decide
    simp only [if_pos hneg]
    rw [ih (i + 1) n (by omega) (by omega)]
    by_cases hr : r = 0
    · rw [if_pos hr]
    · rw [if_neg hr]
/-- a goal is given -/
theorem HR_goal {M m w cb : Nat} {τ ρ : Mm} (H : HR M m w cb τ ρ) {q f : Nat} (hq : q < M) (hf : f < 10) : HR M m w cb (s_t τ 5 q (nI f)) (s_t ρ 8 q (nI f)) := by
  obtain ⟨h1, h2, h3, h4, h5, h6⟩ := H
  refine ⟨h1, h2, h3, h4, fun p hp => ?_, h6⟩
  obtain ⟨a2, a3, a4, ⟨a5, a5'⟩, a6, a7, a8, a9⟩ := h5 p hp
  refine ⟨a2, a3, a4, ?_, a6, a7, a8, a9⟩
  rw [st_k, st_k]
  by_cases hpq : p = q
  · rw [if_pos hpq, if_pos hpq]
    exact ⟨rfl, Or.inr ⟨f, hf, rfl⟩⟩
  · rw [if_neg hpq, if_neg hpq]
    exact ⟨a5, a5'⟩
theorem s_giL {M m w cb : Nat} {τ ρ : Mm} {hs : Ms} (H : HR M m w cb τ ρ) (G : HH (τ 16 0) hs ρ) : ∀ (k i n n2 : Nat), i + k = 10 → k < n → k < n2 → ∀ (τ' ρ' : Mm), HR M m w cb τ' ρ' → EF [5, 11] τ' τ → EF [8, 30] ρ' ρ → ∃ (τ1 ρ1 : Mm), f_X1_gives_2L hs n τ' (nI i) = some τ1 ∧ f_X9_giveGoals_2L n2 ρ' (nI i) = some ρ1 ∧ HR M m w cb τ1 ρ1 ∧ EF [5, 11] τ1 τ ∧ EF [8, 30] ρ1 ρ := by
  have hM := H.1.1
  intro k
  induction k with
  | zero =>
    intro i n n2 hi hn hn2 τ' ρ' H' e1 e2
    obtain ⟨n, rfl⟩ : ∃ j, n = j + 1 := ⟨n - 1, by omega⟩
    obtain ⟨n2, rfl⟩ : ∃ j, n2 = j + 1 := ⟨n2 - 1, by omega⟩
    refine ⟨τ', ρ', ?_, ?_, H', e1, e2⟩
    · show f_X1_gives_2 hs _ _ _ = _
      unfold f_X1_gives_2
      rw [show i = 10 by omega, if_pos (by decide)]
    · show f_X9_giveGoals_2 _ _ _ = _
      unfold f_X9_giveGoals_2
      rw [show i = 10 by omega, if_pos (by decide)]
  | succ k ih =>
    intro i n n2 hi hn hn2 τ' ρ' H' e1 e2
    obtain ⟨n, rfl⟩ : ∃ j, n = j + 1 := ⟨n - 1, by omega⟩
    obtain ⟨n2, rfl⟩ : ∃ j, n2 = j + 1 := ⟨n2 - 1, by omega⟩
    have h10 : ¬ (10 : Int32) ≤ nI i := nI_ge (a := i) (b := 10) (by omega) (by decide)
    have g1 : f_X1_gives_2L hs (n + 1) τ' (nI i) = f_X1_gives_2 hs (f_X1_gives_2L hs n) τ' (nI i) := rfl
    have g2 : f_X9_giveGoals_2L (n2 + 1) ρ' (nI i) = f_X9_giveGoals_2 (f_X9_giveGoals_2L n2) ρ' (nI i) := rfl
    rw [g1, g2]
    unfold f_X1_gives_2 f_X9_giveGoals_2 f_X1_gives_39 f_X9_giveGoals_36
    simp only [lt_d, nI_1]
    obtain ⟨r, o1, o2⟩ := s_open H' (f := i) (by omega)
    have G' : HH (τ' 16 0) hs ρ' := by
      rw [e1 16 (by decide)]
      exact G.of (fun k hk => e2 k (by simp; omega))
    rw [if_neg h10, if_neg h10, o1, o2, bd_s, bd_s]
    by_cases hr : r = 0
    · rw [if_pos hr, if_pos hr]
      exact ih (i + 1) n n2 (by omega) (by omega) (by omega) τ' ρ' H' e1 e2
    · rw [if_neg hr, if_neg hr]
      obtain ⟨r2, τ1, ρ1, c1, c2, c3, c4, c5, c6⟩ := s_cheap H' G' (f := i) (by omega)
      have H1 := HR_c H' (fun k hk => c2 k (by simpa using hk)) (fun k hk => c4 k (by simpa using hk))
      have e1' : EF [5, 11] τ1 τ := fun k hk => (c2 k (fun q => hk (by simp at q ⊢; omega))).trans (e1 k hk)
      have e2' : EF [8, 30] ρ1 ρ := fun k hk => (c4 k (fun q => hk (by simp at q ⊢; omega))).trans (e2 k hk)
      rw [c1, c3, bd_s, bd_s]
      rcases c5 with c5 | ⟨q, hq, c5⟩
      · have hN : ∀ p, p < M → ¬ Fr τ1 p := by
          intro p hp
          have := c6 c5 p hp
          unfold Fr at this ⊢
          rw [c2 7 (by decide), c2 5 (by decide), c2 6 (by decide)]
          exact this
        have hneg : (-5 : Int32) < 0 := by decide
        simp only [c5, if_pos hneg]
        rw [s_nfL H1 hN k (i + 1) n2 (by omega) (by omega)]
        exact ⟨τ1, ρ1, rfl, rfl, H1, e1', e2'⟩
      · have h5 : ¬ nI q = -5 := p_m5 (by omega)
        have h0 : ¬ nI q < 0 := nI_pos (by omega)
        simp only [c5, if_neg h5, if_neg h0, gd_of (p_inN (i := q) (n := 6) (by omega) (by decide)), nI_clamp (show q < 2 ^ 31 by omega)]
        exact ih (i + 1) n n2 (by omega) (by omega) (by omega) _ _ (HR_goal H1 hq (by omega)) (e1'.st (by decide)) (e2'.st (by decide))
theorem s_gives {M m w cb : Nat} {τ ρ : Mm} {hs : Ms} (H : HR M m w cb τ ρ) (G : HH (τ 16 0) hs ρ) : ∃ (τ1 ρ1 : Mm), f_X1_gives τ hs = some τ1 ∧ f_X9_giveGoals ρ = some ρ1 ∧ HR M m w cb τ1 ρ1 ∧ EF [5, 11] τ1 τ ∧ EF [8, 30] ρ1 ρ :=
  s_giL H G 10 0 FU FU (by omega) (by rw [FU_e]; omega) (by rw [FU_e]; omega) τ ρ H EF.rf EF.rf
