/-! PURE: loops of wires, in the class -/
/-- the wires of both -/
def WR (W : Nat → Nat) (τ ρ : Mm) : Prop := WP W ∧ ∀ f, f < 10 → τ 10 f = nI (W f) ∧ ρ 12 f = nI (W f)
theorem HR_WR {M m w cb : Nat} {τ ρ : Mm} (H : HR M m w cb τ ρ) (hp : PW τ) : ∃ W : Nat → Nat, WR W τ ρ := by
  have key : ∀ f, f < 10 → (ρ 12 f).toNatClampNeg < 10 ∧ ρ 12 f = nI (ρ 12 f).toNatClampNeg := fun f hf => by
    obtain ⟨-, g, hg, e⟩ := H.2.2.2.2.2 f hf
    rw [e, nI_clamp (by omega)]
    exact ⟨hg, rfl⟩
  refine ⟨fun f => (ρ 12 f).toNatClampNeg, ⟨fun f hf => (key f hf).1, fun f g hf hg e => ?_⟩, fun f hf => ⟨?_, (key f hf).2⟩⟩
  · refine hp f g hf hg ?_
    rw [(H.2.2.2.2.2 f hf).1, (H.2.2.2.2.2 g hg).1, (key f hf).2, (key g hg).2]
    exact congrArg nI e
  · rw [(H.2.2.2.2.2 f hf).1]
    exact (key f hf).2
theorem p_loop {W : Nat → Nat} {τ ρ : Mm} (h : WR W τ ρ) {f r : Nat} (hf : f < 10) (h2 : 1 ≤ r ∧ r ≤ 10) (hr : itw W r f = f) (hn : ∀ j, 1 ≤ j → j < r → itw W j f ≠ f) : f_X1_loop τ (nI f) = some (nI r) ∧ f_X9_loop ρ (nI f) = some (nI r) := by
  have key : ∀ (k j n n2 : Nat), j + k = r → 1 ≤ j → k < n → k < n2 → f_X1_loop_9L τ (nI f) n (nI j) (nI (itw W j f)) = some (nI r) ∧ f_X9_loop_9L ρ (nI f) n2 (nI j) (nI (itw W j f)) = some (nI r) := by
    intro k
    induction k with
    | zero =>
      intro j n n2 hj h1 hn1 hn2
      obtain ⟨n, rfl⟩ : ∃ j, n = j + 1 := ⟨n - 1, by omega⟩
      obtain ⟨n2, rfl⟩ : ∃ j, n2 = j + 1 := ⟨n2 - 1, by omega⟩
      rw [show j = r by omega, hr]
      constructor
      · show f_X1_loop_9 _ _ _ _ _ = _
        unfold f_X1_loop_9
        rw [if_pos rfl]
      · show f_X9_loop_9 _ _ _ _ _ = _
        unfold f_X9_loop_9
        rw [if_pos rfl]
    | succ k ih =>
      intro j n n2 hj h1 hn1 hn2
      obtain ⟨n, rfl⟩ : ∃ j, n = j + 1 := ⟨n - 1, by omega⟩
      obtain ⟨n2, rfl⟩ : ∃ j, n2 = j + 1 := ⟨n2 - 1, by omega⟩
      have hl := itw_lt h.1 hf j
      have hne : ¬ nI (itw W j f) = nI f := z_neq (hn j h1 (by omega)) (by omega) (by omega)
      obtain ⟨e1, e2⟩ := h.2 _ hl
      obtain ⟨i1, i2⟩ := ih (j + 1) n n2 (by omega) (by omega) (by omega) (by omega)
      constructor
      · show f_X1_loop_9 _ _ _ _ _ = _
        unfold f_X1_loop_9
        rw [if_neg hne, if_neg (show ¬ (10 : Int32) ≤ nI j from nI_ge (b := 10) (by omega) (by omega)), z_in hl (by decide), nI_clamp (by omega), e1, lt_d, lt_d, nI_1]
        exact i1
      · show f_X9_loop_9 _ _ _ _ _ = _
        unfold f_X9_loop_9
        rw [if_neg hne, z_in hl (by decide), nI_clamp (by omega), e2, lt_d, lt_d, nI_1]
        exact i2
  obtain ⟨e1, e2⟩ := h.2 f hf
  obtain ⟨i1, i2⟩ := key (r - 1) 1 FU FU (by omega) (Nat.le_refl _) (by rw [FU_e]; omega) (by rw [FU_e]; omega)
  constructor
  · unfold f_X1_loop f_X1_loop_0
    rw [z_in hf (by decide), nI_clamp (by omega), e1, lt_d]
    exact i1
  · unfold f_X9_loop f_X9_loop_0
    rw [z_in hf (by decide), nI_clamp (by omega), e2, lt_d]
    exact i2
theorem s_loop {W : Nat → Nat} {τ ρ : Mm} (h : WR W τ ρ) {f : Nat} (hf : f < 10) : ∃ r : Int32, f_X1_loop τ (nI f) = some r ∧ f_X9_loop ρ (nI f) = some r := by
  obtain ⟨r, r1, r2, r3⟩ := itw_len h.1 hf
  exact ⟨_, p_loop h hf r1 r2 r3⟩
/-- the class: one more for each floor that isn't the least of its loop -/
theorem c_in {W : Nat → Nat} {τ ρ : Mm} (h : WR W τ ρ) {f r : Nat} (hf : f < 10) (h2 : 1 ≤ r ∧ r ≤ 10) (hr : itw W r f = f) (hn : ∀ j, 1 ≤ j → j < r → itw W j f ≠ f) (k4 : Int32 → Int32 → Option Int32) (t : Nat) : ∀ (k i n : Nat), i + 1 + k = r → k < n → (∀ j, 1 ≤ j → j ≤ i → f < itw W j f) → f_X1_crossings_20L τ k4 n (nI t) (nI f) (nI (itw W (i + 1) f)) (nI i) = k4 (nI (t + (if snb W f = true then 1 else 0))) (nI (f + 1)) := by
  have fin : ∀ (i : Nat) (K : Int32 → Int32 → Int32 → Int32 → Option Int32), i + 1 ≤ r → itw W (i + 1) f ≤ f → (∀ j, 1 ≤ j → j ≤ i → f < itw W j f) → f_X1_crossings_45 τ k4 (nI t) (nI f) (nI (itw W (i + 1) f)) = k4 (nI (t + (if snb W f = true then 1 else 0))) (nI (f + 1)) := by
    intro i K h1 h3 h4
    have hl := itw_lt h.1 hf (i + 1)
    unfold f_X1_crossings_45 f_X1_crossings_53
    by_cases e : itw W (i + 1) f = f
    · have hir : i + 1 = r := by
        rcases Nat.lt_or_ge (i + 1) r with z | z
        · exact absurd e (hn (i + 1) (by omega) z)
        · omega
      have hs : ¬ sn W f := fun q => by
        obtain ⟨j, j1, j2⟩ := (sn_iff h.1 hf h2.1 hr).mp q
        by_cases j0 : j = 0
        · subst j0
          exact absurd j2 (Nat.lt_irrefl _)
        · have := h4 j (by omega) (by omega)
          omega
      rw [if_pos (by rw [e]), snb_f hs, lt_d, nI_1]
      rfl
    · have hs : sn W f := (sn_iff h.1 hf h2.1 hr).mpr ⟨i + 1, by
        rcases Nat.lt_or_ge (i + 1) r with z | z
        · exact z
        · exact absurd (show itw W (i + 1) f = f by rw [show i + 1 = r by omega, hr]) e, by omega⟩
      rw [if_neg (z_neq e (by omega) (by omega)), snb_t hs, lt_d, lt_d, nI_1, nI_1]
      rfl
  intro k
  induction k with
  | zero =>
    intro i n hi hn' hg
    obtain ⟨n, rfl⟩ : ∃ j, n = j + 1 := ⟨n - 1, by omega⟩
    have e : itw W (i + 1) f = f := by rw [show i + 1 = r by omega, hr]
    show f_X1_crossings_20 _ _ _ _ _ _ _ = _
    unfold f_X1_crossings_20
    have hle : nI (itw W (i + 1) f) ≤ nI f := nI_le (by omega) (by omega)
    rw [if_pos hle, fin i (fun _ _ _ _ => none) (by omega) (by omega) hg]
    split <;> rfl
  | succ k ih =>
    intro i n hi hn' hg
    obtain ⟨n, rfl⟩ : ∃ j, n = j + 1 := ⟨n - 1, by omega⟩
    have hl := itw_lt h.1 hf (i + 1)
    show f_X1_crossings_20 _ _ _ _ _ _ _ = _
    unfold f_X1_crossings_20
    rw [if_neg (show ¬ (10 : Int32) ≤ nI i from nI_ge (b := 10) (by omega) (by omega))]
    by_cases e : itw W (i + 1) f ≤ f
    · rw [if_pos (show nI (itw W (i + 1) f) ≤ nI f from nI_le e (by omega))]
      exact fin i (fun _ _ _ _ => none) (by omega) e hg
    · rw [if_neg (show ¬ nI (itw W (i + 1) f) ≤ nI f from nI_ge (by omega) (by omega)), z_in hl (by decide), nI_clamp (by omega), (h.2 _ hl).1, lt_d, lt_d, nI_1]
      refine ih (i + 1) n (by omega) (by omega) (fun j j1 j2 => ?_)
      by_cases hj : j = i + 1
      · rw [hj]; omega
      · exact hg j j1 (by omega)
theorem c_cross {W : Nat → Nat} {τ ρ : Mm} (h : WR W τ ρ) : ∀ (k f n : Nat), f + k = 10 → k < n → f_X1_crossings_4L τ n (nI (cnt (snb W) f)) (nI f) = some (nI (cnt (snb W) 10)) := by
  intro k
  induction k with
  | zero =>
    intro f n hf hn
    obtain ⟨n, rfl⟩ : ∃ j, n = j + 1 := ⟨n - 1, by omega⟩
    show f_X1_crossings_4 _ _ _ _ = _
    unfold f_X1_crossings_4
    rw [show f = 10 by omega, if_pos (by decide)]
  | succ k ih =>
    intro f n hf hn
    obtain ⟨n, rfl⟩ : ∃ j, n = j + 1 := ⟨n - 1, by omega⟩
    obtain ⟨r, r1, r2, r3⟩ := itw_len h.1 (show f < 10 by omega)
    show f_X1_crossings_4 _ _ _ _ = _
    unfold f_X1_crossings_4
    rw [if_neg (show ¬ (10 : Int32) ≤ nI f from nI_ge (b := 10) (by omega) (by omega)), z_in (by omega) (by decide), nI_clamp (by omega), (h.2 f (by omega)).1, lt_d]
    refine (c_in h (show f < 10 by omega) r1 r2 r3 _ (cnt (snb W) f) (r - 1) 0 FU (by omega) (by rw [FU_e]; omega) (fun j j1 j2 => by omega)).trans ?_
    exact ih (f + 1) n (by omega) (by omega)
