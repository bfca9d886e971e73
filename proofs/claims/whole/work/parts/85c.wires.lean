/-! PURE: loops of wires, in the model -/
/-- the model: what a walk along a loop adds -/
theorem m_in {W : Nat → Nat} {τ ρ : Mm} (h : WR W τ ρ) {f r : Nat} (hf : f < 10) (hr1 : 1 ≤ r) (hr : itw W r f = f) (hn : ∀ j, 1 ≤ j → j < r → itw W j f ≠ f) (k6 : Int32 → Int32 → Int32 → Option Int32) (v1 s0 : Int32) (h0 : ∀ j, bt s0 (itw W j f) = false) : ∀ (k j n : Nat) (s : Int32), j + k = r → k < n → (∀ g, g < 32 → (bt s g = true ↔ bt s0 g = true ∨ ∃ i, i < j ∧ itw W i f = g)) → cnt (bt s) 10 = cnt (bt s0) 10 + j → ∃ s1 : Int32, f_X9_crossed_37L ρ k6 n v1 s (nI f) (nI (itw W j f)) = k6 v1 s1 (nI (f + 1)) ∧ (∀ g, g < 32 → (bt s1 g = true ↔ bt s0 g = true ∨ ∃ i, i < r ∧ itw W i f = g)) ∧ cnt (bt s1) 10 = cnt (bt s0) 10 + r := by
  intro k
  induction k with
  | zero =>
    intro j n s hj hn' hs hc
    obtain ⟨n, rfl⟩ : ∃ j, n = j + 1 := ⟨n - 1, by omega⟩
    obtain rfl : j = r := by omega
    refine ⟨s, ?_, hs, hc⟩
    show f_X9_crossed_37 _ _ _ _ _ _ _ = _
    unfold f_X9_crossed_37 f_X9_crossed_66
    have hb : bt s f = true := (hs f (by omega)).mpr (Or.inr ⟨0, hr1, rfl⟩)
    rw [hr, p_has (by omega), b2_t hb, bd_s, i10, lt_d, nI_1]
  | succ k ih =>
    intro j n s hj hn' hs hc
    obtain ⟨n, rfl⟩ : ∃ j, n = j + 1 := ⟨n - 1, by omega⟩
    have hl := itw_lt h.1 hf j
    have hb : ¬ bt s (itw W j f) = true := fun q => by
      rcases (hs _ (by omega)).mp q with z | ⟨i, i1, i2⟩
      · rw [h0 j] at z
        exact absurd z (by decide)
      · rw [show j = i + (j - i) by omega] at i2
        exact hn (j - i) (by omega) (by omega) (itw_canc h.1 hf i i2).symm
    have hon : ∀ g, g < 32 → bt (s ||| ((1 : Int32) <<< (nI (itw W j f) &&& 31))) g = (bt s g || decide (g = itw W j f)) := fun g hg => p_on (by omega) hg
    obtain ⟨s1, a1, a2, a3⟩ := ih (j + 1) n (s ||| ((1 : Int32) <<< (nI (itw W j f) &&& 31))) (by omega) (by omega) (fun g hg => by
      rw [hon g hg, Bool.or_eq_true, decide_eq_true_eq, hs g hg]
      constructor
      · rintro ((z | ⟨i, i1, i2⟩) | z)
        · exact Or.inl z
        · exact Or.inr ⟨i, by omega, i2⟩
        · exact Or.inr ⟨j, by omega, z.symm⟩
      · rintro (z | ⟨i, i1, i2⟩)
        · exact Or.inl (Or.inl z)
        · by_cases hij : i = j
          · subst hij
            exact Or.inr i2.symm
          · exact Or.inl (Or.inr ⟨i, by omega, i2⟩)) (by
      rw [cnt_on (b := bt s) (o := itw W j f) (by simpa using hb) 10 hl (fun i hi => hon i (by omega)), hc]
      omega)
    refine ⟨s1, ?_, a2, a3⟩
    show f_X9_crossed_37 _ _ _ _ _ _ _ = _
    unfold f_X9_crossed_37
    rw [p_has (by omega), b2_f hb, bd_s, i00, lt_d, z_in hl (by decide), nI_clamp (by omega), (h.2 _ hl).2, lt_d]
    exact a1
theorem m_cross {W : Nat → Nat} {τ ρ : Mm} (h : WR W τ ρ) : ∀ (k f n c : Nat) (s : Int32), f + k = 10 → k < n → c + f = cnt (bt s) 10 + cnt (snb W) f → (∀ g, g < 10 → (bt s g = true ↔ ∃ q j, q < f ∧ itw W j q = g)) → (∀ g, 10 ≤ g → bt s g = false) → f_X9_crossed_6L ρ n (nI c) s (nI f) = some (nI (cnt (snb W) 10)) := by
  intro k
  induction k with
  | zero =>
    intro f n c s hf hn hc hs hs2
    obtain ⟨n, rfl⟩ : ∃ j, n = j + 1 := ⟨n - 1, by omega⟩
    obtain rfl : f = 10 := by omega
    show f_X9_crossed_6 _ _ _ _ _ = _
    unfold f_X9_crossed_6
    rw [if_pos (by decide)]
    rw [cnt_all 10 (fun i hi => (hs i hi).mpr ⟨i, 0, hi, rfl⟩)] at hc
    rw [show c = cnt (snb W) 10 by omega]
  | succ k ih =>
    intro f n c s hf hn hc hs hs2
    obtain ⟨n, rfl⟩ : ∃ j, n = j + 1 := ⟨n - 1, by omega⟩
    have hf' : f < 10 := by omega
    show f_X9_crossed_6 _ _ _ _ _ = _
    unfold f_X9_crossed_6 f_X9_crossed_66
    rw [if_neg (show ¬ (10 : Int32) ≤ nI f from nI_ge (b := 10) (by omega) (by omega)), p_has (by omega), bd_s]
    have hsn : bt s f = true ↔ sn W f := hs f hf'
    by_cases hb : bt s f = true
    · rw [b2_t hb, i10, lt_d, nI_1]
      refine ih (f + 1) n c s (by omega) (by omega) ?_ (fun g hg => (hs g hg).trans ⟨fun ⟨q, j, q1, q2⟩ => ⟨q, j, by omega, q2⟩, fun ⟨q, j, q1, q2⟩ => ?_⟩) hs2
      · show c + (f + 1) = _ + (cnt (snb W) f + _)
        rw [snb_t (hsn.mp hb), if_pos rfl]
        omega
      · by_cases hq : q = f
        · subst hq
          obtain ⟨h0, j0, e1, e2⟩ := hsn.mp hb
          exact ⟨h0, j + j0, e1, by rw [itw_add, e2, q2]⟩
        · exact ⟨q, j, by omega, q2⟩
    · obtain ⟨r, r1, r2, r3⟩ := itw_len h.1 hf'
      have hns : ¬ sn W f := fun q => hb (hsn.mpr q)
      rw [b2_f hb, i00, (p_loop h hf' r1 r2 r3).2, bd_s, lt_d]
      have h0 : ∀ j, bt s (itw W j f) = false := fun j => by
        have hl := itw_lt h.1 hf' j
        cases hx : bt s (itw W j f) with
        | false => rfl
        | true =>
          exfalso
          obtain ⟨q, i, q1, q2⟩ := (hs _ hl).mp hx
          obtain ⟨i2, e2⟩ := itw_rev h.1 hf' (show itw W j f = itw W j f from rfl)
          exact hns ⟨q, i2 + i, q1, by rw [itw_add, q2, e2]⟩
      obtain ⟨s1, a1, a2, a3⟩ := m_in h hf' r1.1 r2 r3 (f_X9_crossed_6L ρ n) (nI c + (nI r - 1)) s h0 r 0 FU s (by omega) (by rw [FU_e]; omega) (fun g hg => ⟨fun z => Or.inl z, fun z => z.elim id (fun ⟨i, i1, _⟩ => absurd i1 (Nat.not_lt_zero _))⟩) rfl
      refine a1.trans ?_
      have e : nI c + (nI r - 1) = nI (c + (r - 1)) := by
        rw [show nI r = nI (r - 1 + 1) by rw [show r - 1 + 1 = r by omega], nI_pred, nI_add]
      rw [e]
      refine ih (f + 1) n (c + (r - 1)) s1 (by omega) (by omega) ?_ (fun g hg => ?_) (fun g hg => ?_)
      · rw [a3]
        show c + (r - 1) + (f + 1) = _ + (cnt (snb W) f + _)
        rw [snb_f hns, if_neg (by decide)]
        omega
      · rw [a2 g (by omega), hs g hg]
        constructor
        · rintro (⟨q, j, q1, q2⟩ | ⟨i, i1, i2⟩)
          · exact ⟨q, j, by omega, q2⟩
          · exact ⟨f, i, by omega, i2⟩
        · rintro ⟨q, j, q1, q2⟩
          by_cases hq : q = f
          · subst hq
            obtain ⟨i, i1, i2⟩ := itw_mod r1.1 r2 j
            exact Or.inr ⟨i, i1, by rw [← i2, q2]⟩
          · exact Or.inl ⟨q, j, by omega, q2⟩
      · by_cases hg2 : g < 32
        · cases hx : bt s1 g with
          | false => rfl
          | true =>
            exfalso
            rcases (a2 g hg2).mp hx with z | ⟨i, i1, i2⟩
            · rw [hs2 g hg] at z
              exact absurd z (by decide)
            · have := itw_lt h.1 hf' i
              omega
        · exact b_big (by omega)
theorem cnt_none {b : Nat → Bool} : ∀ n, (∀ i, i < n → b i = false) → cnt b n = 0 := by
  intro n
  induction n with
  | zero => intro _; rfl
  | succ n ih =>
    intro h
    show cnt b n + _ = _
    rw [ih (fun i hi => h i (by omega)), h n (by omega)]
    rfl
theorem s_cross {W : Nat → Nat} {τ ρ : Mm} (h : WR W τ ρ) : ∃ r : Int32, f_X1_crossings τ = some r ∧ f_X9_crossed ρ = some r := by
  refine ⟨_, c_cross h 10 0 FU (by omega) (by rw [FU_e]; omega), m_cross h 10 0 FU 0 0 (by omega) (by rw [FU_e]; omega) ?_ (fun g hg => ?_) (fun g _ => b_0 g)⟩
  · rw [cnt_none 10 (fun i _ => b_0 i)]
    rfl
  · rw [b_0]
    exact ⟨fun q => absurd q (by decide), fun ⟨q, j, q1, _⟩ => absurd q1 (Nat.not_lt_zero _)⟩
theorem s_first {W : Nat → Nat} {τ ρ : Mm} (h : WR W τ ρ) : ∀ (k i n n2 : Nat), i + k = 10 → k < n → k < n2 → ∃ r : Int32, f_X1_firstCrossed_2L τ n (nI i) = some r ∧ f_X9_firstCrossed_2L ρ n2 (nI i) = some r := by
  intro k
  induction k with
  | zero =>
    intro i n n2 hi hn hn2
    obtain ⟨n, rfl⟩ : ∃ j, n = j + 1 := ⟨n - 1, by omega⟩
    obtain ⟨n2, rfl⟩ : ∃ j, n2 = j + 1 := ⟨n2 - 1, by omega⟩
    refine ⟨-5, ?_, ?_⟩
    · show f_X1_firstCrossed_2 _ _ _ = _
      unfold f_X1_firstCrossed_2
      rw [show i = 10 by omega, if_pos (by decide)]
    · show f_X9_firstCrossed_2 _ _ _ = _
      unfold f_X9_firstCrossed_2
      rw [show i = 10 by omega, if_pos (by decide)]
  | succ k ih =>
    intro i n n2 hi hn hn2
    obtain ⟨n, rfl⟩ : ∃ j, n = j + 1 := ⟨n - 1, by omega⟩
    obtain ⟨n2, rfl⟩ : ∃ j, n2 = j + 1 := ⟨n2 - 1, by omega⟩
    have g1 : f_X1_firstCrossed_2L τ (n + 1) (nI i) = f_X1_firstCrossed_2 τ (f_X1_firstCrossed_2L τ n) (nI i) := rfl
    have g2 : f_X9_firstCrossed_2L ρ (n2 + 1) (nI i) = f_X9_firstCrossed_2 ρ (f_X9_firstCrossed_2L ρ n2) (nI i) := rfl
    rw [g1, g2]
    unfold f_X1_firstCrossed_2 f_X9_firstCrossed_2
    have n10 : ¬ (10 : Int32) ≤ nI i := nI_ge (b := 10) (by omega) (by omega)
    obtain ⟨e1, e2⟩ := h.2 i (by omega)
    rw [if_neg n10, if_neg n10, z_in (by omega) (by decide), z_in (by omega) (by decide), nI_clamp (by omega), e1, e2, lt_d, lt_d, nI_1]
    by_cases he : nI (W i) = nI i
    · rw [if_pos he, if_pos he]
      exact ih (i + 1) n n2 (by omega) (by omega) (by omega)
    · rw [if_neg he, if_neg he]
      exact ⟨_, rfl, rfl⟩
