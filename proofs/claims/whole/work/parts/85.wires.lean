/-! PURE: wires as a permutation, loops, told -/
theorem php : ∀ (n : Nat) (g : Nat → Nat), (∀ i, i ≤ n → g i < n) → ∃ i j, i < j ∧ j ≤ n ∧ g i = g j := by
  intro n
  induction n with
  | zero =>
    intro g h
    exact absurd (h 0 (Nat.le_refl _)) (Nat.not_lt_zero _)
  | succ n ih =>
    intro g h
    by_cases hv : ∃ i, i ≤ n ∧ g i = g (n + 1)
    · obtain ⟨i, h1, h2⟩ := hv
      exact ⟨i, n + 1, by omega, Nat.le_refl _, h2⟩
    · have hv' : ∀ i, i ≤ n → g i ≠ g (n + 1) := fun i h1 h2 => hv ⟨i, h1, h2⟩
      have hl := h (n + 1) (Nat.le_refl _)
      obtain ⟨i, j, h1, h2, h3⟩ := ih (fun i => if g i = n then g (n + 1) else g i) (fun i hi => by
        have a := h i (by omega)
        have b := hv' i hi
        show (if g i = n then g (n + 1) else g i) < n
        by_cases q : g i = n
        · rw [if_pos q]; omega
        · rw [if_neg q]; omega)
      refine ⟨i, j, h1, by omega, ?_⟩
      have h3 : (if g i = n then g (n + 1) else g i) = (if g j = n then g (n + 1) else g j) := h3
      have b1 := hv' i (by omega)
      have b2 := hv' j h2
      by_cases q1 : g i = n
      · by_cases q2 : g j = n
        · omega
        · rw [if_pos q1, if_neg q2] at h3
          exact absurd h3.symm b2
      · by_cases q2 : g j = n
        · rw [if_neg q1, if_pos q2] at h3
          exact absurd h3 b1
        · rw [if_neg q1, if_neg q2] at h3
          exact h3
def itw (W : Nat → Nat) : Nat → Nat → Nat
  | 0, f => f
  | n + 1, f => W (itw W n f)
def WP (W : Nat → Nat) : Prop := (∀ f, f < 10 → W f < 10) ∧ ∀ f g, f < 10 → g < 10 → W f = W g → f = g
theorem itw_lt {W : Nat → Nat} (h : WP W) {f : Nat} (hf : f < 10) : ∀ n, itw W n f < 10 := by
  intro n
  induction n with
  | zero => exact hf
  | succ n ih => exact h.1 _ ih
theorem itw_add {W : Nat → Nat} {f b : Nat} : ∀ a, itw W (a + b) f = itw W a (itw W b f) := by
  intro a
  induction a with
  | zero => rw [Nat.zero_add]; rfl
  | succ a ih =>
    rw [show a + 1 + b = (a + b) + 1 by omega]
    show W _ = W _
    rw [ih]
theorem itw_canc {W : Nat → Nat} (h : WP W) {f : Nat} (hf : f < 10) {d : Nat} : ∀ i, itw W i f = itw W (i + d) f → f = itw W d f := by
  intro i
  induction i with
  | zero =>
    intro e
    rw [Nat.zero_add] at e
    exact e
  | succ i ih =>
    intro e
    rw [show i + 1 + d = (i + d) + 1 by omega] at e
    exact ih (h.2 _ _ (itw_lt h hf _) (itw_lt h hf _) e)
theorem itw_len {W : Nat → Nat} (h : WP W) {f : Nat} (hf : f < 10) : ∃ r : Nat, (1 ≤ r ∧ r ≤ 10) ∧ itw W r f = f ∧ ∀ j, 1 ≤ j → j < r → itw W j f ≠ f := by
  obtain ⟨i, j, h1, h2, h3⟩ := php 10 (fun n => itw W n f) (fun n _ => itw_lt h hf n)
  have h3 : itw W i f = itw W j f := h3
  rw [show j = i + (j - i) by omega] at h3
  have h4 := itw_canc h hf i h3
  obtain ⟨r, ⟨r1, r2⟩, r3⟩ := pk_least (fun r => 1 ≤ r ∧ itw W r f = f) ⟨j - i, by omega, h4.symm⟩
  refine ⟨r, ⟨r1, ?_⟩, r2, fun q q1 q2 q3 => r3 q q2 ⟨q1, q3⟩⟩
  rcases Nat.lt_or_ge (j - i) r with z | z
  · exact absurd ⟨by omega, h4.symm⟩ (r3 (j - i) z)
  · omega
theorem itw_mod {W : Nat → Nat} {f r : Nat} (h1 : 1 ≤ r) (hr : itw W r f = f) : ∀ j, ∃ i, i < r ∧ itw W j f = itw W i f := by
  intro j
  induction j using Nat.strongRecOn with
  | ind j ih =>
    by_cases h : j < r
    · exact ⟨j, h, rfl⟩
    · obtain ⟨i, a, b⟩ := ih (j - r) (by omega)
      refine ⟨i, a, ?_⟩
      rw [← b, show itw W j f = itw W (j - r + r) f by rw [show j - r + r = j by omega], itw_add, hr]
theorem itw_rev {W : Nat → Nat} (h : WP W) {f g j : Nat} (hf : f < 10) (e : itw W j f = g) : ∃ i, itw W i g = f := by
  obtain ⟨r, ⟨r1, r2⟩, r3, -⟩ := itw_len h hf
  obtain ⟨i, i1, i2⟩ := itw_mod r1 r3 j
  refine ⟨r - i, ?_⟩
  rw [← e, i2, ← itw_add, show r - i + i = r by omega, r3]
def sn (W : Nat → Nat) (f : Nat) : Prop := ∃ h j : Nat, h < f ∧ itw W j h = f
theorem sn_iff {W : Nat → Nat} (h : WP W) {f r : Nat} (hf : f < 10) (h1 : 1 ≤ r) (hr : itw W r f = f) : sn W f ↔ ∃ i, i < r ∧ itw W i f < f := by
  constructor
  · rintro ⟨g, j, hg, e⟩
    obtain ⟨i, hi⟩ := itw_rev h (show g < 10 by omega) e
    obtain ⟨q, q1, q2⟩ := itw_mod h1 hr i
    exact ⟨q, q1, by rw [← q2, hi]; exact hg⟩
  · rintro ⟨i, h2, h3⟩
    exact ⟨itw W i f, r - i, h3, by rw [← itw_add, show r - i + i = r by omega, hr]⟩
noncomputable def snb (W : Nat → Nat) (f : Nat) : Bool := @decide (sn W f) (Classical.propDecidable _)
theorem snb_t {W : Nat → Nat} {f : Nat} (h : sn W f) : snb W f = true := by
  unfold snb
  exact decide_eq_true h
theorem snb_f {W : Nat → Nat} {f : Nat} (h : ¬ sn W f) : snb W f = false := by
  unfold snb
  exact decide_eq_false h
def cnt (b : Nat → Bool) : Nat → Nat
  | 0 => 0
  | n + 1 => cnt b n + (if b n = true then 1 else 0)
theorem cnt_c {b c : Nat → Bool} : ∀ n, (∀ i, i < n → b i = c i) → cnt b n = cnt c n := by
  intro n
  induction n with
  | zero => intro _; rfl
  | succ n ih =>
    intro h
    show cnt b n + _ = cnt c n + _
    rw [ih (fun i hi => h i (by omega)), h n (by omega)]
theorem cnt_on {b c : Nat → Bool} {o : Nat} (hb : b o = false) : ∀ n, o < n → (∀ i, i < n → c i = (b i || decide (i = o))) → cnt c n = cnt b n + 1 := by
  intro n
  induction n with
  | zero => intro h; exact absurd h (Nat.not_lt_zero _)
  | succ n ih =>
    intro ho h
    show cnt c n + _ = cnt b n + _ + 1
    have hn := h n (by omega)
    by_cases e : n = o
    · rw [cnt_c n (fun i hi => by rw [h i (by omega)]; simp; intro q; omega) (b := c) (c := b), hn, e, hb]
      simp
    · rw [ih (by omega) (fun i hi => h i (by omega)), hn]
      simp [e]
      omega
theorem cnt_all {b : Nat → Bool} : ∀ n, (∀ i, i < n → b i = true) → cnt b n = n := by
  intro n
  induction n with
  | zero => intro _; rfl
  | succ n ih =>
    intro h
    show cnt b n + _ = _
    rw [ih (fun i hi => h i (by omega)), h n (by omega)]
    rfl
theorem cnt_le {b : Nat → Bool} : ∀ n, cnt b n ≤ n := by
  intro n
  induction n with
  | zero => exact Nat.le_refl _
  | succ n ih =>
    show cnt b n + _ ≤ _
    split <;> omega
/-- the wires of both -/
def WR (W : Nat → Nat) (τ ρ : Mm) : Prop := WP W ∧ ∀ f, f < 10 → τ 10 f = nI (W f) ∧ ρ 12 f = nI (W f)
theorem HR_WR {M m w cb : Nat} {τ ρ : Mm} (H : HR M m w cb τ ρ) (hp : PW τ) : ∃ W : Nat → Nat, WR W τ ρ := by
  have key : ∀ f, f < 10 → (ρ 12 f).toNatClampNeg < 10 ∧ ρ 12 f = nI (ρ 12 f).toNatClampNeg := fun f hf => by
    obtain ⟨-, g, hg, e⟩ := H.2.2.2.2.2 f hf
    rw [e, nI_clamp (by omega)]
    exact ⟨hg, rfl⟩
  refine ⟨fun f => (ρ 12 f).toNatClampNeg, ⟨fun f hf => (key f hf).1, fun f g hf hg e => ?_⟩, fun f hf => ⟨?_, (key f hf).2⟩⟩
  · refine hp f g hf hg ?_
    rw [(H.2.2.2.2.2 f hf).1, (H.2.2.2.2.2 g hg).1, (key f hf).2, (key g hg).2]
    exact congrArg nI e
  · rw [(H.2.2.2.2.2 f hf).1]
    exact (key f hf).2
theorem p_loop {W : Nat → Nat} {τ ρ : Mm} (h : WR W τ ρ) {f r : Nat} (hf : f < 10) (h2 : 1 ≤ r ∧ r ≤ 10) (hr : itw W r f = f) (hn : ∀ j, 1 ≤ j → j < r → itw W j f ≠ f) : f_X1_loop τ (nI f) = some (nI r) ∧ f_X9_loop ρ (nI f) = some (nI r) := by
  have key : ∀ (k j n n2 : Nat), j + k = r → 1 ≤ j → k < n → k < n2 → f_X1_loop_9L τ (nI f) n (nI j) (nI (itw W j f)) = some (nI r) ∧ f_X9_loop_9L ρ (nI f) n2 (nI j) (nI (itw W j f)) = some (nI r) := by
    intro k
    induction k with
    | zero =>
      intro j n n2 hj h1 hn1 hn2
      obtain ⟨n, rfl⟩ : ∃ j, n = j + 1 := ⟨n - 1, by omega⟩
      obtain ⟨n2, rfl⟩ : ∃ j, n2 = j + 1 := ⟨n2 - 1, by omega⟩
      rw [show j = r by omega, hr]
      constructor
      · show f_X1_loop_9 _ _ _ _ _ = _
        unfold f_X1_loop_9
        rw [if_pos rfl]
      · show f_X9_loop_9 _ _ _ _ _ = _
        unfold f_X9_loop_9
        rw [if_pos rfl]
    | succ k ih =>
      intro j n n2 hj h1 hn1 hn2
      obtain ⟨n, rfl⟩ : ∃ j, n = j + 1 := ⟨n - 1, by omega⟩
      obtain ⟨n2, rfl⟩ : ∃ j, n2 = j + 1 := ⟨n2 - 1, by omega⟩
      have hl := itw_lt h.1 hf j
      have hne : ¬ nI (itw W j f) = nI f := z_neq (hn j h1 (by omega)) (by omega) (by omega)
      obtain ⟨e1, e2⟩ := h.2 _ hl
      obtain ⟨i1, i2⟩ := ih (j + 1) n n2 (by omega) (by omega) (by omega) (by omega)
      constructor
      · show f_X1_loop_9 _ _ _ _ _ = _
        unfold f_X1_loop_9
        rw [if_neg hne, if_neg (show ¬ (10 : Int32) ≤ nI j from nI_ge (b := 10) (by omega) (by omega)), z_in hl (by decide), nI_clamp (by omega), e1, lt_d, lt_d, nI_1]
        exact i1
      · show f_X9_loop_9 _ _ _ _ _ = _
        unfold f_X9_loop_9
        rw [if_neg hne, z_in hl (by decide), nI_clamp (by omega), e2, lt_d, lt_d, nI_1]
        exact i2
  obtain ⟨e1, e2⟩ := h.2 f hf
  obtain ⟨i1, i2⟩ := key (r - 1) 1 FU FU (by omega) (Nat.le_refl _) (by rw [FU_e]; omega) (by rw [FU_e]; omega)
  constructor
  · unfold f_X1_loop f_X1_loop_0
    rw [z_in hf (by decide), nI_clamp (by omega), e1, lt_d]
    exact i1
  · unfold f_X9_loop f_X9_loop_0
    rw [z_in hf (by decide), nI_clamp (by omega), e2, lt_d]
    exact i2
theorem s_loop {W : Nat → Nat} {τ ρ : Mm} (h : WR W τ ρ) {f : Nat} (hf : f < 10) : ∃ r : Int32, f_X1_loop τ (nI f) = some r ∧ f_X9_loop ρ (nI f) = some r := by
  obtain ⟨r, r1, r2, r3⟩ := itw_len h.1 hf
  exact ⟨_, p_loop h hf r1 r2 r3⟩
/-- the class: one more for each floor that isn't the least of its loop -/
theorem c_in {W : Nat → Nat} {τ ρ : Mm} (h : WR W τ ρ) {f r : Nat} (hf : f < 10) (h2 : 1 ≤ r ∧ r ≤ 10) (hr : itw W r f = f) (hn : ∀ j, 1 ≤ j → j < r → itw W j f ≠ f) (k4 : Int32 → Int32 → Option Int32) (t : Nat) : ∀ (k i n : Nat), i + 1 + k = r → k < n → (∀ j, 1 ≤ j → j ≤ i → f < itw W j f) → f_X1_crossings_20L τ k4 n (nI t) (nI f) (nI (itw W (i + 1) f)) (nI i) = k4 (nI (t + (if snb W f = true then 1 else 0))) (nI (f + 1)) := by
  have fin : ∀ (i : Nat) (K : Int32 → Int32 → Int32 → Int32 → Option Int32), i + 1 ≤ r → itw W (i + 1) f ≤ f → (∀ j, 1 ≤ j → j ≤ i → f < itw W j f) → f_X1_crossings_45 τ k4 (nI t) (nI f) (nI (itw W (i + 1) f)) = k4 (nI (t + (if snb W f = true then 1 else 0))) (nI (f + 1)) := by
    intro i K h1 h3 h4
    have hl := itw_lt h.1 hf (i + 1)
    unfold f_X1_crossings_45 f_X1_crossings_53
    by_cases e : itw W (i + 1) f = f
    · have hir : i + 1 = r := by
        rcases Nat.lt_or_ge (i + 1) r with z | z
        · exact absurd e (hn (i + 1) (by omega) z)
        · omega
      have hs : ¬ sn W f := fun q => by
        obtain ⟨j, j1, j2⟩ := (sn_iff h.1 hf h2.1 hr).mp q
        by_cases j0 : j = 0
        · subst j0
          exact absurd j2 (Nat.lt_irrefl _)
        · have := h4 j (by omega) (by omega)
          omega
      rw [if_pos (by rw [e]), snb_f hs, lt_d, nI_1]
      rfl
    · have hs : sn W f := (sn_iff h.1 hf h2.1 hr).mpr ⟨i + 1, by
        rcases Nat.lt_or_ge (i + 1) r with z | z
        · exact z
        · exact absurd (show itw W (i + 1) f = f by rw [show i + 1 = r by omega, hr]) e, by omega⟩
      rw [if_neg (z_neq e (by omega) (by omega)), snb_t hs, lt_d, lt_d, nI_1, nI_1]
      rfl
  intro k
  induction k with
  | zero =>
    intro i n hi hn' hg
    obtain ⟨n, rfl⟩ : ∃ j, n = j + 1 := ⟨n - 1, by omega⟩
    have e : itw W (i + 1) f = f := by rw [show i + 1 = r by omega, hr]
    show f_X1_crossings_20 _ _ _ _ _ _ _ = _
    unfold f_X1_crossings_20
    have hle : nI (itw W (i + 1) f) ≤ nI f := nI_le (by omega) (by omega)
    rw [if_pos hle, fin i (fun _ _ _ _ => none) (by omega) (by omega) hg]
    split <;> rfl
  | succ k ih =>
    intro i n hi hn' hg
    obtain ⟨n, rfl⟩ : ∃ j, n = j + 1 := ⟨n - 1, by omega⟩
    have hl := itw_lt h.1 hf (i + 1)
    show f_X1_crossings_20 _ _ _ _ _ _ _ = _
    unfold f_X1_crossings_20
    rw [if_neg (show ¬ (10 : Int32) ≤ nI i from nI_ge (b := 10) (by omega) (by omega))]
    by_cases e : itw W (i + 1) f ≤ f
    · rw [if_pos (show nI (itw W (i + 1) f) ≤ nI f from nI_le e (by omega))]
      exact fin i (fun _ _ _ _ => none) (by omega) e hg
    · rw [if_neg (show ¬ nI (itw W (i + 1) f) ≤ nI f from nI_ge (by omega) (by omega)), z_in hl (by decide), nI_clamp (by omega), (h.2 _ hl).1, lt_d, lt_d, nI_1]
      refine ih (i + 1) n (by omega) (by omega) (fun j j1 j2 => ?_)
      by_cases hj : j = i + 1
      · rw [hj]; omega
      · exact hg j j1 (by omega)
theorem c_cross {W : Nat → Nat} {τ ρ : Mm} (h : WR W τ ρ) : ∀ (k f n : Nat), f + k = 10 → k < n → f_X1_crossings_4L τ n (nI (cnt (snb W) f)) (nI f) = some (nI (cnt (snb W) 10)) := by
  intro k
  induction k with
  | zero =>
    intro f n hf hn
    obtain ⟨n, rfl⟩ : ∃ j, n = j + 1 := ⟨n - 1, by omega⟩
    show f_X1_crossings_4 _ _ _ _ = _
    unfold f_X1_crossings_4
    rw [show f = 10 by omega, if_pos (by decide)]
  | succ k ih =>
    intro f n hf hn
    obtain ⟨n, rfl⟩ : ∃ j, n = j + 1 := ⟨n - 1, by omega⟩
    obtain ⟨r, r1, r2, r3⟩ := itw_len h.1 (show f < 10 by omega)
    show f_X1_crossings_4 _ _ _ _ = _
    unfold f_X1_crossings_4
    rw [if_neg (show ¬ (10 : Int32) ≤ nI f from nI_ge (b := 10) (by omega) (by omega)), z_in (by omega) (by decide), nI_clamp (by omega), (h.2 f (by omega)).1, lt_d]
    refine (c_in h (show f < 10 by omega) r1 r2 r3 _ (cnt (snb W) f) (r - 1) 0 FU (by omega) (by rw [FU_e]; omega) (fun j j1 j2 => by omega)).trans ?_
    exact ih (f + 1) n (by omega) (by omega)
/-- the model: what a walk along a loop adds -/
theorem m_in {W : Nat → Nat} {τ ρ : Mm} (h : WR W τ ρ) {f r : Nat} (hf : f < 10) (hr1 : 1 ≤ r) (hr : itw W r f = f) (hn : ∀ j, 1 ≤ j → j < r → itw W j f ≠ f) (k6 : Int32 → Int32 → Int32 → Option Int32) (v1 s0 : Int32) (h0 : ∀ j, bt s0 (itw W j f) = false) : ∀ (k j n : Nat) (s : Int32), j + k = r → k < n → (∀ g, g < 32 → (bt s g = true ↔ bt s0 g = true ∨ ∃ i, i < j ∧ itw W i f = g)) → cnt (bt s) 10 = cnt (bt s0) 10 + j → ∃ s1 : Int32, f_X9_crossed_37L ρ k6 n v1 s (nI f) (nI (itw W j f)) = k6 v1 s1 (nI (f + 1)) ∧ (∀ g, g < 32 → (bt s1 g = true ↔ bt s0 g = true ∨ ∃ i, i < r ∧ itw W i f = g)) ∧ cnt (bt s1) 10 = cnt (bt s0) 10 + r := by
  intro k
  induction k with
  | zero =>
    intro j n s hj hn' hs hc
    obtain ⟨n, rfl⟩ : ∃ j, n = j + 1 := ⟨n - 1, by omega⟩
    obtain rfl : j = r := by omega
    refine ⟨s, ?_, hs, hc⟩
    show f_X9_crossed_37 _ _ _ _ _ _ _ = _
    unfold f_X9_crossed_37 f_X9_crossed_66
    have hb : bt s f = true := (hs f (by omega)).mpr (Or.inr ⟨0, hr1, rfl⟩)
    rw [hr, p_has (by omega), b2_t hb, bd_s, i10, lt_d, nI_1]
  | succ k ih =>
    intro j n s hj hn' hs hc
    obtain ⟨n, rfl⟩ : ∃ j, n = j + 1 := ⟨n - 1, by omega⟩
    have hl := itw_lt h.1 hf j
    have hb : ¬ bt s (itw W j f) = true := fun q => by
      rcases (hs _ (by omega)).mp q with z | ⟨i, i1, i2⟩
      · rw [h0 j] at z
        exact absurd z (by decide)
      · rw [show j = i + (j - i) by omega] at i2
        exact hn (j - i) (by omega) (by omega) (itw_canc h.1 hf i i2).symm
    have hon : ∀ g, g < 32 → bt (s ||| ((1 : Int32) <<< (nI (itw W j f) &&& 31))) g = (bt s g || decide (g = itw W j f)) := fun g hg => p_on (by omega) hg
    obtain ⟨s1, a1, a2, a3⟩ := ih (j + 1) n (s ||| ((1 : Int32) <<< (nI (itw W j f) &&& 31))) (by omega) (by omega) (fun g hg => by
      rw [hon g hg, Bool.or_eq_true, decide_eq_true_eq, hs g hg]
      constructor
      · rintro ((z | ⟨i, i1, i2⟩) | z)
        · exact Or.inl z
        · exact Or.inr ⟨i, by omega, i2⟩
        · exact Or.inr ⟨j, by omega, z.symm⟩
      · rintro (z | ⟨i, i1, i2⟩)
        · exact Or.inl (Or.inl z)
        · by_cases hij : i = j
          · subst hij
            exact Or.inr i2.symm
          · exact Or.inl (Or.inr ⟨i, by omega, i2⟩)) (by
      rw [cnt_on (b := bt s) (o := itw W j f) (by simpa using hb) 10 hl (fun i hi => hon i (by omega)), hc]
      omega)
    refine ⟨s1, ?_, a2, a3⟩
    show f_X9_crossed_37 _ _ _ _ _ _ _ = _
    unfold f_X9_crossed_37
    rw [p_has (by omega), b2_f hb, bd_s, i00, lt_d, z_in hl (by decide), nI_clamp (by omega), (h.2 _ hl).2, lt_d]
    exact a1
theorem m_cross {W : Nat → Nat} {τ ρ : Mm} (h : WR W τ ρ) : ∀ (k f n c : Nat) (s : Int32), f + k = 10 → k < n → c + f = cnt (bt s) 10 + cnt (snb W) f → (∀ g, g < 10 → (bt s g = true ↔ ∃ q j, q < f ∧ itw W j q = g)) → (∀ g, 10 ≤ g → bt s g = false) → f_X9_crossed_6L ρ n (nI c) s (nI f) = some (nI (cnt (snb W) 10)) := by
  intro k
  induction k with
  | zero =>
    intro f n c s hf hn hc hs hs2
    obtain ⟨n, rfl⟩ : ∃ j, n = j + 1 := ⟨n - 1, by omega⟩
    obtain rfl : f = 10 := by omega
    show f_X9_crossed_6 _ _ _ _ _ = _
    unfold f_X9_crossed_6
    rw [if_pos (by decide)]
    rw [cnt_all 10 (fun i hi => (hs i hi).mpr ⟨i, 0, hi, rfl⟩)] at hc
    rw [show c = cnt (snb W) 10 by omega]
  | succ k ih =>
    intro f n c s hf hn hc hs hs2
    obtain ⟨n, rfl⟩ : ∃ j, n = j + 1 := ⟨n - 1, by omega⟩
    have hf' : f < 10 := by omega
    show f_X9_crossed_6 _ _ _ _ _ = _
    unfold f_X9_crossed_6 f_X9_crossed_66
    rw [if_neg (show ¬ (10 : Int32) ≤ nI f from nI_ge (b := 10) (by omega) (by omega)), p_has (by omega), bd_s]
    have hsn : bt s f = true ↔ sn W f := hs f hf'
    by_cases hb : bt s f = true
    · rw [b2_t hb, i10, lt_d, nI_1]
      refine ih (f + 1) n c s (by omega) (by omega) ?_ (fun g hg => (hs g hg).trans ⟨fun ⟨q, j, q1, q2⟩ => ⟨q, j, by omega, q2⟩, fun ⟨q, j, q1, q2⟩ => ?_⟩) hs2
      · show c + (f + 1) = _ + (cnt (snb W) f + _)
        rw [snb_t (hsn.mp hb), if_pos rfl]
        omega
      · by_cases hq : q = f
        · subst hq
          obtain ⟨h0, j0, e1, e2⟩ := hsn.mp hb
          exact ⟨h0, j + j0, e1, by rw [itw_add, e2, q2]⟩
        · exact ⟨q, j, by omega, q2⟩
    · obtain ⟨r, r1, r2, r3⟩ := itw_len h.1 hf'
      have hns : ¬ sn W f := fun q => hb (hsn.mpr q)
      rw [b2_f hb, i00, (p_loop h hf' r1 r2 r3).2, bd_s, lt_d]
      have h0 : ∀ j, bt s (itw W j f) = false := fun j => by
        have hl := itw_lt h.1 hf' j
        cases hx : bt s (itw W j f) with
        | false => rfl
        | true =>
          exfalso
          obtain ⟨q, i, q1, q2⟩ := (hs _ hl).mp hx
          obtain ⟨i2, e2⟩ := itw_rev h.1 hf' (show itw W j f = itw W j f from rfl)
          exact hns ⟨q, i2 + i, q1, by rw [itw_add, q2, e2]⟩
      obtain ⟨s1, a1, a2, a3⟩ := m_in h hf' r1.1 r2 r3 (f_X9_crossed_6L ρ n) (nI c + (nI r - 1)) s h0 r 0 FU s (by omega) (by rw [FU_e]; omega) (fun g hg => ⟨fun z => Or.inl z, fun z => z.elim id (fun ⟨i, i1, _⟩ => absurd i1 (Nat.not_lt_zero _))⟩) rfl
      refine a1.trans ?_
      have e : nI c + (nI r - 1) = nI (c + (r - 1)) := by
        rw [show nI r = nI (r - 1 + 1) by rw [show r - 1 + 1 = r by omega], nI_pred, nI_add]
      rw [e]
      refine ih (f + 1) n (c + (r - 1)) s1 (by omega) (by omega) ?_ (fun g hg => ?_) (fun g hg => ?_)
      · rw [a3]
        show c + (r - 1) + (f + 1) = _ + (cnt (snb W) f + _)
        rw [snb_f hns, if_neg (by decide)]
        omega
      · rw [a2 g (by omega), hs g hg]
        constructor
        · rintro (⟨q, j, q1, q2⟩ | ⟨i, i1, i2⟩)
          · exact ⟨q, j, by omega, q2⟩
          · exact ⟨f, i, by omega, i2⟩
        · rintro ⟨q, j, q1, q2⟩
          by_cases hq : q = f
          · subst hq
            obtain ⟨i, i1, i2⟩ := itw_mod r1.1 r2 j
            exact Or.inr ⟨i, i1, by rw [← i2, q2]⟩
          · exact Or.inl ⟨q, j, by omega, q2⟩
      · by_cases hg2 : g < 32
        · cases hx : bt s1 g with
          | false => rfl
          | true =>
            exfalso
            rcases (a2 g hg2).mp hx with z | ⟨i, i1, i2⟩
            · rw [hs2 g hg] at z
              exact absurd z (by decide)
            · have := itw_lt h.1 hf' i
              omega
        · exact b_big (by omega)
theorem cnt_none {b : Nat → Bool} : ∀ n, (∀ i, i < n → b i = false) → cnt b n = 0 := by
  intro n
  induction n with
  | zero => intro _; rfl
  | succ n ih =>
    intro h
    show cnt b n + _ = _
    rw [ih (fun i hi => h i (by omega)), h n (by omega)]
    rfl
theorem s_cross {W : Nat → Nat} {τ ρ : Mm} (h : WR W τ ρ) : ∃ r : Int32, f_X1_crossings τ = some r ∧ f_X9_crossed ρ = some r := by
  refine ⟨_, c_cross h 10 0 FU (by omega) (by rw [FU_e]; omega), m_cross h 10 0 FU 0 0 (by omega) (by rw [FU_e]; omega) ?_ (fun g hg => ?_) (fun g _ => b_0 g)⟩
  · rw [cnt_none 10 (fun i _ => b_0 i)]
    rfl
  · rw [b_0]
    exact ⟨fun q => absurd q (by decide), fun ⟨q, j, q1, _⟩ => absurd q1 (Nat.not_lt_zero _)⟩
theorem s_first {W : Nat → Nat} {τ ρ : Mm} (h : WR W τ ρ) : ∀ (k i n n2 : Nat), i + k = 10 → k < n → k < n2 → ∃ r : Int32, f_X1_firstCrossed_2L τ n (nI i) = some r ∧ f_X9_firstCrossed_2L ρ n2 (nI i) = some r := by
  intro k
  induction k with
  | zero =>
    intro i n n2 hi hn hn2
    obtain ⟨n, rfl⟩ : ∃ j, n = j + 1 := ⟨n - 1, by omega⟩
    obtain ⟨n2, rfl⟩ : ∃ j, n2 = j + 1 := ⟨n2 - 1, by omega⟩
    refine ⟨-5, ?_, ?_⟩
    · show f_X1_firstCrossed_2 _ _ _ = _
      unfold f_X1_firstCrossed_2
      rw [show i = 10 by omega, if_pos (by decide)]
    · show f_X9_firstCrossed_2 _ _ _ = _
      unfold f_X9_firstCrossed_2
      rw [show i = 10 by omega, if_pos (by decide)]
  | succ k ih =>
    intro i n n2 hi hn hn2
    obtain ⟨n, rfl⟩ : ∃ j, n = j + 1 := ⟨n - 1, by omega⟩
    obtain ⟨n2, rfl⟩ : ∃ j, n2 = j + 1 := ⟨n2 - 1, by omega⟩
    have g1 : f_X1_firstCrossed_2L τ (n + 1) (nI i) = f_X1_firstCrossed_2 τ (f_X1_firstCrossed_2L τ n) (nI i) := rfl
    have g2 : f_X9_firstCrossed_2L ρ (n2 + 1) (nI i) = f_X9_firstCrossed_2 ρ (f_X9_firstCrossed_2L ρ n2) (nI i) := rfl
    rw [g1, g2]
    unfold f_X1_firstCrossed_2 f_X9_firstCrossed_2
    have n10 : ¬ (10 : Int32) ≤ nI i := nI_ge (b := 10) (by omega) (by omega)
    obtain ⟨e1, e2⟩ := h.2 i (by omega)
    rw [if_neg n10, if_neg n10, z_in (by omega) (by decide), z_in (by omega) (by decide), nI_clamp (by omega), e1, e2, lt_d, lt_d, nI_1]
    by_cases he : nI (W i) = nI i
    · rw [if_pos he, if_pos he]
      exact ih (i + 1) n n2 (by omega) (by omega) (by omega)
    · rw [if_neg he, if_neg he]
      exact ⟨_, rfl, rfl⟩
section CG
variable {nh : Nat} {σ : Ms} {ρ : Mm} {ℓ : Mz} {η : Mj}
theorem S_told (R : RX nh σ ρ ℓ η) (b : Int32) : SM nh σ ℓ η (f_X8_told σ b) (f_X9_told ρ b) := by
  obtain ⟨M, m, w, H, hm, hw, hz, hp, hl, ns, np, nb⟩ := R.1
  obtain ⟨W, hW⟩ := HR_WR H hp
  unfold f_X8_told f_X8_told_0 f_X9_told f_X9_told_0
  rw [q_wc b 10 10 10 10 rfl (by omega) rfl, q_ic b 10 19 10 10 rfl rfl, bd_s, bd_s]
  rcases bC_c b (a := 10) (n := 10) (by omega) with ⟨h, -⟩ | ⟨f, hf, rfl, h⟩
  · rw [h]; simp only [i00]
    rw [q_wc b 20 10 20 10 rfl (by omega) rfl, q_ic b 20 29 20 10 rfl rfl, bd_s, bd_s]
    rcases bC_c b (a := 20) (n := 10) (by omega) with ⟨h, -⟩ | ⟨f, hf, rfl, h⟩
    · rw [h]; simp only [i00]
      by_cases b0 : b = 0
      · rw [if_pos b0, if_pos b0, H.2.1.2.1, H.2.1.2.2]; exact SM.same R _
      rw [if_neg b0, if_neg b0]
      by_cases b1 : b = 1
      · rw [if_pos b1, if_pos b1]
        obtain ⟨-, ⟨r, hr, g2, g3⟩, g4⟩ := R.HH (hs := σ) (fun _ _ _ => rfl)
        rw [g3 ρ (fun _ _ => rfl), bd_s]
        by_cases hx : σ 1 16 0 = 0
        · rw [if_pos hx]
          rw [if_pos hx] at g2
          rw [g2]
          exact SM.same R _
        · rw [if_neg hx]
          rw [if_neg hx] at g2
          rw [gd_of (g4.resolve_left hx), gd_of (g4.resolve_left hx), g2]
          exact SM.same R _
      rw [if_neg b1, if_neg b1]
      by_cases b2' : b = 2
      · rw [if_pos b2', if_pos b2', H.2.2.2.1.1]; exact SM.same R _
      rw [if_neg b2', if_neg b2']
      by_cases b3 : b = 3
      · rw [if_pos b3, if_pos b3, H.2.2.1.2.1, H.2.2.1.2.2]; exact SM.same R _
      rw [if_neg b3, if_neg b3]
      by_cases b4 : b = 4
      · rw [if_pos b4, if_pos b4, bd_eta, bd_eta]; exact S_quiet R
      rw [if_neg b4, if_neg b4]
      by_cases b5 : b = 5
      · obtain ⟨r, r1, r2⟩ := s_cross hW
        rw [if_pos b5, if_pos b5, r1, r2, bd_s, bd_s]; exact SM.same R _
      rw [if_neg b5, if_neg b5]
      by_cases b6 : b = 6
      · obtain ⟨r, r1, r2⟩ := s_first hW 10 0 FU FU (by omega) (by rw [FU_e]; omega) (by rw [FU_e]; omega)
        have r1 : f_X1_firstCrossed (σ 1) = some r := r1
        have r2 : f_X9_firstCrossed ρ = some r := r2
        rw [if_pos b6, if_pos b6, r1, r2, bd_s, bd_s]; exact SM.same R _
      rw [if_neg b6, if_neg b6]
      exact SM.same R _
    · rw [h]; simp only [i10]
      obtain ⟨r, r1, r2⟩ := s_loop hW hf
      rw [show (20 : Int32) = nI 20 from rfl, z_subc, r1, r2, bd_s, bd_s]
      exact SM.same R _
  · rw [h]; simp only [i10]
    rw [show (10 : Int32) = nI 10 from rfl, z_subc, z_in hf (by decide), z_in hf (by decide), nI_clamp (by omega), (hW.2 f hf).1, (hW.2 f hf).2]
    exact SM.same R _
end CG
