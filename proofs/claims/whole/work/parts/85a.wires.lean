/-! PURE: wires as a permutation, loops, told -/
theorem php : ∀ (n : Nat) (g : Nat → Nat), (∀ i, i ≤ n → g i < n) → ∃ i j, i < j ∧ j ≤ n ∧ g i = g j := by
  intro n
  induction n with
  | zero =>
    intro g h
    exact absurd (h 0 (Nat.le_refl _)) (Nat.not_lt_zero _)
  | succ n ih =>
    intro g h
    by_cases hv : ∃ i, i ≤ n ∧ g i = g (n + 1)
    · obtain ⟨i, h1, h2⟩ := hv
      exact ⟨i, n + 1, by omega, Nat.le_refl _, h2⟩
    · have hv' : ∀ i, i ≤ n → g i ≠ g (n + 1) := fun i h1 h2 => hv ⟨i, h1, h2⟩
      have hl := h (n + 1) (Nat.le_refl _)
      obtain ⟨i, j, h1, h2, h3⟩ := ih (fun i => if g i = n then g (n + 1) else g i) (fun i hi => by
        have a := h i (by omega)
        have b := hv' i hi
        show (if g i = n then g (n + 1) else g i) < n
        by_cases q : g i = n
        · rw [if_pos q]; omega
        · rw [if_neg q]; omega)
      refine ⟨i, j, h1, by omega, ?_⟩
      have h3 : (if g i = n then g (n + 1) else g i) = (if g j = n then g (n + 1) else g j) := h3
      have b1 := hv' i (by omega)
      have b2 := hv' j h2
      by_cases q1 : g i = n
      · by_cases q2 : g j = n
        · omega
        · rw [if_pos q1, if_neg q2] at h3
          exact absurd h3.symm b2
      · by_cases q2 : g j = n
        · rw [if_neg q1, if_pos q2] at h3
          exact absurd h3 b1
        · rw [if_neg q1, if_neg q2] at h3
          exact h3
def itw (W : Nat → Nat) : Nat → Nat → Nat
  | 0, f => f
  | n + 1, f => W (itw W n f)
def WP (W : Nat → Nat) : Prop := (∀ f, f < 10 → W f < 10) ∧ ∀ f g, f < 10 → g < 10 → W f = W g → f = g
theorem itw_lt {W : Nat → Nat} (h : WP W) {f : Nat} (hf : f < 10) : ∀ n, itw W n f < 10 := by
  intro n
  induction n with
  | zero => exact hf
  | succ n ih => exact h.1 _ ih
theorem itw_add {W : Nat → Nat} {f b : Nat} : ∀ a, itw W (a + b) f = itw W a (itw W b f) := by
  intro a
  induction a with
  | zero => rw [Nat.zero_add]; rfl
  | succ a ih =>
    rw [show a + 1 + b = (a + b) + 1 by omega]
    show W _ = W _
    rw [ih]
theorem itw_canc {W : Nat → Nat} (h : WP W) {f : Nat} (hf : f < 10) {d : Nat} : ∀ i, itw W i f = itw W (i + d) f → f = itw W d f := by
  intro i
  induction i with
  | zero =>
    intro e
    rw [Nat.zero_add] at e
    exact e
  | succ i ih =>
    intro e
    rw [show i + 1 + d = (i + d) + 1 by omega] at e
    exact ih (h.2 _ _ (itw_lt h hf _) (itw_lt h hf _) e)
theorem itw_len {W : Nat → Nat} (h : WP W) {f : Nat} (hf : f < 10) : ∃ r : Nat, (1 ≤ r ∧ r ≤ 10) ∧ itw W r f = f ∧ ∀ j, 1 ≤ j → j < r → itw W j f ≠ f := by
  obtain ⟨i, j, h1, h2, h3⟩ := php 10 (fun n => itw W n f) (fun n _ => itw_lt h hf n)
  have h3 : itw W i f = itw W j f := h3
  rw [show j = i + (j - i) by omega] at h3
  have h4 := itw_canc h hf i h3
  obtain ⟨r, ⟨r1, r2⟩, r3⟩ := pk_least (fun r => 1 ≤ r ∧ itw W r f = f) ⟨j - i, by omega, h4.symm⟩
  refine ⟨r, ⟨r1, ?_⟩, r2, fun q q1 q2 q3 => r3 q q2 ⟨q1, q3⟩⟩
  rcases Nat.lt_or_ge (j - i) r with z | z
  · exact absurd ⟨by omega, h4.symm⟩ (r3 (j - i) z)
  · omega
theorem itw_mod {W : Nat → Nat} {f r : Nat} (h1 : 1 ≤ r) (hr : itw W r f = f) : ∀ j, ∃ i, i < r ∧ itw W j f = itw W i f := by
  intro j
  induction j using Nat.strongRecOn with
  | ind j ih =>
    by_cases h : j < r
    · exact ⟨j, h, rfl⟩
    · obtain ⟨i, a, b⟩ := ih (j - r) (by omega)
      refine ⟨i, a, ?_⟩
      rw [← b, show itw W j f = itw W (j - r + r) f by rw [show j - r + r = j by omega], itw_add, hr]
theorem itw_rev {W : Nat → Nat} (h : WP W) {f g j : Nat} (hf : f < 10) (e : itw W j f = g) : ∃ i, itw W i g = f := by
  obtain ⟨r, ⟨r1, r2⟩, r3, -⟩ := itw_len h hf
  obtain ⟨i, i1, i2⟩ := itw_mod r1 r3 j
  refine ⟨r - i, ?_⟩
  rw [← e, i2, ← itw_add, show r - i + i = r by omega, r3]
def sn (W : Nat → Nat) (f : Nat) : Prop := ∃ h j : Nat, h < f ∧ itw W j h = f
theorem sn_iff {W : Nat → Nat} (h : WP W) {f r : Nat} (hf : f < 10) (h1 : 1 ≤ r) (hr : itw W r f = f) : sn W f ↔ ∃ i, i < r ∧ itw W i f < f := by
  constructor
  · rintro ⟨g, j, hg, e⟩
    obtain ⟨i, hi⟩ := itw_rev h (show g < 10 by omega) e
    obtain ⟨q, q1, q2⟩ := itw_mod h1 hr i
    exact ⟨q, q1, by rw [← q2, hi]; exact hg⟩
  · rintro ⟨i, h2, h3⟩
    exact ⟨itw W i f, r - i, h3, by rw [← itw_add, show r - i + i = r by omega, hr]⟩
noncomputable def snb (W : Nat → Nat) (f : Nat) : Bool := @decide (sn W f) (Classical.propDecidable _)
theorem snb_t {W : Nat → Nat} {f : Nat} (h : sn W f) : snb W f = true := by
  unfold snb
  exact @decide_eq_true _ (Classical.propDecidable _) h
theorem snb_f {W : Nat → Nat} {f : Nat} (h : ¬ sn W f) : snb W f = false := by
  unfold snb
  exact @decide_eq_false _ (Classical.propDecidable _) h
def cnt (b : Nat → Bool) : Nat → Nat
  | 0 => 0
  | n + 1 => cnt b n + (if b n = true then 1 else 0)
theorem cnt_c {b c : Nat → Bool} : ∀ n, (∀ i, i < n → b i = c i) → cnt b n = cnt c n := by
  intro n
  induction n with
  | zero => intro _; rfl
  | succ n ih =>
    intro h
    show cnt b n + _ = cnt c n + _
    rw [ih (fun i hi => h i (by omega)), h n (by omega)]
theorem cnt_on {b c : Nat → Bool} {o : Nat} (hb : b o = false) : ∀ n, o < n → (∀ i, i < n → c i = (b i || decide (i = o))) → cnt c n = cnt b n + 1 := by
  intro n
  induction n with
  | zero => intro h; exact absurd h (Nat.not_lt_zero _)
  | succ n ih =>
    intro ho h
    show cnt c n + _ = cnt b n + _ + 1
    have hn := h n (by omega)
    by_cases e : n = o
    · rw [cnt_c n (fun i hi => by rw [h i (by omega)]; simp; intro q; omega) (b := c) (c := b), hn, e, hb]
      simp
    · rw [ih (by omega) (fun i hi => h i (by omega)), hn]
      simp [e]
      omega
theorem cnt_all {b : Nat → Bool} : ∀ n, (∀ i, i < n → b i = true) → cnt b n = n := by
  intro n
  induction n with
  | zero => intro _; rfl
  | succ n ih =>
    intro h
    show cnt b n + _ = _
    rw [ih (fun i hi => h i (by omega)), h n (by omega)]
    rfl
theorem cnt_le {b : Nat → Bool} : ∀ n, cnt b n ≤ n := by
  intro n
  induction n with
  | zero => exact Nat.le_refl _
  | succ n ih =>
    show cnt b n + _ ≤ _
    split <;> omega
