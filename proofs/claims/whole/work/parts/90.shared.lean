/-! PURE: what is best shared, in both -/
theorem ifF {α : Type} {a b : α} : (if false = true then a else b) = b := if_neg (fun h => Bool.false_ne_true h)
theorem ifT {α : Type} {a b : α} : (if true = true then a else b) = a := if_pos rfl
theorem tb_or : ∀ s, s < 64 → ∀ p, p < 6 → nI s ||| ((1 : Int32) <<< (nI p &&& 31)) = nI (s ||| 2 ^ p) ∧ s ||| 2 ^ p < 64 := by decide +kernel
theorem tb_bt : ∀ s, s < 64 → ∀ p, p < 6 → bt (nI s) p = s.testBit p := by decide +kernel
def frb (θ : Mm) (p : Nat) : Bool := decide (θ 7 p = 0 ∧ θ 5 p = -5 ∧ θ 6 p = 0)
def elb (M : Nat) (θ : Mm) (opn : Nat → Int32) (f p : Nat) : Bool := decide (p < M) && (!decide (opn f = 0) && frb θ p)
def CN (M : Nat) (θ : Mm) (hs : Ms) (ρ : Mm) (opn : Nat → Int32) (cv : Nat → Nat → Int32) : Prop :=
  (M ≤ 6 ∧ θ 12 0 = nI M ∧ ρ 0 0 = nI M) ∧
  (∀ θ' : Mm, EF [11] θ' θ → (∀ f, f < 10 → f_X1_waitsFor θ' (nI f) = some (opn f)) ∧ ∀ f p, f < 10 → p < M → ∃ τ1 : Mm, f_X1_cost θ' hs (nI p) (nI f) = some (cv f p, τ1) ∧ EF [11] τ1 θ) ∧
  (∀ ρ' : Mm, EF [30, 41, 42, 43] ρ' ρ → (∀ f, f < 10 → f_X9_isOpen ρ' (nI f) = some (opn f)) ∧ (∀ p, p < M → f_X9_isFree ρ' (nI p) = some (b2 (θ 7 p = 0 ∧ θ 5 p = -5 ∧ θ 6 p = 0))) ∧ ∀ f p, f < 10 → p < M → ∃ ρ1 : Mm, f_X9_cost ρ' (nI p) (nI f) = some (cv f p, ρ1) ∧ EF [30] ρ1 ρ') ∧
  ∀ f p, f < 10 → p < M → -20000 ≤ (cv f p).toInt ∧ (cv f p).toInt ≤ 20000
def REL (k : Nat) (w m c : Int32) : Prop := ∃ mm : Nat, mm ≤ k ∧ m = nI mm ∧ (-20000 * (k : Int) ≤ c.toInt ∧ c.toInt ≤ 20000 * (k : Int)) ∧ w.toInt = 1000000 * (mm : Int) - c.toInt
theorem rel_cmp {k : Nat} {w m c w' m' c' : Int32} (hk : k ≤ 10) (h : REL k w m c) (h' : REL k w' m' c') : (w < w' ↔ m < m' ∨ (m' = m ∧ c' < c)) ∧ (w' = w ↔ m' = m ∧ c' = c) := by
  obtain ⟨a, a1, a2, a3, a4⟩ := h
  obtain ⟨b, b1, b2, b3, b4⟩ := h'
  rw [p_lt, p_lt, p_lt, p_eq, p_eq, p_eq, a2, b2, nI_toInt (by omega), nI_toInt (by omega), a4, b4]
  omega
theorem rel_up {k : Nat} {w m c v : Int32} (hk : k ≤ 9) (h : REL k w m c) (hv : -20000 ≤ v.toInt ∧ v.toInt ≤ 20000) : REL (k + 1) (w + 1000000 - v) (m + 1) (c + v) := by
  obtain ⟨a, a1, a2, a3, a4⟩ := h
  have e1 : (c + v).toInt = c.toInt + v.toInt := p_add (by omega) (by omega)
  have e2 : (w + 1000000).toInt = w.toInt + 1000000 := p_add (b := 1000000) (by rw [show (1000000 : Int32).toInt = 1000000 from rfl]; omega) (by rw [show (1000000 : Int32).toInt = 1000000 from rfl]; omega)
  have e3 : (w + 1000000 - v).toInt = w.toInt + 1000000 - v.toInt := by rw [p_sub, e2] <;> rw [e2] <;> omega
  refine ⟨a + 1, by omega, by rw [a2, nI_1], by rw [e1]; omega, by rw [e3, e1, a4]; omega⟩
theorem rel_w {k : Nat} {w m c : Int32} (h : REL k w m c) : REL (k + 1) w m c := by
  obtain ⟨a, a1, a2, a3, a4⟩ := h
  exact ⟨a, by omega, a2, by omega, a4⟩
section SHA
variable {M : Nat} {θ : Mm} {hs : Ms} {ρ : Mm} {opn : Nat → Int32} {cv : Nat → Nat → Int32}
/-- what the class has asked of a floor -/
def ASK (M : Nat) (θ : Mm) (opn : Nat → Int32) (cv : Nat → Nat → Int32) (τ : Mm) (f : Nat) : Prop := (∀ p, p < 6 → bt (τ 3 f) p = elb M θ opn f p) ∧ ∀ p, p < 6 → elb M θ opn f p = true → τ 4 (6 * f + p) = cv f p
theorem p_open5 {τ : Mm} {f p s : Nat} (A : ASK M θ opn cv τ f) (hf : f < 10) (hp : p < 6) (hs : s < 64) : f_X5_isOpen τ (nI f) (nI p) (nI s) = some (if (elb M θ opn f p && !s.testBit p) = true then 1 else 0) := by
  unfold f_X5_isOpen f_X5_isOpen_0
  have hb : bt (τ 3 f &&& (nI s ^^^ (-1))) p = (elb M θ opn f p && !s.testBit p) := by
    rw [b_and, b_xor, b_m1 p (by omega), tb_bt s hs p hp, A.1 p hp]
    simp
  rw [z_in hf (by decide), nI_clamp (by omega), p_bit (by omega), hb]
  by_cases h : (elb M θ opn f p && !s.testBit p) = true
  · rw [if_pos h, if_neg (by decide)]
  · rw [if_neg h, if_pos rfl]
theorem p_worth {τ : Mm} {f p s : Nat} (hf : f < 10) (hp : p < 6) (hs : s < 64) : f_X5_worthBy τ (nI f) (nI p) (nI s) = some (τ 5 (64 * f + 64 + (s ||| 2 ^ p)) + 1000000 - τ 4 (6 * f + p)) := by
  obtain ⟨e, hl⟩ := tb_or s hs p hp
  unfold f_X5_worthBy f_X5_worthBy_0
  have e1 : (nI f + 1) * (64 : Int32) + (nI s ||| ((1 : Int32) <<< (nI p &&& 31))) = nI (64 * f + 64 + (s ||| 2 ^ p)) := by
    rw [e, nI_1, show (64 : Int32) = nI 64 from rfl, pk_mul, nI_add]
    congr 1
    omega
  have e2 : nI f * (6 : Int32) + nI p = nI (6 * f + p) := by
    rw [show (6 : Int32) = nI 6 from rfl, pk_mul, nI_add]
    congr 1
    omega
  rw [e1, e2, lt_d, z_in (by omega) (by decide), nI_clamp (by omega), lt_d, z_in (by omega) (by decide), nI_clamp (by omega)]
theorem e64 {f s : Nat} : nI f * (64 : Int32) + nI s = nI (64 * f + s) := by
  rw [show (64 : Int32) = nI 64 from rfl, pk_mul, nI_add]
  congr 1
  omega
theorem e64' {f s : Nat} : (64 : Int32) * nI f + nI s = nI (64 * f + s) := by
  rw [show (64 : Int32) = nI 64 from rfl, pk_mul, nI_add]
theorem e6' {f p : Nat} : (6 : Int32) * nI f + nI p = nI (6 * f + p) := by
  rw [show (6 : Int32) = nI 6 from rfl, pk_mul, nI_add]
/-- nobody is left who might be given a floor -/
theorem val_skip {τ : Mm} {f s : Nat} (A : ASK M θ opn cv τ f) (hf : f < 10) (hs : s < 64) (k2 : Mm → Int32 → Option Mm) : ∀ (k p n : Nat) (w : Int32), p + k = 6 → k < n → (∀ q, p ≤ q → q < 6 → elb M θ opn f q = false) → f_X5_values_25L (nI f) k2 n τ (nI s) w (nI p) = k2 (s_t τ 5 (64 * f + s) w) (nI (s + 1)) := by
  intro k
  induction k with
  | zero =>
    intro p n w hp hn _
    obtain ⟨n, rfl⟩ : ∃ j, n = j + 1 := ⟨n - 1, by omega⟩
    show f_X5_values_25 _ _ _ _ _ _ _ = _
    unfold f_X5_values_25
    rw [show p = 6 by omega, if_pos (by decide), e64, z_in (by omega) (by decide), nI_clamp (by omega), lt_d, lt_d, nI_1]
  | succ k ih =>
    intro p n w hp hn he
    obtain ⟨n, rfl⟩ : ∃ j, n = j + 1 := ⟨n - 1, by omega⟩
    show f_X5_values_25 _ _ _ _ _ _ _ = _
    unfold f_X5_values_25 f_X5_values_56
    rw [if_neg (show ¬ (6 : Int32) ≤ nI p from nI_ge (b := 6) (by omega) (by omega)), p_open5 A hf (by omega) hs, bd_s, he p (Nat.le_refl _) (by omega), Bool.false_and, ifF, i00, lt_d, nI_1]
    exact ih (p + 1) n w (by omega) (by omega) (fun q q1 q2 => he q (by omega) q2)
/-- the best of a floor and a set: as behind it, or by one who may be given it -/
def OPT (M : Nat) (θ : Mm) (opn : Nat → Int32) (cv : Nat → Nat → Int32) (ρ : Mm) (f s : Nat) (m c : Int32) : Prop := (m = ρ 41 (64 * f + 64 + s) ∧ c = ρ 42 (64 * f + 64 + s)) ∨ ∃ p, p < M ∧ elb M θ opn f p = true ∧ s.testBit p = false ∧ m = ρ 41 (64 * f + 64 + (s ||| 2 ^ p)) + 1 ∧ c = ρ 42 (64 * f + 64 + (s ||| 2 ^ p)) + cv f p
theorem elb_o {f p : Nat} (h : opn f = 0) : elb M θ opn f p = false := by
  unfold elb
  simp [h]
theorem elb_M {f p : Nat} (h : M ≤ p) : elb M θ opn f p = false := by
  unfold elb
  rw [decide_eq_false (by omega), Bool.false_and]
theorem elb_i {f p : Nat} (h : p < M) (ho : ¬ opn f = 0) : elb M θ opn f p = frb θ p := by
  unfold elb
  simp [h, ho]
theorem fr_b {p : Nat} : b2 (θ 7 p = 0 ∧ θ 5 p = -5 ∧ θ 6 p = 0) = if frb θ p = true then 1 else 0 := by
  unfold b2 frb
  by_cases h : θ 7 p = 0 ∧ θ 5 p = -5 ∧ θ 6 p = 0
  · rw [if_pos h, if_pos (decide_eq_true h)]
  · rw [if_neg h, if_neg (by rw [decide_eq_false h]; decide)]
theorem val_in {τ ρ0 : Mm} {f s : Nat} (C : CN M θ hs ρ opn cv) (A : ASK M θ opn cv τ f) (hf : f < 10) (hs' : s < 64) (e0 : EF [30, 41, 42, 43] ρ0 ρ) (h43 : ∀ p, p < M → ρ0 43 (6 * f + p) = cv f p) (hT : ∀ u, u < 64 → REL (9 - f) (τ 5 (64 * f + 64 + u)) (ρ0 41 (64 * f + 64 + u)) (ρ0 42 (64 * f + 64 + u))) : ∀ (k p n n2 : Nat) (w : Int32) (ρ' : Mm), p + k = M → k + (6 - M) < n → k < n2 → EF [41, 42] ρ' ρ0 → (∀ x, x ≠ 64 * f + s → ρ' 41 x = ρ0 41 x ∧ ρ' 42 x = ρ0 42 x) → REL (10 - f) w (ρ' 41 (64 * f + s)) (ρ' 42 (64 * f + s)) → OPT M θ opn cv ρ0 f s (ρ' 41 (64 * f + s)) (ρ' 42 (64 * f + s)) → ∃ (w1 : Int32) (ρ1 : Mm), (∀ k2 : Mm → Int32 → Option Mm, f_X5_values_25L (nI f) k2 n τ (nI s) w (nI p) = k2 (s_t τ 5 (64 * f + s) w1) (nI (s + 1))) ∧ f_X9_layFloor_40L (nI f) (nI s) n2 ρ' (nI (64 * f + s)) (nI p) = some ρ1 ∧ EF [41, 42] ρ1 ρ0 ∧ (∀ x, x ≠ 64 * f + s → ρ1 41 x = ρ0 41 x ∧ ρ1 42 x = ρ0 42 x) ∧ REL (10 - f) w1 (ρ1 41 (64 * f + s)) (ρ1 42 (64 * f + s)) ∧ OPT M θ opn cv ρ0 f s (ρ1 41 (64 * f + s)) (ρ1 42 (64 * f + s)) := by
  have hM := C.1.1
  intro k
  induction k with
  | zero =>
    intro p n n2 w ρ' hp hn hn2 e1 ex hR hO
    obtain ⟨n2, rfl⟩ : ∃ j, n2 = j + 1 := ⟨n2 - 1, by omega⟩
    refine ⟨w, ρ', fun k2 => val_skip A hf hs' k2 (6 - M) p n w (by omega) (by omega) (fun q q1 _ => elb_M (by omega)), ?_, e1, ex, hR, hO⟩
    show f_X9_layFloor_40 _ _ _ _ _ _ = _
    unfold f_X9_layFloor_40
    rw [e1 0 (by decide), e0 0 (by decide), C.1.2.2, if_pos (nI_le (by omega) (by omega))]
  | succ k ih =>
    intro p n n2 w ρ' hp hn hn2 e1 ex hR hO
    obtain ⟨n2, rfl⟩ : ∃ j, n2 = j + 1 := ⟨n2 - 1, by omega⟩
    have eρ : EF [30, 41, 42, 43] ρ' ρ := (e1.sub (by decide)).tr e0
    obtain ⟨co, cf, -⟩ := C.2.2.1 ρ' eρ
    have g2 : f_X9_layFloor_40L (nI f) (nI s) (n2 + 1) ρ' (nI (64 * f + s)) (nI p) = f_X9_layFloor_40 (nI f) (nI s) (f_X9_layFloor_40L (nI f) (nI s) n2) ρ' (nI (64 * f + s)) (nI p) := rfl
    by_cases ho : opn f = 0
    · refine ⟨w, ρ', fun k2 => val_skip A hf hs' k2 (6 - p) p n w (by omega) (by omega) (fun q _ _ => elb_o ho), ?_, e1, ex, hR, hO⟩
      rw [g2]
      unfold f_X9_layFloor_40
      rw [e1 0 (by decide), e0 0 (by decide), C.1.2.2, if_neg (nI_ge (by omega) (by omega)), co f hf, bd_s, if_pos ho]
    · obtain ⟨n, rfl⟩ : ∃ j, n = j + 1 := ⟨n - 1, by omega⟩
      have g1 : ∀ k2, f_X5_values_25L (nI f) k2 (n + 1) τ (nI s) w (nI p) = f_X5_values_25 (nI f) k2 (f_X5_values_25L (nI f) k2 n) τ (nI s) w (nI p) := fun _ => rfl
      have pre9 : f_X9_layFloor_40L (nI f) (nI s) (n2 + 1) ρ' (nI (64 * f + s)) (nI p) = if (elb M θ opn f p && !s.testBit p) = true then (if ρ' 41 (64 * f + 64 + (s ||| 2 ^ p)) + 1 < ρ' 41 (64 * f + s) then f_X9_layFloor_40L (nI f) (nI s) n2 ρ' (nI (64 * f + s)) (nI (p + 1)) else (if ρ' 41 (64 * f + 64 + (s ||| 2 ^ p)) + 1 = ρ' 41 (64 * f + s) then (if ρ' 42 (64 * f + 64 + (s ||| 2 ^ p)) + ρ' 43 (6 * f + p) < ρ' 42 (64 * f + s) then f_X9_layFloor_40L (nI f) (nI s) n2 (s_t (s_t ρ' 41 (64 * f + s) (ρ' 41 (64 * f + 64 + (s ||| 2 ^ p)) + 1)) 42 (64 * f + s) (ρ' 42 (64 * f + 64 + (s ||| 2 ^ p)) + ρ' 43 (6 * f + p))) (nI (64 * f + s)) (nI (p + 1)) else f_X9_layFloor_40L (nI f) (nI s) n2 ρ' (nI (64 * f + s)) (nI (p + 1))) else f_X9_layFloor_40L (nI f) (nI s) n2 (s_t (s_t ρ' 41 (64 * f + s) (ρ' 41 (64 * f + 64 + (s ||| 2 ^ p)) + 1)) 42 (64 * f + s) (ρ' 42 (64 * f + 64 + (s ||| 2 ^ p)) + ρ' 43 (6 * f + p))) (nI (64 * f + s)) (nI (p + 1)))) else f_X9_layFloor_40L (nI f) (nI s) n2 ρ' (nI (64 * f + s)) (nI (p + 1)) := by
        rw [g2]
        unfold f_X9_layFloor_40 f_X9_layFloor_164 f_X9_layFloor_180
        obtain ⟨t1, t2⟩ := tb_or s hs' p (by omega)
        have ei : (64 : Int32) * nI f + 64 + (nI s ||| ((1 : Int32) <<< (nI p &&& 31))) = nI (64 * f + 64 + (s ||| 2 ^ p)) := by
          rw [t1, show (64 : Int32) = nI 64 from rfl, pk_mul, nI_add, nI_add]
        rw [e1 0 (by decide), e0 0 (by decide), C.1.2.2, if_neg (nI_ge (by omega) (by omega)), co f hf, bd_s, if_neg ho, p_has (by omega), tb_bt s hs' p (by omega), bd_s, cf p (by omega), bd_s, fr_b, elb_i (by omega) ho, ei, e6']
        simp only [lt_d, nI_1, z_in (show 64 * f + 64 + (s ||| 2 ^ p) < 704 by omega) (by decide), z_in (show 6 * f + p < 60 by omega) (by decide), z_in (show 64 * f + s < 704 by omega) (by decide), nI_clamp (show 64 * f + 64 + (s ||| 2 ^ p) < 2 ^ 31 by omega), nI_clamp (show 6 * f + p < 2 ^ 31 by omega), nI_clamp (show 64 * f + s < 2 ^ 31 by omega)]
        cases s.testBit p
        · rw [b2_f (by decide), i00]
          cases frb θ p
          · rw [ifF, i00]
            rfl
          · rw [ifT, i10]
            rfl
        · rw [b2_t rfl, i10, Bool.not_true, Bool.and_false]
          rfl
      have pre8 : ∀ k2, f_X5_values_25L (nI f) k2 (n + 1) τ (nI s) w (nI p) = if (elb M θ opn f p && !s.testBit p) = true then f_X5_values_25L (nI f) k2 n τ (nI s) (if w < τ 5 (64 * f + 64 + (s ||| 2 ^ p)) + 1000000 - τ 4 (6 * f + p) then τ 5 (64 * f + 64 + (s ||| 2 ^ p)) + 1000000 - τ 4 (6 * f + p) else w) (nI (p + 1)) else f_X5_values_25L (nI f) k2 n τ (nI s) w (nI (p + 1)) := by
        intro k2
        rw [g1]
        unfold f_X5_values_25 f_X5_values_56
        rw [if_neg (show ¬ (6 : Int32) ≤ nI p from nI_ge (b := 6) (by omega) (by omega)), p_open5 A hf (by omega) hs', bd_s, p_worth hf (by omega) hs', bd_s]
        simp only [lt_d, nI_1]
        by_cases h : (elb M θ opn f p && !s.testBit p) = true
        · rw [if_pos h, i10, if_pos h]
        · rw [if_neg h, i00, if_neg h]
      by_cases h : (elb M θ opn f p && !s.testBit p) = true
      · obtain ⟨t1, t2⟩ := tb_or s hs' p (by omega)
        have hh := Bool.and_eq_true_iff.mp h
        have hx := ex (64 * f + 64 + (s ||| 2 ^ p)) (by omega)
        have e43 : ρ' 43 (6 * f + p) = cv f p := by rw [e1 43 (by decide)]; exact h43 p (by omega)
        have e4 : τ 4 (6 * f + p) = cv f p := A.2 p (by omega) hh.1
        have hcand : REL (10 - f) (τ 5 (64 * f + 64 + (s ||| 2 ^ p)) + 1000000 - cv f p) (ρ' 41 (64 * f + 64 + (s ||| 2 ^ p)) + 1) (ρ' 42 (64 * f + 64 + (s ||| 2 ^ p)) + cv f p) := by
          have := rel_up (v := cv f p) (by omega) (hT (s ||| 2 ^ p) t2) (C.2.2.2 f p hf (by omega))
          rw [show 9 - f + 1 = 10 - f by omega] at this
          rw [hx.1, hx.2]
          exact this
        have hc := rel_cmp (by omega) hR hcand
        have hOc : OPT M θ opn cv ρ0 f s (ρ' 41 (64 * f + 64 + (s ||| 2 ^ p)) + 1) (ρ' 42 (64 * f + 64 + (s ||| 2 ^ p)) + cv f p) := by
          rw [hx.1, hx.2]
          exact Or.inr ⟨p, by omega, hh.1, by simpa using hh.2, rfl, rfl⟩
        rw [pre9, if_pos h, e43]
        simp only [pre8, if_pos h, e4]
        have upd : (w < τ 5 (64 * f + 64 + (s ||| 2 ^ p)) + 1000000 - cv f p) → ∃ (w1 : Int32) (ρ1 : Mm), (∀ k2 : Mm → Int32 → Option Mm, f_X5_values_25L (nI f) k2 n τ (nI s) (if w < τ 5 (64 * f + 64 + (s ||| 2 ^ p)) + 1000000 - cv f p then τ 5 (64 * f + 64 + (s ||| 2 ^ p)) + 1000000 - cv f p else w) (nI (p + 1)) = k2 (s_t τ 5 (64 * f + s) w1) (nI (s + 1))) ∧ f_X9_layFloor_40L (nI f) (nI s) n2 (s_t (s_t ρ' 41 (64 * f + s) (ρ' 41 (64 * f + 64 + (s ||| 2 ^ p)) + 1)) 42 (64 * f + s) (ρ' 42 (64 * f + 64 + (s ||| 2 ^ p)) + cv f p)) (nI (64 * f + s)) (nI (p + 1)) = some ρ1 ∧ EF [41, 42] ρ1 ρ0 ∧ (∀ x, x ≠ 64 * f + s → ρ1 41 x = ρ0 41 x ∧ ρ1 42 x = ρ0 42 x) ∧ REL (10 - f) w1 (ρ1 41 (64 * f + s)) (ρ1 42 (64 * f + s)) ∧ OPT M θ opn cv ρ0 f s (ρ1 41 (64 * f + s)) (ρ1 42 (64 * f + s)) := by
          intro hw
          rw [if_pos hw]
          have v41 : s_t (s_t ρ' 41 (64 * f + s) (ρ' 41 (64 * f + 64 + (s ||| 2 ^ p)) + 1)) 42 (64 * f + s) (ρ' 42 (64 * f + 64 + (s ||| 2 ^ p)) + cv f p) 41 (64 * f + s) = ρ' 41 (64 * f + 64 + (s ||| 2 ^ p)) + 1 := by rw [st_ne (by omega), st_eq]
          have v42 : s_t (s_t ρ' 41 (64 * f + s) (ρ' 41 (64 * f + 64 + (s ||| 2 ^ p)) + 1)) 42 (64 * f + s) (ρ' 42 (64 * f + 64 + (s ||| 2 ^ p)) + cv f p) 42 (64 * f + s) = ρ' 42 (64 * f + 64 + (s ||| 2 ^ p)) + cv f p := st_eq
          exact ih (p + 1) n n2 _ _ (by omega) (by omega) (by omega) ((e1.st (by decide)).st (by decide)) (fun x hx => by
            rw [st_ne (show (41 : Nat) ≠ 42 by omega), st_k, if_neg hx, st_k, if_neg hx, st_ne (show (42 : Nat) ≠ 41 by omega)]
            exact ex x hx) (by rw [v41, v42]; exact hcand) (by rw [v41, v42]; exact hOc)
        have keep : (¬ w < τ 5 (64 * f + 64 + (s ||| 2 ^ p)) + 1000000 - cv f p) → ∃ (w1 : Int32) (ρ1 : Mm), (∀ k2 : Mm → Int32 → Option Mm, f_X5_values_25L (nI f) k2 n τ (nI s) (if w < τ 5 (64 * f + 64 + (s ||| 2 ^ p)) + 1000000 - cv f p then τ 5 (64 * f + 64 + (s ||| 2 ^ p)) + 1000000 - cv f p else w) (nI (p + 1)) = k2 (s_t τ 5 (64 * f + s) w1) (nI (s + 1))) ∧ f_X9_layFloor_40L (nI f) (nI s) n2 ρ' (nI (64 * f + s)) (nI (p + 1)) = some ρ1 ∧ EF [41, 42] ρ1 ρ0 ∧ (∀ x, x ≠ 64 * f + s → ρ1 41 x = ρ0 41 x ∧ ρ1 42 x = ρ0 42 x) ∧ REL (10 - f) w1 (ρ1 41 (64 * f + s)) (ρ1 42 (64 * f + s)) ∧ OPT M θ opn cv ρ0 f s (ρ1 41 (64 * f + s)) (ρ1 42 (64 * f + s)) := by
          intro hw
          rw [if_neg hw]
          exact ih (p + 1) n n2 w ρ' (by omega) (by omega) (by omega) e1 ex hR hO
        by_cases c1 : ρ' 41 (64 * f + 64 + (s ||| 2 ^ p)) + 1 < ρ' 41 (64 * f + s)
        · rw [if_pos c1]
          refine keep (fun q => ?_)
          rcases hc.1.mp q with z | ⟨z, -⟩
          · rw [p_lt] at z c1
            omega
          · rw [z, p_lt] at c1
            omega
        · rw [if_neg c1]
          by_cases c2 : ρ' 41 (64 * f + 64 + (s ||| 2 ^ p)) + 1 = ρ' 41 (64 * f + s)
          · rw [if_pos c2]
            by_cases c3 : ρ' 42 (64 * f + 64 + (s ||| 2 ^ p)) + cv f p < ρ' 42 (64 * f + s)
            · rw [if_pos c3]
              exact upd (hc.1.mpr (Or.inr ⟨c2, c3⟩))
            · rw [if_neg c3]
              refine keep (fun q => ?_)
              rcases hc.1.mp q with z | ⟨-, z⟩
              · rw [c2, p_lt] at z
                omega
              · exact c3 z
          · rw [if_neg c2]
            refine upd (hc.1.mpr (Or.inl ?_))
            rw [p_lt] at c1 ⊢
            rw [p_eq] at c2
            omega
      · rw [pre9, if_neg h]
        simp only [pre8, if_neg h]
        exact ih (p + 1) n n2 w ρ' (by omega) (by omega) (by omega) e1 ex hR hO
/-- a row of the tables, in both -/
def ROW (M : Nat) (θ : Mm) (opn : Nat → Int32) (cv : Nat → Nat → Int32) (τ ρ : Mm) (f u : Nat) : Prop := REL (10 - f) (τ 5 (64 * f + u)) (ρ 41 (64 * f + u)) (ρ 42 (64 * f + u)) ∧ (f < 10 → OPT M θ opn cv ρ f u (ρ 41 (64 * f + u)) (ρ 42 (64 * f + u)))
theorem val_row {f : Nat} (C : CN M θ hs ρ opn cv) (hf : f < 10) : ∀ (k s n n2 : Nat) (τ ρ' : Mm), s + k = 64 → k < n → k < n2 → ASK M θ opn cv τ f → EF [30, 41, 42, 43] ρ' ρ → (∀ p, p < M → ρ' 43 (6 * f + p) = cv f p) → (∀ u, u < 64 → REL (9 - f) (τ 5 (64 * f + 64 + u)) (ρ' 41 (64 * f + 64 + u)) (ρ' 42 (64 * f + 64 + u))) → (∀ u, u < s → ROW M θ opn cv τ ρ' f u) → ∃ τ1 ρ1 : Mm, f_X5_values_2L (nI f) n τ (nI s) = some τ1 ∧ (∀ k86 : Mm → Int32 → Option Mm, f_X9_layShared_92L k86 n2 ρ' (nI f) (nI s) = k86 ρ1 (nI f + (-1))) ∧ EF [5] τ1 τ ∧ EF [41, 42] ρ1 ρ' ∧ (∀ x, ¬ (64 * f ≤ x ∧ x < 64 * f + 64) → τ1 5 x = τ 5 x ∧ ρ1 41 x = ρ' 41 x ∧ ρ1 42 x = ρ' 42 x) ∧ ∀ u, u < 64 → ROW M θ opn cv τ1 ρ1 f u := by
  intro k
  induction k with
  | zero =>
    intro s n n2 τ ρ' hs' hn hn2 A e0 h43 hT hD
    obtain ⟨n, rfl⟩ : ∃ j, n = j + 1 := ⟨n - 1, by omega⟩
    obtain ⟨n2, rfl⟩ : ∃ j, n2 = j + 1 := ⟨n2 - 1, by omega⟩
    refine ⟨τ, ρ', ?_, fun k86 => ?_, EF.rf, EF.rf, fun _ _ => ⟨rfl, rfl, rfl⟩, fun u hu => hD u (by omega)⟩
    · show f_X5_values_2 _ _ _ _ = _
      unfold f_X5_values_2
      rw [show s = 64 by omega, if_pos (by decide)]
    · show f_X9_layShared_92 _ _ _ _ _ = _
      unfold f_X9_layShared_92
      rw [show s = 64 by omega, if_pos (by decide), lt_d]
  | succ k ih =>
    intro s n n2 τ ρ' hs' hn hn2 A e0 h43 hT hD
    obtain ⟨n, rfl⟩ : ∃ j, n = j + 1 := ⟨n - 1, by omega⟩
    obtain ⟨n2, rfl⟩ : ∃ j, n2 = j + 1 := ⟨n2 - 1, by omega⟩
    have hM := C.1.1
    have m1 : ∀ x, x ≠ 64 * f + s → s_t (s_t ρ' 41 (64 * f + s) (ρ' 41 (64 * f + 64 + s))) 42 (64 * f + s) (ρ' 42 (64 * f + 64 + s)) 41 x = ρ' 41 x ∧ s_t (s_t ρ' 41 (64 * f + s) (ρ' 41 (64 * f + 64 + s))) 42 (64 * f + s) (ρ' 42 (64 * f + 64 + s)) 42 x = ρ' 42 x := fun x hx => by
      rw [st_ne (show (41 : Nat) ≠ 42 by omega), st_k, if_neg hx, st_k, if_neg hx, st_ne (show (42 : Nat) ≠ 41 by omega)]
      exact ⟨rfl, rfl⟩
    have v41 : s_t (s_t ρ' 41 (64 * f + s) (ρ' 41 (64 * f + 64 + s))) 42 (64 * f + s) (ρ' 42 (64 * f + 64 + s)) 41 (64 * f + s) = ρ' 41 (64 * f + 64 + s) := by rw [st_ne (by omega), st_eq]
    have v42 : s_t (s_t ρ' 41 (64 * f + s) (ρ' 41 (64 * f + 64 + s))) 42 (64 * f + s) (ρ' 42 (64 * f + 64 + s)) 42 (64 * f + s) = ρ' 42 (64 * f + 64 + s) := st_eq
    have hst := rel_w (hT s (by omega))
    rw [show 9 - f + 1 = 10 - f by omega] at hst
    obtain ⟨w1, ρ1, a1, a2, a3, a4, a5, a6⟩ := val_in C A hf (show s < 64 by omega) e0 h43 hT M 0 FU FU (τ 5 (64 * f + 64 + s)) (s_t (s_t ρ' 41 (64 * f + s) (ρ' 41 (64 * f + 64 + s))) 42 (64 * f + s) (ρ' 42 (64 * f + 64 + s))) (by omega) (by rw [FU_e]; omega) (by rw [FU_e]; omega) ((EF.rf.st (by decide)).st (by decide)) m1 (by rw [v41, v42]; exact hst) (by rw [v41, v42]; exact Or.inl ⟨rfl, rfl⟩)
    have e8 : f_X5_values_2L (nI f) (n + 1) τ (nI s) = f_X5_values_2L (nI f) n (s_t τ 5 (64 * f + s) w1) (nI (s + 1)) := by
      show f_X5_values_2 _ _ _ _ = _
      unfold f_X5_values_2
      have ei : (nI f + 1) * (64 : Int32) + nI s = nI (64 * f + 64 + s) := by
        rw [nI_1, e64]
        congr 1
      rw [if_neg (show ¬ (64 : Int32) ≤ nI s from nI_ge (b := 64) (by omega) (by omega)), ei, lt_d, z_in (by omega) (by decide), nI_clamp (by omega), lt_d]
      exact a1 _
    have e9 : ∀ k86, f_X9_layShared_92L k86 (n2 + 1) ρ' (nI f) (nI s) = f_X9_layShared_92L k86 n2 ρ1 (nI f) (nI (s + 1)) := by
      intro k86
      show f_X9_layShared_92 _ _ _ _ _ = _
      unfold f_X9_layShared_92
      have el : f_X9_layFloor ρ' (nI f) (nI s) = some ρ1 := by
        unfold f_X9_layFloor f_X9_layFloor_0
        have ei : nI (64 * f + s) + (64 : Int32) = nI (64 * f + 64 + s) := by
          rw [show (64 : Int32) = nI 64 from rfl, nI_add]
          congr 1
          omega
        rw [e64', lt_d, ei, z_in (by omega) (by decide), z_in (by omega) (by decide), nI_clamp (by omega), nI_clamp (by omega), lt_d, z_in (by omega) (by decide), z_in (by omega) (by decide), lt_d, st_ne (show (42 : Nat) ≠ 41 by omega)]
        exact a2
      rw [if_neg (show ¬ (64 : Int32) ≤ nI s from nI_ge (b := 64) (by omega) (by omega)), el, bd_s, lt_d, nI_1]
    rw [e8]
    simp only [e9]
    have o5 : ∀ x, x ≠ 64 * f + s → s_t τ 5 (64 * f + s) w1 5 x = τ 5 x := fun x hx => by rw [st_k, if_neg hx]
    have hopt : ∀ u m c, OPT M θ opn cv ρ' f u m c ↔ OPT M θ opn cv ρ1 f u m c := fun u m c => by
      unfold OPT
      rw [(a4 (64 * f + 64 + u) (by omega)).1, (a4 (64 * f + 64 + u) (by omega)).2]
      constructor
      · rintro (z | ⟨p, p1, p2, p3, p4, p5⟩)
        · exact Or.inl z
        · refine Or.inr ⟨p, p1, p2, p3, ?_, ?_⟩
          · rw [(a4 _ (by omega)).1]; exact p4
          · rw [(a4 _ (by omega)).2]; exact p5
      · rintro (z | ⟨p, p1, p2, p3, p4, p5⟩)
        · exact Or.inl z
        · refine Or.inr ⟨p, p1, p2, p3, ?_, ?_⟩
          · rw [(a4 _ (by omega)).1] at p4; exact p4
          · rw [(a4 _ (by omega)).2] at p5; exact p5
    obtain ⟨τ2, ρ2, b1, b2, b3, b4, b5, b6⟩ := ih (s + 1) n n2 (s_t τ 5 (64 * f + s) w1) ρ1 (by omega) (by omega) (by omega) ⟨fun p hp => by rw [st_ne (by omega)]; exact A.1 p hp, fun p hp h => by rw [st_ne (by omega)]; exact A.2 p hp h⟩ ((a3.sub (by decide)).tr e0) (fun p hp => by rw [a3 43 (by decide)]; exact h43 p hp) (fun u hu => by
      rw [o5 _ (by omega), (a4 _ (by omega)).1, (a4 _ (by omega)).2]
      exact hT u hu) (fun u hu => by
      by_cases hus : u = s
      · subst hus
        refine ⟨?_, fun _ => (hopt _ _ _).mp a6⟩
        rw [st_eq]
        exact a5
      · have := hD u (by omega)
        unfold ROW at this ⊢
        rw [o5 _ (by omega), (a4 (64 * f + u) (by omega)).1, (a4 (64 * f + u) (by omega)).2]
        exact ⟨this.1, fun h => (hopt _ _ _).mp (this.2 h)⟩)
    refine ⟨τ2, ρ2, b1, b2, b3.tr (ef_s (by decide)), b4.tr a3, fun x hx => ?_, b6⟩
    obtain ⟨y1, y2, y3⟩ := b5 x hx
    exact ⟨y1.trans (o5 x (by omega)), y2.trans (a4 x (by omega)).1, y3.trans (a4 x (by omega)).2⟩
end SHA
