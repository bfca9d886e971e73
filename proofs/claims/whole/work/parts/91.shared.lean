/-! PURE: what is best shared, in both: the whole -/
section SHB
variable {M : Nat} {θ : Mm} {hs : Ms} {ρ : Mm} {opn : Nat → Int32} {cv : Nat → Nat → Int32}
theorem asks_L {f : Nat} (C : CN M θ hs ρ opn cv) (hf : f < 10) (ho : ¬ opn f = 0) : ∀ (k p n : Nat) (τ θ' : Mm), p + k = M → k < n → EF [11] θ' θ → (∀ q, q < 6 → bt (τ 3 f) q = (elb M θ opn f q && decide (q < p))) → (∀ q, q < p → elb M θ opn f q = true → τ 4 (6 * f + q) = cv f q) → ∃ τ1 θ1 : Mm, f_X5_asks_18L hs (nI f) n τ θ' (nI p) = some (τ1, θ1) ∧ EF [11] θ1 θ ∧ ASK M θ opn cv τ1 f ∧ EF [3, 4] τ1 τ ∧ (∀ g, g ≠ f → τ1 3 g = τ 3 g) ∧ ∀ x, ¬ (6 * f ≤ x ∧ x < 6 * f + 6) → τ1 4 x = τ 4 x := by
  have hM := C.1.1
  intro k
  induction k with
  | zero =>
    intro p n τ θ' hp hn e hb hc
    obtain ⟨n, rfl⟩ : ∃ j, n = j + 1 := ⟨n - 1, by omega⟩
    refine ⟨τ, θ', ?_, e, ⟨fun q hq => ?_, fun q hq h => hc q ?_ h⟩, EF.rf, fun _ _ => rfl, fun _ _ => rfl⟩
    · show f_X5_asks_18 _ _ _ _ _ _ = _
      unfold f_X5_asks_18
      rw [e 12 (by decide), C.1.2.1, if_pos (nI_le (by omega) (by omega))]
    · rw [hb q hq]
      by_cases h : q < p
      · rw [decide_eq_true h, Bool.and_true]
      · rw [elb_M (by omega), Bool.false_and]
    · rcases Nat.lt_or_ge q p with z | z
      · exact z
      · rw [elb_M (by omega)] at h
        exact absurd h (by decide)
  | succ k ih =>
    intro p n τ θ' hp hn e hb hc
    obtain ⟨n, rfl⟩ : ∃ j, n = j + 1 := ⟨n - 1, by omega⟩
    obtain ⟨-, cc⟩ := C.2.1 θ' e
    obtain ⟨θ2, c1, c2⟩ := cc f p hf (by omega)
    have e6 : nI f * (6 : Int32) + nI p = nI (6 * f + p) := by
      rw [show (6 : Int32) = nI 6 from rfl, pk_mul, nI_add]
      congr 1
      omega
    have fe : elb M θ opn f p = frb θ p := elb_i (by omega) ho
    have pre : f_X5_asks_18L hs (nI f) (n + 1) τ θ' (nI p) = if frb θ p = true then f_X5_asks_18L hs (nI f) n (s_t (s_t τ 3 f (τ 3 f ||| ((1 : Int32) <<< (nI p &&& 31)))) 4 (6 * f + p) (cv f p)) θ2 (nI (p + 1)) else f_X5_asks_18L hs (nI f) n τ θ' (nI (p + 1)) := by
      show f_X5_asks_18 _ _ _ _ _ _ = _
      unfold f_X5_asks_18 f_X5_asks_63
      rw [e 12 (by decide), C.1.2.1, if_neg (nI_ge (by omega) (by omega)), p_free8 (by omega), e 7 (by decide), e 5 (by decide), e 6 (by decide), fr_b, bd_s]
      simp only [lt_e, c1, bd_e, e6, nI_1, z_in (show f < 10 by omega) (by decide), z_in (show 6 * f + p < 60 by omega) (by decide), nI_clamp (show f < 2 ^ 31 by omega), nI_clamp (show 6 * f + p < 2 ^ 31 by omega)]
      by_cases h : frb θ p = true
      · rw [if_pos h, i10, if_pos h]
      · rw [if_neg h, i00, if_neg h]
    rw [pre]
    by_cases h : frb θ p = true
    · rw [if_pos h]
      obtain ⟨τ1, θ1, a1, a2, a3, a4, a5, a6⟩ := ih (p + 1) n (s_t (s_t τ 3 f (τ 3 f ||| ((1 : Int32) <<< (nI p &&& 31)))) 4 (6 * f + p) (cv f p)) θ2 (by omega) (by omega) c2 (fun q hq => by
        rw [st_ne (by omega), st_eq, p_on (by omega) (by omega), hb q hq]
        by_cases hqp : q = p
        · subst hqp
          rw [fe, h]
          simp
        · by_cases h1 : q < p
          · rw [decide_eq_true h1, decide_eq_false hqp, decide_eq_true (show q < p + 1 by omega)]
            simp
          · rw [decide_eq_false h1, decide_eq_false hqp, decide_eq_false (show ¬ q < p + 1 by omega)]
            simp) (fun q hq h1 => by
        rw [st_k]
        by_cases hqp : q = p
        · rw [if_pos (by omega), hqp]
        · rw [if_neg (by omega), st_ne (by omega)]
          exact hc q (by omega) h1)
      refine ⟨τ1, θ1, a1, a2, a3, a4.tr ((ef_s (by decide) : EF [3, 4] _ _).tr (ef_s (by decide))), fun g hg => ?_, fun x hx => ?_⟩
      · rw [a5 g hg, st_ne (by omega), st_k, if_neg hg]
      · rw [a6 x hx, st_k, if_neg (by omega), st_ne (by omega)]
    · rw [if_neg h]
      exact ih (p + 1) n τ θ' (by omega) (by omega) e (fun q hq => by
        rw [hb q hq]
        by_cases hqp : q = p
        · subst hqp
          rw [fe, eq_false_of_ne_true h]
          simp
        · by_cases h1 : q < p
          · rw [decide_eq_true h1, decide_eq_true (show q < p + 1 by omega)]
          · rw [decide_eq_false h1, decide_eq_false (show ¬ q < p + 1 by omega)]) (fun q hq h1 => by
        by_cases hqp : q = p
        · subst hqp
          rw [fe] at h1
          exact absurd h1 h
        · exact hc q (by omega) h1)
theorem asks_ok {f : Nat} (C : CN M θ hs ρ opn cv) (hf : f < 10) (τ θ' : Mm) (e : EF [11] θ' θ) : ∃ τ1 θ1 : Mm, f_X5_asks τ θ' hs (nI f) = some (τ1, θ1) ∧ EF [11] θ1 θ ∧ ASK M θ opn cv τ1 f ∧ EF [3, 4] τ1 τ ∧ (∀ g, g ≠ f → τ1 3 g = τ 3 g) ∧ ∀ x, ¬ (6 * f ≤ x ∧ x < 6 * f + 6) → τ1 4 x = τ 4 x := by
  obtain ⟨cw, -⟩ := C.2.1 θ' e
  have hM := C.1.1
  unfold f_X5_asks f_X5_asks_0
  rw [z_in hf (by decide), nI_clamp (by omega), lt_d, cw f hf, bd_s]
  by_cases ho : opn f = 0
  · rw [if_pos ho]
    refine ⟨_, _, rfl, e, ⟨fun p hp => ?_, fun p hp h => ?_⟩, ef_s (by decide), fun g hg => by rw [st_k, if_neg hg], fun x _ => by rw [st_ne (by omega)]⟩
    · rw [st_eq, b_0, elb_o ho]
    · rw [elb_o ho] at h
      exact absurd h (by decide)
  · rw [if_neg ho]
    obtain ⟨τ1, θ1, a1, a2, a3, a4, a5, a6⟩ := asks_L C hf ho M 0 FU (s_t τ 3 f 0) θ' (by omega) (by rw [FU_e]; omega) e (fun q hq => by
      rw [st_eq, b_0]
      simp) (fun q hq => absurd hq (Nat.not_lt_zero _))
    refine ⟨τ1, θ1, a1, a2, a3, a4.tr (ef_s (by decide)), fun g hg => ?_, fun x hx => ?_⟩
    · rw [a5 g hg, st_k, if_neg hg]
    · rw [a6 x hx, st_ne (by omega)]
/-- the model's costs, and its first row -/
theorem lay_in {f : Nat} (C : CN M θ hs ρ opn cv) (hf : f < 10) : ∀ (k p n : Nat) (ρ' : Mm), p + k = M → k < n → EF [30, 43] ρ' ρ → (∀ g q, (g < f ∨ g = f ∧ q < p) → q < M → ρ' 43 (6 * g + q) = cv g q) → ∃ ρ1 : Mm, (∀ k2 : Mm → Int32 → Option Mm, f_X9_layShared_10L k2 n ρ' (nI f) (nI p) = k2 ρ1 (nI (f + 1))) ∧ EF [30, 43] ρ1 ρ ∧ ∀ g q, g < f + 1 → q < M → ρ1 43 (6 * g + q) = cv g q := by
  have hM := C.1.1
  intro k
  induction k with
  | zero =>
    intro p n ρ' hp hn e h
    obtain ⟨n, rfl⟩ : ∃ j, n = j + 1 := ⟨n - 1, by omega⟩
    refine ⟨ρ', fun k2 => ?_, e, fun g q hg hq => h g q (by omega) hq⟩
    show f_X9_layShared_10 _ _ _ _ _ = _
    unfold f_X9_layShared_10
    rw [e 0 (by decide), C.1.2.2, if_pos (nI_le (by omega) (by omega)), lt_d, nI_1]
  | succ k ih =>
    intro p n ρ' hp hn e h
    obtain ⟨n, rfl⟩ : ∃ j, n = j + 1 := ⟨n - 1, by omega⟩
    obtain ⟨-, -, cc⟩ := C.2.2.1 ρ' (e.sub (by decide))
    obtain ⟨ρ2, c1, c2⟩ := cc f p hf (by omega)
    obtain ⟨ρ1, a1, a2, a3⟩ := ih (p + 1) n (s_t ρ2 43 (6 * f + p) (cv f p)) (by omega) (by omega) (((c2.sub (by decide)).tr e).st (by decide)) (fun g q hg hq => by
      rw [st_k]
      by_cases h1 : 6 * g + q = 6 * f + p
      · rw [if_pos h1, show g = f by omega, show q = p by omega]
      · rw [if_neg h1, c2 43 (by decide)]
        exact h g q (by omega) hq)
    refine ⟨ρ1, fun k2 => ?_, a2, a3⟩
    show f_X9_layShared_10 _ _ _ _ _ = _
    unfold f_X9_layShared_10
    rw [e 0 (by decide), C.1.2.2, if_neg (nI_ge (by omega) (by omega)), c1, bd_s, e6', z_in (by omega) (by decide), nI_clamp (by omega), lt_d, lt_d, nI_1]
    exact a1 k2
theorem lay_cost (C : CN M θ hs ρ opn cv) : ∀ (k f n : Nat) (ρ' : Mm), f + k = 10 → k < n → EF [30, 43] ρ' ρ → (∀ g q, g < f → q < M → ρ' 43 (6 * g + q) = cv g q) → ∃ ρ1 : Mm, f_X9_layShared_2L n ρ' (nI f) = f_X9_layShared_49L FU ρ1 0 ∧ EF [30, 43] ρ1 ρ ∧ ∀ g q, g < 10 → q < M → ρ1 43 (6 * g + q) = cv g q := by
  have hM := C.1.1
  intro k
  induction k with
  | zero =>
    intro f n ρ' hf hn e h
    obtain ⟨n, rfl⟩ : ∃ j, n = j + 1 := ⟨n - 1, by omega⟩
    refine ⟨ρ', ?_, e, fun g q hg hq => h g q (by omega) hq⟩
    show f_X9_layShared_2 _ _ _ = _
    unfold f_X9_layShared_2
    rw [show f = 10 by omega, if_pos (by decide)]
  | succ k ih =>
    intro f n ρ' hf hn e h
    obtain ⟨n, rfl⟩ : ∃ j, n = j + 1 := ⟨n - 1, by omega⟩
    obtain ⟨ρ2, c1, c2, c3⟩ := lay_in C (show f < 10 by omega) M 0 FU ρ' (by omega) (by rw [FU_e]; omega) e (fun g q hg hq => h g q (by omega) hq)
    obtain ⟨ρ1, a1, a2, a3⟩ := ih (f + 1) n ρ2 (by omega) (by omega) c2 c3
    refine ⟨ρ1, ?_, a2, a3⟩
    show f_X9_layShared_2 _ _ _ = _
    unfold f_X9_layShared_2
    rw [if_neg (show ¬ (10 : Int32) ≤ nI f from nI_ge (b := 10) (by omega) (by omega))]
    exact (c1 _).trans a1
theorem lay_zero : ∀ (k s n : Nat) (ρ' : Mm), s + k = 64 → k < n → ∃ ρ1 : Mm, f_X9_layShared_49L n ρ' (nI s) = f_X9_layShared_86L FU ρ1 9 ∧ EF [41, 42] ρ1 ρ' ∧ ∀ u, u < 64 → (s ≤ u → ρ1 41 (640 + u) = 0 ∧ ρ1 42 (640 + u) = 0) ∧ (u < s → ρ1 41 (640 + u) = ρ' 41 (640 + u) ∧ ρ1 42 (640 + u) = ρ' 42 (640 + u)) := by
  intro k
  induction k with
  | zero =>
    intro s n ρ' hs hn
    obtain ⟨n, rfl⟩ : ∃ j, n = j + 1 := ⟨n - 1, by omega⟩
    refine ⟨ρ', ?_, EF.rf, fun u hu => ⟨fun h => by omega, fun _ => ⟨rfl, rfl⟩⟩⟩
    show f_X9_layShared_49 _ _ _ = _
    unfold f_X9_layShared_49
    rw [show s = 64 by omega, if_pos (by decide)]
  | succ k ih =>
    intro s n ρ' hs hn
    obtain ⟨n, rfl⟩ : ∃ j, n = j + 1 := ⟨n - 1, by omega⟩
    obtain ⟨ρ1, a1, a2, a3⟩ := ih (s + 1) n (s_t (s_t ρ' 41 (640 + s) 0) 42 (640 + s) 0) (by omega) (by omega)
    have v : ∀ x, (s_t (s_t ρ' 41 (640 + s) 0) 42 (640 + s) 0 41 x = if x = 640 + s then 0 else ρ' 41 x) ∧ (s_t (s_t ρ' 41 (640 + s) 0) 42 (640 + s) 0 42 x = if x = 640 + s then 0 else ρ' 42 x) := fun x => by
      rw [st_ne (show (41 : Nat) ≠ 42 by omega), st_k, st_k, st_ne (show (42 : Nat) ≠ 41 by omega)]
      exact ⟨rfl, rfl⟩
    refine ⟨ρ1, ?_, a2.tr ((EF.rf.st (by decide)).st (by decide)), fun u hu => ⟨fun h => ?_, fun h => ?_⟩⟩
    · show f_X9_layShared_49 _ _ _ = _
      unfold f_X9_layShared_49
      rw [if_neg (show ¬ (64 : Int32) ≤ nI s from nI_ge (b := 64) (by omega) (by omega)), show (640 : Int32) = nI 640 from rfl, nI_add]
      simp only [lt_e, z_in (show 640 + s < 704 by omega) (by decide), nI_clamp (show 640 + s < 2 ^ 31 by omega), nI_1]
      exact a1
    · by_cases hus : u = s
      · subst hus
        obtain ⟨y1, y2⟩ := (a3 u hu).2 (by omega)
        rw [y1, y2, (v _).1, (v _).2, if_pos rfl, if_pos rfl]
        exact ⟨rfl, rfl⟩
      · exact (a3 u hu).1 (by omega)
    · obtain ⟨y1, y2⟩ := (a3 u hu).2 (by omega)
      rw [y1, y2, (v _).1, (v _).2, if_neg (by omega), if_neg (by omega)]
      exact ⟨rfl, rfl⟩
theorem OPT_e {ρ1 ρ0 : Mm} {f u : Nat} {m c : Int32} (h : OPT M θ opn cv ρ0 f u m c) (hx : ∀ x, 64 * f + 64 ≤ x → ρ1 41 x = ρ0 41 x ∧ ρ1 42 x = ρ0 42 x) : OPT M θ opn cv ρ1 f u m c := by
  unfold OPT at h ⊢
  rcases h with z | ⟨p, p1, p2, p3, p4, p5⟩
  · rw [(hx _ (by omega)).1, (hx _ (by omega)).2]
    exact Or.inl z
  · refine Or.inr ⟨p, p1, p2, p3, ?_, ?_⟩
    · rw [(hx _ (by omega)).1]; exact p4
    · rw [(hx _ (by omega)).2]; exact p5
theorem rows_L (C : CN M θ hs ρ opn cv) : ∀ (k n n2 : Nat) (τ θ' ρ' : Mm), k ≤ 10 → k < n → k < n2 → EF [11] θ' θ → EF [30, 41, 42, 43] ρ' ρ → (∀ g q, g < 10 → q < M → ρ' 43 (6 * g + q) = cv g q) → (∀ g, k ≤ g → g < 10 → ASK M θ opn cv τ g) → (∀ g, k ≤ g → g ≤ 10 → ∀ u, u < 64 → ROW M θ opn cv τ ρ' g u) → ∃ τ1 θ1 ρ1 : Mm, f_X5_finds_3L hs n τ θ' (nI k - 1) = f_X5_finds_38L hs FU (s_t (s_t τ1 1 0 0) 2 0 0) θ1 0 0 ∧ f_X9_layShared_86L n2 ρ' (nI k - 1) = some ρ1 ∧ EF [11] θ1 θ ∧ EF [30, 41, 42, 43] ρ1 ρ ∧ (∀ g q, g < 10 → q < M → ρ1 43 (6 * g + q) = cv g q) ∧ (∀ g, g < 10 → ASK M θ opn cv τ1 g) ∧ (∀ g, g ≤ 10 → ∀ u, u < 64 → ROW M θ opn cv τ1 ρ1 g u) ∧ ∀ x, 640 ≤ x → τ1 5 x = τ 5 x := by
  have hM := C.1.1
  intro k
  induction k with
  | zero =>
    intro n n2 τ θ' ρ' hk hn hn2 e1 e2 h43 hA hR
    obtain ⟨n, rfl⟩ : ∃ j, n = j + 1 := ⟨n - 1, by omega⟩
    obtain ⟨n2, rfl⟩ : ∃ j, n2 = j + 1 := ⟨n2 - 1, by omega⟩
    refine ⟨τ, θ', ρ', ?_, ?_, e1, e2, h43, fun g hg => hA g (Nat.zero_le _) hg, fun g hg => hR g (Nat.zero_le _) hg, fun _ _ => rfl⟩
    · show f_X5_finds_3 _ _ _ _ _ = _
      unfold f_X5_finds_3
      rw [if_pos (show nI 0 - 1 < 0 by decide), lt_d, lt_d]
    · show f_X9_layShared_86 _ _ _ = _
      unfold f_X9_layShared_86
      rw [if_pos (show nI 0 - 1 < 0 by decide)]
  | succ k ih =>
    intro n n2 τ θ' ρ' hk hn hn2 e1 e2 h43 hA hR
    obtain ⟨n, rfl⟩ : ∃ j, n = j + 1 := ⟨n - 1, by omega⟩
    obtain ⟨n2, rfl⟩ : ∃ j, n2 = j + 1 := ⟨n2 - 1, by omega⟩
    obtain ⟨τa, θa, a1, a2, a3, a4, a5, a6⟩ := asks_ok C (show k < 10 by omega) τ θ' e1
    have r5 : ∀ x, τa 5 x = τ 5 x := fun x => by rw [a4 5 (by decide)]
    obtain ⟨τb, ρb, b1, b2, b3, b4, b5, b6⟩ := val_row C (show k < 10 by omega) 64 0 FU FU τa ρ' (by omega) (by rw [FU_e]; omega) (by rw [FU_e]; omega) a3 e2 (fun p hp => h43 k p (by omega) hp) (fun u hu => by
      have := (hR (k + 1) (Nat.le_refl _) (by omega) u hu).1
      rw [show 64 * (k + 1) + u = 64 * k + 64 + u by omega, show 10 - (k + 1) = 9 - k by omega] at this
      rw [r5]
      exact this) (fun u hu => absurd hu (Nat.not_lt_zero _))
    have em : nI k + (-1 : Int32) = nI k - 1 := by rw [Int32.sub_eq_add_neg]
    have bx : ∀ x, 64 * k + 64 ≤ x → τb 5 x = τ 5 x ∧ ρb 41 x = ρ' 41 x ∧ ρb 42 x = ρ' 42 x := fun x hx => by
      obtain ⟨y1, y2, y3⟩ := b5 x (by omega)
      exact ⟨y1.trans (r5 x), y2, y3⟩
    obtain ⟨τ1, θ1, ρ1, d1, d2, d3, d4, d5, d6, d7, d8⟩ := ih n n2 τb θa ρb (by omega) (by omega) (by omega) a2 ((b4.sub (by decide)).tr e2) (fun g q hg hq => by rw [b4 43 (by decide)]; exact h43 g q hg hq) (fun g hg hg2 => by
      have t3 : τb 3 = τa 3 := b3 3 (by decide)
      have t4 : τb 4 = τa 4 := b3 4 (by decide)
      by_cases hgk : g = k
      · subst hgk
        unfold ASK
        rw [t3, t4]
        exact a3
      · have := hA g (by omega) hg2
        refine ⟨fun p hp => ?_, fun p hp h => ?_⟩
        · rw [t3, a5 g hgk]; exact this.1 p hp
        · rw [t4, a6 _ (by omega)]; exact this.2 p hp h) (fun g hg hg2 u hu => by
      by_cases hgk : g = k
      · subst hgk
        exact b6 u hu
      · have := hR g (by omega) hg2 u hu
        obtain ⟨y1, y2, y3⟩ := bx (64 * g + u) (by omega)
        refine ⟨?_, fun h => ?_⟩
        · rw [y1, y2, y3]; exact this.1
        · rw [y2, y3]
          exact OPT_e (this.2 h) (fun x hx => (bx x (by omega)).2))
    refine ⟨τ1, θ1, ρ1, ?_, ?_, d3, d4, d5, d6, d7, fun x hx => (d8 x hx).trans (bx x (by omega)).1⟩
    · show f_X5_finds_3 _ _ _ _ _ = _
      unfold f_X5_finds_3
      rw [nI_pred, if_neg (nI_pos (by omega)), a1, bd_s]
      have b1' : f_X5_values τa (nI k) = some τb := by
        unfold f_X5_values f_X5_values_0
        exact b1
      dsimp only
      rw [b1', bd_s, lt_d, em]
      exact d1
    · show f_X9_layShared_86 _ _ _ = _
      unfold f_X9_layShared_86
      rw [nI_pred, if_neg (nI_pos (by omega))]
      refine (b2 _).trans ?_
      rw [em]
      exact d2
/-- who is given a floor, in both -/
def GOT (M : Nat) (θ : Mm) (opn : Nat → Int32) (cv : Nat → Nat → Int32) (ρ : Mm) (f s : Nat) (r : Int32) : Prop := (r = -5 ∧ ρ 41 (64 * f + s) = ρ 41 (64 * f + 64 + s) ∧ ρ 42 (64 * f + s) = ρ 42 (64 * f + 64 + s)) ∨ ∃ p, p < M ∧ elb M θ opn f p = true ∧ r = nI p ∧ ρ 41 (64 * f + s) = ρ 41 (64 * f + 64 + (s ||| 2 ^ p)) + 1 ∧ ρ 42 (64 * f + s) = ρ 42 (64 * f + 64 + (s ||| 2 ^ p)) + cv f p
theorem ch_skip {τ : Mm} {f s : Nat} (A : ASK M θ opn cv τ f) (hf : f < 10) (hs : s < 64) : ∀ (k p n : Nat), p + k = 6 → k < n → (∀ q, p ≤ q → q < 6 → elb M θ opn f q = false) → f_X5_choice_2L τ (nI f) (nI s) n (nI p) = some (-5) := by
  intro k
  induction k with
  | zero =>
    intro p n hp hn _
    obtain ⟨n, rfl⟩ : ∃ j, n = j + 1 := ⟨n - 1, by omega⟩
    show f_X5_choice_2 _ _ _ _ _ = _
    unfold f_X5_choice_2
    rw [show p = 6 by omega, if_pos (by decide)]
  | succ k ih =>
    intro p n hp hn he
    obtain ⟨n, rfl⟩ : ∃ j, n = j + 1 := ⟨n - 1, by omega⟩
    show f_X5_choice_2 _ _ _ _ _ = _
    unfold f_X5_choice_2 f_X5_choice_41
    rw [if_neg (show ¬ (6 : Int32) ≤ nI p from nI_ge (b := 6) (by omega) (by omega)), p_open5 A hf (by omega) hs, bd_s, he p (Nat.le_refl _) (by omega), Bool.false_and, ifF, i00, lt_d, nI_1]
    exact ih (p + 1) n (by omega) (by omega) (fun q q1 q2 => he q (by omega) q2)
theorem ch_L {τ ρt : Mm} {f s : Nat} (C : CN M θ hs ρ opn cv) (hf : f < 10) (hs' : s < 64) (e : EF [30, 41, 42, 43] ρt ρ) (h43 : ∀ g q, g < 10 → q < M → ρt 43 (6 * g + q) = cv g q) (hA : ∀ g, g < 10 → ASK M θ opn cv τ g) (hR : ∀ g, g ≤ 10 → ∀ u, u < 64 → ROW M θ opn cv τ ρt g u) : ∀ (k p n n2 : Nat), p + k = M → k + (6 - M) < n → k < n2 → (∀ q, q < p → elb M θ opn f q = true → s.testBit q = false → ¬ (ρt 41 (64 * f + s) = ρt 41 (64 * f + 64 + (s ||| 2 ^ q)) + 1 ∧ ρt 42 (64 * f + s) = ρt 42 (64 * f + 64 + (s ||| 2 ^ q)) + cv f q)) → ∃ r : Int32, f_X5_choice_2L τ (nI f) (nI s) n (nI p) = some r ∧ f_X9_whoShared_10L ρt (nI f) (nI s) n2 (nI (64 * f + s)) (nI p) = some r ∧ GOT M θ opn cv ρt f s r := by
  have hM := C.1.1
  obtain ⟨co, cf, -⟩ := C.2.2.1 ρt e
  have A := hA f hf
  have hrow := hR f (by omega) s hs'
  intro k
  induction k with
  | zero =>
    intro p n n2 hp hn hn2 hno
    obtain ⟨n2, rfl⟩ : ∃ j, n2 = j + 1 := ⟨n2 - 1, by omega⟩
    refine ⟨-5, ch_skip A hf hs' (6 - M) p n (by omega) (by omega) (fun q q1 _ => elb_M (by omega)), ?_, ?_⟩
    · show f_X9_whoShared_10 _ _ _ _ _ _ = _
      unfold f_X9_whoShared_10
      rw [e 0 (by decide), C.1.2.2, if_pos (nI_le (by omega) (by omega))]
    · rcases hrow.2 hf with ⟨z1, z2⟩ | ⟨q, q1, q2, q3, q4, q5⟩
      · exact Or.inl ⟨rfl, z1, z2⟩
      · exact absurd ⟨q4, q5⟩ (hno q (by omega) q2 q3)
  | succ k ih =>
    intro p n n2 hp hn hn2 hno
    obtain ⟨n, rfl⟩ : ∃ j, n = j + 1 := ⟨n - 1, by omega⟩
    obtain ⟨n2, rfl⟩ : ∃ j, n2 = j + 1 := ⟨n2 - 1, by omega⟩
    have g2 : f_X9_whoShared_10L ρt (nI f) (nI s) (n2 + 1) (nI (64 * f + s)) (nI p) = f_X9_whoShared_10 ρt (nI f) (nI s) (f_X9_whoShared_10L ρt (nI f) (nI s) n2) (nI (64 * f + s)) (nI p) := rfl
    have g1 : f_X5_choice_2L τ (nI f) (nI s) (n + 1) (nI p) = f_X5_choice_2 τ (nI f) (nI s) (f_X5_choice_2L τ (nI f) (nI s) n) (nI p) := rfl
    obtain ⟨t1, t2⟩ := tb_or s hs' p (by omega)
    by_cases ho : opn f = 0
    · refine ⟨-5, ch_skip A hf hs' (6 - p) p (n + 1) (by omega) (by omega) (fun q _ _ => elb_o ho), ?_, ?_⟩
      · rw [g2]
        unfold f_X9_whoShared_10
        rw [e 0 (by decide), C.1.2.2, if_neg (nI_ge (by omega) (by omega)), co f hf, bd_s, if_pos ho]
      · rcases hrow.2 hf with ⟨z1, z2⟩ | ⟨q, q1, q2, q3, q4, q5⟩
        · exact Or.inl ⟨rfl, z1, z2⟩
        · rw [elb_o ho] at q2
          exact absurd q2 (by decide)
    · have pre9 : f_X9_whoShared_10L ρt (nI f) (nI s) (n2 + 1) (nI (64 * f + s)) (nI p) = if (elb M θ opn f p && !s.testBit p) = true then (if ρt 41 (64 * f + 64 + (s ||| 2 ^ p)) + 1 = ρt 41 (64 * f + s) then (if ρt 42 (64 * f + 64 + (s ||| 2 ^ p)) + cv f p = ρt 42 (64 * f + s) then some (nI p) else f_X9_whoShared_10L ρt (nI f) (nI s) n2 (nI (64 * f + s)) (nI (p + 1))) else f_X9_whoShared_10L ρt (nI f) (nI s) n2 (nI (64 * f + s)) (nI (p + 1))) else f_X9_whoShared_10L ρt (nI f) (nI s) n2 (nI (64 * f + s)) (nI (p + 1)) := by
        rw [g2]
        unfold f_X9_whoShared_10 f_X9_whoShared_115
        have ei : (64 : Int32) * nI f + 64 + (nI s ||| ((1 : Int32) <<< (nI p &&& 31))) = nI (64 * f + 64 + (s ||| 2 ^ p)) := by
          rw [t1, show (64 : Int32) = nI 64 from rfl, pk_mul, nI_add, nI_add]
        rw [e 0 (by decide), C.1.2.2, if_neg (nI_ge (by omega) (by omega)), co f hf, bd_s, if_neg ho, p_has (by omega), tb_bt s hs' p (by omega), bd_s, cf p (by omega), bd_s, fr_b, elb_i (by omega) ho, ei, e6']
        simp only [lt_d, nI_1, z_in (show 64 * f + 64 + (s ||| 2 ^ p) < 704 by omega) (by decide), z_in (show 6 * f + p < 60 by omega) (by decide), z_in (show 64 * f + s < 704 by omega) (by decide), nI_clamp (show 64 * f + 64 + (s ||| 2 ^ p) < 2 ^ 31 by omega), nI_clamp (show 6 * f + p < 2 ^ 31 by omega), nI_clamp (show 64 * f + s < 2 ^ 31 by omega), h43 f p hf (show p < M by omega)]
        cases s.testBit p
        · rw [b2_f (by decide), i00]
          cases frb θ p
          · rw [ifF, i00]
            rfl
          · rw [ifT, i10]
            rfl
        · rw [b2_t rfl, i10, Bool.not_true, Bool.and_false]
          rfl
      have pre8 : f_X5_choice_2L τ (nI f) (nI s) (n + 1) (nI p) = if (elb M θ opn f p && !s.testBit p) = true then (if τ 5 (64 * f + 64 + (s ||| 2 ^ p)) + 1000000 - τ 4 (6 * f + p) = τ 5 (64 * f + s) then some (nI p) else f_X5_choice_2L τ (nI f) (nI s) n (nI (p + 1))) else f_X5_choice_2L τ (nI f) (nI s) n (nI (p + 1)) := by
        rw [g1]
        unfold f_X5_choice_2 f_X5_choice_41
        rw [if_neg (show ¬ (6 : Int32) ≤ nI p from nI_ge (b := 6) (by omega) (by omega)), p_open5 A hf (by omega) hs', bd_s, p_worth hf (by omega) hs', bd_s, e64, z_in (by omega) (by decide), nI_clamp (by omega), lt_d, nI_1]
        by_cases h : (elb M θ opn f p && !s.testBit p) = true
        · rw [if_pos h, i10, if_pos h]
        · rw [if_neg h, i00, if_neg h]
      rw [pre8, pre9]
      by_cases h : (elb M θ opn f p && !s.testBit p) = true
      · have hh := Bool.and_eq_true_iff.mp h
        have e4 : τ 4 (6 * f + p) = cv f p := A.2 p (by omega) hh.1
        have hcand : REL (10 - f) (τ 5 (64 * f + 64 + (s ||| 2 ^ p)) + 1000000 - cv f p) (ρt 41 (64 * f + 64 + (s ||| 2 ^ p)) + 1) (ρt 42 (64 * f + 64 + (s ||| 2 ^ p)) + cv f p) := by
          have h0 := (hR (f + 1) (by omega) (s ||| 2 ^ p) t2).1
          rw [show 64 * (f + 1) + (s ||| 2 ^ p) = 64 * f + 64 + (s ||| 2 ^ p) by omega] at h0
          have := rel_up (v := cv f p) (by omega) h0 (C.2.2.2 f p hf (by omega))
          rw [show 10 - (f + 1) + 1 = 10 - f by omega] at this
          exact this
        have hc := (rel_cmp (by omega) hrow.1 hcand).2
        rw [if_pos h, if_pos h, e4]
        by_cases hw : τ 5 (64 * f + 64 + (s ||| 2 ^ p)) + 1000000 - cv f p = τ 5 (64 * f + s)
        · obtain ⟨c1, c2⟩ := hc.mp hw
          rw [if_pos hw, if_pos c1, if_pos c2]
          exact ⟨_, rfl, rfl, Or.inr ⟨p, by omega, hh.1, rfl, c1.symm, c2.symm⟩⟩
        · rw [if_neg hw]
          have next := ih (p + 1) n n2 (by omega) (by omega) (by omega) (fun q hq q1 q2 => by
            by_cases hqp : q = p
            · subst hqp
              rintro ⟨z1, z2⟩
              exact hw (hc.mpr ⟨z1.symm, z2.symm⟩)
            · exact hno q (by omega) q1 q2)
          by_cases c1 : ρt 41 (64 * f + 64 + (s ||| 2 ^ p)) + 1 = ρt 41 (64 * f + s)
          · rw [if_pos c1, if_neg (fun c2 => hw (hc.mpr ⟨c1, c2⟩))]
            exact next
          · rw [if_neg c1]
            exact next
      · rw [if_neg h, if_neg h]
        exact ih (p + 1) n n2 (by omega) (by omega) (by omega) (fun q hq q1 q2 => by
          by_cases hqp : q = p
          · subst hqp
            exact absurd (by rw [q1, q2]; rfl) h
          · exact hno q (by omega) q1 q2)
def wS (ρt : Mm) (f s : Nat) : Int32 := match f_X9_whoShared ρt (nI f) (nI s) with
  | some r => r
  | none => 0
def nxS (s : Nat) (r : Int32) : Nat := if r = -5 then s else s ||| 2 ^ r.toNatClampNeg
def SS (ρt : Mm) : Nat → Nat
  | 0 => 0
  | f + 1 => nxS (SS ρt f) (wS ρt f (SS ρt f))
theorem who_ok {τ ρt : Mm} {f s : Nat} (C : CN M θ hs ρ opn cv) (hf : f < 10) (hs' : s < 64) (e : EF [30, 41, 42, 43] ρt ρ) (h43 : ∀ g q, g < 10 → q < M → ρt 43 (6 * g + q) = cv g q) (hA : ∀ g, g < 10 → ASK M θ opn cv τ g) (hR : ∀ g, g ≤ 10 → ∀ u, u < 64 → ROW M θ opn cv τ ρt g u) : f_X5_choice τ (nI f) (nI s) = some (wS ρt f s) ∧ f_X9_whoShared ρt (nI f) (nI s) = some (wS ρt f s) ∧ GOT M θ opn cv ρt f s (wS ρt f s) ∧ nxS s (wS ρt f s) < 64 := by
  have hM := C.1.1
  obtain ⟨r, r1, r2, r3⟩ := ch_L C hf hs' e h43 hA hR M 0 FU FU (by omega) (by rw [FU_e]; omega) (by rw [FU_e]; omega) (fun q hq => absurd hq (Nat.not_lt_zero _))
  have r2 : f_X9_whoShared ρt (nI f) (nI s) = some r := by
    unfold f_X9_whoShared f_X9_whoShared_0
    rw [e64', lt_d]
    exact r2
  have hw : wS ρt f s = r := by
    unfold wS
    rw [r2]
  rw [hw]
  refine ⟨r1, r2, r3, ?_⟩
  unfold nxS
  rcases r3 with ⟨rfl, -⟩ | ⟨p, hp, -, rfl, -⟩
  · rw [if_pos rfl]; exact hs'
  · rw [if_neg (p_m5 (by omega)), nI_clamp (by omega)]
    exact (tb_or s hs' p (by omega)).2
theorem fw8 {τ ρt θ' : Mm} (C : CN M θ hs ρ opn cv) (e : EF [30, 41, 42, 43] ρt ρ) (h43 : ∀ g q, g < 10 → q < M → ρt 43 (6 * g + q) = cv g q) (hA : ∀ g, g < 10 → ASK M θ opn cv τ g) (hR : ∀ g, g ≤ 10 → ∀ u, u < 64 → ROW M θ opn cv τ ρt g u) (hz : ∀ u, u < 64 → ρt 41 (640 + u) = 0 ∧ ρt 42 (640 + u) = 0) : ∀ (k f n : Nat) (τ' : Mm), f + k = 10 → k < n → SS ρt f < 64 → EF [0, 1, 2] τ' τ → (∀ g, g < f → τ' 0 g = wS ρt g (SS ρt g)) → τ' 1 0 + ρt 41 (64 * f + SS ρt f) = ρt 41 0 → τ' 2 0 + ρt 42 (64 * f + SS ρt f) = ρt 42 0 → ∃ τ1 : Mm, f_X5_finds_38L hs n τ' θ' (nI (SS ρt f)) (nI f) = some (τ1, θ') ∧ EF [0, 1, 2] τ1 τ ∧ (∀ g, g < 10 → τ1 0 g = wS ρt g (SS ρt g)) ∧ τ1 1 0 = ρt 41 0 ∧ τ1 2 0 = ρt 42 0 := by
  have hM := C.1.1
  intro k
  induction k with
  | zero =>
    intro f n τ' hf hn hS e2 hw h1 h2
    obtain ⟨n, rfl⟩ : ∃ j, n = j + 1 := ⟨n - 1, by omega⟩
    obtain rfl : f = 10 := by omega
    obtain ⟨z1, z2⟩ := hz _ hS
    rw [show 64 * 10 + SS ρt 10 = 640 + SS ρt 10 by omega] at h1 h2
    rw [z1, Int32.add_zero] at h1
    rw [z2, Int32.add_zero] at h2
    refine ⟨τ', ?_, e2, hw, h1, h2⟩
    show f_X5_finds_38 _ _ _ _ _ _ = _
    unfold f_X5_finds_38
    rw [if_pos (by decide)]
  | succ k ih =>
    intro f n τ' hf hn hS e2 hw h1 h2
    obtain ⟨n, rfl⟩ : ∃ j, n = j + 1 := ⟨n - 1, by omega⟩
    have hA' : ∀ g, g < 10 → ASK M θ opn cv τ' g := fun g hg => by
      unfold ASK
      rw [e2 3 (by decide), e2 4 (by decide)]
      exact hA g hg
    have hR' : ∀ g, g ≤ 10 → ∀ u, u < 64 → ROW M θ opn cv τ' ρt g u := fun g hg u hu => by
      unfold ROW
      rw [e2 5 (by decide)]
      exact hR g hg u hu
    obtain ⟨w1, -, w3, w4⟩ := who_ok C (show f < 10 by omega) hS e h43 hA' hR'
    have hN : SS ρt (f + 1) = nxS (SS ρt f) (wS ρt f (SS ρt f)) := rfl
    have n10 : ¬ (10 : Int32) ≤ nI f := nI_ge (b := 10) (by omega) (by omega)
    show ∃ τ1, f_X5_finds_38 _ _ _ _ _ _ = _ ∧ _
    unfold f_X5_finds_38 f_X5_finds_105
    rw [if_neg n10, w1, bd_s, z_in (by omega) (by decide), nI_clamp (by omega)]
    rcases w3 with ⟨r1, r2, r3⟩ | ⟨p, hp, re, r1, r2, r3⟩
    · have hN' : SS ρt (f + 1) = SS ρt f := by rw [hN, r1]; rfl
      rw [lt_d, if_pos r1, lt_d, nI_1, ← hN']
      refine ih (f + 1) n _ (by omega) (by omega) (by rw [hN']; exact hS) (e2.st (by decide)) (fun g hg => ?_) ?_ ?_
      · rw [st_k]
        by_cases hgf : g = f
        · rw [if_pos hgf, hgf, hN']
        · rw [if_neg hgf]
          exact hw g (by omega)
      · rw [hN', st_ne (by omega), show 64 * (f + 1) + SS ρt f = 64 * f + 64 + SS ρt f by omega, ← r2]
        exact h1
      · rw [hN', st_ne (by omega), show 64 * (f + 1) + SS ρt f = 64 * f + 64 + SS ρt f by omega, ← r3]
        exact h2
    · have h5 : ¬ nI p = -5 := p_m5 (by omega)
      have hN' : SS ρt (f + 1) = SS ρt f ||| 2 ^ p := by
        rw [hN, r1]
        unfold nxS
        rw [if_neg h5, nI_clamp (by omega)]
      obtain ⟨t1, t2⟩ := tb_or _ hS p (by omega)
      rw [r1, lt_d, if_neg h5, t1, lt_d, lt_d, show (6 : Int32) = nI 6 from rfl, pk_mul, nI_add, z_in (by omega) (by decide), nI_clamp (by omega), lt_d, lt_d, nI_1, ← hN']
      have e41 : s_t (s_t τ' 0 f (nI p)) 1 0 (s_t τ' 0 f (nI p) 1 0 + 1) 4 (f * 6 + p) = cv f p := by
        rw [st_ne (by omega), st_ne (by omega), show f * 6 + p = 6 * f + p by omega]
        exact (hA' f (by omega)).2 p (by omega) re
      rw [show f * 6 + p = 6 * f + p by omega] at e41
      rw [show f * 6 + p = 6 * f + p by omega, e41]
      refine ih (f + 1) n _ (by omega) (by omega) (by rw [hN']; exact t2) (((e2.st (by decide)).st (by decide)).st (by decide)) (fun g hg => ?_) ?_ ?_
      · rw [st_ne (by omega), st_ne (by omega), st_k]
        by_cases hgf : g = f
        · rw [if_pos hgf, hgf, r1]
        · rw [if_neg hgf]
          exact hw g (by omega)
      · rw [hN', st_ne (by omega), st_eq, st_ne (by omega), show 64 * (f + 1) + (SS ρt f ||| 2 ^ p) = 64 * f + 64 + (SS ρt f ||| 2 ^ p) by omega, ← h1, r2, Int32.add_assoc, Int32.add_comm 1]
      · rw [hN', st_eq, st_ne (by omega), st_ne (by omega), show 64 * (f + 1) + (SS ρt f ||| 2 ^ p) = 64 * f + 64 + (SS ρt f ||| 2 ^ p) by omega, ← h2, r3, Int32.add_assoc, Int32.add_comm (cv f p)]
/-- the model's answer for a floor -/
theorem fw9 {τ ρt : Mm} {F : Nat} (C : CN M θ hs ρ opn cv) (e : EF [30, 41, 42, 43] ρt ρ) (h43 : ∀ g q, g < 10 → q < M → ρt 43 (6 * g + q) = cv g q) (hA : ∀ g, g < 10 → ASK M θ opn cv τ g) (hR : ∀ g, g ≤ 10 → ∀ u, u < 64 → ROW M θ opn cv τ ρt g u) (hF : F < 10) : ∀ (k f n : Nat) (v3 : Int32), f + k = F + 1 → k < n → SS ρt f < 64 → (k = 0 → v3 = wS ρt F (SS ρt F)) → f_X9_shared_63L (nI (10 + F)) n ρt (nI (SS ρt f)) v3 (nI f) = some (wS ρt F (SS ρt F), ρt) := by
  have hM := C.1.1
  intro k
  induction k with
  | zero =>
    intro f n v3 hf hn hS hv
    obtain ⟨n, rfl⟩ : ∃ j, n = j + 1 := ⟨n - 1, by omega⟩
    show f_X9_shared_63 _ _ _ _ _ _ = _
    unfold f_X9_shared_63
    rw [show (10 : Int32) = nI 10 from rfl, z_subc, if_pos (nI_lt (by omega) (by omega)), hv rfl]
  | succ k ih =>
    intro f n v3 hf hn hS hv
    obtain ⟨n, rfl⟩ : ∃ j, n = j + 1 := ⟨n - 1, by omega⟩
    obtain ⟨-, w2, w3, w4⟩ := who_ok C (show f < 10 by omega) hS e h43 hA hR
    have hN : SS ρt (f + 1) = nxS (SS ρt f) (wS ρt f (SS ρt f)) := rfl
    have next : f_X9_shared_63L (nI (10 + F)) n ρt (nI (SS ρt (f + 1))) (wS ρt f (SS ρt f)) (nI (f + 1)) = some (wS ρt F (SS ρt F), ρt) := ih (f + 1) n _ (by omega) (by omega) (by rw [hN]; exact w4) (fun h0 => by rw [show f = F by omega])
    show f_X9_shared_63 _ _ _ _ _ _ = _
    unfold f_X9_shared_63 f_X9_shared_92
    rw [show (10 : Int32) = nI 10 from rfl, z_subc, if_neg (nI_nlt (by omega) (by omega)), w2, bd_s]
    rcases w3 with ⟨r1, -⟩ | ⟨p, hp, -, r1, -⟩
    · have hN' : SS ρt (f + 1) = SS ρt f := by rw [hN, r1]; rfl
      rw [if_pos (by rw [r1]; decide), lt_d, lt_d, or0, nI_1]
      rw [hN'] at next
      exact next
    · have h5 : ¬ nI p = -5 := p_m5 (by omega)
      have hN' : SS ρt (f + 1) = SS ρt f ||| 2 ^ p := by
        rw [hN, r1]
        unfold nxS
        rw [if_neg h5, nI_clamp (by omega)]
      obtain ⟨t1, t2⟩ := tb_or _ hS p (by omega)
      have hneg : ¬ wS ρt f (SS ρt f) < 0 := by rw [r1]; exact nI_pos (by omega)
      rw [if_neg hneg, lt_d, lt_d, nI_1]
      have er : nI (SS ρt f) ||| ((1 : Int32) <<< (wS ρt f (SS ρt f) &&& 31)) = nI (SS ρt (f + 1)) := by rw [r1, t1, hN']
      rw [er]
      exact next
end SHB
/-! the costs are small -/
theorem neg_i {n : Nat} (h : n < 2 ^ 30) : (-nI n).toInt = -(n : Int) := by
  rw [← Int32.zero_sub, p_sub, nI_toInt (by omega)] <;> (try rw [nI_toInt (by omega)]) <;> simp <;> omega
theorem csum_b {fa : Nat → Int32} : ∀ cs : List Cl, cs.length ≤ 10 → (∀ c, c ∈ cs → c.2.1 < 100) → -100 * (cs.length : Int) ≤ (csum fa cs).toInt ∧ (csum fa cs).toInt ≤ 100 * (cs.length : Int) := by
  intro cs
  induction cs with
  | nil =>
    intro _ _
    show (-100 * ((0 : Nat) : Int) ≤ (0 : Int32).toInt) ∧ ((0 : Int32).toInt ≤ 100 * ((0 : Nat) : Int))
    exact ⟨by decide, by decide⟩
  | cons c cs ih =>
    intro hl hc
    simp only [List.length_cons] at hl ⊢
    obtain ⟨i1, i2⟩ := ih (by omega) (fun d hd => hc d (by simp [hd]))
    have h100 := hc c (by simp)
    have key : ∀ x : Int32, -100 ≤ x.toInt → x.toInt ≤ 100 → -100 * ((cs.length + 1 : Nat) : Int) ≤ (x + csum fa cs).toInt ∧ (x + csum fa cs).toInt ≤ 100 * ((cs.length + 1 : Nat) : Int) := by
      intro x h1 h2
      rw [p_add] <;> omega
    show _ ≤ (_ + csum fa cs).toInt ∧ (_ + csum fa cs).toInt ≤ _
    by_cases h2 : c.1 = 2
    · rw [if_pos h2]
      exact key 0 (by decide) (by decide)
    · rw [if_neg h2]
      by_cases hb : (ev fa c.2.2 []).getD 0 false = true
      · rw [if_pos hb]
        by_cases h0 : c.1 = 0
        · rw [if_pos h0]
          refine key _ ?_ ?_ <;> rw [nI_toInt (by omega)] <;> omega
        · rw [if_neg h0]
          refine key _ ?_ ?_ <;> rw [neg_i (by omega)] <;> omega
      · rw [if_neg hb]
        exact key 0 (by decide) (by decide)
section SHC
variable {nh : Nat} {σ : Ms} {ρ : Mm} {ℓ : Mz} {η : Mj}
theorem apt_lt {g f : Nat} (hg : g < 10) (hf : f < 10) : apt g f < 10 := by
  unfold apt
  split <;> omega
theorem sum_bd (R : RX nh σ ρ ℓ η) {M m w p f : Nat} (H : HR M m w m (σ 1) ρ) (hp : p < M) (hf : f < 10) : ∃ (S : Int32) (τ1 : Mm), f_X1_sum (σ 1) σ (nI p) (nI f) = some (S, τ1) ∧ EF [11] τ1 (σ 1) ∧ -2000 ≤ S.toInt ∧ S.toInt ≤ 2000 := by
  obtain ⟨⟨-, -, -, -, -, -, -, -, hl, -⟩, -, ⟨b1, -, -, b4⟩, -⟩ := R
  have hM := H.1.1
  obtain ⟨hm, m1, m2⟩ := H.2.1
  obtain ⟨a2, a3, ⟨a4, g, hg, a4'⟩, -⟩ := H.2.2.2.2.1 p hp
  have hap := apt_lt hg hf
  have e2 : (2 : Int32) * nI (apt g f) = nI (2 * apt g f) := pk_mul 2 _
  rcases hl with ⟨e1, -⟩ | ⟨j, hj, e1, e3⟩
  · refine ⟨nI (2 * apt g f), σ 1, ?_, EF.rf, ?_⟩
    · unfold f_X1_sum f_X1_sum_0
      rw [z_in (by omega) (by decide), nI_clamp (by omega), a4, a4', lt_d, p_apart8 hg hf, e1, if_pos rfl, e2]
    · rw [nI_toInt (by omega)]
      omega
  · obtain ⟨cs, h1, h2, h3, h4⟩ := b4 j hj
    have hok : ∀ c, c ∈ cs → c.1 < 3 ∧ c.2.1 < 100 ∧ (c.1 < 2 → vd c.2.2 0) := by
      intro c hc
      obtain ⟨i, hi, e⟩ := gD_mem hc
      obtain ⟨-, a2, -, a4, a5⟩ := h3 i hi
      rw [e] at a2 a4 a5
      exact ⟨a2, a4, fun h => (a5 h).choose_spec.2.2.2.2.2⟩
    obtain ⟨τ2, t1, t2⟩ := sum8 (τ := σ 1) (hs := σ) (p := p) (f := f) (g := g) (m := m) (j := j) (W := csum (fcs (nI p) (ρ 5 p) (ρ 6 p) (nI f) (nI (apt g f)) (nI (m % 10))) cs) (by omega) hf hg (by omega) (by omega) (a4.trans a4') m1 e1 (fun τo ho => w_weighs h4 hok (fun k hk => by rw [ho k hk, a2, a3]))
    obtain ⟨i1, i2⟩ := csum_b (fa := fcs (nI p) (ρ 5 p) (ρ 6 p) (nI f) (nI (apt g f)) (nI (m % 10))) cs h1 (fun c hc => (hok c hc).2.1)
    refine ⟨_, τ2, t1, t2, ?_⟩
    rw [e2, p_add] <;> rw [nI_toInt (by omega)] <;> omega
theorem half_b {s : Int32} (h1 : -2000 ≤ s.toInt) (h2 : s.toInt ≤ 2000) : -2000 ≤ (s / 2).toInt ∧ (s / 2).toInt ≤ 2000 := by
  have hd : -2000 ≤ s.toInt.tdiv 2 ∧ s.toInt.tdiv 2 ≤ 2000 := by
    rcases Int.le_total 0 s.toInt with h | h
    · rw [Int.tdiv_eq_ediv_of_nonneg h]
      omega
    · have e : s.toInt = -(-s.toInt) := by omega
      rw [e, Int.neg_tdiv, Int.tdiv_eq_ediv_of_nonneg (by omega)]
      omega
  have e : (s / 2).toInt = s.toInt.tdiv 2 := by
    rw [Int32.toInt_div, show (2 : Int32).toInt = 2 from rfl, p_bm (by omega) (by omega)]
  rw [e]
  exact hd
theorem cost_bd (R : RX nh σ ρ ℓ η) {M m w p f : Nat} (H : HR M m w m (σ 1) ρ) (hm : m ≤ 9999) (hz : HZ M (σ 1)) (hp : p < M) (hf : f < 10) : ∃ (c : Int32) (τ1 : Mm), f_X1_cost (σ 1) σ (nI p) (nI f) = some (c, τ1) ∧ -20000 ≤ c.toInt ∧ c.toInt ≤ 20000 := by
  obtain ⟨S, τ1, s1, s2, s3, s4⟩ := sum_bd R H hp hf
  have hM := H.1.1
  obtain ⟨-, -, -, -, -, -, ⟨a8, c, hc, a8'⟩, -⟩ := H.2.2.2.2.1 p hp
  obtain ⟨⟨k, hk7, ek⟩, ⟨v, hv, ev⟩, er⟩ := hz.2 p hp (by omega)
  obtain ⟨-, m1, -⟩ := H.2.1
  have ip : ∀ {β : Type} {x : Option β}, gd (inB (nI p) 6) x = x := z_in (by omega) (by decide)
  have ic : (nI p).toNatClampNeg = p := nI_clamp (by omega)
  have key : ∀ w0 : Int32, (0 ≤ w0.toInt ∧ w0.toInt ≤ 9) → ∃ c : Int32, f_X1_cost_27 σ (nI p) (nI f) τ1 S w0 = some (c, τ1) ∧ -20000 ≤ c.toInt ∧ c.toInt ≤ 20000 := by
    intro w0 hw
    unfold f_X1_cost_27
    simp only [ip, ic, s2 2 (by decide), s2 3 (by decide), s2 8 (by decide), s2 9 (by decide), s2 15 (by decide), lt_d, ek, ev, a8, a8', m1]
    rw [p_r2 (by omega), p_r4 (by omega), n4, pk_mul, nI_add, z_in (show p * 4 + m % 4 < 24 by omega) (by decide), nI_clamp (show p * 4 + m % 4 < 2 ^ 31 by omega), Nat.mul_comm p 4]
    obtain ⟨r, hr, er'⟩ := er (m % 4) (by omega)
    rw [er']
    have hs := half_b s3 s4
    rcases (by omega : k = 0 ∨ k = 1 ∨ k = 2 ∨ k = 3 ∨ k = 4 ∨ k = 5 ∨ k = 6) with rfl | rfl | rfl | rfl | rfl | rfl | rfl
    · refine ⟨S, rfl, by omega, by omega⟩
    · refine ⟨S + nI c, rfl, ?_⟩
      rw [p_add] <;> rw [nI_toInt (by omega)] <;> omega
    · exact ⟨S / 2, rfl, by omega, by omega⟩
    · refine ⟨S + w0, rfl, ?_⟩
      rw [p_add] <;> omega
    · refine ⟨S + nI c + nI (m % 2) * 20, rfl, ?_⟩
      have e1 : (S + nI c).toInt = S.toInt + c := by rw [p_add] <;> rw [nI_toInt (by omega)] <;> omega
      have e2 : nI (m % 2) * (20 : Int32) = nI (m % 2 * 20) := pk_mul _ 20
      rw [e2, p_add] <;> rw [e1, nI_toInt (by omega)] <;> omega
    · refine ⟨S / 2 - nI v, rfl, ?_⟩
      rw [p_sub] <;> rw [nI_toInt (by omega)] <;> omega
    · refine ⟨S + w0 + nI r, rfl, ?_⟩
      have e1 : (S + w0).toInt = S.toInt + w0.toInt := by rw [p_add] <;> omega
      rw [p_add] <;> rw [e1, nI_toInt (by omega)] <;> omega
  unfold f_X1_cost f_X1_cost_0
  rw [s1, bd_s]
  simp only [ip, ic, s2 4 (by decide), s2 3 (by decide)]
  by_cases h : σ 1 4 p ≤ nI f
  · rw [if_pos h]
    obtain ⟨c, c1, c2⟩ := key 0 ⟨by decide, by decide⟩
    exact ⟨c, τ1, c1, c2⟩
  · rw [if_neg h]
    obtain ⟨c, c1, c2⟩ := key (σ 1 3 p) (by rw [ev, nI_toInt (by omega)]; omega)
    exact ⟨c, τ1, c1, c2⟩
def opv (ρ : Mm) (f : Nat) : Int32 := match f_X9_isOpen ρ (nI f) with
  | some r => r
  | none => 0
def cvv (ρ : Mm) (f p : Nat) : Int32 := match f_X9_cost ρ (nI p) (nI f) with
  | some u => u.1
  | none => 0
theorem cn_ok (R : RX nh σ ρ ℓ η) {M m w : Nat} (H : HR M m w m (σ 1) ρ) (hm : m ≤ 9999) (hz : HZ M (σ 1)) : CN M (σ 1) σ ρ (opv ρ) (cvv ρ) := by
  have hM := H.1.1
  have HHr := R.HH (hs := σ) (fun _ _ _ => rfl)
  have S0 := HHr.1 M m w m (σ 1) ρ H rfl (fun _ _ => rfl)
  refine ⟨⟨hM, H.1.2.1, H.1.2.2⟩, fun θ' e => ?_, fun ρ' e => ?_, fun f p hf hp => ?_⟩
  · have H' := HR_c H (fun k hk => e k (by simpa using hk)) (fun k _ => rfl)
    refine ⟨fun f hf => ?_, fun f p hf hp => ?_⟩
    · obtain ⟨r, o1, o2⟩ := s_open H' hf
      have : opv ρ f = r := by unfold opv; rw [o2]
      rw [o1, this]
    · have S' := HHr.1 M m w m θ' ρ H' (by rw [e 16 (by decide)]) (fun _ _ => rfl)
      obtain ⟨c, τ1, ρ1, c1, c2, c3, c4⟩ := s_cost H' S' hp hf
      have : cvv ρ f p = c := by unfold cvv; rw [c3]
      rw [this]
      exact ⟨τ1, c1, fun k hk => (c2 k (by simpa using hk)).trans (e k hk)⟩
  · have H' := HR_k H (fun k hk => e k (by simp; omega))
    refine ⟨fun f hf => ?_, fun p hp => (s_free H' hp).2, fun f p hf hp => ?_⟩
    · obtain ⟨r, o1, o2⟩ := s_open H' hf
      obtain ⟨r', o3, o4⟩ := s_open H hf
      have : opv ρ f = r' := by unfold opv; rw [o4]
      rw [o2, this]
      rw [o3] at o1
      exact o1.symm
    · have S' := HHr.1 M m w m (σ 1) ρ' H' rfl (fun k hk => e k (by simp; omega))
      obtain ⟨c, τ1, ρ1, c1, c2, c3, c4⟩ := s_cost H' S' hp hf
      obtain ⟨c', τ1', ρ1', d1, d2, d3, d4⟩ := s_cost H S0 hp hf
      have : cvv ρ f p = c' := by unfold cvv; rw [d3]
      rw [c1] at d1
      have hcc : c = c' := congrArg Prod.fst (Option.some.inj d1)
      rw [this, ← hcc]
      exact ⟨ρ1, c3, fun k hk => c4 k (by simpa using hk)⟩
  · obtain ⟨c, τ1, c1, c2⟩ := cost_bd R H hm hz hp hf
    obtain ⟨c', τ1', ρ1', d1, d2, d3, d4⟩ := s_cost H S0 hp hf
    have : cvv ρ f p = c' := by unfold cvv; rw [d3]
    rw [c1] at d1
    have hcc : c = c' := congrArg Prod.fst (Option.some.inj d1)
    rw [this, ← hcc]
    exact c2
/-- the class's row of SHARED: nothing behind the last floor -/
def SH (τ : Mm) : Prop := ∀ u, u < 64 → τ 5 (640 + u) = 0
theorem S_shared (R : RX nh σ ρ ℓ η) (hS : SH (σ 20)) (a : Int32) : ∃ (r : Int32) (σ' : Ms) (ρ' : Mm), f_X8_shared σ a = some (r, σ') ∧ f_X9_shared ρ a = some (r, ρ') ∧ RX nh σ' ρ' ℓ η ∧ SH (σ' 20) ∧ σ' 29 = σ 29 := by
  obtain ⟨M, m, w, H, hm, hw, hz, -⟩ := R.1
  have hM := H.1.1
  have C := cn_ok R H hm hz
  unfold f_X8_shared f_X8_shared_0 f_X9_shared f_X9_shared_0
  rw [q_wc a 10 10 10 10 rfl (by omega) rfl, bd_s, q_w a 2 2 rfl, bd_s, q_i a 0 1 2 rfl rfl, bd_s, q_ic a 10 19 10 10 rfl rfl, bd_s]
  obtain ⟨ρa, a1, a2, a3⟩ := lay_cost C 10 0 FU ρ (by omega) (by rw [FU_e]; omega) EF.rf (fun g q hg => absurd hg (Nat.not_lt_zero _))
  obtain ⟨ρb, b1, b2, b3⟩ := lay_zero 64 0 FU ρa (by omega) (by rw [FU_e]; omega)
  obtain ⟨τ1, θ1, ρ1, c1, c2, c3, c4, c5, c6, c7, c8⟩ := rows_L C 10 FU FU (σ 20) (σ 1) ρb (by omega) (by rw [FU_e]; omega) (by rw [FU_e]; omega) EF.rf ((b2.sub (by decide)).tr (a2.sub (by decide))) (fun g q hg hq => by rw [b2 43 (by decide)]; exact a3 g q hg hq) (fun g hg hg2 => by omega) (fun g hg hg2 u hu => by
    obtain rfl : g = 10 := by omega
    obtain ⟨z1, z2⟩ := (b3 u hu).1 (Nat.zero_le _)
    refine ⟨?_, fun h => absurd h (by omega)⟩
    rw [show 64 * 10 + u = 640 + u by omega, hS u hu, z1, z2]
    exact ⟨0, by omega, rfl, ⟨by decide, by decide⟩, by decide⟩)
  have hz1 : ∀ u, u < 64 → ρ1 41 (640 + u) = 0 ∧ ρ1 42 (640 + u) = 0 := fun u hu => by
    obtain ⟨mm, m1, m2, m3, -⟩ := (c7 10 (by omega) u hu).1
    rw [show 64 * 10 + u = 640 + u by omega] at m2 m3
    refine ⟨by rw [m2, show mm = 0 by omega]; rfl, ?_⟩
    rw [p_eq, show (0 : Int32).toInt = 0 from rfl]
    omega
  obtain ⟨τ2, d1, d2, d3, d4, d5⟩ := fw8 (τ := s_t (s_t τ1 1 0 0) 2 0 0) (θ' := θ1) C c4 c5 (fun g hg => ⟨fun p hp => (c6 g hg).1 p hp, fun p hp h => (c6 g hg).2 p hp h⟩) (fun g hg u hu => c7 g hg u hu) hz1 10 0 FU (s_t (s_t τ1 1 0 0) 2 0 0) (by omega) (by rw [FU_e]; omega) (by show 0 < 64; omega) EF.rf (fun g hg => absurd hg (Nat.not_lt_zero _)) (by
    show s_t (s_t τ1 1 0 0) 2 0 0 1 0 + ρ1 41 (64 * 0 + 0) = _
    rw [st_ne (by omega), st_eq, Int32.zero_add]) (by
    show s_t (s_t τ1 1 0 0) 2 0 0 2 0 + ρ1 42 (64 * 0 + 0) = _
    rw [st_eq, Int32.zero_add])
  have e8 : f_X5_finds (σ 20) (σ 1) σ = some (τ2, θ1) := by
    show f_X5_finds_3L σ FU (σ 20) (σ 1) (nI 10 - 1) = _
    rw [c1]
    exact d1
  have e9 : f_X9_layShared ρ = some ρ1 := by
    show f_X9_layShared_2L FU ρ (nI 0) = _
    rw [a1]
    refine b1.trans ?_
    exact c2
  have RR : RX nh (va_up (va_up σ 20 τ2) 1 θ1) ρ1 ℓ η := by
    refine R.fr (fun o h1 h2 h3 h4 => by rw [up_ne h1, up_ne h3]) ?_ ?_ ⟨fun k hk => c4 k (by simp; omega), fun k q r => by rw [c4 k (by simp; omega)], fun k p q r s => by rw [c4 k (by simp; omega)]⟩ ?_
    · rw [up_eq]; exact c3
    · rw [up_ne (by omega), up_ne (by omega)]; exact ⟨rfl, rfl⟩
    · rw [c4 31 (by decide), c4 32 (by decide)]; exact R.2.1.2.2
  have SS' : SH ((va_up (va_up σ 20 τ2) 1 θ1) 20) := fun u hu => by
    rw [up_ne (by omega), up_eq, d2 5 (by decide), st_ne (by omega), st_ne (by omega), c8 _ (by omega)]
    exact hS u hu
  have s29 : (va_up (va_up σ 20 τ2) 1 θ1) 29 = σ 29 := by rw [up_ne (by omega), up_ne (by omega)]
  have s20 : (va_up (va_up σ 20 τ2) 1 θ1) 20 = τ2 := by rw [up_ne (by omega), up_eq]
  unfold f_X8_shared_29 f_X9_shared_26
  rw [e8, e9, bd_s, bd_s, lt_d, s20]
  rcases bB_c a (n := 2) (by omega) with ⟨h, -⟩ | ⟨k, hk, rfl, h⟩
  · rw [h]; simp only [i00]
    rcases bC_c a (a := 10) (n := 10) (by omega) with ⟨h1, -⟩ | ⟨F, hF, rfl, h1⟩
    · rw [h1]; simp only [i00]
      exact ⟨_, _, _, rfl, rfl, R, hS, rfl⟩
    · rw [h1]; simp only [i10]
      rw [if_pos (show (2 : Int32) ≤ nI (10 + F) from nI_le (a := 2) (by omega) (by omega))]
      have f9 := fw9 (τ := τ1) C c4 c5 c6 c7 hF (F + 1) 0 FU (-5) (by omega) (by rw [FU_e]; omega) (by show 0 < 64; omega) (fun h => absurd h (by omega))
      have f9 : f_X9_shared_63L (nI (10 + F)) FU ρ1 0 (-5) 0 = some (wS ρ1 F (SS ρ1 F), ρ1) := f9
      rw [f9, show (10 : Int32) = nI 10 from rfl, z_subc, z_in hF (by decide), nI_clamp (by omega), d3 F hF]
      exact ⟨_, _, _, rfl, rfl, RR, SS', s29⟩
  · rw [h]; simp only [i10]
    have hc : bC (nI k) 10 10 = 0 := b2_f (by rw [nI_toInt (by omega)]; omega)
    rw [hc, i00, if_neg (show ¬ (2 : Int32) ≤ nI k from nI_ge (b := 2) (by omega) (by omega))]
    have g0 : ∀ {β : Type} {x : Option β}, gd (inB (0 : Int32) 704) x = x := fun {β} {x} => gd_of (by decide)
    rw [g0, g0, show (0 : Int32).toNatClampNeg = 0 from rfl, d4, d5]
    rcases (by omega : k = 0 ∨ k = 1) with rfl | rfl
    · rw [if_pos (show nI 0 = 0 from rfl), if_pos (show nI 0 = 0 from rfl)]
      exact ⟨_, _, _, rfl, rfl, RR, SS', s29⟩
    · rw [if_neg (show ¬ nI 1 = 0 by decide), if_neg (show ¬ nI 1 = 0 by decide)]
      exact ⟨_, _, _, rfl, rfl, RR, SS', s29⟩
end SHC
