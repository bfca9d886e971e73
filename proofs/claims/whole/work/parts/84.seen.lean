/-! PURE: what is seen, in both: from, can -/
section CF
variable {nh : Nat} {σ : Ms} {ρ : Mm} {ℓ : Mz} {η : Mj}
def BR (r : Int32) (P : Prop) : Prop := (r = 1 ∧ P) ∨ (r = 0 ∧ ¬ P)
theorem BR.c {r : Int32} {P Q : Prop} (h : BR r P) (e : P ↔ Q) : BR r Q := h.imp (fun a => ⟨a.1, e.mp a.2⟩) (fun a => ⟨a.1, fun q => a.2 (e.mpr q)⟩)
theorem BR.eq {r r' : Int32} {P : Prop} (h : BR r P) (h' : BR r' P) : r = r' := by
  rcases h with ⟨a, b⟩ | ⟨a, b⟩
  · rcases h' with ⟨c, d⟩ | ⟨c, d⟩
    · rw [a, c]
    · exact absurd b d
  · rcases h' with ⟨c, d⟩ | ⟨c, d⟩
    · exact absurd d b
    · rw [a, c]
/-- the class's minutes, one by one, at hall 2 -/
def crun (σ : Ms) : Nat → Mm → Option Mm
  | 0, τ => some τ
  | n + 1, τ => bd (f_X1_goes τ (va_up σ 2 τ) 1) (fun τ1 => crun σ n τ1)
theorem TR.run {C M : Nat} (hC : C ≤ 30000) : ∀ (n m w : Nat) (τ2 ρ2 : Mm), TR C M m w σ ρ τ2 ρ2 → m + n ≤ C → ∃ (w' : Nat) (τ3 ρ3 : Mm), crun σ n τ2 = some τ3 ∧ mmins n ρ2 ρ3 ∧ TR C M (m + n) w' σ ρ τ3 ρ3 := by
  intro n
  induction n with
  | zero =>
    intro m w τ2 ρ2 T h
    exact ⟨w, τ2, ρ2, rfl, rfl, T⟩
  | succ n ih =>
    intro m w τ2 ρ2 T h
    obtain ⟨w', τ3, ρ3, c1, c2, T3, -⟩ := T.one hC (by omega) (hs := va_up σ 2 τ2) up2
    obtain ⟨w2, τ4, ρ4, d1, d2, T4⟩ := ih (m + 1) w' τ3 ρ3 T3 (by omega)
    refine ⟨w2, τ4, ρ4, ?_, ⟨ρ3, c2, d2⟩, ?_⟩
    · show bd _ _ = _
      rw [c1, bd_s]
      exact d1
    · rw [show m + (n + 1) = m + 1 + n by omega]
      exact T4
theorem crun_s {n : Nat} : ∀ {τ τn τ1 : Mm}, crun σ n τ = some τn → f_X1_goes τn (va_up σ 2 τn) 1 = some τ1 → crun σ (n + 1) τ = some τ1 := by
  induction n with
  | zero =>
    intro τ τn τ1 h1 h2
    cases h1
    show bd _ _ = _
    rw [h2, bd_s]
    rfl
  | succ n ih =>
    intro τ τn τ1 h1 h2
    have h1' : bd (f_X1_goes τ (va_up σ 2 τ) 1) (fun τ1 => crun σ n τ1) = some τn := h1
    obtain ⟨τa, a1, a2⟩ := bd_use h1'
    show bd _ _ = _
    rw [a1, bd_s]
    exact ih a2 h2
/-- a base of trials: the class's hall and the model's -/
def TB (M m w : Nat) (σ : Ms) (τ ρ : Mm) : Prop := HR M m w m τ ρ ∧ w ≤ 10 * m ∧ m ≤ 9999 ∧ (∀ hs : Ms, (∀ o, 14 ≤ o → o < 20 → hs o = σ o) → HH (τ 16 0) hs ρ) ∧ (τ 0 = σ 2 0 ∧ τ 1 = σ 2 1) ∧ σ 2 0 0 = 2147483647 ∧ σ 2 1 0 = 2147483647
theorem TB.e {M m w : Nat} {τ ρ' : Mm} (B : TB M m w σ τ ρ) (h : EQ9 ρ' ρ) : TB M m w σ τ ρ' := by
  obtain ⟨H, a, b, c, d, e⟩ := B
  exact ⟨HR_e H EQ1.rf h, a, b, fun hs hh => (c hs hh).of (fun k hk => h.1 k (by omega)), d, e⟩
theorem TB.save {M m w : Nat} {τ : Mm} (B : TB M m w σ τ ρ) : ∃ ρ2 : Mm, f_X9_save ρ = some ρ2 ∧ TR 30000 M m w σ ρ τ ρ2 ∧ ∀ k, ¬ (31 ≤ k ∧ k ≤ 40) → ρ2 k = ρ k := by
  obtain ⟨H, a, b, c, ⟨d1, d2⟩, e1, e2⟩ := B
  obtain ⟨ρ2, b1, b2, b3, b4, b5⟩ := s_save (ρ := ρ)
  refine ⟨ρ2, b1, ⟨HR_e H EQ1.rf ⟨fun k hk => b2 k (by omega), fun k q r => by rw [b2 k (by omega)], fun k p q r s => by rw [b2 k (by omega)]⟩, a, fun hs hh => (c hs hh).of (fun k hk => b2 k (by omega)), ?_, b5, d1, d2⟩, b2⟩
  unfold Lim
  rw [d1, d2, e1, e2, b3, b4]
  decide +kernel
theorem TB.run {M m w n : Nat} {τ : Mm} (B : TB M m w σ τ ρ) (hn : n ≤ 100) : ∃ τn : Mm, crun σ n τ = some τn ∧ τn 0 = σ 2 0 ∧ τn 1 = σ 2 1 := by
  obtain ⟨ρ2, -, T, -⟩ := B.save
  have hm := B.2.2.1
  obtain ⟨w', τ3, ρ3, c1, -, T3⟩ := T.run (by omega) n m w τ ρ2 (by omega)
  exact ⟨τ3, c1, T3.2.2.2.2.2.1, T3.2.2.2.2.2.2⟩
/-- the rows seen: all of them are so -/
def SE (σ : Ms) (ρ : Mm) (k0 : Nat) (τ : Mm) (P : Nat → Prop) : Prop := ∀ i, i < k0 → P i → ∀ n : Nat, n ≤ 20 → ρ 46 i = nI n → ∀ τn : Mm, crun σ n τ = some τn → τn 4 (ρ 45 i).toNatClampNeg = ρ 47 i
theorem seenL9 {M m w k0 : Nat} {τ : Mm} (B : TB M m w σ τ ρ) (hk : k0 ≤ 5) (h44 : ρ 44 0 = nI k0) (hr : ∀ i : Nat, i < k0 → (∃ q : Nat, q < M ∧ ρ 45 i = nI q) ∧ ∃ n : Nat, n ≤ 20 ∧ ρ 46 i = nI n) : ∀ (k i n : Nat) (ρ' : Mm), i + k = k0 → k < n → EQ9 ρ' ρ → (ρ' 31 0 = 9999 ∧ ρ' 32 0 = 999999) → SE σ ρ k0 τ (fun j => j < i) → ∃ (r : Int32) (ρ1 : Mm), f_X9_isSeen_4L n ρ' 1 (nI i) = some (r, ρ1) ∧ BR r (SE σ ρ k0 τ (fun _ => True)) ∧ EQ9 ρ1 ρ ∧ (ρ1 31 0 = 9999 ∧ ρ1 32 0 = 999999) := by
  have hM := B.1.1.1
  have hm := B.2.2.1
  intro k
  induction k with
  | zero =>
    intro i n ρ' hi hn e hc hs
    obtain ⟨n, rfl⟩ : ∃ j, n = j + 1 := ⟨n - 1, by omega⟩
    refine ⟨1, ρ', ?_, Or.inl ⟨rfl, fun j hj _ => hs j hj (by omega)⟩, e, hc⟩
    show f_X9_isSeen_4 _ _ _ _ = _
    unfold f_X9_isSeen_4
    rw [e.1 44 (by omega), h44, if_pos (nI_le (by omega) (by omega))]
    rfl
  | succ k ih =>
    intro i n ρ' hi hn e hc hs
    obtain ⟨n, rfl⟩ : ∃ j, n = j + 1 := ⟨n - 1, by omega⟩
    obtain ⟨⟨q, hq, e45⟩, t, ht, e46⟩ := hr i (by omega)
    obtain ⟨ρ2, b1, T, b2⟩ := (B.e e).save
    obtain ⟨w', τ3, ρ3, c1, c2, T3⟩ := T.run (by omega) t m w τ ρ2 (by omega)
    obtain ⟨ρ4, d1, d2, d3⟩ := s_put T3.2.2.2.2.1
    have k45 : ρ3 45 i = nI q := by rw [T3.2.2.2.2.1.1 45 (by omega), e.1 45 (by omega)]; exact e45
    have k47 : ρ3 47 = ρ 47 := (T3.2.2.2.2.1.1 47 (by omega)).trans (e.1 47 (by omega))
    have k46 : ρ2 46 i = nI t := by rw [b2 46 (by omega), e.1 46 (by omega)]; exact e46
    have g : ∀ {β : Type} {x : Option β}, gd (inB (nI i) 5) x = x := z_in (by omega) (by decide)
    have gq : ∀ {β : Type} {x : Option β}, gd (inB (nI q) 6) x = x := z_in (by omega) (by decide)
    have fl : τ3 4 q = ρ3 7 q := (T3.1.2.2.2.2.1 q hq).2.2.1.1
    show ∃ (r : Int32) (ρ1 : Mm), f_X9_isSeen_4 _ _ _ _ = _ ∧ _
    unfold f_X9_isSeen_4 f_X9_isSeen_55
    rw [e.1 44 (by omega), h44, if_neg (nI_ge (by omega) (by omega)), i10, b1, bd_s, g, nI_clamp (show i < 2 ^ 31 by omega), k46, c2.goes (by omega), bd_s, g, g, k45, gq, nI_clamp (show q < 2 ^ 31 by omega), k47, d1, bd_s, bd_s, ← fl]
    simp only [lt_e, nI_1]
    by_cases h : τ3 4 q = ρ 47 i
    · rw [if_pos h]
      refine ih (i + 1) n ρ4 (by omega) (by omega) (d2.tr e) d3 (fun j hj hj2 => ?_)
      by_cases hji : j = i
      · subst hji
        intro n' hn' en' τn hτn
        have : n' = t := (nI_eq (by omega) (by omega)).mp (en'.symm.trans e46)
        subst this
        rw [c1] at hτn
        cases hτn
        rw [e45, nI_clamp (by omega)]
        exact h
      · exact hs j hj (by omega)
    · rw [if_neg h]
      have hno : ¬ SE σ ρ k0 τ (fun _ => True) := fun z => h (by
        have := z i (by omega) trivial t ht e46 τ3 c1
        rwa [e45, nI_clamp (by omega)] at this)
      refine ⟨0, ρ4, ?_, Or.inr ⟨rfl, hno⟩, d2.tr e, d3⟩
      obtain ⟨n, rfl⟩ : ∃ j, n = j + 1 := ⟨n - 1, by omega⟩
      show f_X9_isSeen_4 _ _ _ _ = _
      unfold f_X9_isSeen_4
      rw [if_pos rfl]
      split <;> rfl
/-- the class: rows of one minute -/
theorem seenL8 {M k0 t : Nat} {σ' : Ms} (hM : M ≤ 6) (hk : k0 ≤ 5) (ht : t ≤ 20) (h6 : σ' 6 = σ 6) (h3 : σ 6 3 0 = nI k0) (hr : ∀ i : Nat, i < k0 → σ 6 0 i = ρ 45 i ∧ σ 6 1 i = ρ 47 i ∧ σ 6 2 i = ρ 46 i ∧ (∃ q : Nat, q < M ∧ ρ 45 i = nI q) ∧ ∃ n : Nat, n ≤ 20 ∧ ρ 46 i = nI n) : ∀ (k i n : Nat), i + k = k0 → k < n → ∃ r : Int32, f_X8_isSeenAfter_10L σ' (nI t) n (nI i) = some r ∧ BR r (∀ j, i ≤ j → j < k0 → ρ 46 j = nI t → σ' 2 4 (ρ 45 j).toNatClampNeg = ρ 47 j) := by
  intro k
  induction k with
  | zero =>
    intro i n hi hn
    obtain ⟨n, rfl⟩ : ∃ j, n = j + 1 := ⟨n - 1, by omega⟩
    refine ⟨1, ?_, Or.inl ⟨rfl, fun j h1 h2 => by omega⟩⟩
    show f_X8_isSeenAfter_10 _ _ _ _ = _
    unfold f_X8_isSeenAfter_10
    rw [h6, h3, if_pos (nI_le (by omega) (by omega))]
  | succ k ih =>
    intro i n hi hn
    obtain ⟨n, rfl⟩ : ∃ j, n = j + 1 := ⟨n - 1, by omega⟩
    obtain ⟨r, r1, r2⟩ := ih (i + 1) n (by omega) (by omega)
    obtain ⟨e0, e1, e2, ⟨q, hq, e45⟩, s, hs, e46⟩ := hr i (by omega)
    have g : ∀ {β : Type} {x : Option β}, gd (inB (nI i) 5) x = x := z_in (by omega) (by decide)
    have gq : ∀ {β : Type} {x : Option β}, gd (inB (nI q) 6) x = x := z_in (by omega) (by decide)
    have pre : f_X8_isSeenAfter_10L σ' (nI t) (n + 1) (nI i) = if ρ 46 i = nI t then (if σ' 2 4 q = ρ 47 i then some r else some 0) else some r := by
      show f_X8_isSeenAfter_10 _ _ _ _ = _
      unfold f_X8_isSeenAfter_10 f_X8_isSeenAfter_53
      rw [h6, h3, if_neg (nI_ge (by omega) (by omega)), rl6, g, g, g, nI_clamp (show i < 2 ^ 31 by omega), e0, e1, e2, e45, gq, nI_clamp (show q < 2 ^ 31 by omega), lt_d, nI_1, r1]
    rw [pre]
    by_cases h1 : ρ 46 i = nI t
    · rw [if_pos h1]
      by_cases h2 : σ' 2 4 q = ρ 47 i
      · rw [if_pos h2]
        refine ⟨r, rfl, r2.c ⟨fun z j j1 j2 j3 => ?_, fun z j j1 j2 j3 => z j (by omega) j2 j3⟩⟩
        by_cases hji : j = i
        · subst hji
          rw [e45, nI_clamp (by omega)]
          exact h2
        · exact z j (by omega) j2 j3
      · rw [if_neg h2]
        refine ⟨0, rfl, Or.inr ⟨rfl, fun z => h2 ?_⟩⟩
        have := z i (Nat.le_refl _) (by omega) h1
        rwa [e45, nI_clamp (by omega)] at this
    · rw [if_neg h1]
      refine ⟨r, rfl, r2.c ⟨fun z j j1 j2 j3 => ?_, fun z j j1 j2 j3 => z j (by omega) j2 j3⟩⟩
      by_cases hji : j = i
      · subst hji
        exact absurd j3 h1
      · exact z j (by omega) j2 j3
theorem allL8 {M m w k0 : Nat} {τ ρb : Mm} (B : TB M m w σ τ ρb) (hM : M ≤ 6) (hk : k0 ≤ 5) (h3 : σ 6 3 0 = nI k0) (hr : ∀ i : Nat, i < k0 → σ 6 0 i = ρ 45 i ∧ σ 6 1 i = ρ 47 i ∧ σ 6 2 i = ρ 46 i ∧ (∃ q : Nat, q < M ∧ ρ 45 i = nI q) ∧ ∃ n : Nat, n ≤ 20 ∧ ρ 46 i = nI n) : ∀ (k i n : Nat) (τi : Mm), i + k = 21 → k < n → crun σ i τ = some τi → ∃ (r : Int32) (τ' : Mm), f_X8_allIsSeen_2L n (va_up σ 2 τi) (nI i) = some (r, va_up σ 2 τ') ∧ (τ' 0 = σ 2 0 ∧ τ' 1 = σ 2 1) ∧ BR r (SE σ ρ k0 τ (fun j => ∀ t : Nat, t ≤ 20 → ρ 46 j = nI t → i ≤ t)) := by
  intro k
  induction k with
  | zero =>
    intro i n τi hi hn hc
    obtain ⟨n, rfl⟩ : ∃ j, n = j + 1 := ⟨n - 1, by omega⟩
    obtain ⟨τx, x1, x2⟩ := B.run (n := i) (by omega)
    rw [hc] at x1
    cases x1
    refine ⟨1, τi, ?_, x2, Or.inl ⟨rfl, fun j hj z t ht e => ?_⟩⟩
    · show f_X8_allIsSeen_2 _ _ _ = _
      unfold f_X8_allIsSeen_2
      rw [show i = 21 by omega, if_pos (by decide)]
    · have := z t ht e
      omega
  | succ k ih =>
    intro i n τi hi hn hc
    obtain ⟨n, rfl⟩ : ∃ j, n = j + 1 := ⟨n - 1, by omega⟩
    obtain ⟨τx, x1, x2⟩ := B.run (n := i) (by omega)
    rw [hc] at x1
    cases x1
    obtain ⟨τy, y1, y2⟩ := B.run (n := i + 1) (by omega)
    -- the next minute
    have hgo : f_X1_goes τi (va_up σ 2 τi) 1 = some τy := by
      rcases hg : f_X1_goes τi (va_up σ 2 τi) 1 with _ | τz
      · exfalso
        have key : ∀ (i : Nat) (τ : Mm), crun σ i τ = some τi → crun σ (i + 1) τ = none := by
          intro i
          induction i with
          | zero =>
            intro τ h
            cases h
            show bd _ _ = _
            rw [hg]
            rfl
          | succ i ih2 =>
            intro τ h
            have h' : bd (f_X1_goes τ (va_up σ 2 τ) 1) (fun τ1 => crun σ i τ1) = some τi := h
            obtain ⟨τa, a1, a2⟩ := bd_use h'
            show bd _ _ = _
            rw [a1, bd_s]
            exact ih2 τa a2
        rw [key i τ hc] at y1
        cases y1
      · rw [crun_s hc hg] at y1
        exact y1
    obtain ⟨r, r1, r2⟩ := seenL8 (σ := σ) (ρ := ρ) (σ' := va_up σ 2 τi) hM hk (t := i) (by omega) (up_ne (by omega)) h3 hr k0 0 FU (by omega) (by rw [FU_e]; omega)
    have pre : f_X8_allIsSeen_2L (n + 1) (va_up σ 2 τi) (nI i) = if r = 0 then some (0, va_up σ 2 τi) else f_X8_allIsSeen_2L n (va_up σ 2 τy) (nI (i + 1)) := by
      show f_X8_allIsSeen_2 _ _ _ = _
      unfold f_X8_allIsSeen_2
      have r1' : f_X8_isSeenAfter (va_up σ 2 τi) (nI i) = some r := r1
      rw [if_neg (show ¬ (20 : Int32) < nI i from nI_nlt (b := i) (a := 20) (by omega) (by omega)), r1', bd_s, up_eq, hgo, bd_s, lt_d, up_up, lt_d, nI_1]
    rw [up_eq] at r2
    rw [pre]
    rcases r2 with ⟨rfl, h⟩ | ⟨rfl, h⟩
    · rw [i10]
      obtain ⟨r', τ', a1, a2, a3⟩ := ih (i + 1) n τy (by omega) (by omega) y1
      refine ⟨r', τ', a1, a2, a3.c ⟨fun z j hj z2 t ht e τn hτ => ?_, fun z j hj z2 => z j hj (fun t ht e => by have := z2 t ht e; omega)⟩⟩
      by_cases hti : t = i
      · subst hti
        rw [hc] at hτ
        cases hτ
        exact h j (Nat.zero_le _) hj e
      · refine z j hj (fun t2 ht2 e2 => ?_) t ht e τn hτ
        have : t2 = t := (nI_eq (by omega) (by omega)).mp (e2.symm.trans e)
        have := z2 t ht e
        omega
    · rw [i00]
      refine ⟨0, τi, rfl, x2, Or.inr ⟨rfl, fun z => h (fun j _ hj e => z j hj (fun t ht e2 => ?_) i (by omega) e τi hc)⟩⟩
      have : t = i := (nI_eq (by omega) (by omega)).mp (e2.symm.trans e)
      omega
theorem both_seen {M m w : Nat} {τ ρb : Mm} (B : TB M m w σ τ ρb) (ns : NS M (σ 6) ρ) (e : ∀ k, 44 ≤ k → k ≤ 47 → ρb k = ρ k) (hc : ρb 31 0 = 9999 ∧ ρb 32 0 = 999999) : ∃ (r : Int32) (τ' ρ1 : Mm), f_X8_allIsSeen (va_up σ 2 τ) = some (r, va_up σ 2 τ') ∧ f_X9_isSeen ρb = some (r, ρ1) ∧ (r = 0 ∨ r = 1) ∧ (τ' 0 = σ 2 0 ∧ τ' 1 = σ 2 1) ∧ EQ9 ρ1 ρb ∧ ρ1 31 0 = 9999 ∧ ρ1 32 0 = 999999 := by
  obtain ⟨k0, n1, n2, n3, n4'⟩ := ns
  have hM := B.1.1.1
  have hr : ∀ i : Nat, i < k0 → (∃ q : Nat, q < M ∧ ρb 45 i = nI q) ∧ ∃ n : Nat, n ≤ 20 ∧ ρb 46 i = nI n := fun i hi => by
    rw [e 45 (by omega) (by omega), e 46 (by omega) (by omega)]
    exact (n4' i hi).2.2.2
  obtain ⟨r, ρ1, a1, a2, a3, a4⟩ := seenL9 B n1 (by rw [e 44 (by omega) (by omega)]; exact n3) hr k0 0 FU ρb (by omega) (by rw [FU_e]; omega) EQ9.rf hc (fun j _ z => absurd z (Nat.not_lt_zero _))
  obtain ⟨r', τ', b1, b2, b3⟩ := allL8 (ρ := ρb) B hM n1 n2 (fun i hi => by
    rw [e 45 (by omega) (by omega), e 46 (by omega) (by omega), e 47 (by omega) (by omega)]
    exact n4' i hi) 21 0 FU τ (by omega) (by rw [FU_e]; omega) rfl
  have : r' = r := b3.eq (a2.c ⟨fun z j hj _ => z j hj trivial, fun z j hj _ => z j hj (fun t _ _ => Nat.zero_le _)⟩)
  subst this
  exact ⟨r', τ', ρ1, b1, a1, a2.elim (fun z => Or.inr z.1) (fun z => Or.inl z.1), b2, a3, a4⟩
/-- a number of a master, tried -/
theorem TB.of {M m w p kt kr : Nat} {τ ρ' : Mm} {x y : Int32} (R : RX nh σ ρ ℓ η) (H : HR M m w m (σ 1) ρ) (hw : w ≤ 10 * m) (hm : m ≤ 9999) (h1 : EQ1 τ (σ 1)) (h0 : τ 0 = σ 2 0 ∧ τ 1 = σ 2 1) (hk : kt = 4 ∧ kr = 7 ∧ (∃ f : Nat, f < 10 ∧ x = nI f) ∨ kt = 3 ∧ kr = 6) (e : EQ9 ρ' (s_t ρ kr p y)) : TB M m w σ (s_t τ kt p x) (s_t ρ' kr p x) ∧ EQ9 (s_t ρ' kr p x) (s_t ρ kr p x) := by
  have e2 : EQ9 (s_t ρ' kr p x) (s_t ρ kr p x) := by
    refine ⟨fun k hk' => ?_, fun k q r => ?_, fun k i q r s => ?_⟩
    · by_cases hkr : k = kr
      · subst hkr
        have := e.1 k hk'
        funext i
        rw [st_k, st_k]
        by_cases hi : i = p
        · rw [if_pos hi, if_pos hi]
        · rw [if_neg hi, if_neg hi, this, st_k, if_neg hi]
      · rw [st_ne hkr, st_ne hkr, e.1 k hk', st_ne hkr]
    · rw [st_ne (by omega), st_ne (by omega), e.2.1 k q r, st_ne (by omega)]
    · rw [st_v, st_v]
      by_cases hi : k = kr ∧ i = p
      · rw [if_pos hi, if_pos hi]
      · rw [if_neg hi, if_neg hi, e.2.2 k i q r s, st_v, if_neg hi]
  have H1 : HR M m w m (s_t τ kt p x) (s_t ρ kr p x) := by
    have H0 := HR_e H h1 EQ9.rf
    rcases hk with ⟨rfl, rfl, f, hf, rfl⟩ | ⟨rfl, rfl⟩
    · exact HR_floor H0 hf
    · obtain ⟨g1, g2, g3, g4, g5, g6⟩ := H0
      refine ⟨g1, g2, g3, g4, fun q hq => ?_, g6⟩
      obtain ⟨a2, a3, a4, a5, a6, a7, a8, a9⟩ := g5 q hq
      refine ⟨a2, ?_, a4, a5, a6, a7, a8, a9⟩
      rw [st_k, st_k]
      by_cases hqp : q = p
      · rw [if_pos hqp, if_pos hqp]
      · rw [if_neg hqp, if_neg hqp]
        exact a3
  have L := R.2.1
  refine ⟨TB.e (ρ := s_t ρ kr p x) ⟨H1, hw, hm, fun hs hh => ?_, ?_, L.2.1.1, L.2.1.2⟩ e2, e2⟩
  · rw [st_ne (show (16 : Nat) ≠ kt by omega), h1.k0 (by omega)]
    exact (R.HH hh).of (fun k hk' => st_ne (by omega))
  · rw [st_ne (show (0 : Nat) ≠ kt by omega), st_ne (show (1 : Nat) ≠ kt by omega)]
    exact h0
theorem SM.tried {α : Type} (R : RX nh σ ρ ℓ η) {τ ρ' : Mm} (h0 : τ 0 = σ 2 0 ∧ τ 1 = σ 2 1) (e : EQ9 ρ' ρ) (hc : ρ' 31 0 = 9999 ∧ ρ' 32 0 = 999999) (r : α) : SM nh σ ℓ η (some (r, va_up σ 2 τ)) (some (r, ρ')) := by
  refine ⟨r, _, _, rfl, rfl, R.fr (fun o _ h _ _ => up_ne h) (fun k _ => by rw [up_ne (by omega)]) ?_ e hc, KP.up (by omega)⟩
  rw [up_eq, h0.1, h0.2]
  exact ⟨rfl, rfl⟩
theorem EQ9.put {ρ' : Mm} {p kr : Nat} {y : Int32} (e : EQ9 ρ' (s_t ρ kr p y)) (hk : kr = 7 ∨ kr = 6) (hp : p < 6) : EQ9 (s_t ρ' kr p (ρ kr p)) ρ := by
  have idp : s_t ρ kr p (ρ kr p) = ρ := by
    funext k i
    rw [st_v]
    by_cases h : k = kr ∧ i = p
    · rw [if_pos h, h.1, h.2]
    · rw [if_neg h]
  refine ⟨fun k hk' => ?_, fun k q r => ?_, fun k i q r s => ?_⟩
  · by_cases hkr : k = kr
    · subst hkr
      have := e.1 k hk'
      funext i
      rw [st_k]
      by_cases hi : i = p
      · rw [if_pos hi, hi]
      · rw [if_neg hi, this, st_k, if_neg hi]
    · rw [st_ne hkr, e.1 k hk', st_ne hkr]
  · rw [st_ne (by omega), e.2.1 k q r, st_ne (by omega)]
  · rw [st_v]
    by_cases hi : k = kr ∧ i = p
    · rw [if_pos hi, hi.1, hi.2]
    · rw [if_neg hi, e.2.2 k i q r s, st_v, if_neg hi]
theorem or0 (x : Int32) : x ||| 0 = x := b_ext (fun i hi => by rw [b_or, b_0, Bool.or_false])
theorem fromL (R : RX nh σ ρ ℓ η) {M m w p : Nat} (H : HR M m w m (σ 1) ρ) (hw : w ≤ 10 * m) (hm : m ≤ 9999) (ns : NS M (σ 6) ρ) (hp : p < M) : ∀ (k i n n2 : Nat) (s y : Int32) (τ ρ' : Mm), i + k = 10 → k < n → k < n2 → (τ 0 = σ 2 0 ∧ τ 1 = σ 2 1) → EQ9 ρ' (s_t ρ 7 p y) → (ρ' 31 0 = 9999 ∧ ρ' 32 0 = 999999) → SM nh σ ℓ η (f_X8_from_15L (nI p) n (va_up σ 2 τ) s (nI i)) (f_X9_from_22L (nI p) n2 ρ' (ρ 7 p) s (nI i)) := by
  have hM := H.1.1
  have gp : ∀ {β : Type} {x : Option β}, gd (inB (nI p) 6) x = x := z_in (by omega) (by decide)
  have cp : (nI p).toNatClampNeg = p := nI_clamp (by omega)
  intro k
  induction k with
  | zero =>
    intro i n n2 s y τ ρ' hi hn hn2 h0 e hc
    obtain ⟨n, rfl⟩ : ∃ j, n = j + 1 := ⟨n - 1, by omega⟩
    obtain ⟨n2, rfl⟩ : ∃ j, n2 = j + 1 := ⟨n2 - 1, by omega⟩
    show SM nh σ ℓ η (f_X8_from_15 _ _ _ _ _) (f_X9_from_22 _ _ _ _ _ _)
    unfold f_X8_from_15 f_X9_from_22
    rw [show i = 10 by omega, if_pos (by decide), if_pos (by decide), gp, cp, lt_d]
    exact SM.tried R h0 (e.put (by omega) (by omega)) hc _
  | succ k ih =>
    intro i n n2 s y τ ρ' hi hn hn2 h0 e hc
    obtain ⟨n, rfl⟩ : ∃ j, n = j + 1 := ⟨n - 1, by omega⟩
    obtain ⟨n2, rfl⟩ : ∃ j, n2 = j + 1 := ⟨n2 - 1, by omega⟩
    show SM nh σ ℓ η (f_X8_from_15 _ _ _ _ _) (f_X9_from_22 _ _ _ _ _ _)
    unfold f_X8_from_15 f_X9_from_22 f_X8_from_55 f_X9_from_53
    obtain ⟨τ2, a1, a2, a3, a4⟩ := s_copies (τ := τ) (τo := σ 1)
    obtain ⟨B, e2⟩ := TB.of (p := p) (kt := 4) (kr := 7) (x := nI i) R H hw hm a2 ⟨a3.trans h0.1, a4.trans h0.2⟩ (Or.inl ⟨rfl, rfl, i, by omega, rfl⟩) e
    obtain ⟨r, τ', ρ1, c1, c2, c3, c4, c5, c6⟩ := both_seen B ns (fun k h1 h2 => by rw [e2.1 k (by omega), st_ne (by omega)]) hc
    have n10 : ¬ (10 : Int32) ≤ nI i := nI_ge (b := 10) (by omega) (by omega)
    rw [if_neg n10, if_neg n10, up_eq, up_ne (show (1 : Nat) ≠ 2 by omega), a1, bd_s, lt_d, up_up, gp, cp, lt_d, up_eq, lt_d, up_up, c1, bd_s, gp]
    simp only [lt_e, c2, bd_e, nI_1]
    rcases c3 with rfl | rfl
    · rw [i00, i00, or0]
      exact ih (i + 1) n n2 s (nI i) τ' ρ1 (by omega) (by omega) (by omega) c4 (c5.tr e2) c6
    · rw [i10, i10]
      exact ih (i + 1) n n2 _ (nI i) τ' ρ1 (by omega) (by omega) (by omega) c4 (c5.tr e2) c6
theorem canL (R : RX nh σ ρ ℓ η) {M m w p : Nat} (H : HR M m w m (σ 1) ρ) (hw : w ≤ 10 * m) (hm : m ≤ 9999) (ns : NS M (σ 6) ρ) (hp : p < M) (q : Int32) : ∀ (k n n2 : Nat) (s t y : Int32) (τ ρ' : Mm), k ≤ 10 → k < n → k < n2 → (τ 0 = σ 2 0 ∧ τ 1 = σ 2 1) → EQ9 ρ' (s_t ρ 6 p y) → (ρ' 31 0 = 9999 ∧ ρ' 32 0 = 999999) → SM nh σ ℓ η (f_X8_can_30L (nI p) q n (va_up σ 2 τ) s t (nI k - 1)) (f_X9_can_38L (nI p) q n2 ρ' (ρ 6 p) s t (nI k - 1)) := by
  have hM := H.1.1
  have gp : ∀ {β : Type} {x : Option β}, gd (inB (nI p) 6) x = x := z_in (by omega) (by decide)
  have cp : (nI p).toNatClampNeg = p := nI_clamp (by omega)
  intro k
  induction k with
  | zero =>
    intro n n2 s t y τ ρ' hk hn hn2 h0 e hc
    obtain ⟨n, rfl⟩ : ∃ j, n = j + 1 := ⟨n - 1, by omega⟩
    obtain ⟨n2, rfl⟩ : ∃ j, n2 = j + 1 := ⟨n2 - 1, by omega⟩
    show SM nh σ ℓ η (f_X8_can_30 _ _ _ _ _ _ _) (f_X9_can_38 _ _ _ _ _ _ _ _)
    unfold f_X8_can_30 f_X9_can_38
    rw [if_pos (show nI 0 - 1 < 0 by decide), if_pos (show nI 0 - 1 < 0 by decide), gp, cp, lt_d]
    have h := e.put (ρ := ρ) (by omega) (by omega)
    by_cases hq : q = 0
    · rw [if_pos hq, if_pos hq]
      exact SM.tried R h0 h hc _
    · rw [if_neg hq, if_neg hq]
      exact SM.tried R h0 h hc _
  | succ k ih =>
    intro n n2 s t y τ ρ' hk hn hn2 h0 e hc
    obtain ⟨n, rfl⟩ : ∃ j, n = j + 1 := ⟨n - 1, by omega⟩
    obtain ⟨n2, rfl⟩ : ∃ j, n2 = j + 1 := ⟨n2 - 1, by omega⟩
    show SM nh σ ℓ η (f_X8_can_30 _ _ _ _ _ _ _) (f_X9_can_38 _ _ _ _ _ _ _ _)
    unfold f_X8_can_30 f_X9_can_38 f_X8_can_71 f_X9_can_68
    obtain ⟨τ2, a1, a2, a3, a4⟩ := s_copies (τ := τ) (τo := σ 1)
    obtain ⟨B, e2⟩ := TB.of (p := p) (kt := 3) (kr := 6) (x := nI k) R H hw hm a2 ⟨a3.trans h0.1, a4.trans h0.2⟩ (Or.inr ⟨rfl, rfl⟩) e
    obtain ⟨r, τ', ρ1, c1, c2, c3, c4, c5, c6⟩ := both_seen B ns (fun k h1 h2 => by rw [e2.1 k (by omega), st_ne (by omega)]) hc
    rw [nI_pred, if_neg (nI_pos (by omega)), if_neg (nI_pos (by omega)), up_eq, up_ne (show (1 : Nat) ≠ 2 by omega), a1, bd_s, lt_d, up_up, gp, cp, lt_d, up_eq, lt_d, up_up, c1, bd_s, gp]
    simp only [lt_e, c2, bd_e]
    have em : nI k + (-1 : Int32) = nI k - 1 := by rw [Int32.sub_eq_add_neg]
    rw [em]
    rcases c3 with rfl | rfl
    · rw [i00, i00]
      exact ih n n2 s t (nI k) τ' ρ1 (by omega) (by omega) (by omega) c4 (c5.tr e2) c6
    · rw [i10, i10]
      exact ih n n2 _ _ (nI k) τ' ρ1 (by omega) (by omega) (by omega) c4 (c5.tr e2) c6
theorem st_id {p kr : Nat} : s_t ρ kr p (ρ kr p) = ρ := by
  funext k i
  rw [st_v]
  by_cases h : k = kr ∧ i = p
  · rw [if_pos h, h.1, h.2]
  · rw [if_neg h]
theorem up_self2 {σ : Ms} : va_up σ 2 (σ 2) = σ := up_id σ 2
theorem S_from (R : RX nh σ ρ ℓ η) (a : Int32) : SM nh σ ℓ η (f_X8_from σ a) (f_X9_from ρ a) := by
  obtain ⟨M, m, w, H, hm, hw, hz, hpw, hl, ns, np, nb⟩ := R.1
  have hM := H.1.1
  unfold f_X8_from f_X8_from_0 f_X9_from f_X9_from_0
  rw [q_M8 hM H.1.2.1, q_M9 hM H.1.2.2, bd_s, bd_s]
  rcases bB_c a (n := M) (by omega) with ⟨h, -⟩ | ⟨p, hp, rfl, h⟩
  · rw [h]; simp only [i00]; exact SM.same R _
  rw [h]; simp only [i10]
  rw [z_in (by omega) (by decide), nI_clamp (by omega), lt_d]
  have := fromL R H hw hm ns hp 10 0 FU FU 0 (ρ 7 p) (σ 2) ρ (by omega) (by rw [FU_e]; omega) (by rw [FU_e]; omega) ⟨rfl, rfl⟩ (by rw [st_id]; exact EQ9.rf) R.2.1.2.2
  rw [up_self2] at this
  exact this
theorem S_can (R : RX nh σ ρ ℓ η) (a b : Int32) : SM nh σ ℓ η (f_X8_can σ a b) (f_X9_can ρ a b) := by
  obtain ⟨M, m, w, H, hm, hw, hz, hpw, hl, ns, np, nb⟩ := R.1
  have hM := H.1.1
  unfold f_X8_can f_X8_can_0 f_X9_can f_X9_can_0
  rw [q_M8 hM H.1.2.1, q_M9 hM H.1.2.2, bd_s, bd_s]
  rcases bB_c a (n := M) (by omega) with ⟨h, -⟩ | ⟨p, hp, rfl, h⟩
  · rw [h]; simp only [i00]; exact SM.same R _
  rw [h]; simp only [i10]
  rw [q_w b 2 2 rfl, q_i b 0 1 2 rfl rfl, bd_s, bd_s]
  rcases bB_c b (n := 2) (by omega) with ⟨h, -⟩ | ⟨k, hk, rfl, h⟩
  · rw [h]; simp only [i00]; exact SM.same R _
  rw [h]; simp only [i10]
  rw [z_in (by omega) (by decide), nI_clamp (show p < 2 ^ 31 by omega), lt_d]
  have := canL R H hw hm ns hp (nI k) 10 FU FU 0 (-5) (ρ 6 p) (σ 2) ρ (by omega) (by rw [FU_e]; omega) (by rw [FU_e]; omega) ⟨rfl, rfl⟩ (by rw [st_id]; exact EQ9.rf) R.2.1.2.2
  rw [up_self2] at this
  exact this
end CF
