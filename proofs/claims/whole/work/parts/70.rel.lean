/-! PURE: the relation of the class's memory and the model's -/
def HZ (M : Nat) (τ : Mm) : Prop := (∀ p, M ≤ p → p < 6 → τ 6 p = 0 ∧ τ 7 p = 0 ∧ τ 8 p = 0 ∧ ∀ k, k < 4 → τ 9 (4 * p + k) = 0) ∧ ∀ p, p < M → p < 6 → (∃ k : Nat, k < 7 ∧ τ 2 p = nI k) ∧ (∃ v : Nat, v < 10 ∧ τ 3 p = nI v) ∧ ∀ k, k < 4 → ∃ n : Nat, n < 10 ∧ τ 9 (4 * p + k) = nI n
def PW (τ : Mm) : Prop := ∀ f g : Nat, f < 10 → g < 10 → τ 10 f = τ 10 g → f = g
def HL (x y : Int32) (nh : Nat) : Prop := (x = 0 ∧ y = -1) ∨ ∃ j : Nat, j < nh ∧ x = nI (14 + j) ∧ y = nI j
def NS (M : Nat) (s ρ : Mm) : Prop := ∃ k : Nat, k ≤ 5 ∧ s 3 0 = nI k ∧ ρ 44 0 = nI k ∧ ∀ i : Nat, i < k → s 0 i = ρ 45 i ∧ s 1 i = ρ 47 i ∧ s 2 i = ρ 46 i ∧ (∃ q : Nat, q < M ∧ ρ 45 i = nI q) ∧ ∃ n : Nat, n ≤ 20 ∧ ρ 46 i = nI n
def NP (M : Nat) (s ρ : Mm) : Prop := ∃ k : Nat, k ≤ 10 ∧ s 3 0 = nI k ∧ ρ 48 0 = nI k ∧ ∀ i : Nat, i < k → s 0 i = ρ 50 i ∧ ∃ n : Nat, n < 4 ∧ ρ 50 i = nI n ∧ (n = 0 ∨ s 1 i = ρ 51 i ∧ (n = 1 → ∃ f : Nat, f < 10 ∧ ρ 51 i = nI f) ∧ (1 < n → ∃ q : Nat, q < M ∧ ρ 51 i = nI q))
def NB (M : Nat) (s ρ : Mm) : Prop := ∃ k : Nat, k ≤ 8 ∧ s 3 0 = nI k ∧ ρ 49 0 = nI k ∧ ∀ i : Nat, i < k → s 0 i = ρ 52 i ∧ s 1 i = ρ 53 i ∧ ∃ q : Nat, q < M ∧ ρ 52 i = nI q
def Core (nh : Nat) (τ s p b ρ : Mm) : Prop := ∃ M m w : Nat, HR M m w m τ ρ ∧ m ≤ 9999 ∧ w ≤ 10 * m ∧ HZ M τ ∧ PW τ ∧ HL (τ 16 0) (ρ 14 0) nh ∧ NS M s ρ ∧ NP M p ρ ∧ NB M b ρ
/-- a house's steps: below 1800 a test, 1800 !, 1801 &, 1802 |; so they stand in the class, and so in the model -/
def mcode (t : Nat) : Int32 := if t < 1800 then nI (1000 * (t / 300) + 100 * (t / 100 % 3) + t % 100) else if t = 1800 then -33 else if t = 1801 then -38 else -124
/-- each join has what it joins, one is left -/
def vd : List Nat → Nat → Prop
  | [], d => d = 1
  | t :: L, d => if t < 1800 then d ≤ 29 ∧ vd L (d + 1) else if t = 1800 then 1 ≤ d ∧ vd L d else t ≤ 1802 ∧ 2 ≤ d ∧ vd L (d - 1)
/-- a clause: its word (0 slow, 1 keen, 2 rest), its number, its steps -/
abbrev Cl : Type := Nat × Nat × List Nat
def cst (c : Cl) : List Nat := if c.1 = 2 then [] else c.2.2 ++ [if c.1 = 0 then 1900 + c.2.1 else 2000 + c.2.1]
def csts : List Cl → List Nat
  | [] => []
  | c :: cs => cst c ++ csts cs
def crest : List Cl → Nat → Nat
  | [], r => r
  | c :: cs, r => crest cs (if c.1 = 2 then c.2.1 else r)
/-- a clause c of house j in the model -/
def CL (j : Nat) (ρ : Mm) (c : Nat) (x : Cl) : Prop := ρ 20 c = nI x.1 ∧ x.1 < 3 ∧ ρ 21 c = nI x.2.1 ∧ x.2.1 < 100 ∧ (x.1 < 2 → ∃ a : Nat, ρ 22 c = nI a ∧ ρ 23 c = nI (a + x.2.2.length) ∧ 100 * j ≤ a ∧ a + x.2.2.length ≤ 100 * j + 100 ∧ (∀ i, i < x.2.2.length → ρ 24 (a + i) = mcode (x.2.2.getD i 0)) ∧ vd x.2.2 0)
def CS (h : Mm) (cs : List Cl) : Prop := h 1 0 = nI (csts cs).length ∧ (csts cs).length ≤ 100 ∧ (∀ i, i < (csts cs).length → h 0 i = nI ((csts cs).getD i 0)) ∧ h 2 0 = nI (crest cs 2)
def HO (j : Nat) (h ρ : Mm) : Prop := ∃ cs : List Cl, cs.length ≤ 10 ∧ ρ 19 j = nI cs.length ∧ (∀ c, c < cs.length → CL j ρ (10 * j + c) (cs.getD c (0, 0, []))) ∧ CS h cs
def HsR (nh : Nat) (σ : Ms) (ρ : Mm) : Prop := nh ≤ 6 ∧ σ 0 8 0 = nI nh ∧ ρ 13 0 = nI nh ∧ ∀ j, j < nh → HO j (σ (14 + j)) ρ
def ltr (q : Nat) : Int32 := [115, 108, 111, 119, 107, 101, 101, 110, 114, 101, 115, 116].getD q 0
def TxR (t ρ : Mm) : Prop := (∃ n : Nat, n ≤ 100 ∧ t 1 0 = nI n ∧ ρ 15 0 = nI n ∧ ∀ i, i < n → t 0 i = ρ 18 i ∧ ∃ c : Nat, c < 128 ∧ ρ 18 i = nI c) ∧ ∀ q, q < 12 → ρ 29 q = ltr q
def AcR (a ρ : Mm) : Prop := ∃ n : Nat, n ≤ 1000 ∧ a 1 0 = nI n ∧ ρ 79 0 = nI n ∧ ∀ i, i < n → i < 20 → a 0 i = ρ 80 i
def TpR (σ : Ms) (ρ : Mm) (ℓ : Mz) (η : Mj) : Prop := ∀ t : Nat, t < 6 → (∃ len : Nat, len ≤ 60 ∧ σ (23 + t) 2 0 = nI len ∧ ρ 82 t = nI len ∧ σ (23 + t) 1 0 = ρ 81 t ∧ ((ρ 81 t = -1 ∧ len = 0) ∨ ∃ s : Nat, s < 5 ∧ ρ 81 t = nI s)) ∧ ∀ i : Nat, i < 60 → ℓ (23 + t) 0 i = η 83 (60 * t + i)
def LmR (σ : Ms) (ρ : Mm) : Prop := (σ 1 0 0 = 9999 ∧ σ 1 1 0 = 999999) ∧ (σ 2 0 0 = 2147483647 ∧ σ 2 1 0 = 2147483647) ∧ ρ 31 0 = 9999 ∧ ρ 32 0 = 999999
/-- where the model keeps its image -/
def imk (k : Nat) : Nat := if k = 14 then 55 else if k ≤ 4 then 56 + k else if k = 44 then 61 else if k = 48 then 62 else if k = 49 then 63 else if k ≤ 12 then 59 + k else if k = 45 then 72 else if k = 46 then 73 else if k = 47 then 74 else if k = 50 then 75 else if k = 51 then 76 else if k = 52 then 77 else if k = 53 then 78 else k
theorem imk_in : ∀ k, k < 54 → (k ≤ 12 ∨ k = 14 ∨ 44 ≤ k) → 54 ≤ imk k ∧ imk k ≤ 78 := by decide
def im (ρ : Mm) : Mm := fun k => ρ (imk k)
def ImR (nh : Nat) (σ : Ms) (ρ : Mm) : Prop := σ 0 5 0 = ρ 54 0 ∧ (ρ 54 0 = 0 ∨ (ρ 54 0 = 1 ∧ Core nh (σ 3) (σ 9) (σ 10) (σ 11) (im ρ)))
def RX (nh : Nat) (σ : Ms) (ρ : Mm) (ℓ : Mz) (η : Mj) : Prop := Core nh (σ 1) (σ 6) (σ 7) (σ 8) ρ ∧ LmR σ ρ ∧ HsR nh σ ρ ∧ TxR (σ 12) ρ ∧ ImR nh σ ρ ∧ AcR (σ 21) ρ ∧ TpR σ ρ ℓ η
/-- two memories of the model that are the same to all but the steps of a trial -/
def EQ9 (ρ' ρ : Mm) : Prop := (∀ k, ¬ (1 ≤ k ∧ k ≤ 4 ∨ 7 ≤ k ∧ k ≤ 10 ∨ 30 ≤ k ∧ k ≤ 43) → ρ' k = ρ k) ∧ (∀ k, 1 ≤ k → k ≤ 4 → ρ' k 0 = ρ k 0) ∧ ∀ k p, 7 ≤ k → k ≤ 10 → p < 6 → ρ' k p = ρ k p
theorem EQ9.rf {ρ : Mm} : EQ9 ρ ρ := ⟨fun _ _ => rfl, fun _ _ _ => rfl, fun _ _ _ _ _ => rfl⟩
theorem EQ9.tr {a b c : Mm} (h1 : EQ9 a b) (h2 : EQ9 b c) : EQ9 a c := ⟨fun k hk => (h1.1 k hk).trans (h2.1 k hk), fun k q r => (h1.2.1 k q r).trans (h2.2.1 k q r), fun k p q r s => (h1.2.2 k p q r s).trans (h2.2.2 k p q r s)⟩
theorem EQ9.of {ρ' ρ : Mm} (h : EF [30] ρ' ρ) : EQ9 ρ' ρ := ⟨fun k hk => h k (by simp; omega), fun k q r => by rw [h k (by simp; omega)], fun k p q r s => by rw [h k (by simp; omega)]⟩
/-- the class's hall, the same but for the caps and the letters' facts -/
def EQ1 (τ' τ : Mm) : Prop := ∀ k, 2 ≤ k → k ≠ 11 → (k ≤ 8 → ∀ p, p < 6 → τ' k p = τ k p) ∧ (k = 9 → ∀ p, p < 24 → τ' k p = τ k p) ∧ (k = 10 → ∀ p, p < 10 → τ' k p = τ k p) ∧ (12 ≤ k → k ≤ 16 → τ' k 0 = τ k 0)
theorem EQ1.rf {τ : Mm} : EQ1 τ τ := fun _ _ _ => ⟨fun _ _ _ => rfl, fun _ _ _ => rfl, fun _ _ _ => rfl, fun _ _ => rfl⟩
theorem EQ1.of {τ' τ : Mm} (h : EF [11] τ' τ) : EQ1 τ' τ := fun k h2 h11 => by
  rw [h k (by simpa using h11)]
  exact ⟨fun _ _ _ => rfl, fun _ _ _ => rfl, fun _ _ _ => rfl, fun _ _ => rfl⟩
theorem EQ1.k6 {τ' τ : Mm} (h : EQ1 τ' τ) {k p : Nat} (h2 : 2 ≤ k) (h8 : k ≤ 8) (hp : p < 6) : τ' k p = τ k p := (h k h2 (by omega)).1 h8 p hp
theorem EQ1.k9 {τ' τ : Mm} (h : EQ1 τ' τ) {p : Nat} (hp : p < 24) : τ' 9 p = τ 9 p := (h 9 (by omega) (by omega)).2.1 rfl p hp
theorem EQ1.k10 {τ' τ : Mm} (h : EQ1 τ' τ) {p : Nat} (hp : p < 10) : τ' 10 p = τ 10 p := (h 10 (by omega) (by omega)).2.2.1 rfl p hp
theorem EQ1.k0 {τ' τ : Mm} (h : EQ1 τ' τ) {k : Nat} (hk : 12 ≤ k ∧ k ≤ 16) : τ' k 0 = τ k 0 := (h k (by omega) (by omega)).2.2.2 hk.1 hk.2
theorem HR_e {M m w cb : Nat} {τ ρ τ' ρ' : Mm} (H : HR M m w cb τ ρ) (h1 : EQ1 τ' τ) (h2 : EQ9 ρ' ρ) : HR M m w cb τ' ρ' := by
  obtain ⟨⟨a1, a2, a3⟩, ⟨b1, b2, b3⟩, ⟨c1, c2, c3⟩, d, e, f⟩ := H
  refine ⟨⟨a1, (h1.k0 (by omega)).trans a2, by rw [h2.1 0 (by omega)]; exact a3⟩, ⟨b1, (h1.k0 (by omega)).trans b2, (h2.2.1 4 (by omega) (by omega)).trans b3⟩, ⟨c1, (h1.k0 (by omega)).trans c2, (h2.2.1 3 (by omega) (by omega)).trans c3⟩, ?_, fun p hp => ?_, fun g hg => ?_⟩
  · rw [h1.k0 (by omega), h2.2.1 2 (by omega) (by omega)]
    exact d
  · have := e p hp
    unfold MR at this ⊢
    rw [h1.k6 (k := 2) (by omega) (by omega) (by omega), h1.k6 (k := 3) (by omega) (by omega) (by omega), h1.k6 (k := 4) (by omega) (by omega) (by omega), h1.k6 (k := 5) (by omega) (by omega) (by omega), h1.k6 (k := 6) (by omega) (by omega) (by omega), h1.k6 (k := 7) (by omega) (by omega) (by omega), h1.k6 (k := 8) (by omega) (by omega) (by omega), h2.1 5 (by omega), h2.1 6 (by omega), h2.1 11 (by omega), h2.2.2 7 p (by omega) (by omega) (by omega), h2.2.2 8 p (by omega) (by omega) (by omega), h2.2.2 9 p (by omega) (by omega) (by omega), h2.2.2 10 p (by omega) (by omega) (by omega), h2.2.1 1 (by omega) (by omega)]
    obtain ⟨t1, t2, t3, t4, t5, t6, t7, t10⟩ := this
    exact ⟨t1, t2, t3, t4, t5, t6, t7, fun k hk => by rw [h1.k9 (by omega)]; exact t10 k hk⟩
  · rw [h1.k10 hg, h2.1 12 (by omega)]
    exact f g hg
theorem HZ_e {M : Nat} {τ τ' : Mm} (H : HZ M τ) (h : EQ1 τ' τ) : HZ M τ' := ⟨fun p h1 h2 => by
  obtain ⟨a, b, c, d⟩ := H.1 p h1 h2
  rw [h.k6 (k := 6) (by omega) (by omega) h2, h.k6 (k := 7) (by omega) (by omega) h2, h.k6 (k := 8) (by omega) (by omega) h2]
  exact ⟨a, b, c, fun k hk => by rw [h.k9 (by omega)]; exact d k hk⟩, fun p h1 h2 => by
  obtain ⟨a, b, c⟩ := H.2 p h1 h2
  rw [h.k6 (k := 2) (by omega) (by omega) h2, h.k6 (k := 3) (by omega) (by omega) h2]
  exact ⟨a, b, fun k hk => by rw [h.k9 (by omega)]; exact c k hk⟩⟩
theorem PW_e {τ τ' : Mm} (H : PW τ) (h : EQ1 τ' τ) : PW τ' := fun f g hf hg q => by
  rw [h.k10 hf, h.k10 hg] at q
  exact H f g hf hg q
/-- rows by hand, the same -/
def EQR (N : Nat) (s' s : Mm) : Prop := s' 3 0 = s 3 0 ∧ ∀ k p, k < 3 → p < N → s' k p = s k p
theorem EQR.rf {N : Nat} {s : Mm} : EQR N s s := ⟨rfl, fun _ _ _ _ => rfl⟩
def EQN (ρ' ρ : Mm) : Prop := ∀ k, 44 ≤ k → k ≤ 53 → ρ' k = ρ k
theorem NS_e {M : Nat} {s ρ s' ρ' : Mm} (H : NS M s ρ) (h1 : EQR 5 s' s) (h2 : EQN ρ' ρ) : NS M s' ρ' := by
  obtain ⟨k, a, b, c, d⟩ := H
  refine ⟨k, a, h1.1.trans b, by rw [h2 44 (by omega) (by omega)]; exact c, fun i hi => ?_⟩
  rw [h1.2 0 i (by omega) (by omega), h1.2 1 i (by omega) (by omega), h1.2 2 i (by omega) (by omega), h2 45 (by omega) (by omega), h2 46 (by omega) (by omega), h2 47 (by omega) (by omega)]
  exact d i hi
theorem NP_e {M : Nat} {s ρ s' ρ' : Mm} (H : NP M s ρ) (h1 : EQR 10 s' s) (h2 : EQN ρ' ρ) : NP M s' ρ' := by
  obtain ⟨k, a, b, c, d⟩ := H
  refine ⟨k, a, h1.1.trans b, by rw [h2 48 (by omega) (by omega)]; exact c, fun i hi => ?_⟩
  rw [h1.2 0 i (by omega) (by omega), h1.2 1 i (by omega) (by omega), h2 50 (by omega) (by omega), h2 51 (by omega) (by omega)]
  exact d i hi
theorem NB_e {M : Nat} {s ρ s' ρ' : Mm} (H : NB M s ρ) (h1 : EQR 8 s' s) (h2 : EQN ρ' ρ) : NB M s' ρ' := by
  obtain ⟨k, a, b, c, d⟩ := H
  refine ⟨k, a, h1.1.trans b, by rw [h2 49 (by omega) (by omega)]; exact c, fun i hi => ?_⟩
  rw [h1.2 0 i (by omega) (by omega), h1.2 1 i (by omega) (by omega), h2 52 (by omega) (by omega), h2 53 (by omega) (by omega)]
  exact d i hi
theorem Core_e {nh : Nat} {τ s p b ρ τ' s' p' b' ρ' : Mm} (H : Core nh τ s p b ρ) (h1 : EQ1 τ' τ) (h2 : EQ9 ρ' ρ) (h3 : EQR 5 s' s) (h4 : EQR 10 p' p) (h5 : EQR 8 b' b) : Core nh τ' s' p' b' ρ' := by
  obtain ⟨M, m, w, a1, a2, a3, a4, a5, a6, a7, a8, a9⟩ := H
  have hn : EQN ρ' ρ := fun k q r => h2.1 k (by omega)
  refine ⟨M, m, w, HR_e a1 h1 h2, a2, a3, HZ_e a4 h1, PW_e a5 h1, ?_, NS_e a7 h3 hn, NP_e a8 h4 hn, NB_e a9 h5 hn⟩
  rw [h1.k0 (by omega), h2.1 14 (by omega)]
  exact a6
theorem CL_e {j c : Nat} {ρ ρ' : Mm} {x : Cl} (h : CL j ρ c x) (e : ∀ k, 20 ≤ k → k ≤ 24 → ρ' k = ρ k) : CL j ρ' c x := by
  unfold CL at h ⊢
  rw [e 20 (by omega) (by omega), e 21 (by omega) (by omega), e 22 (by omega) (by omega), e 23 (by omega) (by omega), e 24 (by omega) (by omega)]
  exact h
theorem HO_e {j : Nat} {h ρ ρ' : Mm} (H : HO j h ρ) (e : ∀ k, 19 ≤ k → k ≤ 24 → ρ' k = ρ k) : HO j h ρ' := by
  obtain ⟨cs, a, b, c, d⟩ := H
  exact ⟨cs, a, by rw [e 19 (by omega) (by omega)]; exact b, fun i hi => CL_e (c i hi) (fun k q r => e k (by omega) r), d⟩
theorem HsR_e {nh : Nat} {σ σ' : Ms} {ρ ρ' : Mm} (H : HsR nh σ ρ) (h1 : σ' 0 8 0 = σ 0 8 0) (h2 : ∀ j, 14 ≤ j → j < 20 → σ' j = σ j) (e : ∀ k, k = 13 ∨ 19 ≤ k ∧ k ≤ 24 → ρ' k = ρ k) : HsR nh σ' ρ' := by
  obtain ⟨a, b, c, d⟩ := H
  exact ⟨a, h1.trans b, by rw [e 13 (by omega)]; exact c, fun j hj => by rw [h2 (14 + j) (by omega) (by omega)]; exact HO_e (d j hj) (fun k q r => e k (by omega))⟩
theorem ImR_e {nh : Nat} {σ σ' : Ms} {ρ ρ' : Mm} (H : ImR nh σ ρ) (h1 : σ' 0 5 0 = σ 0 5 0) (h2 : ∀ o, o = 3 ∨ 9 ≤ o ∧ o ≤ 11 → σ' o = σ o) (e : ∀ k, 54 ≤ k → k ≤ 78 → ρ' k = ρ k) : ImR nh σ' ρ' := by
  obtain ⟨a, b⟩ := H
  have e54 := e 54 (by omega) (by omega)
  refine ⟨by rw [h1, e54]; exact a, ?_⟩
  rw [e54, h2 3 (by omega), h2 9 (by omega), h2 10 (by omega), h2 11 (by omega)]
  rcases b with b | ⟨b, c⟩
  · exact Or.inl b
  · refine Or.inr ⟨b, ?_⟩
    obtain ⟨M, m, w, a1, a2, a3, a4, a5, a6, a7, a8, a9⟩ := c
    have hk : ∀ k, (k ≤ 12 ∨ k = 14 ∨ 44 ≤ k ∧ k ≤ 53) → im ρ' k = im ρ k := by
      intro k hk
      have := imk_in k (by omega) (by omega)
      exact e (imk k) this.1 this.2
    have hn : EQN (im ρ') (im ρ) := fun k q r => hk k (by omega)
    refine ⟨M, m, w, ?_, a2, a3, a4, a5, ?_, NS_e a7 EQR.rf hn, NP_e a8 EQR.rf hn, NB_e a9 EQR.rf hn⟩
    · unfold HR MR at a1 ⊢
      simp only [hk 0 (by omega), hk 1 (by omega), hk 2 (by omega), hk 3 (by omega), hk 4 (by omega), hk 5 (by omega), hk 6 (by omega), hk 7 (by omega), hk 8 (by omega), hk 9 (by omega), hk 10 (by omega), hk 11 (by omega), hk 12 (by omega)]
      exact a1
    · rw [hk 14 (by omega)]
      exact a6
theorem TxR_e {t ρ ρ' : Mm} (H : TxR t ρ) (e : ρ' 15 = ρ 15 ∧ ρ' 18 = ρ 18 ∧ ρ' 29 = ρ 29) : TxR t ρ' := by
  unfold TxR at H ⊢
  rw [e.1, e.2.1, e.2.2]
  exact H
theorem AcR_e {t ρ ρ' : Mm} (H : AcR t ρ) (e : ρ' 79 = ρ 79 ∧ ρ' 80 = ρ 80) : AcR t ρ' := by
  unfold AcR at H ⊢
  rw [e.1, e.2]
  exact H
theorem TpR_e {σ σ' : Ms} {ρ ρ' : Mm} {ℓ : Mz} {η : Mj} (H : TpR σ ρ ℓ η) (h : ∀ o, 23 ≤ o → o < 29 → σ' o = σ o) (e : ρ' 81 = ρ 81 ∧ ρ' 82 = ρ 82) : TpR σ' ρ' ℓ η := fun t ht => by
  rw [h (23 + t) (by omega) (by omega), e.1, e.2]
  exact H t ht
/-- a call that changed nothing that stays -/
theorem RX.fr {nh : Nat} {σ σ' : Ms} {ρ ρ' : Mm} {ℓ : Mz} {η : Mj} (R : RX nh σ ρ ℓ η) (hσ : ∀ o, o ≠ 1 → o ≠ 2 → o ≠ 20 → o ≠ 29 → σ' o = σ o) (h1 : EF [11] (σ' 1) (σ 1)) (h2 : σ' 2 0 0 = σ 2 0 0 ∧ σ' 2 1 0 = σ 2 1 0) (hρ : EQ9 ρ' ρ) (hl : ρ' 31 0 = 9999 ∧ ρ' 32 0 = 999999) : RX nh σ' ρ' ℓ η := by
  obtain ⟨a1, ⟨⟨a2, a3⟩, ⟨a4, a5⟩, -⟩, b, c, d, e, f⟩ := R
  refine ⟨?_, ⟨?_, ?_, hl⟩, HsR_e b (by rw [hσ 0 (by omega) (by omega) (by omega) (by omega)]) (fun j q r => hσ j (by omega) (by omega) (by omega) (by omega)) (fun k hk => hρ.1 k (by omega)), ?_, ImR_e d (by rw [hσ 0 (by omega) (by omega) (by omega) (by omega)]) (fun o ho => hσ o (by omega) (by omega) (by omega) (by omega)) (fun k q r => hρ.1 k (by omega)), ?_, TpR_e f (fun o q r => hσ o (by omega) (by omega) (by omega) (by omega)) ⟨hρ.1 81 (by omega), hρ.1 82 (by omega)⟩⟩
  · rw [hσ 6 (by omega) (by omega) (by omega) (by omega), hσ 7 (by omega) (by omega) (by omega) (by omega), hσ 8 (by omega) (by omega) (by omega) (by omega)]
    exact Core_e a1 (EQ1.of h1) hρ EQR.rf EQR.rf EQR.rf
  · rw [h1 0 (by decide), h1 1 (by decide)]
    exact ⟨a2, a3⟩
  · rw [h2.1, h2.2]
    exact ⟨a4, a5⟩
  · rw [hσ 12 (by omega) (by omega) (by omega) (by omega)]
    exact TxR_e c ⟨hρ.1 15 (by omega), hρ.1 18 (by omega), hρ.1 29 (by omega)⟩
  · rw [hσ 21 (by omega) (by omega) (by omega) (by omega)]
    exact AcR_e e ⟨hρ.1 79 (by omega), hρ.1 80 (by omega)⟩
/-- a call that changed the hall, or the rows by hand -/
theorem RX.now {nh : Nat} {σ σ' : Ms} {ρ ρ' : Mm} {ℓ : Mz} {η : Mj} (R : RX nh σ ρ ℓ η) (hσ : ∀ o, o ≠ 1 → o ≠ 2 → o ≠ 6 → o ≠ 7 → o ≠ 8 → o ≠ 29 → σ' o = σ o) (h1 : σ' 1 0 = σ 1 0 ∧ σ' 1 1 = σ 1 1) (h2 : σ' 2 = σ 2) (hρ : ∀ k, ¬ (k ≤ 12 ∨ k = 14 ∨ k = 30 ∨ 44 ≤ k ∧ k ≤ 53) → ρ' k = ρ k) (hc : Core nh (σ' 1) (σ' 6) (σ' 7) (σ' 8) ρ') : RX nh σ' ρ' ℓ η := by
  obtain ⟨a1, ⟨⟨a2, a3⟩, ⟨a4, a5⟩, a6⟩, b, c, d, e, f⟩ := R
  have z : ∀ o, o ≠ 1 → o ≠ 2 → ¬ (6 ≤ o ∧ o ≤ 8) → o ≠ 29 → σ' o = σ o := fun o q r s t => hσ o q r (by omega) (by omega) (by omega) t
  refine ⟨hc, ⟨?_, ?_, ?_⟩, HsR_e b (by rw [z 0 (by omega) (by omega) (by omega) (by omega)]) (fun j q r => z j (by omega) (by omega) (by omega) (by omega)) (fun k hk => hρ k (by omega)), ?_, ImR_e d (by rw [z 0 (by omega) (by omega) (by omega) (by omega)]) (fun o ho => z o (by omega) (by omega) (by omega) (by omega)) (fun k q r => hρ k (by omega)), ?_, TpR_e f (fun o q r => z o (by omega) (by omega) (by omega) (by omega)) ⟨hρ 81 (by omega), hρ 82 (by omega)⟩⟩
  · rw [h1.1, h1.2]
    exact ⟨a2, a3⟩
  · rw [h2]
    exact ⟨a4, a5⟩
  · rw [hρ 31 (by omega), hρ 32 (by omega)]
    exact a6
  · rw [z 12 (by omega) (by omega) (by omega) (by omega)]
    exact TxR_e c ⟨hρ 15 (by omega), hρ 18 (by omega), hρ 29 (by omega)⟩
  · rw [z 21 (by omega) (by omega) (by omega) (by omega)]
    exact AcR_e e ⟨hρ 79 (by omega), hρ 80 (by omega)⟩
