/-! STATE: memories, the world as one list of cells by (object, sub), the bundle of a walk, contracts -/
abbrev Mm : Type := Nat → Nat → Int32
abbrev Mj : Type := Nat → Nat → Int64
abbrev Ms : Type := Nat → Nat → Nat → Int32
abbrev Mz : Type := Nat → Nat → Nat → Int64
/-- the environment: classes, array classes, addresses, texts' addresses, their rows' -/
abbrev Ev : Type := va_G × (Nat → ClassId) × (Nat → Nat → Nat) × (Nat → Nat) × (Nat → Nat)
abbrev Ea (E : Ev) (o s : Nat) : Nat := E.2.2.1 o s
abbrev Ey (E : Ev) : Nat → ClassId := E.2.1
abbrev Ek (E : Ev) : Nat → Nat := E.2.2.2.1
abbrev Ew (E : Ev) : Nat → Nat := E.2.2.2.2
/-- a write: place i of row (or field) k -/
def s_t (τ : Mm) (k i : Nat) (x : Int32) : Mm := fun j => if j = k then upd (τ k) i x else τ j
def s_l (τ : Mj) (k i : Nat) (x : Int64) : Mj := fun j => if j = k then vp_updL (τ k) i x else τ j
/-- a whole row -/
def s_r (τ : Mm) (k : Nat) (f : Nat → Int32) : Mm := fun j => if j = k then f else τ j
def s_rl (τ : Mj) (k : Nat) (f : Nat → Int64) : Mj := fun j => if j = k then f else τ j
/-- the kinds of the objects -/
def Kd (o : Nat) : Nat := [8, 1, 1, 1, 31, 32, 4, 4, 4, 4, 4, 4, 7, 10, 2, 2, 2, 2, 2, 2, 5, 0, 11, 6, 6, 6, 6, 6, 6, 9].getD o 99
/-- how many cells an object of a kind has -/
def cn (kd : Nat) : Nat := match kd with
  | 0 => 2
  | 1 => 11
  | 2 => 2
  | 4 => 4
  | 5 => 5
  | 6 => 2
  | 7 => 2
  | 8 => 1
  | 9 => 53
  | 10 => 1
  | 11 => 1
  | 31 => 1
  | 32 => 1
  | _ => 0
/-- a row's length in Rows -/
def rl (o : Nat) : Nat := [5, 10, 8].getD ((o - 6) % 3) 0
/-- a reference to a house by a number: 0 none, else its object -/
def hr (E : Ev) (x : Int32) : Option Nat := if x = 0 then none else some (Ea E x.toNatClampNeg 0)

def of_0 (E : Ev) (o : Nat) (τ : Mm) : List Value := [.ref (Ea E o 1), .int (τ 1 0), .int (τ 2 0), .int (τ 3 0), .int (τ 4 0)]
def oc_0 (E : Ev) (o : Nat) (τ : Mm) (η : Mj) (s : Nat) : va_E := match s with
  | 0 => .inr (0, of_0 E o τ)
  | _ => .inl (Ey E 0, 20, .inl (τ 0))
def of_1 (E : Ev) (o : Nat) (τ : Mm) : List Value := [.int (τ 0 0), .int (τ 1 0), .ref (Ea E o 1), .ref (Ea E o 2), .ref (Ea E o 3), .ref (Ea E o 4), .ref (Ea E o 5), .ref (Ea E o 6), .ref (Ea E o 7), .ref (Ea E o 8), .ref (Ea E o 9), .ref (Ea E o 10), .int (τ 12 0), .int (τ 13 0), .int (τ 14 0), .int (τ 15 0), va_rf (hr E (τ 16 0))]
def oc_1 (E : Ev) (o : Nat) (τ : Mm) (η : Mj) (s : Nat) : va_E := match s with
  | 0 => .inr (1, of_1 E o τ)
  | 1 => .inl (Ey E 0, 6, .inl (τ 2))
  | 2 => .inl (Ey E 0, 6, .inl (τ 3))
  | 3 => .inl (Ey E 0, 6, .inl (τ 4))
  | 4 => .inl (Ey E 0, 6, .inl (τ 5))
  | 5 => .inl (Ey E 0, 6, .inl (τ 6))
  | 6 => .inl (Ey E 0, 6, .inl (τ 7))
  | 7 => .inl (Ey E 0, 6, .inl (τ 8))
  | 8 => .inl (Ey E 0, 24, .inl (τ 9))
  | 9 => .inl (Ey E 0, 10, .inl (τ 10))
  | _ => .inl (Ey E 0, 6, .inl (τ 11))
def of_2 (E : Ev) (o : Nat) (τ : Mm) : List Value := [.ref (Ea E o 1), .int (τ 1 0), .int (τ 2 0)]
def oc_2 (E : Ev) (o : Nat) (τ : Mm) (η : Mj) (s : Nat) : va_E := match s with
  | 0 => .inr (2, of_2 E o τ)
  | _ => .inl (Ey E 0, 100, .inl (τ 0))
def of_4 (E : Ev) (o : Nat) (τ : Mm) : List Value := [.ref (Ea E o 1), .ref (Ea E o 2), .ref (Ea E o 3), .int (τ 3 0)]
def oc_4 (E : Ev) (o : Nat) (τ : Mm) (η : Mj) (s : Nat) : va_E := match s with
  | 0 => .inr (4, of_4 E o τ)
  | 1 => .inl (Ey E 0, (rl o), .inl (τ 0))
  | 2 => .inl (Ey E 0, (rl o), .inl (τ 1))
  | _ => .inl (Ey E 0, (rl o), .inl (τ 2))
def of_5 (E : Ev) (o : Nat) (τ : Mm) : List Value := [.ref (Ea E o 1), .int (τ 1 0), .int (τ 2 0), .ref (Ea E o 2), .ref (Ea E o 3), .ref (Ea E o 4)]
def oc_5 (E : Ev) (o : Nat) (τ : Mm) (η : Mj) (s : Nat) : va_E := match s with
  | 0 => .inr (5, of_5 E o τ)
  | 1 => .inl (Ey E 0, 10, .inl (τ 0))
  | 2 => .inl (Ey E 0, 10, .inl (τ 3))
  | 3 => .inl (Ey E 0, 60, .inl (τ 4))
  | _ => .inl (Ey E 0, 704, .inl (τ 5))
def of_6 (E : Ev) (o : Nat) (τ : Mm) : List Value := [.ref (Ea E o 1), .int (τ 1 0), .int (τ 2 0)]
def oc_6 (E : Ev) (o : Nat) (τ : Mm) (η : Mj) (s : Nat) : va_E := match s with
  | 0 => .inr (6, of_6 E o τ)
  | _ => .inl (Ey E 2, 60, .inr (.inl (η 0)))
def of_7 (E : Ev) (o : Nat) (τ : Mm) : List Value := [.ref (Ea E o 1), .int (τ 1 0), .int (τ 2 0), .int (τ 3 0), va_rf (hr E (τ 4 0))]
def oc_7 (E : Ev) (o : Nat) (τ : Mm) (η : Mj) (s : Nat) : va_E := match s with
  | 0 => .inr (7, of_7 E o τ)
  | _ => .inl (Ey E 1, 100, .inl (τ 0))
def of_8 (E : Ev) (o : Nat) (τ : Mm) : List Value := [.ref (Ea E 1 0), .ref (Ea E 2 0), .ref (Ea E 3 0), .ref (Ea E 4 0), .ref (Ea E 5 0), .int (τ 5 0), .ref (Ea E 12 0), .ref (Ea E 13 0), .int (τ 8 0), .ref (Ea E 20 0), .ref (Ea E 21 0), .ref (Ea E 22 0)]
def oc_8 (E : Ev) (o : Nat) (τ : Mm) (η : Mj) (s : Nat) : va_E := match s with
  | 0 => .inr (8, of_8 E o τ)
  | _ => .inr (8, of_8 E o τ)
def of_9 (E : Ev) (o : Nat) (τ : Mm) : List Value := [.int (τ 0 0), .int (τ 1 0), .int (τ 2 0), .int (τ 3 0), .int (τ 4 0), .ref (Ea E o 1), .ref (Ea E o 2), .ref (Ea E o 3), .ref (Ea E o 4), .ref (Ea E o 5), .ref (Ea E o 6), .ref (Ea E o 7), .ref (Ea E o 8), .int (τ 13 0), .int (τ 14 0), .int (τ 15 0), .int (τ 16 0), .int (τ 17 0), .ref (Ea E o 9), .ref (Ea E o 10), .ref (Ea E o 11), .ref (Ea E o 12), .ref (Ea E o 13), .ref (Ea E o 14), .ref (Ea E o 15), .ref (Ea E o 16), .int (τ 26 0), .int (τ 27 0), .int (τ 28 0), .ref (Ea E o 17), .ref (Ea E o 18), .int (τ 31 0), .int (τ 32 0), .int (τ 33 0), .int (τ 34 0), .int (τ 35 0), .int (τ 36 0), .ref (Ea E o 19), .ref (Ea E o 20), .ref (Ea E o 21), .ref (Ea E o 22), .ref (Ea E o 23), .ref (Ea E o 24), .ref (Ea E o 25), .int (τ 44 0), .ref (Ea E o 26), .ref (Ea E o 27), .ref (Ea E o 28), .int (τ 48 0), .int (τ 49 0), .ref (Ea E o 29), .ref (Ea E o 30), .ref (Ea E o 31), .ref (Ea E o 32), .int (τ 54 0), .int (τ 55 0), .int (τ 56 0), .int (τ 57 0), .int (τ 58 0), .int (τ 59 0), .int (τ 60 0), .int (τ 61 0), .int (τ 62 0), .int (τ 63 0), .ref (Ea E o 33), .ref (Ea E o 34), .ref (Ea E o 35), .ref (Ea E o 36), .ref (Ea E o 37), .ref (Ea E o 38), .ref (Ea E o 39), .ref (Ea E o 40), .ref (Ea E o 41), .ref (Ea E o 42), .ref (Ea E o 43), .ref (Ea E o 44), .ref (Ea E o 45), .ref (Ea E o 46), .ref (Ea E o 47), .int (τ 79 0), .ref (Ea E o 48), .ref (Ea E o 49), .ref (Ea E o 50), .ref (Ea E o 51), .ref (Ea E o 52)]
def oc_9 (E : Ev) (o : Nat) (τ : Mm) (η : Mj) (s : Nat) : va_E := match s with
  | 0 => .inr (9, of_9 E o τ)
  | 1 => .inl (Ey E 0, 6, .inl (τ 5))
  | 2 => .inl (Ey E 0, 6, .inl (τ 6))
  | 3 => .inl (Ey E 0, 6, .inl (τ 7))
  | 4 => .inl (Ey E 0, 6, .inl (τ 8))
  | 5 => .inl (Ey E 0, 6, .inl (τ 9))
  | 6 => .inl (Ey E 0, 6, .inl (τ 10))
  | 7 => .inl (Ey E 0, 24, .inl (τ 11))
  | 8 => .inl (Ey E 0, 10, .inl (τ 12))
  | 9 => .inl (Ey E 0, 100, .inl (τ 18))
  | 10 => .inl (Ey E 0, 6, .inl (τ 19))
  | 11 => .inl (Ey E 0, 60, .inl (τ 20))
  | 12 => .inl (Ey E 0, 60, .inl (τ 21))
  | 13 => .inl (Ey E 0, 60, .inl (τ 22))
  | 14 => .inl (Ey E 0, 60, .inl (τ 23))
  | 15 => .inl (Ey E 0, 600, .inl (τ 24))
  | 16 => .inl (Ey E 0, 101, .inl (τ 25))
  | 17 => .inl (Ey E 0, 12, .inl (τ 29))
  | 18 => .inl (Ey E 3, 100, .inl (τ 30))
  | 19 => .inl (Ey E 0, 6, .inl (τ 37))
  | 20 => .inl (Ey E 0, 6, .inl (τ 38))
  | 21 => .inl (Ey E 0, 6, .inl (τ 39))
  | 22 => .inl (Ey E 0, 6, .inl (τ 40))
  | 23 => .inl (Ey E 0, 704, .inl (τ 41))
  | 24 => .inl (Ey E 0, 704, .inl (τ 42))
  | 25 => .inl (Ey E 0, 60, .inl (τ 43))
  | 26 => .inl (Ey E 0, 5, .inl (τ 45))
  | 27 => .inl (Ey E 0, 5, .inl (τ 46))
  | 28 => .inl (Ey E 0, 5, .inl (τ 47))
  | 29 => .inl (Ey E 0, 10, .inl (τ 50))
  | 30 => .inl (Ey E 0, 10, .inl (τ 51))
  | 31 => .inl (Ey E 0, 8, .inl (τ 52))
  | 32 => .inl (Ey E 0, 8, .inl (τ 53))
  | 33 => .inl (Ey E 0, 6, .inl (τ 64))
  | 34 => .inl (Ey E 0, 6, .inl (τ 65))
  | 35 => .inl (Ey E 0, 6, .inl (τ 66))
  | 36 => .inl (Ey E 0, 6, .inl (τ 67))
  | 37 => .inl (Ey E 0, 6, .inl (τ 68))
  | 38 => .inl (Ey E 0, 6, .inl (τ 69))
  | 39 => .inl (Ey E 0, 24, .inl (τ 70))
  | 40 => .inl (Ey E 0, 10, .inl (τ 71))
  | 41 => .inl (Ey E 0, 5, .inl (τ 72))
  | 42 => .inl (Ey E 0, 5, .inl (τ 73))
  | 43 => .inl (Ey E 0, 5, .inl (τ 74))
  | 44 => .inl (Ey E 0, 10, .inl (τ 75))
  | 45 => .inl (Ey E 0, 10, .inl (τ 76))
  | 46 => .inl (Ey E 0, 8, .inl (τ 77))
  | 47 => .inl (Ey E 0, 8, .inl (τ 78))
  | 48 => .inl (Ey E 0, 20, .inl (τ 80))
  | 49 => .inl (Ey E 0, 6, .inl (τ 81))
  | 50 => .inl (Ey E 0, 6, .inl (τ 82))
  | 51 => .inl (Ey E 2, 360, .inr (.inl (η 83)))
  | _ => .inl (Ey E 2, 60, .inr (.inl (η 84)))
def oc_10 (E : Ev) (o : Nat) (τ : Mm) (η : Mj) (s : Nat) : va_E := .inl (Ey E 4, 6, .inr (.inr (.inr (.inr (fun i => some (Ea E (14 + i) 0))))))
def oc_11 (E : Ev) (o : Nat) (τ : Mm) (η : Mj) (s : Nat) : va_E := .inl (Ey E 5, 6, .inr (.inr (.inr (.inr (fun i => some (Ea E (23 + i) 0))))))
def of_31 (E : Ev) (o : Nat) (τ : Mm) : List Value := [.ref (Ea E 6 0), .ref (Ea E 7 0), .ref (Ea E 8 0)]
def oc_31 (E : Ev) (o : Nat) (τ : Mm) (η : Mj) (s : Nat) : va_E := match s with
  | 0 => .inr (3, of_31 E o τ)
  | _ => .inr (3, of_31 E o τ)
def of_32 (E : Ev) (o : Nat) (τ : Mm) : List Value := [.ref (Ea E 9 0), .ref (Ea E 10 0), .ref (Ea E 11 0)]
def oc_32 (E : Ev) (o : Nat) (τ : Mm) (η : Mj) (s : Nat) : va_E := match s with
  | 0 => .inr (3, of_32 E o τ)
  | _ => .inr (3, of_32 E o τ)
def okc (E : Ev) (kd o : Nat) (τ : Mm) (η : Mj) (s : Nat) : va_E := match kd with
  | 0 => oc_0 E o τ η s
  | 1 => oc_1 E o τ η s
  | 2 => oc_2 E o τ η s
  | 4 => oc_4 E o τ η s
  | 5 => oc_5 E o τ η s
  | 6 => oc_6 E o τ η s
  | 7 => oc_7 E o τ η s
  | 8 => oc_8 E o τ η s
  | 9 => oc_9 E o τ η s
  | 10 => oc_10 E o τ η s
  | 11 => oc_11 E o τ η s
  | 31 => oc_31 E o τ η s
  | 32 => oc_32 E o τ η s
  | _ => .inr (0, [])
def ocl (E : Ev) (σ : Ms) (ℓ : Mz) (o s : Nat) : va_E := okc E (Kd o) o (σ o) (ℓ o) s
theorem ocl_k {E : Ev} {σ : Ms} {ℓ : Mz} {o s kd : Nat} (h : Kd o = kd) : ocl E σ ℓ o s = okc E kd o (σ o) (ℓ o) s := by rw [ocl, h]
/-- the cells' keys -/
def PK : List (Nat × Nat) := (List.range 30).flatMap (fun o => (List.range (cn (Kd o))).map (fun s => (o, s)))
theorem Kd_lt {o kd : Nat} (h : Kd o = kd) (hk : kd ≠ 99) : o < 30 := by
  rcases Nat.lt_or_ge o 30 with q | q
  · exact q
  · refine absurd ?_ hk
    rw [← h]
    unfold Kd
    rw [List.getD_eq_getElem?_getD, List.getElem?_eq_none (by simpa using q)]
    rfl
theorem PK_mem {o s kd : Nat} (h : Kd o = kd) (hs : s < cn kd) : (o, s) ∈ PK := by
  have ho : o < 30 := Kd_lt h (fun q => by subst q; exact absurd hs (Nat.not_lt_zero _))
  exact List.mem_flatMap.mpr ⟨o, List.mem_range.mpr ho, List.mem_map.mpr ⟨s, List.mem_range.mpr (by rw [h]; exact hs), rfl⟩⟩
theorem PK_lt {o s : Nat} (h : (o, s) ∈ PK) : s < cn (Kd o) := by
  obtain ⟨o', -, h2⟩ := List.mem_flatMap.mp h
  obtain ⟨s', h3, h4⟩ := List.mem_map.mp h2
  cases h4
  exact List.mem_range.mp h3
set_option maxRecDepth 100000 in
theorem PK_nodup : PK.Nodup := by decide +kernel
def ww (E : Ev) (σ : Ms) (ℓ : Mz) : va_W := PK.map (fun q => (Ea E q.1 q.2, ocl E σ ℓ q.1 q.2))
theorem ww_at {E : Ev} {σ : Ms} {ℓ : Mz} {o s : Nat} (hm : (o, s) ∈ PK) : ∃ k : Nat, (ww E σ ℓ)[k]? = some (Ea E o s, ocl E σ ℓ o s) ∧ ∀ (σ' : Ms) (ℓ' : Mz) (e : va_E), ocl E σ' ℓ' o s = e → (∀ o' s', (o', s') ∈ PK → (o', s') ≠ (o, s) → ocl E σ' ℓ' o' s' = ocl E σ ℓ o' s') → (ww E σ ℓ).set k (Ea E o s, e) = ww E σ' ℓ' := by
  obtain ⟨k, hk, he⟩ := List.getElem_of_mem hm
  refine ⟨k, by simp [ww, List.getElem?_map, List.getElem?_eq_getElem hk, he], ?_⟩
  intro σ' ℓ' e h0 h1
  refine List.ext_getElem (by simp [ww]) ?_
  intro i h2 h3
  have hi : i < PK.length := by simpa [ww] using h3
  rw [List.getElem_set]
  by_cases hki : k = i
  · subst hki
    rw [if_pos rfl]
    simp [ww, he, h0]
  · rw [if_neg hki]
    simp only [ww, List.getElem_map]
    have hne : PK[i] ≠ (o, s) := by
      intro q
      rw [← he] at q
      exact hki ((List.getElem_inj PK_nodup).mp q).symm
    have := h1 PK[i].1 PK[i].2 (List.getElem_mem hi) hne
    rw [this]
/-- which cells may change: the world's, and what is new -/
def AA (E : Ev) (sz : Nat) : Nat → Prop := fun q => (∃ o s : Nat, (o, s) ∈ PK ∧ q = Ea E o s) ∨ sz ≤ q
theorem AA_le {E : Ev} {a b q : Nat} (h : a ≤ b) (hq : AA E b q) : AA E a q := hq.elim Or.inl (fun z => Or.inr (Nat.le_trans h z))
theorem wD {E : Ev} {A : Nat → Prop} {σ σ' : Ms} {ℓ ℓ' : Mz} (h : va_D A (ww E σ ℓ)) : va_D A (ww E σ' ℓ') := by
  have key : ∀ (k : Nat) (q : Nat × va_E), (ww E σ' ℓ')[k]? = some q → ∃ q0, (ww E σ ℓ)[k]? = some q0 ∧ q0.1 = q.1 := by
    intro k q hk
    simp only [ww, List.getElem?_map] at hk ⊢
    cases hp : PK[k]? with
    | none => rw [hp] at hk; cases hk
    | some r => rw [hp] at hk; cases hk; exact ⟨_, rfl, rfl⟩
  refine ⟨fun i j x y hi hj hxy => ?_, fun k q hk => ?_⟩
  · obtain ⟨x0, h1, h2⟩ := key i x hi
    obtain ⟨y0, h3, h4⟩ := key j y hj
    exact h.1 i j x0 y0 h1 h3 (h2.trans (hxy.trans h4.symm))
  · obtain ⟨q0, h1, h2⟩ := key k q hk
    rw [← h2]
    exact h.2 k q0 h1
theorem wA {E : Ev} {sz : Nat} {σ : Ms} {ℓ : Mz} {A : Nat → Prop} (h : va_D A (ww E σ ℓ)) : va_D (AA E sz) (ww E σ ℓ) := by
  refine ⟨h.1, fun k q hk => ?_⟩
  simp only [ww, List.getElem?_map] at hk
  cases hp : PK[k]? with
  | none => rw [hp] at hk; cases hk
  | some r => rw [hp] at hk; cases hk; exact Or.inl ⟨r.1, r.2, List.mem_of_getElem? hp, rfl⟩
/-- the tables' rows -/
def sAB (j : Nat) : Int32 := [-1, 0, 0, 0, 1, 2, 3].getD j 0
def sBO (j : Nat) : Int32 := [10, 11, 12, 0, 20, 0, 30, 0, 0, 0, 0, 40, 50, 51, 0, 0, 0, 60, 71, 70, 0].getD j 0
/-- the texts: keen, slow, rest, pkvfam, <=> -/
def sLen : List Nat := [5, 5, 5, 6, 3]
def sByt : List (List Int32) := [[107, 101, 101, 110, 32], [115, 108, 111, 119, 32], [114, 101, 115, 116, 32], [112, 107, 118, 102, 97, 109], [60, 61, 62]]
def sIdx (i : Nat) : Nat := [45, 47, 65, 78, 84].getD i 0
def sTx (i : Nat) : String := ["keen ", "slow ", "rest ", "pkvfam", "<=>"].getD i ""
def SF (E : Ev) (A : Nat → Prop) (U : State) (H : Heap) : Prop :=
  (∃ t : Nat, va_Z "BellsBelow" "ABOVE" "[I" (.ref t) A U H ∧ va_T .int t 7 (fun j => .int (sAB j)) A U H) ∧
  (∃ t : Nat, va_Z "BellsBelow$Acts" "BODIES" "[I" (.ref t) A U H ∧ va_T .int t 21 (fun j => .int (sBO j)) A U H) ∧
  va_Z "java/lang/String" "COMPACT_STRINGS" "Z" (.int 1) A U H ∧
  va_Zq "jdk/internal/util/Preconditions" "SIOOBE_FORMATTER" "Ljava/util/function/BiFunction;" A U H ∧
  vk_S 5 sLen sByt (Ek E) (Ew E) A U H ∧
  (∀ i : Nat, i < 5 → vk_R "BellsBelow$Text" (sIdx i) (sTx i) (Ek E i) U) ∧
  va_Nw (.methodLinkNest "BellsBelow$Hall" 49 yX8_copy "BellsBelow") U ∧
  va_Nw (.methodLinkNest "BellsBelow$Rows" 33 yX8_copy "BellsBelow") U ∧
  va_Nw (.fieldLinkNest "BellsBelow$Acts" 29 "BellsBelow" "ABOVE" "[I" "BellsBelow") U
def tyl (E : Ev) : List (ClassId × FieldType) := [(Ey E 0, .int), (Ey E 1, .byte), (Ey E 2, .long), (Ey E 3, .boolean), (Ey E 4, .object "BellsBelow$House"), (Ey E 5, .object "BellsBelow$Tape")]
/-- what holds at a heap of a walk -/
def HI (E : Ev) (σ : Ms) (ℓ : Mz) (s : State) (H : Heap) (locs : List Loc) : Prop := va_P E.1 vwCl (ww E σ ℓ) H ∧ va_D (AA E s.heap.size) (ww E σ ℓ) ∧ va_S (AA E s.heap.size) s.heap H locs
/-- what holds all through a walk -/
def Cx (cc : ByteArray) (mL : Nat) (ret : Option FieldType) (Ts : List Cond) (own : String) (E : Ev) (p : Program) (s : State) (m : MethodId) (args : Array Value) (meth : Method) (c : Code) : Prop :=
  p.tables.exec = Jvm.exec ∧ c.code = cc ∧ meth.sig.returnType = ret ∧ c.maxLocals = mL ∧ s.vm.findClass own = some m.cls ∧ (∀ w ∈ Ts, w.before args s = true) ∧ meth.locks = false ∧ va_K E.1 vwCl (tyl E) s ∧ SF E (AA E s.heap.size) s s.heap
/-- a call's start and end -/
def WU (E : Ev) (σ : Ms) (ℓ : Mz) (sz : Nat) (U : State) : Prop := U.heap.size = sz ∧ va_P E.1 vwCl (ww E σ ℓ) U.heap ∧ va_K E.1 vwCl (tyl E) U ∧ va_D (AA E sz) (ww E σ ℓ) ∧ SF E (AA E sz) U U.heap
def Po (E : Ev) (sz : Nat) (rv : Option Value) (σ' : Ms) (ℓ' : Mz) : Array Value → State → Outcome → State → Prop := fun _ st oc t => oc = .returned rv ∧ va_P E.1 vwCl (ww E σ' ℓ') t.heap ∧ va_F (AA E sz) st t
/-- THE CONTRACT: with these arguments, from this memory, this answer and that memory -/
def Ct (l : Launch) (y : MethodName) (ws : List Cond) (rm : Room) (av : List Value) (E : Ev) (σ : Ms) (ℓ : Mz) (rv : Option Value) (σ' : Ms) (ℓ' : Mz) : Prop :=
  ∀ sz : Nat, Met l y ws rm (va_Pc av (WU E σ ℓ sz)) (Po E sz rv σ' ℓ') 0 0 (AA E sz)
theorem SF_at {E : Ev} {A B : Nat → Prop} {s U : State} {H H0 : Heap} (h : SF E A s H0) (hq : ∀ a : Nat, a < H0.size → ¬ A a → H[a]? = H0[a]?) (hW : s.WarmedH U.vm) (hAB : ∀ q, B q → A q) : SF E B U H := by
  obtain ⟨⟨t1, a1, b1⟩, ⟨t2, a2, b2⟩, c1, c2, d1, d2, n1, n2, n3⟩ := h
  exact ⟨⟨t1, ((a1.kept hq).moved hW.alike).narrow hAB, ((b1.kept hq).moved hW.alike).narrow hAB⟩, ⟨t2, ((a2.kept hq).moved hW.alike).narrow hAB, ((b2.kept hq).moved hW.alike).narrow hAB⟩, ((c1.kept hq).moved hW.alike).narrow hAB, ((c2.kept hq).moved hW.alike).narrow hAB, ((d1.kept hq).moved hW.alike).narrow hAB, fun i hi => (d2 i hi).warm hW, n1.warmM hW, n2.warmM hW, n3.warmF hW⟩
theorem SF_c {E : Ev} {A : Nat → Prop} {U : State} {H : Heap} (g : JFrame) (mk : MethodId) (a : Array Value) (h : SF E A U H) : SF E A (U.calling g mk a) H := by
  obtain ⟨⟨t1, a1, b1⟩, ⟨t2, a2, b2⟩, c1, c2, d1, d2, n1, n2, n3⟩ := h
  have hv : U.vm.Alike (U.calling g mk a).vm := Vm.Alike.refl U.vm
  exact ⟨⟨t1, a1.moved hv, b1.moved hv⟩, ⟨t2, a2.moved hv, b2.moved hv⟩, c1.moved hv, c2.moved hv, d1.moved hv, fun i hi => vk_R.same (u := U) (U := U.calling g mk a) rfl (d2 i hi), n1.same rfl rfl, n2.same rfl rfl, n3.same rfl rfl⟩
theorem WU_blind {E : Ev} {σ : Ms} {ℓ : Mz} {sz : Nat} {av : List Value} : FrameBlind (va_Pc av (WU E σ ℓ sz)) := by
  intro a U g mk q
  obtain ⟨q0, q1, qP, qK, qD, qS⟩ := q
  exact ⟨q0, q1, qP, va_K.moved (u := U) (U := U.calling g mk a) (Vm.Alike.refl U.vm) qK, qD, SF_c g mk a qS⟩
theorem Ct_mk {l : Launch} {y : MethodName} {ws ws' : List Cond} {rm : Room} {av : List Value} {E : Ev} {σ σ' : Ms} {ℓ ℓ' : Mz} {rv : Option Value} {cc : ByteArray} {mL : Nat} {ret : Option FieldType} {own : String} (hy : plainName y.cls = true) (hws : ws = Cond.code y cc mL ret :: ws') (hown : y.cls = own) (hsz : (lg_sl av).length ≤ mL)
    (body : ∀ (p : Program) (e : Env) (s : State) (m : MethodId) (below : List Frame) (meth : Method) (c : Code), Cx cc mL ret ws own E p s m av.toArray meth c → HI E σ ℓ s s.heap [] → ∀ ls : Array Slot, lv_has ls mL (lv_args 0 av) → W p l e rm s m av.toArray below meth c s.heap [] 0 0 (MQ below (Po E s.heap.size rv σ' ℓ') av.toArray s 0 0 (AA E s.heap.size)) (F0 m 0 ls [])) : Ct l y ws rm av E σ ℓ rv σ' ℓ' := by
  intro sz
  refine Met.ofW (cc := cc) (maxL := mL) (ret := ret) hy hws ?_
  intro p e s m args below meth c s₁ B hml hv
  obtain ⟨rfl, hz, hP, hK, hD, hSF⟩ := hv
  subst hz
  have hts := atoms_spec (ws := ws) B.pre
  have hown2 : s.vm.findClass own = some m.cls := hown ▸ findClass_of_methodNamed B.named
  rw [lg_entry_eq]
  exact body p e s m below meth c ⟨B.exec, B.bytes, B.returns, hml, hown2, hts, B.notSynchronized, hK, hSF⟩ ⟨hP, hD, va_S.rf⟩ _ (lv_entry av hsz)
section RR
variable {p : Program} {l : Launch} {e : Env} {R : Room} {s : State} {m : MethodId} {args : Array Value} {below : List Frame} {meth : Method} {c : Code} {H : Heap} {locs : List Loc} {cells slots : Nat} {Q : State → Prop}
variable {cc : ByteArray} {mL : Nat} {ret : Option FieldType} {Ts : List Cond} {own : String} {E : Ev} {σ : Ms} {ℓ : Mz} {pc : Nat} {ls : Array Slot} {rest : List Value}
theorem r_gf (C : Cx cc mL ret Ts own E p s m args meth c) (h : HI E σ ℓ s H locs) {o kd ci : Nat} {Cn : String} {T : u_T} {N : Nat} {fs : List Value} (ho : Kd o = kd) (hn : 0 < cn kd) (he : okc E kd o (σ o) (ℓ o) 0 = .inr (ci, fs)) (hc : vwCl[ci]? = some (Cn, T, N)) (k : Nat) (hk : k < N) (hs : (T k).1 = Cn) (hin : ∀ w ∈ u_ws Cn T N, w ∈ Ts) {index : Nat} (hl : Cond.fieldLink own index Cn (T k).2.1 (T k).2.2.1 ∈ Ts) {v : Value} (hv : fs[k]? = some v) (hdg : decode cc pc = .ok (.getfield index, 3))
    (kk : W p l e R s m args below meth c H locs cells slots Q (F0 m (pc + 3) ls (v :: rest))) : W p l e R s m args below meth c H locs cells slots Q (F0 m pc ls (.ref (Ea E o 0) :: rest)) := by
  obtain ⟨hx, hb, -, -, hown, hts, -, hK, -⟩ := C
  obtain ⟨q0, hq, -⟩ := ww_at (E := E) (σ := σ) (ℓ := ℓ) (PK_mem ho hn)
  rw [ocl_k ho, he] at hq
  exact va_get hx hb hts hin hown hK h.1 q0 hq hc k hk (hts _ hl) (fun x hx => by rw [← hs]; exact hx) hv hdg kk
theorem HI_set {H1 : Heap} {locs1 : List Loc} {σ' : Ms} {ℓ' : Mz} (h : HI E σ ℓ s H locs) (hP : va_P E.1 vwCl (ww E σ' ℓ') H1) (hS : va_S (AA E s.heap.size) s.heap H1 locs1) : HI E σ' ℓ' s H1 locs1 := ⟨hP, wD h.2.1, hS⟩
theorem ocl_o {o : Nat} (τ : Mm) {o' s' : Nat} (ho : o' ≠ o) : ocl E (va_up σ o τ) ℓ o' s' = ocl E σ ℓ o' s' := by
  unfold ocl
  rw [va_up_ne _ _ ho]
theorem ocl_oz {o : Nat} (η : Mj) {o' s' : Nat} (ho : o' ≠ o) : ocl E σ (va_up ℓ o η) o' s' = ocl E σ ℓ o' s' := by
  unfold ocl
  rw [va_up_ne _ _ ho]
theorem up_eq {α : Type} {f : Nat → α} {k : Nat} {v : α} : va_up f k v k = v := by simp [va_up]
theorem up_up {α : Type} {f : Nat → α} {k : Nat} {v w : α} : va_up (va_up f k v) k w = va_up f k w := by
  funext j
  by_cases h : j = k <;> simp [va_up, h]
theorem up_id {α : Type} (f : Nat → α) (k : Nat) : va_up f k (f k) = f := by
  funext j
  by_cases h : j = k <;> simp [va_up, h]
theorem up_ne {α : Type} {f : Nat → α} {k j : Nat} {v : α} (h : j ≠ k) : va_up f k v j = f j := by simp [va_up, h]
/-- a field of an object is written: how the world goes on -/
theorem r_pf (C : Cx cc mL ret Ts own E p s m args meth c) (h : HI E σ ℓ s H locs) {o kd ci : Nat} {Cn : String} {T : u_T} {ty0 : Nat → FieldType} {N : Nat} {fs : List Value} (ho : Kd o = kd) (hn : 0 < cn kd) (he : okc E kd o (σ o) (ℓ o) 0 = .inr (ci, fs)) (hc : vwCl[ci]? = some (Cn, T, N)) (hty : ∀ k, k < N → parseFieldDescriptor (T k).2.2.1 = some (ty0 k)) (hnm : ∀ a, a < N → ∀ b, b < N → a ≠ b → (T a).2.1 ≠ (T b).2.1) (k : Nat) (hk : k < N) (hs : (T k).1 = Cn) (hin : ∀ w ∈ u_ws Cn T N, w ∈ Ts) {index : Nat} (hl : Cond.fieldLink own index Cn (T k).2.1 (T k).2.2.1 ∈ Ts) (hfin : (T k).2.2.2 = false) {ty : FieldType} {v : Value} (hd : parseFieldDescriptor (T k).2.2.1 = some ty) (hnar : narrow ty v = v) (hfit : fits ty v = true) (hlf : k < fs.length) (τ' : Mm) (he' : okc E kd o τ' (ℓ o) 0 = .inr (ci, fs.set k v)) (hoth : ∀ s', s' < cn kd → s' ≠ 0 → okc E kd o τ' (ℓ o) s' = okc E kd o (σ o) (ℓ o) s') (hdg : decode cc pc = .ok (.putfield index, 3))
    (kk : ∀ (H1 : Heap) (locs1 : List Loc), HI E (va_up σ o τ') ℓ s H1 locs1 → W p l e R s m args below meth c H1 locs1 cells slots Q (F0 m (pc + 3) ls rest)) : W p l e R s m args below meth c H locs cells slots Q (F0 m pc ls (v :: .ref (Ea E o 0) :: rest)) := by
  obtain ⟨hx, hb, -, -, hown, hts, -, hK, -⟩ := C
  obtain ⟨q0, hq, hset⟩ := ww_at (E := E) (σ := σ) (ℓ := ℓ) (PK_mem ho hn)
  rw [ocl_k ho, he] at hq
  refine va_put hx hb hts hin ty0 hty hnm hown hK h.1 h.2.1 h.2.2 q0 hq hc k hk (hts _ hl) (fun x hx => by rw [← hs]; exact hx) hfin hd hnar hfit hlf hdg (fun H1 locs1 hP hD hS => ?_)
  refine kk H1 locs1 (HI_set h ?_ hS)
  rw [hset (va_up σ o τ') ℓ (.inr (ci, fs.set k v)) (by rw [ocl_k ho, up_eq]; exact he') ?_] at hP
  · exact hP
  · intro o' s' hm hne
    by_cases hoo : o' = o
    · subst hoo
      rw [ocl_k ho, ocl_k ho, up_eq]
      exact hoth s' (by have := PK_lt hm; rw [ho] at this; exact this) (fun q => hne (by rw [q]))
    · exact ocl_o _ hoo
/-- a place of a row of ints (bytes, booleans) is written -/
theorem r_ast {o kd sb n t : Nat} {f : Nat → Int32} (h : HI E σ ℓ s H locs) (ho : Kd o = kd) (hn : sb < cn kd) (he : okc E kd o (σ o) (ℓ o) sb = .inl (Ey E t, n, .inl f)) (τ' : Mm) (g : Nat → Int32) (he' : okc E kd o τ' (ℓ o) sb = .inl (Ey E t, n, .inl g)) (hoth : ∀ s', s' < cn kd → s' ≠ sb → okc E kd o τ' (ℓ o) s' = okc E kd o (σ o) (ℓ o) s') :
    ∃ q0 : Nat, (ww E σ ℓ)[q0]? = some (Ea E o sb, .inl (Ey E t, n, .inl f)) ∧ (ww E σ ℓ).set q0 (Ea E o sb, .inl (Ey E t, n, .inl g)) = ww E (va_up σ o τ') ℓ := by
  obtain ⟨q0, hq, hset⟩ := ww_at (E := E) (σ := σ) (ℓ := ℓ) (PK_mem ho hn)
  rw [ocl_k ho, he] at hq
  refine ⟨q0, hq, hset _ _ _ (by rw [ocl_k ho, up_eq]; exact he') ?_⟩
  intro o' s' hm hne
  by_cases hoo : o' = o
  · subst hoo
    rw [ocl_k ho, ocl_k ho, up_eq]
    exact hoth s' (by have := PK_lt hm; rw [ho] at this; exact this) (fun q => hne (by rw [q]))
  · exact ocl_o _ hoo
theorem r_astL {o kd sb n t : Nat} {f : Nat → Int64} (h : HI E σ ℓ s H locs) (ho : Kd o = kd) (hn : sb < cn kd) (he : okc E kd o (σ o) (ℓ o) sb = .inl (Ey E t, n, .inr (.inl f))) (η' : Mj) (g : Nat → Int64) (he' : okc E kd o (σ o) η' sb = .inl (Ey E t, n, .inr (.inl g))) (hoth : ∀ s', s' < cn kd → s' ≠ sb → okc E kd o (σ o) η' s' = okc E kd o (σ o) (ℓ o) s') :
    ∃ q0 : Nat, (ww E σ ℓ)[q0]? = some (Ea E o sb, .inl (Ey E t, n, .inr (.inl f))) ∧ (ww E σ ℓ).set q0 (Ea E o sb, .inl (Ey E t, n, .inr (.inl g))) = ww E σ (va_up ℓ o η') := by
  obtain ⟨q0, hq, hset⟩ := ww_at (E := E) (σ := σ) (ℓ := ℓ) (PK_mem ho hn)
  rw [ocl_k ho, he] at hq
  refine ⟨q0, hq, hset _ _ _ (by rw [ocl_k ho, up_eq]; exact he') ?_⟩
  intro o' s' hm hne
  by_cases hoo : o' = o
  · subst hoo
    rw [ocl_k ho, ocl_k ho, up_eq]
    exact hoth s' (by have := PK_lt hm; rw [ho] at this; exact this) (fun q => hne (by rw [q]))
  · exact ocl_oz _ hoo
theorem r_cell {o kd sb : Nat} (h : HI E σ ℓ s H locs) (ho : Kd o = kd) (hn : sb < cn kd) {x : va_E} (he : okc E kd o (σ o) (ℓ o) sb = x) : ∃ q0 : Nat, (ww E σ ℓ)[q0]? = some (Ea E o sb, x) := by
  obtain ⟨q0, hq, -⟩ := ww_at (E := E) (σ := σ) (ℓ := ℓ) (PK_mem ho hn)
  rw [ocl_k ho, he] at hq
  exact ⟨q0, hq⟩
/-- behind a call -/
theorem r_run {g : JFrame} {pcx : Nat} {st0 : List Value} {rv : Option Value} {σ' : Ms} {ℓ' : Mz} {av : Array Value} (h : HI E σ ℓ s H locs) (hr : va_Run p l e R s m args below meth c H locs cells slots 0 0 (F0 m pc ls st0) rest (Po E H.size rv σ' ℓ' av) (AA E H.size))
    (kk : ∀ (H1 : Heap) (locs1 : List Loc), HI E σ' ℓ' s H1 locs1 → W p l e R s m args below meth c H1 locs1 cells slots Q (F0 m (pc + 3) ls (rv.toList ++ rest))) : W p l e R s m args below meth c H locs cells slots Q (F0 m pc ls st0) := by
  intro T hT X
  obtain ⟨v, st₀, t, T', L, h0, X', hL, e1, e2, ⟨hv, hp, hz, hk⟩, st⟩ := hr T hT X
  cases hv
  rw [h0] at hz hk
  have hsz : s.heap.size ≤ H.size := h.2.2.1
  obtain ⟨t2, a1, b1⟩ := kk T'.heap (locs ++ L) ⟨by rw [e1]; exact hp, wD h.2.1, Nat.le_trans hsz (by rw [e1]; exact hz), fun q h1 h2 => by
      rw [e1, hk q (Nat.lt_of_lt_of_le h1 hsz) (fun z => h2 (AA_le hsz z))]; exact h.2.2.2.1 q h1 h2, fun q hq => by
      rcases List.mem_append.mp hq with z | z
      · exact h.2.2.2.2 q z
      · exact AA_le hsz (hL q z)⟩ T' rfl X'
  exact ⟨t2, st t2 a1, b1⟩
theorem r_pre (C : Cx cc mL ret Ts own E p s m args meth c) (h : HI E σ ℓ s H locs) {U : State} (hU : U.heap = H) (hW : s.WarmedH U.vm) : WU E σ ℓ H.size U := by
  obtain ⟨-, -, -, -, -, -, -, hK, hSF⟩ := C
  refine ⟨by rw [hU], by rw [hU]; exact h.1, va_K.moved hW.alike hK, wA h.2.1, ?_⟩
  rw [hU]
  exact SF_at hSF h.2.2.2.1 hW (fun q hq => AA_le h.2.2.1 hq)
theorem r_cv (C : Cx cc mL ret Ts own E p s m args meth c) (h : HI E σ ℓ s H locs) {y : MethodName} {wsy ws' : List Cond} {rmy : Room} {As : List Value} {rv : Option Value} {σ' : Ms} {ℓ' : Mz} {o kd ci : Nat} {Cn : String} {T : u_T} {N : Nat} {fs : List Value} {index maxL : Nat} {bytes : ByteArray} {rt : Option FieldType} {st0 : List Value}
    (hM : Ct l y wsy rmy (.ref (Ea E o 0) :: As) E σ ℓ rv σ' ℓ') (ho : Kd o = kd) (hn : 0 < cn kd) (he : okc E kd o (σ o) (ℓ o) 0 = .inr (ci, fs)) (hc : vwCl[ci]? = some (Cn, T, N)) (hg : GoodIn Ts (wsV own index Cn y wsy)) (hw : wsy = Cond.code y bytes maxL rt :: ws') (hrm : rmy.cells = 0 ∧ rmy.slots = 0)
    (hd : y.cls = Cn ∧ y.cls ≠ "java/lang/invoke/MethodHandle" ∧ y.cls ≠ "java/lang/invoke/VarHandle" ∧ (parseMethodDescriptor y.desc).map (fun d => d.parameters.length) = some As.length) (hR : rmy.frames + 1 ≤ R.frames ∧ 8 + (maxL + 11) + rmy.locals ≤ R.locals) (hcs : cells ≤ R.cells ∧ slots ≤ R.slots) (hls : ls.size = mL) (hst : st0 = As.reverse ++ .ref (Ea E o 0) :: rest) (hW : (rest.map fun v => v.category).sum ≤ 8) (hdg : decode cc pc = .ok (.invokevirtual index, 3))
    (kk : ∀ (H1 : Heap) (locs1 : List Loc), HI E σ' ℓ' s H1 locs1 → W p l e R s m args below meth c H1 locs1 cells slots Q (F0 m (pc + 3) ls (rv.toList ++ rest))) : W p l e R s m args below meth c H locs cells slots Q (F0 m pc ls st0) := by
  have C0 := C
  obtain ⟨hx, hb, -, hml, hown, hts, -, hK, -⟩ := C0
  obtain ⟨q0, hq⟩ := r_cell h ho hn he
  exact r_run (g := F0 m pc ls st0) (pcx := pc) h (va_runV ⟨hx, hb, hml, hown, hts⟩ (hM H.size) (cwV As.length hts hg hw hrm.1 hrm.2 hd hR) ⟨WU_blind, va_recv hK h.1 hc hq, fun U hU hW2 => ⟨rfl, r_pre C h hU hW2⟩⟩ rfl rfl hls hst (lv_room hW) hdg hcs) kk
theorem r_cs (C : Cx cc mL ret Ts own E p s m args meth c) (h : HI E σ ℓ s H locs) {y : MethodName} {wsy ws' : List Cond} {rmy : Room} {As : List Value} {rv : Option Value} {σ' : Ms} {ℓ' : Mz} {index maxL : Nat} {bytes : ByteArray} {rt : Option FieldType} {st0 : List Value}
    (hM : Ct l y wsy rmy As E σ ℓ rv σ' ℓ') (hg : GoodIn Ts (va_wsS own index y wsy)) (hw : wsy = Cond.code y bytes maxL rt :: ws') (hrm : rmy.cells = 0 ∧ rmy.slots = 0)
    (hd : y.cls ≠ "java/lang/invoke/MethodHandle" ∧ y.cls ≠ "java/lang/invoke/VarHandle" ∧ (parseMethodDescriptor y.desc).map (fun d => d.parameters.length) = some As.length) (hR : rmy.frames + 1 ≤ R.frames ∧ 8 + (maxL + 11) + rmy.locals ≤ R.locals) (hcs : cells ≤ R.cells ∧ slots ≤ R.slots) (hls : ls.size = mL) (hst : st0 = As.reverse ++ rest) (hW : (rest.map fun v => v.category).sum ≤ 8) (hdg : decode cc pc = .ok (.invokestatic index, 3))
    (kk : ∀ (H1 : Heap) (locs1 : List Loc), HI E σ' ℓ' s H1 locs1 → W p l e R s m args below meth c H1 locs1 cells slots Q (F0 m (pc + 3) ls (rv.toList ++ rest))) : W p l e R s m args below meth c H locs cells slots Q (F0 m pc ls st0) := by
  have C0 := C
  obtain ⟨hx, hb, -, hml, hown, hts, -, hK, -⟩ := C0
  exact r_run (g := F0 m pc ls st0) (pcx := pc) h (va_runS ⟨hx, hb, hml, hown, hts⟩ (hM H.size) (va_cwS As.length hts hg hw hrm.1 hrm.2 hd hR) ⟨WU_blind, fun U hU hW2 => ⟨rfl, r_pre C h hU hW2⟩⟩ rfl rfl hls hst (lv_room hW) hdg hcs) kk
/-- ends -/
theorem r_ire (C : Cx cc mL (some .int) Ts own E p s m args meth c) (h : HI E σ ℓ s H locs) {v : Int32} (hdg : decode cc pc = .ok (.ireturn, 1)) : W p l e R s m args below meth c H locs cells slots (MQ below (Po E s.heap.size (some (.int v)) σ ℓ) args s cells slots (AA E s.heap.size)) (F0 m pc ls [.int v]) := by
  obtain ⟨hx, hb, hr, -, -, -, hlk, -, -⟩ := C
  exact W.iret hx hb hr (fun t ht hW => ⟨rfl, by rw [ht]; exact h.1, h.2.2.F ht⟩) h.2.2.2.2 hdg hlk
theorem r_zre {ty : FieldType} (C : Cx cc mL (some ty) Ts own E p s m args meth c) (h : HI E σ ℓ s H locs) {v : Int32} (hn : narrow ty (.int v) = .int v) (hdg : decode cc pc = .ok (.ireturn, 1)) : W p l e R s m args below meth c H locs cells slots (MQ below (Po E s.heap.size (some (.int v)) σ ℓ) args s cells slots (AA E s.heap.size)) (F0 m pc ls [.int v]) := by
  obtain ⟨hx, hb, hr, -, -, -, hlk, -, -⟩ := C
  exact W.zret hx hb hr hn (fun t ht hW => ⟨rfl, by rw [ht]; exact h.1, h.2.2.F ht⟩) h.2.2.2.2 hdg hlk
theorem r_lre (C : Cx cc mL (some .long) Ts own E p s m args meth c) (h : HI E σ ℓ s H locs) {v : Int64} (hdg : decode cc pc = .ok (.lreturn, 1)) : W p l e R s m args below meth c H locs cells slots (MQ below (Po E s.heap.size (some (.long v)) σ ℓ) args s cells slots (AA E s.heap.size)) (F0 m pc ls [.long v]) := by
  obtain ⟨hx, hb, hr, -, -, -, hlk, -, -⟩ := C
  exact W.lret hx hb hr (fun t ht hW => ⟨rfl, by rw [ht]; exact h.1, h.2.2.F ht⟩) h.2.2.2.2 hdg hlk
theorem r_vre (C : Cx cc mL none Ts own E p s m args meth c) (h : HI E σ ℓ s H locs) (hdg : decode cc pc = .ok (.return_, 1)) : W p l e R s m args below meth c H locs cells slots (MQ below (Po E s.heap.size none σ ℓ) args s cells slots (AA E s.heap.size)) (F0 m pc ls []) := by
  obtain ⟨hx, hb, hr, -, -, -, hlk, -, -⟩ := C
  exact W.vret hx hb hr (fun t ht hW => ⟨rfl, by rw [ht]; exact h.1, h.2.2.F ht⟩) h.2.2.2.2 hdg hlk
end RR
