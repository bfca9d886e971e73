/-! THE LAW'S START: the constructors' cells are the one world (made by wip/whole/gen/gen99g.py) -/
def wr0 : Nat → Int32 := upd (upd (upd (upd (upd (upd (upd (upd (upd (upd (fun _ => 0) 0 (0 : Int32)) 1 (1 : Int32)) 2 (2 : Int32)) 3 (3 : Int32)) 4 (4 : Int32)) 5 (5 : Int32)) 6 (6 : Int32)) 7 (7 : Int32)) 8 (8 : Int32)) 9 (9 : Int32)
def lt0 : Nat → Int32 := upd (upd (upd (upd (upd (upd (upd (upd (upd (upd (upd (upd (fun _ => 0) 0 (115 : Int32)) 1 (108 : Int32)) 2 (111 : Int32)) 3 (119 : Int32)) 4 (107 : Int32)) 5 (101 : Int32)) 6 (101 : Int32)) 7 (110 : Int32)) 8 (114 : Int32)) 9 (101 : Int32)) 10 (115 : Int32)) 11 (116 : Int32)
def so0 : Nat → Int32 := upd (upd (upd (upd (upd (upd (fun _ => 0) 0 (-1 : Int32)) 1 (-1 : Int32)) 2 (-1 : Int32)) 3 (-1 : Int32)) 4 (-1 : Int32)) 5 (-1 : Int32)
def tH (a b : Int32) : Mm := fun k => match k with
  | 0 => fun _ => a
  | 1 => fun _ => b
  | 10 => wr0
  | _ => fun _ => 0
def tT : Mm := fun k => match k with
  | 1 => fun _ => -1
  | _ => fun _ => 0
def tM : Mm := fun k => match k with
  | 12 => wr0
  | 14 => fun _ => -1
  | 29 => lt0
  | 31 => fun _ => 9999
  | 32 => fun _ => 999999
  | 55 => fun _ => -1
  | 81 => so0
  | _ => fun _ => 0
def S0 : Ms := fun o => match o with
  | 1 => tH 9999 999999
  | 2 => tH 2147483647 2147483647
  | 3 => tH 9999 999999
  | 23 => tT
  | 24 => tT
  | 25 => tT
  | 26 => tT
  | 27 => tT
  | 28 => tT
  | 29 => tM
  | _ => fun _ _ => 0
def Z0 : Mz := fun _ _ _ => 0
def ixo : List (List Nat) := [[0], [1, 2, 3, 4, 5, 6, 7, 8, 9, 10, 11], [12, 13, 14, 15, 16, 17, 18, 19, 20, 21, 22], [23, 24, 25, 26, 27, 28, 29, 30, 31, 32, 33], [34], [47], [35, 36, 37, 38], [39, 40, 41, 42], [43, 44, 45, 46], [48, 49, 50, 51], [52, 53, 54, 55], [56, 57, 58, 59], [60, 61], [62], [71, 72], [73, 74], [75, 76], [77, 78], [79, 80], [81, 82], [63, 64, 65, 66, 67], [68, 69], [70], [83, 84], [85, 86], [87, 88], [89, 90], [91, 92], [93, 94], [95, 96, 97, 98, 99, 100, 101, 102, 103, 104, 105, 106, 107, 108, 109, 110, 111, 112, 113, 114, 115, 116, 117, 118, 119, 120, 121, 122, 123, 124, 125, 126, 127, 128, 129, 130, 131, 132, 133, 134, 135, 136, 137, 138, 139, 140, 141, 142, 143, 144, 145, 146, 147]]
def ixf (q : Nat × Nat) : Nat := (ixo.getD q.1 []).getD q.2 0
def W0 (cy : Nat → ClassId) (x0 m0 : Nat) (u v : Nat → Nat) : va_W := wi_X8 cy x0 u ++ wi_X9 cy m0 v
def E0 (D : va_G) (cy : Nat → ClassId) (k w : Nat → Nat) (x0 m0 : Nat) (u v : Nat → Nat) : Ev := (D, cy, fun o s => ((W0 cy x0 m0 u v).map Prod.fst).getD (ixf (o, s)) 0, k, w)
theorem arr6 {D : va_G} {cl : List vw_C} {q : Nat} {c : ClassId} {f g : Nat → Option Nat} {H : Heap} (h : va_at D cl (q, .inl (c, 6, .inr (.inr (.inr (.inr f))))) H) (e : ∀ i, i < 6 → f i = g i) : va_at D cl (q, .inl (c, 6, .inr (.inr (.inr (.inr g))))) H := by
  have h' : H[q]? = some (arrV c 6 (fun j => va_rf (f j))) := h
  show H[q]? = some (arrV c 6 (fun j => va_rf (g j)))
  rw [h']
  unfold arrV
  congr 3
  funext j
  show va_rf (f j.val) = va_rf (g j.val)
  rw [e j.val j.isLt]
theorem ww_D {ws : va_W} {A : Nat → Prop} (hD : va_D A ws) {E : Ev} {ix : Nat × Nat → Nat} (hE : ∀ q ∈ PK, Ea E q.1 q.2 = (ws.map Prod.fst).getD (ix q) 0) (hix : ∀ q ∈ PK, ix q < ws.length) (hnd : ∀ i, i < PK.length → ∀ j, j < PK.length → ix (PK.getD i (0, 0)) = ix (PK.getD j (0, 0)) → i = j) (σ : Ms) (ℓ : Mz) : va_D A (ww E σ ℓ) := by
  have hat : ∀ (k : Nat) (q : Nat × va_E), (ww E σ ℓ)[k]? = some q → k < PK.length ∧ ∃ c : Nat × va_E, ws[ix (PK.getD k (0, 0))]? = some c ∧ q.1 = c.1 := by
    intro k q hq
    unfold ww at hq
    rw [List.getElem?_map] at hq
    cases hp : PK[k]? with
    | none => rw [hp] at hq; cases hq
    | some x =>
      rw [hp] at hq
      cases hq
      have hk : k < PK.length := (List.getElem?_eq_some_iff.mp hp).1
      have hg : PK.getD k (0, 0) = x := by rw [List.getD_eq_getElem?_getD, hp]; rfl
      have hx : x ∈ PK := List.mem_of_getElem? hp
      have hl := hix x hx
      refine ⟨hk, ws[ix x], by rw [hg]; exact List.getElem?_eq_getElem hl, ?_⟩
      show Ea E x.1 x.2 = _
      rw [hE x hx, List.getD_eq_getElem?_getD, List.getElem?_map, List.getElem?_eq_getElem hl]
      rfl
  refine ⟨fun i j p q hi hj he => ?_, fun k q hq => ?_⟩
  · obtain ⟨h1, c1, h2, h3⟩ := hat i p hi
    obtain ⟨g1, c2, g2, g3⟩ := hat j q hj
    exact hnd i h1 j g1 (hD.1 _ _ _ _ h2 g2 (h3.symm.trans (he.trans g3)))
  · obtain ⟨h1, c1, h2, h3⟩ := hat k q hq
    rw [h3]
    exact hD.2 _ _ h2
section LS
variable {D : va_G} {cy : Nat → ClassId} {k w : Nat → Nat} {x0 m0 : Nat} {u v : Nat → Nat} {H : Heap}
set_option maxRecDepth 100000 in
theorem at_0_0 (hP : va_P D vwCl (W0 cy x0 m0 u v) H) : va_at D vwCl (Ea (E0 D cy k w x0 m0 u v) 0 0, ocl (E0 D cy k w x0 m0 u v) S0 Z0 0 0) H := hP 0 _ rfl
set_option maxRecDepth 100000 in
theorem at_1_0 (hP : va_P D vwCl (W0 cy x0 m0 u v) H) : va_at D vwCl (Ea (E0 D cy k w x0 m0 u v) 1 0, ocl (E0 D cy k w x0 m0 u v) S0 Z0 1 0) H := hP 1 _ rfl
set_option maxRecDepth 100000 in
theorem at_1_1 (hP : va_P D vwCl (W0 cy x0 m0 u v) H) : va_at D vwCl (Ea (E0 D cy k w x0 m0 u v) 1 1, ocl (E0 D cy k w x0 m0 u v) S0 Z0 1 1) H := hP 2 _ rfl
set_option maxRecDepth 100000 in
theorem at_1_2 (hP : va_P D vwCl (W0 cy x0 m0 u v) H) : va_at D vwCl (Ea (E0 D cy k w x0 m0 u v) 1 2, ocl (E0 D cy k w x0 m0 u v) S0 Z0 1 2) H := hP 3 _ rfl
set_option maxRecDepth 100000 in
theorem at_1_3 (hP : va_P D vwCl (W0 cy x0 m0 u v) H) : va_at D vwCl (Ea (E0 D cy k w x0 m0 u v) 1 3, ocl (E0 D cy k w x0 m0 u v) S0 Z0 1 3) H := hP 4 _ rfl
set_option maxRecDepth 100000 in
theorem at_1_4 (hP : va_P D vwCl (W0 cy x0 m0 u v) H) : va_at D vwCl (Ea (E0 D cy k w x0 m0 u v) 1 4, ocl (E0 D cy k w x0 m0 u v) S0 Z0 1 4) H := hP 5 _ rfl
set_option maxRecDepth 100000 in
theorem at_1_5 (hP : va_P D vwCl (W0 cy x0 m0 u v) H) : va_at D vwCl (Ea (E0 D cy k w x0 m0 u v) 1 5, ocl (E0 D cy k w x0 m0 u v) S0 Z0 1 5) H := hP 6 _ rfl
set_option maxRecDepth 100000 in
theorem at_1_6 (hP : va_P D vwCl (W0 cy x0 m0 u v) H) : va_at D vwCl (Ea (E0 D cy k w x0 m0 u v) 1 6, ocl (E0 D cy k w x0 m0 u v) S0 Z0 1 6) H := hP 7 _ rfl
set_option maxRecDepth 100000 in
theorem at_1_7 (hP : va_P D vwCl (W0 cy x0 m0 u v) H) : va_at D vwCl (Ea (E0 D cy k w x0 m0 u v) 1 7, ocl (E0 D cy k w x0 m0 u v) S0 Z0 1 7) H := hP 8 _ rfl
set_option maxRecDepth 100000 in
theorem at_1_8 (hP : va_P D vwCl (W0 cy x0 m0 u v) H) : va_at D vwCl (Ea (E0 D cy k w x0 m0 u v) 1 8, ocl (E0 D cy k w x0 m0 u v) S0 Z0 1 8) H := hP 9 _ rfl
set_option maxRecDepth 100000 in
theorem at_1_9 (hP : va_P D vwCl (W0 cy x0 m0 u v) H) : va_at D vwCl (Ea (E0 D cy k w x0 m0 u v) 1 9, ocl (E0 D cy k w x0 m0 u v) S0 Z0 1 9) H := hP 10 _ rfl
set_option maxRecDepth 100000 in
theorem at_1_10 (hP : va_P D vwCl (W0 cy x0 m0 u v) H) : va_at D vwCl (Ea (E0 D cy k w x0 m0 u v) 1 10, ocl (E0 D cy k w x0 m0 u v) S0 Z0 1 10) H := hP 11 _ rfl
set_option maxRecDepth 100000 in
theorem at_2_0 (hP : va_P D vwCl (W0 cy x0 m0 u v) H) : va_at D vwCl (Ea (E0 D cy k w x0 m0 u v) 2 0, ocl (E0 D cy k w x0 m0 u v) S0 Z0 2 0) H := hP 12 _ rfl
set_option maxRecDepth 100000 in
theorem at_2_1 (hP : va_P D vwCl (W0 cy x0 m0 u v) H) : va_at D vwCl (Ea (E0 D cy k w x0 m0 u v) 2 1, ocl (E0 D cy k w x0 m0 u v) S0 Z0 2 1) H := hP 13 _ rfl
set_option maxRecDepth 100000 in
theorem at_2_2 (hP : va_P D vwCl (W0 cy x0 m0 u v) H) : va_at D vwCl (Ea (E0 D cy k w x0 m0 u v) 2 2, ocl (E0 D cy k w x0 m0 u v) S0 Z0 2 2) H := hP 14 _ rfl
set_option maxRecDepth 100000 in
theorem at_2_3 (hP : va_P D vwCl (W0 cy x0 m0 u v) H) : va_at D vwCl (Ea (E0 D cy k w x0 m0 u v) 2 3, ocl (E0 D cy k w x0 m0 u v) S0 Z0 2 3) H := hP 15 _ rfl
set_option maxRecDepth 100000 in
theorem at_2_4 (hP : va_P D vwCl (W0 cy x0 m0 u v) H) : va_at D vwCl (Ea (E0 D cy k w x0 m0 u v) 2 4, ocl (E0 D cy k w x0 m0 u v) S0 Z0 2 4) H := hP 16 _ rfl
set_option maxRecDepth 100000 in
theorem at_2_5 (hP : va_P D vwCl (W0 cy x0 m0 u v) H) : va_at D vwCl (Ea (E0 D cy k w x0 m0 u v) 2 5, ocl (E0 D cy k w x0 m0 u v) S0 Z0 2 5) H := hP 17 _ rfl
set_option maxRecDepth 100000 in
theorem at_2_6 (hP : va_P D vwCl (W0 cy x0 m0 u v) H) : va_at D vwCl (Ea (E0 D cy k w x0 m0 u v) 2 6, ocl (E0 D cy k w x0 m0 u v) S0 Z0 2 6) H := hP 18 _ rfl
set_option maxRecDepth 100000 in
theorem at_2_7 (hP : va_P D vwCl (W0 cy x0 m0 u v) H) : va_at D vwCl (Ea (E0 D cy k w x0 m0 u v) 2 7, ocl (E0 D cy k w x0 m0 u v) S0 Z0 2 7) H := hP 19 _ rfl
set_option maxRecDepth 100000 in
theorem at_2_8 (hP : va_P D vwCl (W0 cy x0 m0 u v) H) : va_at D vwCl (Ea (E0 D cy k w x0 m0 u v) 2 8, ocl (E0 D cy k w x0 m0 u v) S0 Z0 2 8) H := hP 20 _ rfl
set_option maxRecDepth 100000 in
theorem at_2_9 (hP : va_P D vwCl (W0 cy x0 m0 u v) H) : va_at D vwCl (Ea (E0 D cy k w x0 m0 u v) 2 9, ocl (E0 D cy k w x0 m0 u v) S0 Z0 2 9) H := hP 21 _ rfl
set_option maxRecDepth 100000 in
theorem at_2_10 (hP : va_P D vwCl (W0 cy x0 m0 u v) H) : va_at D vwCl (Ea (E0 D cy k w x0 m0 u v) 2 10, ocl (E0 D cy k w x0 m0 u v) S0 Z0 2 10) H := hP 22 _ rfl
set_option maxRecDepth 100000 in
theorem at_3_0 (hP : va_P D vwCl (W0 cy x0 m0 u v) H) : va_at D vwCl (Ea (E0 D cy k w x0 m0 u v) 3 0, ocl (E0 D cy k w x0 m0 u v) S0 Z0 3 0) H := hP 23 _ rfl
set_option maxRecDepth 100000 in
theorem at_3_1 (hP : va_P D vwCl (W0 cy x0 m0 u v) H) : va_at D vwCl (Ea (E0 D cy k w x0 m0 u v) 3 1, ocl (E0 D cy k w x0 m0 u v) S0 Z0 3 1) H := hP 24 _ rfl
set_option maxRecDepth 100000 in
theorem at_3_2 (hP : va_P D vwCl (W0 cy x0 m0 u v) H) : va_at D vwCl (Ea (E0 D cy k w x0 m0 u v) 3 2, ocl (E0 D cy k w x0 m0 u v) S0 Z0 3 2) H := hP 25 _ rfl
set_option maxRecDepth 100000 in
theorem at_3_3 (hP : va_P D vwCl (W0 cy x0 m0 u v) H) : va_at D vwCl (Ea (E0 D cy k w x0 m0 u v) 3 3, ocl (E0 D cy k w x0 m0 u v) S0 Z0 3 3) H := hP 26 _ rfl
set_option maxRecDepth 100000 in
theorem at_3_4 (hP : va_P D vwCl (W0 cy x0 m0 u v) H) : va_at D vwCl (Ea (E0 D cy k w x0 m0 u v) 3 4, ocl (E0 D cy k w x0 m0 u v) S0 Z0 3 4) H := hP 27 _ rfl
set_option maxRecDepth 100000 in
theorem at_3_5 (hP : va_P D vwCl (W0 cy x0 m0 u v) H) : va_at D vwCl (Ea (E0 D cy k w x0 m0 u v) 3 5, ocl (E0 D cy k w x0 m0 u v) S0 Z0 3 5) H := hP 28 _ rfl
set_option maxRecDepth 100000 in
theorem at_3_6 (hP : va_P D vwCl (W0 cy x0 m0 u v) H) : va_at D vwCl (Ea (E0 D cy k w x0 m0 u v) 3 6, ocl (E0 D cy k w x0 m0 u v) S0 Z0 3 6) H := hP 29 _ rfl
set_option maxRecDepth 100000 in
theorem at_3_7 (hP : va_P D vwCl (W0 cy x0 m0 u v) H) : va_at D vwCl (Ea (E0 D cy k w x0 m0 u v) 3 7, ocl (E0 D cy k w x0 m0 u v) S0 Z0 3 7) H := hP 30 _ rfl
set_option maxRecDepth 100000 in
theorem at_3_8 (hP : va_P D vwCl (W0 cy x0 m0 u v) H) : va_at D vwCl (Ea (E0 D cy k w x0 m0 u v) 3 8, ocl (E0 D cy k w x0 m0 u v) S0 Z0 3 8) H := hP 31 _ rfl
set_option maxRecDepth 100000 in
theorem at_3_9 (hP : va_P D vwCl (W0 cy x0 m0 u v) H) : va_at D vwCl (Ea (E0 D cy k w x0 m0 u v) 3 9, ocl (E0 D cy k w x0 m0 u v) S0 Z0 3 9) H := hP 32 _ rfl
set_option maxRecDepth 100000 in
theorem at_3_10 (hP : va_P D vwCl (W0 cy x0 m0 u v) H) : va_at D vwCl (Ea (E0 D cy k w x0 m0 u v) 3 10, ocl (E0 D cy k w x0 m0 u v) S0 Z0 3 10) H := hP 33 _ rfl
set_option maxRecDepth 100000 in
theorem at_4_0 (hP : va_P D vwCl (W0 cy x0 m0 u v) H) : va_at D vwCl (Ea (E0 D cy k w x0 m0 u v) 4 0, ocl (E0 D cy k w x0 m0 u v) S0 Z0 4 0) H := hP 34 _ rfl
set_option maxRecDepth 100000 in
theorem at_5_0 (hP : va_P D vwCl (W0 cy x0 m0 u v) H) : va_at D vwCl (Ea (E0 D cy k w x0 m0 u v) 5 0, ocl (E0 D cy k w x0 m0 u v) S0 Z0 5 0) H := hP 47 _ rfl
set_option maxRecDepth 100000 in
theorem at_6_0 (hP : va_P D vwCl (W0 cy x0 m0 u v) H) : va_at D vwCl (Ea (E0 D cy k w x0 m0 u v) 6 0, ocl (E0 D cy k w x0 m0 u v) S0 Z0 6 0) H := hP 35 _ rfl
set_option maxRecDepth 100000 in
theorem at_6_1 (hP : va_P D vwCl (W0 cy x0 m0 u v) H) : va_at D vwCl (Ea (E0 D cy k w x0 m0 u v) 6 1, ocl (E0 D cy k w x0 m0 u v) S0 Z0 6 1) H := hP 36 _ rfl
set_option maxRecDepth 100000 in
theorem at_6_2 (hP : va_P D vwCl (W0 cy x0 m0 u v) H) : va_at D vwCl (Ea (E0 D cy k w x0 m0 u v) 6 2, ocl (E0 D cy k w x0 m0 u v) S0 Z0 6 2) H := hP 37 _ rfl
set_option maxRecDepth 100000 in
theorem at_6_3 (hP : va_P D vwCl (W0 cy x0 m0 u v) H) : va_at D vwCl (Ea (E0 D cy k w x0 m0 u v) 6 3, ocl (E0 D cy k w x0 m0 u v) S0 Z0 6 3) H := hP 38 _ rfl
set_option maxRecDepth 100000 in
theorem at_7_0 (hP : va_P D vwCl (W0 cy x0 m0 u v) H) : va_at D vwCl (Ea (E0 D cy k w x0 m0 u v) 7 0, ocl (E0 D cy k w x0 m0 u v) S0 Z0 7 0) H := hP 39 _ rfl
set_option maxRecDepth 100000 in
theorem at_7_1 (hP : va_P D vwCl (W0 cy x0 m0 u v) H) : va_at D vwCl (Ea (E0 D cy k w x0 m0 u v) 7 1, ocl (E0 D cy k w x0 m0 u v) S0 Z0 7 1) H := hP 40 _ rfl
set_option maxRecDepth 100000 in
theorem at_7_2 (hP : va_P D vwCl (W0 cy x0 m0 u v) H) : va_at D vwCl (Ea (E0 D cy k w x0 m0 u v) 7 2, ocl (E0 D cy k w x0 m0 u v) S0 Z0 7 2) H := hP 41 _ rfl
set_option maxRecDepth 100000 in
theorem at_7_3 (hP : va_P D vwCl (W0 cy x0 m0 u v) H) : va_at D vwCl (Ea (E0 D cy k w x0 m0 u v) 7 3, ocl (E0 D cy k w x0 m0 u v) S0 Z0 7 3) H := hP 42 _ rfl
set_option maxRecDepth 100000 in
theorem at_8_0 (hP : va_P D vwCl (W0 cy x0 m0 u v) H) : va_at D vwCl (Ea (E0 D cy k w x0 m0 u v) 8 0, ocl (E0 D cy k w x0 m0 u v) S0 Z0 8 0) H := hP 43 _ rfl
set_option maxRecDepth 100000 in
theorem at_8_1 (hP : va_P D vwCl (W0 cy x0 m0 u v) H) : va_at D vwCl (Ea (E0 D cy k w x0 m0 u v) 8 1, ocl (E0 D cy k w x0 m0 u v) S0 Z0 8 1) H := hP 44 _ rfl
set_option maxRecDepth 100000 in
theorem at_8_2 (hP : va_P D vwCl (W0 cy x0 m0 u v) H) : va_at D vwCl (Ea (E0 D cy k w x0 m0 u v) 8 2, ocl (E0 D cy k w x0 m0 u v) S0 Z0 8 2) H := hP 45 _ rfl
set_option maxRecDepth 100000 in
theorem at_8_3 (hP : va_P D vwCl (W0 cy x0 m0 u v) H) : va_at D vwCl (Ea (E0 D cy k w x0 m0 u v) 8 3, ocl (E0 D cy k w x0 m0 u v) S0 Z0 8 3) H := hP 46 _ rfl
set_option maxRecDepth 100000 in
theorem at_9_0 (hP : va_P D vwCl (W0 cy x0 m0 u v) H) : va_at D vwCl (Ea (E0 D cy k w x0 m0 u v) 9 0, ocl (E0 D cy k w x0 m0 u v) S0 Z0 9 0) H := hP 48 _ rfl
set_option maxRecDepth 100000 in
theorem at_9_1 (hP : va_P D vwCl (W0 cy x0 m0 u v) H) : va_at D vwCl (Ea (E0 D cy k w x0 m0 u v) 9 1, ocl (E0 D cy k w x0 m0 u v) S0 Z0 9 1) H := hP 49 _ rfl
set_option maxRecDepth 100000 in
theorem at_9_2 (hP : va_P D vwCl (W0 cy x0 m0 u v) H) : va_at D vwCl (Ea (E0 D cy k w x0 m0 u v) 9 2, ocl (E0 D cy k w x0 m0 u v) S0 Z0 9 2) H := hP 50 _ rfl
set_option maxRecDepth 100000 in
theorem at_9_3 (hP : va_P D vwCl (W0 cy x0 m0 u v) H) : va_at D vwCl (Ea (E0 D cy k w x0 m0 u v) 9 3, ocl (E0 D cy k w x0 m0 u v) S0 Z0 9 3) H := hP 51 _ rfl
set_option maxRecDepth 100000 in
theorem at_10_0 (hP : va_P D vwCl (W0 cy x0 m0 u v) H) : va_at D vwCl (Ea (E0 D cy k w x0 m0 u v) 10 0, ocl (E0 D cy k w x0 m0 u v) S0 Z0 10 0) H := hP 52 _ rfl
set_option maxRecDepth 100000 in
theorem at_10_1 (hP : va_P D vwCl (W0 cy x0 m0 u v) H) : va_at D vwCl (Ea (E0 D cy k w x0 m0 u v) 10 1, ocl (E0 D cy k w x0 m0 u v) S0 Z0 10 1) H := hP 53 _ rfl
set_option maxRecDepth 100000 in
theorem at_10_2 (hP : va_P D vwCl (W0 cy x0 m0 u v) H) : va_at D vwCl (Ea (E0 D cy k w x0 m0 u v) 10 2, ocl (E0 D cy k w x0 m0 u v) S0 Z0 10 2) H := hP 54 _ rfl
set_option maxRecDepth 100000 in
theorem at_10_3 (hP : va_P D vwCl (W0 cy x0 m0 u v) H) : va_at D vwCl (Ea (E0 D cy k w x0 m0 u v) 10 3, ocl (E0 D cy k w x0 m0 u v) S0 Z0 10 3) H := hP 55 _ rfl
set_option maxRecDepth 100000 in
theorem at_11_0 (hP : va_P D vwCl (W0 cy x0 m0 u v) H) : va_at D vwCl (Ea (E0 D cy k w x0 m0 u v) 11 0, ocl (E0 D cy k w x0 m0 u v) S0 Z0 11 0) H := hP 56 _ rfl
set_option maxRecDepth 100000 in
theorem at_11_1 (hP : va_P D vwCl (W0 cy x0 m0 u v) H) : va_at D vwCl (Ea (E0 D cy k w x0 m0 u v) 11 1, ocl (E0 D cy k w x0 m0 u v) S0 Z0 11 1) H := hP 57 _ rfl
set_option maxRecDepth 100000 in
theorem at_11_2 (hP : va_P D vwCl (W0 cy x0 m0 u v) H) : va_at D vwCl (Ea (E0 D cy k w x0 m0 u v) 11 2, ocl (E0 D cy k w x0 m0 u v) S0 Z0 11 2) H := hP 58 _ rfl
set_option maxRecDepth 100000 in
theorem at_11_3 (hP : va_P D vwCl (W0 cy x0 m0 u v) H) : va_at D vwCl (Ea (E0 D cy k w x0 m0 u v) 11 3, ocl (E0 D cy k w x0 m0 u v) S0 Z0 11 3) H := hP 59 _ rfl
set_option maxRecDepth 100000 in
theorem at_12_0 (hP : va_P D vwCl (W0 cy x0 m0 u v) H) : va_at D vwCl (Ea (E0 D cy k w x0 m0 u v) 12 0, ocl (E0 D cy k w x0 m0 u v) S0 Z0 12 0) H := hP 60 _ rfl
set_option maxRecDepth 100000 in
theorem at_12_1 (hP : va_P D vwCl (W0 cy x0 m0 u v) H) : va_at D vwCl (Ea (E0 D cy k w x0 m0 u v) 12 1, ocl (E0 D cy k w x0 m0 u v) S0 Z0 12 1) H := hP 61 _ rfl
set_option maxRecDepth 100000 in
theorem at_13_0 (hP : va_P D vwCl (W0 cy x0 m0 u v) H) : va_at D vwCl (Ea (E0 D cy k w x0 m0 u v) 13 0, ocl (E0 D cy k w x0 m0 u v) S0 Z0 13 0) H := arr6 (hP 62 _ rfl) (fun i hi => by match i, hi with | 0, _ => rfl | 1, _ => rfl | 2, _ => rfl | 3, _ => rfl | 4, _ => rfl | 5, _ => rfl | n + 6, h => exact absurd h (by omega))
set_option maxRecDepth 100000 in
theorem at_14_0 (hP : va_P D vwCl (W0 cy x0 m0 u v) H) : va_at D vwCl (Ea (E0 D cy k w x0 m0 u v) 14 0, ocl (E0 D cy k w x0 m0 u v) S0 Z0 14 0) H := hP 71 _ rfl
set_option maxRecDepth 100000 in
theorem at_14_1 (hP : va_P D vwCl (W0 cy x0 m0 u v) H) : va_at D vwCl (Ea (E0 D cy k w x0 m0 u v) 14 1, ocl (E0 D cy k w x0 m0 u v) S0 Z0 14 1) H := hP 72 _ rfl
set_option maxRecDepth 100000 in
theorem at_15_0 (hP : va_P D vwCl (W0 cy x0 m0 u v) H) : va_at D vwCl (Ea (E0 D cy k w x0 m0 u v) 15 0, ocl (E0 D cy k w x0 m0 u v) S0 Z0 15 0) H := hP 73 _ rfl
set_option maxRecDepth 100000 in
theorem at_15_1 (hP : va_P D vwCl (W0 cy x0 m0 u v) H) : va_at D vwCl (Ea (E0 D cy k w x0 m0 u v) 15 1, ocl (E0 D cy k w x0 m0 u v) S0 Z0 15 1) H := hP 74 _ rfl
set_option maxRecDepth 100000 in
theorem at_16_0 (hP : va_P D vwCl (W0 cy x0 m0 u v) H) : va_at D vwCl (Ea (E0 D cy k w x0 m0 u v) 16 0, ocl (E0 D cy k w x0 m0 u v) S0 Z0 16 0) H := hP 75 _ rfl
set_option maxRecDepth 100000 in
theorem at_16_1 (hP : va_P D vwCl (W0 cy x0 m0 u v) H) : va_at D vwCl (Ea (E0 D cy k w x0 m0 u v) 16 1, ocl (E0 D cy k w x0 m0 u v) S0 Z0 16 1) H := hP 76 _ rfl
set_option maxRecDepth 100000 in
theorem at_17_0 (hP : va_P D vwCl (W0 cy x0 m0 u v) H) : va_at D vwCl (Ea (E0 D cy k w x0 m0 u v) 17 0, ocl (E0 D cy k w x0 m0 u v) S0 Z0 17 0) H := hP 77 _ rfl
set_option maxRecDepth 100000 in
theorem at_17_1 (hP : va_P D vwCl (W0 cy x0 m0 u v) H) : va_at D vwCl (Ea (E0 D cy k w x0 m0 u v) 17 1, ocl (E0 D cy k w x0 m0 u v) S0 Z0 17 1) H := hP 78 _ rfl
set_option maxRecDepth 100000 in
theorem at_18_0 (hP : va_P D vwCl (W0 cy x0 m0 u v) H) : va_at D vwCl (Ea (E0 D cy k w x0 m0 u v) 18 0, ocl (E0 D cy k w x0 m0 u v) S0 Z0 18 0) H := hP 79 _ rfl
set_option maxRecDepth 100000 in
theorem at_18_1 (hP : va_P D vwCl (W0 cy x0 m0 u v) H) : va_at D vwCl (Ea (E0 D cy k w x0 m0 u v) 18 1, ocl (E0 D cy k w x0 m0 u v) S0 Z0 18 1) H := hP 80 _ rfl
set_option maxRecDepth 100000 in
theorem at_19_0 (hP : va_P D vwCl (W0 cy x0 m0 u v) H) : va_at D vwCl (Ea (E0 D cy k w x0 m0 u v) 19 0, ocl (E0 D cy k w x0 m0 u v) S0 Z0 19 0) H := hP 81 _ rfl
set_option maxRecDepth 100000 in
theorem at_19_1 (hP : va_P D vwCl (W0 cy x0 m0 u v) H) : va_at D vwCl (Ea (E0 D cy k w x0 m0 u v) 19 1, ocl (E0 D cy k w x0 m0 u v) S0 Z0 19 1) H := hP 82 _ rfl
set_option maxRecDepth 100000 in
theorem at_20_0 (hP : va_P D vwCl (W0 cy x0 m0 u v) H) : va_at D vwCl (Ea (E0 D cy k w x0 m0 u v) 20 0, ocl (E0 D cy k w x0 m0 u v) S0 Z0 20 0) H := hP 63 _ rfl
set_option maxRecDepth 100000 in
theorem at_20_1 (hP : va_P D vwCl (W0 cy x0 m0 u v) H) : va_at D vwCl (Ea (E0 D cy k w x0 m0 u v) 20 1, ocl (E0 D cy k w x0 m0 u v) S0 Z0 20 1) H := hP 64 _ rfl
set_option maxRecDepth 100000 in
theorem at_20_2 (hP : va_P D vwCl (W0 cy x0 m0 u v) H) : va_at D vwCl (Ea (E0 D cy k w x0 m0 u v) 20 2, ocl (E0 D cy k w x0 m0 u v) S0 Z0 20 2) H := hP 65 _ rfl
set_option maxRecDepth 100000 in
theorem at_20_3 (hP : va_P D vwCl (W0 cy x0 m0 u v) H) : va_at D vwCl (Ea (E0 D cy k w x0 m0 u v) 20 3, ocl (E0 D cy k w x0 m0 u v) S0 Z0 20 3) H := hP 66 _ rfl
set_option maxRecDepth 100000 in
theorem at_20_4 (hP : va_P D vwCl (W0 cy x0 m0 u v) H) : va_at D vwCl (Ea (E0 D cy k w x0 m0 u v) 20 4, ocl (E0 D cy k w x0 m0 u v) S0 Z0 20 4) H := hP 67 _ rfl
set_option maxRecDepth 100000 in
theorem at_21_0 (hP : va_P D vwCl (W0 cy x0 m0 u v) H) : va_at D vwCl (Ea (E0 D cy k w x0 m0 u v) 21 0, ocl (E0 D cy k w x0 m0 u v) S0 Z0 21 0) H := hP 68 _ rfl
set_option maxRecDepth 100000 in
theorem at_21_1 (hP : va_P D vwCl (W0 cy x0 m0 u v) H) : va_at D vwCl (Ea (E0 D cy k w x0 m0 u v) 21 1, ocl (E0 D cy k w x0 m0 u v) S0 Z0 21 1) H := hP 69 _ rfl
set_option maxRecDepth 100000 in
theorem at_22_0 (hP : va_P D vwCl (W0 cy x0 m0 u v) H) : va_at D vwCl (Ea (E0 D cy k w x0 m0 u v) 22 0, ocl (E0 D cy k w x0 m0 u v) S0 Z0 22 0) H := arr6 (hP 70 _ rfl) (fun i hi => by match i, hi with | 0, _ => rfl | 1, _ => rfl | 2, _ => rfl | 3, _ => rfl | 4, _ => rfl | 5, _ => rfl | n + 6, h => exact absurd h (by omega))
set_option maxRecDepth 100000 in
theorem at_23_0 (hP : va_P D vwCl (W0 cy x0 m0 u v) H) : va_at D vwCl (Ea (E0 D cy k w x0 m0 u v) 23 0, ocl (E0 D cy k w x0 m0 u v) S0 Z0 23 0) H := hP 83 _ rfl
set_option maxRecDepth 100000 in
theorem at_23_1 (hP : va_P D vwCl (W0 cy x0 m0 u v) H) : va_at D vwCl (Ea (E0 D cy k w x0 m0 u v) 23 1, ocl (E0 D cy k w x0 m0 u v) S0 Z0 23 1) H := hP 84 _ rfl
set_option maxRecDepth 100000 in
theorem at_24_0 (hP : va_P D vwCl (W0 cy x0 m0 u v) H) : va_at D vwCl (Ea (E0 D cy k w x0 m0 u v) 24 0, ocl (E0 D cy k w x0 m0 u v) S0 Z0 24 0) H := hP 85 _ rfl
set_option maxRecDepth 100000 in
theorem at_24_1 (hP : va_P D vwCl (W0 cy x0 m0 u v) H) : va_at D vwCl (Ea (E0 D cy k w x0 m0 u v) 24 1, ocl (E0 D cy k w x0 m0 u v) S0 Z0 24 1) H := hP 86 _ rfl
set_option maxRecDepth 100000 in
theorem at_25_0 (hP : va_P D vwCl (W0 cy x0 m0 u v) H) : va_at D vwCl (Ea (E0 D cy k w x0 m0 u v) 25 0, ocl (E0 D cy k w x0 m0 u v) S0 Z0 25 0) H := hP 87 _ rfl
set_option maxRecDepth 100000 in
theorem at_25_1 (hP : va_P D vwCl (W0 cy x0 m0 u v) H) : va_at D vwCl (Ea (E0 D cy k w x0 m0 u v) 25 1, ocl (E0 D cy k w x0 m0 u v) S0 Z0 25 1) H := hP 88 _ rfl
set_option maxRecDepth 100000 in
theorem at_26_0 (hP : va_P D vwCl (W0 cy x0 m0 u v) H) : va_at D vwCl (Ea (E0 D cy k w x0 m0 u v) 26 0, ocl (E0 D cy k w x0 m0 u v) S0 Z0 26 0) H := hP 89 _ rfl
set_option maxRecDepth 100000 in
theorem at_26_1 (hP : va_P D vwCl (W0 cy x0 m0 u v) H) : va_at D vwCl (Ea (E0 D cy k w x0 m0 u v) 26 1, ocl (E0 D cy k w x0 m0 u v) S0 Z0 26 1) H := hP 90 _ rfl
set_option maxRecDepth 100000 in
theorem at_27_0 (hP : va_P D vwCl (W0 cy x0 m0 u v) H) : va_at D vwCl (Ea (E0 D cy k w x0 m0 u v) 27 0, ocl (E0 D cy k w x0 m0 u v) S0 Z0 27 0) H := hP 91 _ rfl
set_option maxRecDepth 100000 in
theorem at_27_1 (hP : va_P D vwCl (W0 cy x0 m0 u v) H) : va_at D vwCl (Ea (E0 D cy k w x0 m0 u v) 27 1, ocl (E0 D cy k w x0 m0 u v) S0 Z0 27 1) H := hP 92 _ rfl
set_option maxRecDepth 100000 in
theorem at_28_0 (hP : va_P D vwCl (W0 cy x0 m0 u v) H) : va_at D vwCl (Ea (E0 D cy k w x0 m0 u v) 28 0, ocl (E0 D cy k w x0 m0 u v) S0 Z0 28 0) H := hP 93 _ rfl
set_option maxRecDepth 100000 in
theorem at_28_1 (hP : va_P D vwCl (W0 cy x0 m0 u v) H) : va_at D vwCl (Ea (E0 D cy k w x0 m0 u v) 28 1, ocl (E0 D cy k w x0 m0 u v) S0 Z0 28 1) H := hP 94 _ rfl
set_option maxRecDepth 100000 in
theorem at_29_0 (hP : va_P D vwCl (W0 cy x0 m0 u v) H) : va_at D vwCl (Ea (E0 D cy k w x0 m0 u v) 29 0, ocl (E0 D cy k w x0 m0 u v) S0 Z0 29 0) H := hP 95 _ rfl
set_option maxRecDepth 100000 in
theorem at_29_1 (hP : va_P D vwCl (W0 cy x0 m0 u v) H) : va_at D vwCl (Ea (E0 D cy k w x0 m0 u v) 29 1, ocl (E0 D cy k w x0 m0 u v) S0 Z0 29 1) H := hP 96 _ rfl
set_option maxRecDepth 100000 in
theorem at_29_2 (hP : va_P D vwCl (W0 cy x0 m0 u v) H) : va_at D vwCl (Ea (E0 D cy k w x0 m0 u v) 29 2, ocl (E0 D cy k w x0 m0 u v) S0 Z0 29 2) H := hP 97 _ rfl
set_option maxRecDepth 100000 in
theorem at_29_3 (hP : va_P D vwCl (W0 cy x0 m0 u v) H) : va_at D vwCl (Ea (E0 D cy k w x0 m0 u v) 29 3, ocl (E0 D cy k w x0 m0 u v) S0 Z0 29 3) H := hP 98 _ rfl
set_option maxRecDepth 100000 in
theorem at_29_4 (hP : va_P D vwCl (W0 cy x0 m0 u v) H) : va_at D vwCl (Ea (E0 D cy k w x0 m0 u v) 29 4, ocl (E0 D cy k w x0 m0 u v) S0 Z0 29 4) H := hP 99 _ rfl
set_option maxRecDepth 100000 in
theorem at_29_5 (hP : va_P D vwCl (W0 cy x0 m0 u v) H) : va_at D vwCl (Ea (E0 D cy k w x0 m0 u v) 29 5, ocl (E0 D cy k w x0 m0 u v) S0 Z0 29 5) H := hP 100 _ rfl
set_option maxRecDepth 100000 in
theorem at_29_6 (hP : va_P D vwCl (W0 cy x0 m0 u v) H) : va_at D vwCl (Ea (E0 D cy k w x0 m0 u v) 29 6, ocl (E0 D cy k w x0 m0 u v) S0 Z0 29 6) H := hP 101 _ rfl
set_option maxRecDepth 100000 in
theorem at_29_7 (hP : va_P D vwCl (W0 cy x0 m0 u v) H) : va_at D vwCl (Ea (E0 D cy k w x0 m0 u v) 29 7, ocl (E0 D cy k w x0 m0 u v) S0 Z0 29 7) H := hP 102 _ rfl
set_option maxRecDepth 100000 in
theorem at_29_8 (hP : va_P D vwCl (W0 cy x0 m0 u v) H) : va_at D vwCl (Ea (E0 D cy k w x0 m0 u v) 29 8, ocl (E0 D cy k w x0 m0 u v) S0 Z0 29 8) H := hP 103 _ rfl
set_option maxRecDepth 100000 in
theorem at_29_9 (hP : va_P D vwCl (W0 cy x0 m0 u v) H) : va_at D vwCl (Ea (E0 D cy k w x0 m0 u v) 29 9, ocl (E0 D cy k w x0 m0 u v) S0 Z0 29 9) H := hP 104 _ rfl
set_option maxRecDepth 100000 in
theorem at_29_10 (hP : va_P D vwCl (W0 cy x0 m0 u v) H) : va_at D vwCl (Ea (E0 D cy k w x0 m0 u v) 29 10, ocl (E0 D cy k w x0 m0 u v) S0 Z0 29 10) H := hP 105 _ rfl
set_option maxRecDepth 100000 in
theorem at_29_11 (hP : va_P D vwCl (W0 cy x0 m0 u v) H) : va_at D vwCl (Ea (E0 D cy k w x0 m0 u v) 29 11, ocl (E0 D cy k w x0 m0 u v) S0 Z0 29 11) H := hP 106 _ rfl
set_option maxRecDepth 100000 in
theorem at_29_12 (hP : va_P D vwCl (W0 cy x0 m0 u v) H) : va_at D vwCl (Ea (E0 D cy k w x0 m0 u v) 29 12, ocl (E0 D cy k w x0 m0 u v) S0 Z0 29 12) H := hP 107 _ rfl
set_option maxRecDepth 100000 in
theorem at_29_13 (hP : va_P D vwCl (W0 cy x0 m0 u v) H) : va_at D vwCl (Ea (E0 D cy k w x0 m0 u v) 29 13, ocl (E0 D cy k w x0 m0 u v) S0 Z0 29 13) H := hP 108 _ rfl
set_option maxRecDepth 100000 in
theorem at_29_14 (hP : va_P D vwCl (W0 cy x0 m0 u v) H) : va_at D vwCl (Ea (E0 D cy k w x0 m0 u v) 29 14, ocl (E0 D cy k w x0 m0 u v) S0 Z0 29 14) H := hP 109 _ rfl
set_option maxRecDepth 100000 in
theorem at_29_15 (hP : va_P D vwCl (W0 cy x0 m0 u v) H) : va_at D vwCl (Ea (E0 D cy k w x0 m0 u v) 29 15, ocl (E0 D cy k w x0 m0 u v) S0 Z0 29 15) H := hP 110 _ rfl
set_option maxRecDepth 100000 in
theorem at_29_16 (hP : va_P D vwCl (W0 cy x0 m0 u v) H) : va_at D vwCl (Ea (E0 D cy k w x0 m0 u v) 29 16, ocl (E0 D cy k w x0 m0 u v) S0 Z0 29 16) H := hP 111 _ rfl
set_option maxRecDepth 100000 in
theorem at_29_17 (hP : va_P D vwCl (W0 cy x0 m0 u v) H) : va_at D vwCl (Ea (E0 D cy k w x0 m0 u v) 29 17, ocl (E0 D cy k w x0 m0 u v) S0 Z0 29 17) H := hP 112 _ rfl
set_option maxRecDepth 100000 in
theorem at_29_18 (hP : va_P D vwCl (W0 cy x0 m0 u v) H) : va_at D vwCl (Ea (E0 D cy k w x0 m0 u v) 29 18, ocl (E0 D cy k w x0 m0 u v) S0 Z0 29 18) H := hP 113 _ rfl
set_option maxRecDepth 100000 in
theorem at_29_19 (hP : va_P D vwCl (W0 cy x0 m0 u v) H) : va_at D vwCl (Ea (E0 D cy k w x0 m0 u v) 29 19, ocl (E0 D cy k w x0 m0 u v) S0 Z0 29 19) H := hP 114 _ rfl
set_option maxRecDepth 100000 in
theorem at_29_20 (hP : va_P D vwCl (W0 cy x0 m0 u v) H) : va_at D vwCl (Ea (E0 D cy k w x0 m0 u v) 29 20, ocl (E0 D cy k w x0 m0 u v) S0 Z0 29 20) H := hP 115 _ rfl
set_option maxRecDepth 100000 in
theorem at_29_21 (hP : va_P D vwCl (W0 cy x0 m0 u v) H) : va_at D vwCl (Ea (E0 D cy k w x0 m0 u v) 29 21, ocl (E0 D cy k w x0 m0 u v) S0 Z0 29 21) H := hP 116 _ rfl
set_option maxRecDepth 100000 in
theorem at_29_22 (hP : va_P D vwCl (W0 cy x0 m0 u v) H) : va_at D vwCl (Ea (E0 D cy k w x0 m0 u v) 29 22, ocl (E0 D cy k w x0 m0 u v) S0 Z0 29 22) H := hP 117 _ rfl
set_option maxRecDepth 100000 in
theorem at_29_23 (hP : va_P D vwCl (W0 cy x0 m0 u v) H) : va_at D vwCl (Ea (E0 D cy k w x0 m0 u v) 29 23, ocl (E0 D cy k w x0 m0 u v) S0 Z0 29 23) H := hP 118 _ rfl
set_option maxRecDepth 100000 in
theorem at_29_24 (hP : va_P D vwCl (W0 cy x0 m0 u v) H) : va_at D vwCl (Ea (E0 D cy k w x0 m0 u v) 29 24, ocl (E0 D cy k w x0 m0 u v) S0 Z0 29 24) H := hP 119 _ rfl
set_option maxRecDepth 100000 in
theorem at_29_25 (hP : va_P D vwCl (W0 cy x0 m0 u v) H) : va_at D vwCl (Ea (E0 D cy k w x0 m0 u v) 29 25, ocl (E0 D cy k w x0 m0 u v) S0 Z0 29 25) H := hP 120 _ rfl
set_option maxRecDepth 100000 in
theorem at_29_26 (hP : va_P D vwCl (W0 cy x0 m0 u v) H) : va_at D vwCl (Ea (E0 D cy k w x0 m0 u v) 29 26, ocl (E0 D cy k w x0 m0 u v) S0 Z0 29 26) H := hP 121 _ rfl
set_option maxRecDepth 100000 in
theorem at_29_27 (hP : va_P D vwCl (W0 cy x0 m0 u v) H) : va_at D vwCl (Ea (E0 D cy k w x0 m0 u v) 29 27, ocl (E0 D cy k w x0 m0 u v) S0 Z0 29 27) H := hP 122 _ rfl
set_option maxRecDepth 100000 in
theorem at_29_28 (hP : va_P D vwCl (W0 cy x0 m0 u v) H) : va_at D vwCl (Ea (E0 D cy k w x0 m0 u v) 29 28, ocl (E0 D cy k w x0 m0 u v) S0 Z0 29 28) H := hP 123 _ rfl
set_option maxRecDepth 100000 in
theorem at_29_29 (hP : va_P D vwCl (W0 cy x0 m0 u v) H) : va_at D vwCl (Ea (E0 D cy k w x0 m0 u v) 29 29, ocl (E0 D cy k w x0 m0 u v) S0 Z0 29 29) H := hP 124 _ rfl
set_option maxRecDepth 100000 in
theorem at_29_30 (hP : va_P D vwCl (W0 cy x0 m0 u v) H) : va_at D vwCl (Ea (E0 D cy k w x0 m0 u v) 29 30, ocl (E0 D cy k w x0 m0 u v) S0 Z0 29 30) H := hP 125 _ rfl
set_option maxRecDepth 100000 in
theorem at_29_31 (hP : va_P D vwCl (W0 cy x0 m0 u v) H) : va_at D vwCl (Ea (E0 D cy k w x0 m0 u v) 29 31, ocl (E0 D cy k w x0 m0 u v) S0 Z0 29 31) H := hP 126 _ rfl
set_option maxRecDepth 100000 in
theorem at_29_32 (hP : va_P D vwCl (W0 cy x0 m0 u v) H) : va_at D vwCl (Ea (E0 D cy k w x0 m0 u v) 29 32, ocl (E0 D cy k w x0 m0 u v) S0 Z0 29 32) H := hP 127 _ rfl
set_option maxRecDepth 100000 in
theorem at_29_33 (hP : va_P D vwCl (W0 cy x0 m0 u v) H) : va_at D vwCl (Ea (E0 D cy k w x0 m0 u v) 29 33, ocl (E0 D cy k w x0 m0 u v) S0 Z0 29 33) H := hP 128 _ rfl
set_option maxRecDepth 100000 in
theorem at_29_34 (hP : va_P D vwCl (W0 cy x0 m0 u v) H) : va_at D vwCl (Ea (E0 D cy k w x0 m0 u v) 29 34, ocl (E0 D cy k w x0 m0 u v) S0 Z0 29 34) H := hP 129 _ rfl
set_option maxRecDepth 100000 in
theorem at_29_35 (hP : va_P D vwCl (W0 cy x0 m0 u v) H) : va_at D vwCl (Ea (E0 D cy k w x0 m0 u v) 29 35, ocl (E0 D cy k w x0 m0 u v) S0 Z0 29 35) H := hP 130 _ rfl
set_option maxRecDepth 100000 in
theorem at_29_36 (hP : va_P D vwCl (W0 cy x0 m0 u v) H) : va_at D vwCl (Ea (E0 D cy k w x0 m0 u v) 29 36, ocl (E0 D cy k w x0 m0 u v) S0 Z0 29 36) H := hP 131 _ rfl
set_option maxRecDepth 100000 in
theorem at_29_37 (hP : va_P D vwCl (W0 cy x0 m0 u v) H) : va_at D vwCl (Ea (E0 D cy k w x0 m0 u v) 29 37, ocl (E0 D cy k w x0 m0 u v) S0 Z0 29 37) H := hP 132 _ rfl
set_option maxRecDepth 100000 in
theorem at_29_38 (hP : va_P D vwCl (W0 cy x0 m0 u v) H) : va_at D vwCl (Ea (E0 D cy k w x0 m0 u v) 29 38, ocl (E0 D cy k w x0 m0 u v) S0 Z0 29 38) H := hP 133 _ rfl
set_option maxRecDepth 100000 in
theorem at_29_39 (hP : va_P D vwCl (W0 cy x0 m0 u v) H) : va_at D vwCl (Ea (E0 D cy k w x0 m0 u v) 29 39, ocl (E0 D cy k w x0 m0 u v) S0 Z0 29 39) H := hP 134 _ rfl
set_option maxRecDepth 100000 in
theorem at_29_40 (hP : va_P D vwCl (W0 cy x0 m0 u v) H) : va_at D vwCl (Ea (E0 D cy k w x0 m0 u v) 29 40, ocl (E0 D cy k w x0 m0 u v) S0 Z0 29 40) H := hP 135 _ rfl
set_option maxRecDepth 100000 in
theorem at_29_41 (hP : va_P D vwCl (W0 cy x0 m0 u v) H) : va_at D vwCl (Ea (E0 D cy k w x0 m0 u v) 29 41, ocl (E0 D cy k w x0 m0 u v) S0 Z0 29 41) H := hP 136 _ rfl
set_option maxRecDepth 100000 in
theorem at_29_42 (hP : va_P D vwCl (W0 cy x0 m0 u v) H) : va_at D vwCl (Ea (E0 D cy k w x0 m0 u v) 29 42, ocl (E0 D cy k w x0 m0 u v) S0 Z0 29 42) H := hP 137 _ rfl
set_option maxRecDepth 100000 in
theorem at_29_43 (hP : va_P D vwCl (W0 cy x0 m0 u v) H) : va_at D vwCl (Ea (E0 D cy k w x0 m0 u v) 29 43, ocl (E0 D cy k w x0 m0 u v) S0 Z0 29 43) H := hP 138 _ rfl
set_option maxRecDepth 100000 in
theorem at_29_44 (hP : va_P D vwCl (W0 cy x0 m0 u v) H) : va_at D vwCl (Ea (E0 D cy k w x0 m0 u v) 29 44, ocl (E0 D cy k w x0 m0 u v) S0 Z0 29 44) H := hP 139 _ rfl
set_option maxRecDepth 100000 in
theorem at_29_45 (hP : va_P D vwCl (W0 cy x0 m0 u v) H) : va_at D vwCl (Ea (E0 D cy k w x0 m0 u v) 29 45, ocl (E0 D cy k w x0 m0 u v) S0 Z0 29 45) H := hP 140 _ rfl
set_option maxRecDepth 100000 in
theorem at_29_46 (hP : va_P D vwCl (W0 cy x0 m0 u v) H) : va_at D vwCl (Ea (E0 D cy k w x0 m0 u v) 29 46, ocl (E0 D cy k w x0 m0 u v) S0 Z0 29 46) H := hP 141 _ rfl
set_option maxRecDepth 100000 in
theorem at_29_47 (hP : va_P D vwCl (W0 cy x0 m0 u v) H) : va_at D vwCl (Ea (E0 D cy k w x0 m0 u v) 29 47, ocl (E0 D cy k w x0 m0 u v) S0 Z0 29 47) H := hP 142 _ rfl
set_option maxRecDepth 100000 in
theorem at_29_48 (hP : va_P D vwCl (W0 cy x0 m0 u v) H) : va_at D vwCl (Ea (E0 D cy k w x0 m0 u v) 29 48, ocl (E0 D cy k w x0 m0 u v) S0 Z0 29 48) H := hP 143 _ rfl
set_option maxRecDepth 100000 in
theorem at_29_49 (hP : va_P D vwCl (W0 cy x0 m0 u v) H) : va_at D vwCl (Ea (E0 D cy k w x0 m0 u v) 29 49, ocl (E0 D cy k w x0 m0 u v) S0 Z0 29 49) H := hP 144 _ rfl
set_option maxRecDepth 100000 in
theorem at_29_50 (hP : va_P D vwCl (W0 cy x0 m0 u v) H) : va_at D vwCl (Ea (E0 D cy k w x0 m0 u v) 29 50, ocl (E0 D cy k w x0 m0 u v) S0 Z0 29 50) H := hP 145 _ rfl
set_option maxRecDepth 100000 in
theorem at_29_51 (hP : va_P D vwCl (W0 cy x0 m0 u v) H) : va_at D vwCl (Ea (E0 D cy k w x0 m0 u v) 29 51, ocl (E0 D cy k w x0 m0 u v) S0 Z0 29 51) H := hP 146 _ rfl
set_option maxRecDepth 100000 in
theorem at_29_52 (hP : va_P D vwCl (W0 cy x0 m0 u v) H) : va_at D vwCl (Ea (E0 D cy k w x0 m0 u v) 29 52, ocl (E0 D cy k w x0 m0 u v) S0 Z0 29 52) H := hP 147 _ rfl
theorem PK_l : PK = [(0, 0), (1, 0), (1, 1), (1, 2), (1, 3), (1, 4), (1, 5), (1, 6), (1, 7), (1, 8), (1, 9), (1, 10), (2, 0), (2, 1), (2, 2), (2, 3), (2, 4), (2, 5), (2, 6), (2, 7), (2, 8), (2, 9), (2, 10), (3, 0), (3, 1), (3, 2), (3, 3), (3, 4), (3, 5), (3, 6), (3, 7), (3, 8), (3, 9), (3, 10), (4, 0), (5, 0), (6, 0), (6, 1), (6, 2), (6, 3), (7, 0), (7, 1), (7, 2), (7, 3), (8, 0), (8, 1), (8, 2), (8, 3), (9, 0), (9, 1), (9, 2), (9, 3), (10, 0), (10, 1), (10, 2), (10, 3), (11, 0), (11, 1), (11, 2), (11, 3), (12, 0), (12, 1), (13, 0), (14, 0), (14, 1), (15, 0), (15, 1), (16, 0), (16, 1), (17, 0), (17, 1), (18, 0), (18, 1), (19, 0), (19, 1), (20, 0), (20, 1), (20, 2), (20, 3), (20, 4), (21, 0), (21, 1), (22, 0), (23, 0), (23, 1), (24, 0), (24, 1), (25, 0), (25, 1), (26, 0), (26, 1), (27, 0), (27, 1), (28, 0), (28, 1), (29, 0), (29, 1), (29, 2), (29, 3), (29, 4), (29, 5), (29, 6), (29, 7), (29, 8), (29, 9), (29, 10), (29, 11), (29, 12), (29, 13), (29, 14), (29, 15), (29, 16), (29, 17), (29, 18), (29, 19), (29, 20), (29, 21), (29, 22), (29, 23), (29, 24), (29, 25), (29, 26), (29, 27), (29, 28), (29, 29), (29, 30), (29, 31), (29, 32), (29, 33), (29, 34), (29, 35), (29, 36), (29, 37), (29, 38), (29, 39), (29, 40), (29, 41), (29, 42), (29, 43), (29, 44), (29, 45), (29, 46), (29, 47), (29, 48), (29, 49), (29, 50), (29, 51), (29, 52)] := by decide +kernel
set_option maxRecDepth 100000 in
theorem at_all (hP : va_P D vwCl (W0 cy x0 m0 u v) H) : ∀ q ∈ PK, va_at D vwCl (Ea (E0 D cy k w x0 m0 u v) q.1 q.2, ocl (E0 D cy k w x0 m0 u v) S0 Z0 q.1 q.2) H := by
  rw [PK_l]
  exact (List.forall_mem_cons.mpr ⟨at_0_0 hP, (List.forall_mem_cons.mpr ⟨at_1_0 hP, (List.forall_mem_cons.mpr ⟨at_1_1 hP, (List.forall_mem_cons.mpr ⟨at_1_2 hP, (List.forall_mem_cons.mpr ⟨at_1_3 hP, (List.forall_mem_cons.mpr ⟨at_1_4 hP, (List.forall_mem_cons.mpr ⟨at_1_5 hP, (List.forall_mem_cons.mpr ⟨at_1_6 hP, (List.forall_mem_cons.mpr ⟨at_1_7 hP, (List.forall_mem_cons.mpr ⟨at_1_8 hP, (List.forall_mem_cons.mpr ⟨at_1_9 hP, (List.forall_mem_cons.mpr ⟨at_1_10 hP, (List.forall_mem_cons.mpr ⟨at_2_0 hP, (List.forall_mem_cons.mpr ⟨at_2_1 hP, (List.forall_mem_cons.mpr ⟨at_2_2 hP, (List.forall_mem_cons.mpr ⟨at_2_3 hP, (List.forall_mem_cons.mpr ⟨at_2_4 hP, (List.forall_mem_cons.mpr ⟨at_2_5 hP, (List.forall_mem_cons.mpr ⟨at_2_6 hP, (List.forall_mem_cons.mpr ⟨at_2_7 hP, (List.forall_mem_cons.mpr ⟨at_2_8 hP, (List.forall_mem_cons.mpr ⟨at_2_9 hP, (List.forall_mem_cons.mpr ⟨at_2_10 hP, (List.forall_mem_cons.mpr ⟨at_3_0 hP, (List.forall_mem_cons.mpr ⟨at_3_1 hP, (List.forall_mem_cons.mpr ⟨at_3_2 hP, (List.forall_mem_cons.mpr ⟨at_3_3 hP, (List.forall_mem_cons.mpr ⟨at_3_4 hP, (List.forall_mem_cons.mpr ⟨at_3_5 hP, (List.forall_mem_cons.mpr ⟨at_3_6 hP, (List.forall_mem_cons.mpr ⟨at_3_7 hP, (List.forall_mem_cons.mpr ⟨at_3_8 hP, (List.forall_mem_cons.mpr ⟨at_3_9 hP, (List.forall_mem_cons.mpr ⟨at_3_10 hP, (List.forall_mem_cons.mpr ⟨at_4_0 hP, (List.forall_mem_cons.mpr ⟨at_5_0 hP, (List.forall_mem_cons.mpr ⟨at_6_0 hP, (List.forall_mem_cons.mpr ⟨at_6_1 hP, (List.forall_mem_cons.mpr ⟨at_6_2 hP, (List.forall_mem_cons.mpr ⟨at_6_3 hP, (List.forall_mem_cons.mpr ⟨at_7_0 hP, (List.forall_mem_cons.mpr ⟨at_7_1 hP, (List.forall_mem_cons.mpr ⟨at_7_2 hP, (List.forall_mem_cons.mpr ⟨at_7_3 hP, (List.forall_mem_cons.mpr ⟨at_8_0 hP, (List.forall_mem_cons.mpr ⟨at_8_1 hP, (List.forall_mem_cons.mpr ⟨at_8_2 hP, (List.forall_mem_cons.mpr ⟨at_8_3 hP, (List.forall_mem_cons.mpr ⟨at_9_0 hP, (List.forall_mem_cons.mpr ⟨at_9_1 hP, (List.forall_mem_cons.mpr ⟨at_9_2 hP, (List.forall_mem_cons.mpr ⟨at_9_3 hP, (List.forall_mem_cons.mpr ⟨at_10_0 hP, (List.forall_mem_cons.mpr ⟨at_10_1 hP, (List.forall_mem_cons.mpr ⟨at_10_2 hP, (List.forall_mem_cons.mpr ⟨at_10_3 hP, (List.forall_mem_cons.mpr ⟨at_11_0 hP, (List.forall_mem_cons.mpr ⟨at_11_1 hP, (List.forall_mem_cons.mpr ⟨at_11_2 hP, (List.forall_mem_cons.mpr ⟨at_11_3 hP, (List.forall_mem_cons.mpr ⟨at_12_0 hP, (List.forall_mem_cons.mpr ⟨at_12_1 hP, (List.forall_mem_cons.mpr ⟨at_13_0 hP, (List.forall_mem_cons.mpr ⟨at_14_0 hP, (List.forall_mem_cons.mpr ⟨at_14_1 hP, (List.forall_mem_cons.mpr ⟨at_15_0 hP, (List.forall_mem_cons.mpr ⟨at_15_1 hP, (List.forall_mem_cons.mpr ⟨at_16_0 hP, (List.forall_mem_cons.mpr ⟨at_16_1 hP, (List.forall_mem_cons.mpr ⟨at_17_0 hP, (List.forall_mem_cons.mpr ⟨at_17_1 hP, (List.forall_mem_cons.mpr ⟨at_18_0 hP, (List.forall_mem_cons.mpr ⟨at_18_1 hP, (List.forall_mem_cons.mpr ⟨at_19_0 hP, (List.forall_mem_cons.mpr ⟨at_19_1 hP, (List.forall_mem_cons.mpr ⟨at_20_0 hP, (List.forall_mem_cons.mpr ⟨at_20_1 hP, (List.forall_mem_cons.mpr ⟨at_20_2 hP, (List.forall_mem_cons.mpr ⟨at_20_3 hP, (List.forall_mem_cons.mpr ⟨at_20_4 hP, (List.forall_mem_cons.mpr ⟨at_21_0 hP, (List.forall_mem_cons.mpr ⟨at_21_1 hP, (List.forall_mem_cons.mpr ⟨at_22_0 hP, (List.forall_mem_cons.mpr ⟨at_23_0 hP, (List.forall_mem_cons.mpr ⟨at_23_1 hP, (List.forall_mem_cons.mpr ⟨at_24_0 hP, (List.forall_mem_cons.mpr ⟨at_24_1 hP, (List.forall_mem_cons.mpr ⟨at_25_0 hP, (List.forall_mem_cons.mpr ⟨at_25_1 hP, (List.forall_mem_cons.mpr ⟨at_26_0 hP, (List.forall_mem_cons.mpr ⟨at_26_1 hP, (List.forall_mem_cons.mpr ⟨at_27_0 hP, (List.forall_mem_cons.mpr ⟨at_27_1 hP, (List.forall_mem_cons.mpr ⟨at_28_0 hP, (List.forall_mem_cons.mpr ⟨at_28_1 hP, (List.forall_mem_cons.mpr ⟨at_29_0 hP, (List.forall_mem_cons.mpr ⟨at_29_1 hP, (List.forall_mem_cons.mpr ⟨at_29_2 hP, (List.forall_mem_cons.mpr ⟨at_29_3 hP, (List.forall_mem_cons.mpr ⟨at_29_4 hP, (List.forall_mem_cons.mpr ⟨at_29_5 hP, (List.forall_mem_cons.mpr ⟨at_29_6 hP, (List.forall_mem_cons.mpr ⟨at_29_7 hP, (List.forall_mem_cons.mpr ⟨at_29_8 hP, (List.forall_mem_cons.mpr ⟨at_29_9 hP, (List.forall_mem_cons.mpr ⟨at_29_10 hP, (List.forall_mem_cons.mpr ⟨at_29_11 hP, (List.forall_mem_cons.mpr ⟨at_29_12 hP, (List.forall_mem_cons.mpr ⟨at_29_13 hP, (List.forall_mem_cons.mpr ⟨at_29_14 hP, (List.forall_mem_cons.mpr ⟨at_29_15 hP, (List.forall_mem_cons.mpr ⟨at_29_16 hP, (List.forall_mem_cons.mpr ⟨at_29_17 hP, (List.forall_mem_cons.mpr ⟨at_29_18 hP, (List.forall_mem_cons.mpr ⟨at_29_19 hP, (List.forall_mem_cons.mpr ⟨at_29_20 hP, (List.forall_mem_cons.mpr ⟨at_29_21 hP, (List.forall_mem_cons.mpr ⟨at_29_22 hP, (List.forall_mem_cons.mpr ⟨at_29_23 hP, (List.forall_mem_cons.mpr ⟨at_29_24 hP, (List.forall_mem_cons.mpr ⟨at_29_25 hP, (List.forall_mem_cons.mpr ⟨at_29_26 hP, (List.forall_mem_cons.mpr ⟨at_29_27 hP, (List.forall_mem_cons.mpr ⟨at_29_28 hP, (List.forall_mem_cons.mpr ⟨at_29_29 hP, (List.forall_mem_cons.mpr ⟨at_29_30 hP, (List.forall_mem_cons.mpr ⟨at_29_31 hP, (List.forall_mem_cons.mpr ⟨at_29_32 hP, (List.forall_mem_cons.mpr ⟨at_29_33 hP, (List.forall_mem_cons.mpr ⟨at_29_34 hP, (List.forall_mem_cons.mpr ⟨at_29_35 hP, (List.forall_mem_cons.mpr ⟨at_29_36 hP, (List.forall_mem_cons.mpr ⟨at_29_37 hP, (List.forall_mem_cons.mpr ⟨at_29_38 hP, (List.forall_mem_cons.mpr ⟨at_29_39 hP, (List.forall_mem_cons.mpr ⟨at_29_40 hP, (List.forall_mem_cons.mpr ⟨at_29_41 hP, (List.forall_mem_cons.mpr ⟨at_29_42 hP, (List.forall_mem_cons.mpr ⟨at_29_43 hP, (List.forall_mem_cons.mpr ⟨at_29_44 hP, (List.forall_mem_cons.mpr ⟨at_29_45 hP, (List.forall_mem_cons.mpr ⟨at_29_46 hP, (List.forall_mem_cons.mpr ⟨at_29_47 hP, (List.forall_mem_cons.mpr ⟨at_29_48 hP, (List.forall_mem_cons.mpr ⟨at_29_49 hP, (List.forall_mem_cons.mpr ⟨at_29_50 hP, (List.forall_mem_cons.mpr ⟨at_29_51 hP, (List.forall_mem_cons.mpr ⟨at_29_52 hP, (fun _ h => absurd h List.not_mem_nil)⟩)⟩)⟩)⟩)⟩)⟩)⟩)⟩)⟩)⟩)⟩)⟩)⟩)⟩)⟩)⟩)⟩)⟩)⟩)⟩)⟩)⟩)⟩)⟩)⟩)⟩)⟩)⟩)⟩)⟩)⟩)⟩)⟩)⟩)⟩)⟩)⟩)⟩)⟩)⟩)⟩)⟩)⟩)⟩)⟩)⟩)⟩)⟩)⟩)⟩)⟩)⟩)⟩)⟩)⟩)⟩)⟩)⟩)⟩)⟩)⟩)⟩)⟩)⟩)⟩)⟩)⟩)⟩)⟩)⟩)⟩)⟩)⟩)⟩)⟩)⟩)⟩)⟩)⟩)⟩)⟩)⟩)⟩)⟩)⟩)⟩)⟩)⟩)⟩)⟩)⟩)⟩)⟩)⟩)⟩)⟩)⟩)⟩)⟩)⟩)⟩)⟩)⟩)⟩)⟩)⟩)⟩)⟩)⟩)⟩)⟩)⟩)⟩)⟩)⟩)⟩)⟩)⟩)⟩)⟩)⟩)⟩)⟩)⟩)⟩)⟩)⟩)⟩)⟩)⟩)⟩)⟩)⟩)⟩)⟩)⟩)⟩)⟩)⟩)⟩)⟩)⟩)⟩)⟩)⟩)⟩)⟩)⟩)
theorem ww_P (hP : va_P D vwCl (W0 cy x0 m0 u v) H) : va_P D vwCl (ww (E0 D cy k w x0 m0 u v) S0 Z0) H := by
  intro j q hq
  unfold ww at hq
  rw [List.getElem?_map] at hq
  cases hp : PK[j]? with
  | none => rw [hp] at hq; cases hq
  | some x =>
    rw [hp] at hq
    cases hq
    exact at_all hP x (List.mem_of_getElem? hp)
theorem ix_lt : ∀ q ∈ PK, ixf q < 148 := by decide +kernel
theorem ix_nd : ∀ i, i < 148 → ∀ j, j < 148 → ixf (PK.getD i (0, 0)) = ixf (PK.getD j (0, 0)) → i = j := by decide +kernel
theorem PK_len : PK.length = 148 := by decide +kernel
theorem W0_D {A : Nat → Prop} (hD : va_D A (W0 cy x0 m0 u v)) : va_D A (ww (E0 D cy k w x0 m0 u v) S0 Z0) := ww_D (ix := ixf) hD (fun q hq => rfl) (fun q hq => ix_lt q hq) (fun i hi j hj => ix_nd i (by rw [← PK_len]; exact hi) j (by rw [← PK_len]; exact hj)) S0 Z0
end LS
