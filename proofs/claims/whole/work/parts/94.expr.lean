/-! PURE: E read, in both (made by wip/whole/gen/gen94.py) -/
def HST (L : List Nat) (h : Mm) : Prop := h 1 0 = nI L.length ∧ L.length ≤ 100 ∧ ∀ i, i < L.length → h 0 i = nI (L.getD i 0)
theorem k_adds {L : List Nat} {h : Mm} {t : Nat} (H : HST L h) (hl : L.length < 100) : ∃ h' : Mm, f_X2_adds h (nI t) = some h' ∧ HST (L ++ [t]) h' ∧ h' 2 = h 2 := by
  obtain ⟨h1, h2, h3⟩ := H
  unfold f_X2_adds f_X2_adds_0
  rw [h1, if_neg (nI_ge (by omega) (by omega)), z_in (by omega) (by decide), nI_clamp (by omega), lt_d, lt_d, st_ne (show (1 : Nat) ≠ 0 by omega), h1, nI_1]
  refine ⟨_, rfl, ⟨by rw [st_eq]; simp, by simp; omega, fun i hi => ?_⟩, by rw [st_ne (by omega), st_ne (by omega)]⟩
  simp only [List.length_append, List.length_cons, List.length_nil] at hi
  rw [st_ne (by omega), st_k]
  by_cases e : i = L.length
  · rw [if_pos e, e]
    simp
  · rw [if_neg e, h3 i (by omega)]
    congr 1
    simp [List.getElem?_append_left (show i < L.length by omega)]
theorem k_addt {L : List Nat} {h : Mm} {t : Nat} (H : HST L h) : ∃ (L' : List Nat) (h' : Mm), f_X2_adds h (nI t) = some h' ∧ HST L' h' := by
  by_cases hl : L.length < 100
  · obtain ⟨h', a, b, -⟩ := k_adds (t := t) H hl
    exact ⟨_, h', a, b⟩
  · refine ⟨L, h, ?_, H⟩
    unfold f_X2_adds f_X2_adds_0
    rw [H.1, if_pos (nI_le (by omega) (by have := H.2.1; omega))]
def FIN (c a : Nat) (ρ0 ρ : Mm) : Prop := EF [16, 17, 23, 24, 25, 26, 27, 28] ρ ρ0 ∧ (∀ x, x ≠ c → ρ 23 x = ρ0 23 x) ∧ ∀ x, x < a → ρ 24 x = ρ0 24 x
def OUT (n h : Nat) (T : Nat → Nat) (c a : Nat) (ρ0 : Mm) (g i : Nat) (L : List Nat) (hs : Ms) (t : Mm) (x : Option (Int32 × Mm × Ms)) (w0 : Int32) (ρ : Mm) (vp : List Nat → Prop) (good : Nat → List Nat → Mm → Prop) : Prop :=
  ∃ (r : Int32) (t' h' : Mm) (j : Nat), x = some (r, t', va_up hs h h') ∧ T8 n h T j t' ∧ EF [2] t' t ∧ i + g ≤ j + (if r = 1 then 0 else g) ∧ j ≤ n ∧
  ((r = 1 ∧ ∃ (st : List Nat) (ρ' : Mm) (k : Nat), HST (L ++ st) h' ∧ h' 2 = hs h 2 ∧ i + st.length ≤ j ∧ vp st ∧ i + k ≤ j ∧ (∀ m, f_X9_takesE_22L (nI c) (m + k) ρ w0 = f_X9_takesE_22L (nI c) m ρ' 0) ∧ good j st ρ') ∨
   (r = 0 ∧ (∃ L', HST L' h') ∧ ∃ ρ' : Mm, (∀ m, j + 1 ≤ m + i → f_X9_takesE_22L (nI c) m ρ w0 = some (0, ρ')) ∧ ρ' 16 0 = nI j ∧ FIN c a ρ0 ρ'))
theorem rec2 {N : Nat} {t : Mm} {hs : Ms} {d : Int32} : f_X7_rec (N + 1) 2 t hs d = f_X7_oneHolds_0 (f_X7_rec N) d t hs := rfl
theorem rec1 {N : Nat} {t : Mm} {hs : Ms} {d : Int32} : f_X7_rec (N + 1) 1 t hs d = f_X7_allHold_0 (f_X7_rec N) d t hs := rfl
theorem rec0 {N : Nat} {t : Mm} {hs : Ms} {d : Int32} : f_X7_rec (N + 1) 0 t hs d = f_X7_anyHolds_0 (f_X7_rec N) d t hs := rfl
section TC
variable {n h c a p0 : Nat} {T : Nat → Nat} {ρ0 : Mm}
theorem MS.fin {i : Nat} {W s : List Nat} {ρ : Mm} (H : MS n T c a p0 ρ0 i W s ρ) : FIN c a ρ0 ρ := ⟨H.2.2.2.2.2.1, H.2.2.2.2.2.2.1, H.2.2.2.2.2.2.2⟩
theorem k_ne (X : TX n T) {i w : Nat} (hc : w < 128) (h' : ¬ (i < n ∧ T i = w)) : ¬ (if i < n then nI (T i) else -1) = nI w := fun q => h' ((k_is X hc).mp q)
/-! the model's loop, step by step -/
theorem lp_open (X : TX n T) {i d w : Nat} {W s : List Nat} {ρ : Mm} (H : MS n T c a p0 ρ0 i W s ρ) (hi : i < n) (hT : T i = w) (hw : w = 33 ∨ w = 40) (hd : opc W = d) (hd4 : d < 4) (m : Nat) : f_X9_takesE_22L (nI c) (m + 1) ρ 1 = f_X9_takesE_22L (nI c) m (s_t (s_t (s_t (s_t ρ 28 0 (nI (opc (w :: W)))) 25 W.length (nI w)) 27 0 (nI (W.length + 1))) 16 0 (nI (i + 1))) 1 := by
  have hn := X.1
  obtain ⟨h1, ⟨h2, -⟩, h3, -, ⟨h6, -⟩, -⟩ := id H
  have ho : opc (w :: W) = opc W + 1 := by
    show (if w = 33 ∨ w = 40 then 1 else 0) + opc W = _
    rw [if_pos hw]; omega
  show f_X9_takesE_22 _ _ _ _ = _
  unfold f_X9_takesE_22 f_X9_takesE_43
  rw [k_next X h1 (by omega), bd_s, i10, if_pos hi, hT, h3, hd, if_neg (show ¬ nI d = 4 from z_neq (b := 4) (by omega) (by omega) (by omega)), nI_1, lt_d, st_ne (show (27 : Nat) ≠ 28 by omega), h2, z_in (by omega) (by decide), nI_clamp (by omega), lt_d, lt_d, lt_d]
  rw [st_ne (show (27 : Nat) ≠ 25 by omega), st_ne (show (27 : Nat) ≠ 28 by omega), h2, nI_1, st_ne (show (16 : Nat) ≠ 27 by omega), st_ne (show (16 : Nat) ≠ 25 by omega), st_ne (show (16 : Nat) ≠ 28 by omega), h1.2.1, nI_1, ho, hd]
  rcases hw with rfl | rfl
  · rw [if_pos (show nI 33 = 33 from rfl)]
  · rw [if_neg (show ¬ nI 40 = 33 by decide), if_pos (show nI 40 = 40 from rfl)]
theorem lp_full (X : TX n T) {i w : Nat} {W s : List Nat} {ρ : Mm} (H : MS n T c a p0 ρ0 i W s ρ) (hi : i < n) (hT : T i = w) (hw : w = 33 ∨ w = 40) (hd : opc W = 4) (m : Nat) : f_X9_takesE_22L (nI c) (m + 1) ρ 1 = some (0, ρ) := by
  obtain ⟨h1, ⟨h2, -⟩, h3, -⟩ := id H
  show f_X9_takesE_22 _ _ _ _ = _
  unfold f_X9_takesE_22 f_X9_takesE_43
  rw [k_next X h1 (by omega), bd_s, i10, if_pos hi, hT, h3, hd, if_pos (show nI 4 = 4 from rfl)]
  rcases hw with rfl | rfl
  · rw [if_pos (show nI 33 = 33 from rfl)]
  · rw [if_neg (show ¬ nI 40 = 33 by decide), if_pos (show nI 40 = 40 from rfl)]
theorem lp_test (X : TX n T) {i : Nat} {W s : List Nat} {ρ : Mm} (H : MS n T c a p0 ρ0 i W s ρ) (hin : i ≤ n) (hw : ¬ (i < n ∧ T i = 33)) (hw2 : ¬ (i < n ∧ T i = 40)) (m : Nat) : f_X9_takesE_22L (nI c) (m + 1) ρ 1 = bd (f_X9_takesTest ρ) (fun u31 => if u31.1 = (0 : Int32) then some (0, u31.2) else f_X9_takesE_22L (nI c) m u31.2 0) := by
  show f_X9_takesE_22 _ _ _ _ = _
  unfold f_X9_takesE_22
  rw [k_next X H.1 hin, bd_s, i10, if_neg (show ¬ (if i < n then nI (T i) else -1) = (33 : Int32) from k_ne X (w := 33) (by omega) hw), if_neg (show ¬ (if i < n then nI (T i) else -1) = (40 : Int32) from k_ne X (w := 40) (by omega) hw2)]
theorem lp_op (X : TX n T) {i w : Nat} {Y P s : List Nat} {ρ : Mm} (H : MS n T c a p0 ρ0 i (P ++ Y) s ρ) (ha : a ≤ 500 + p0) (hi : i < n) (hT : T i = w) (hw : w = 38 ∨ w = 124) (hY : stopp w Y) (hP : ∀ x, x ∈ P → x = 38 ∨ (x = 124 ∧ w ≠ 38)) : ∃ ρ' : Mm, (∀ m, f_X9_takesE_22L (nI c) (m + 1) ρ 0 = f_X9_takesE_22L (nI c) m ρ' 1) ∧ MS n T c a p0 ρ0 (i + 1) (w :: Y) (s ++ P.map cd) ρ' := by
  have hn := X.1
  obtain ⟨h1, -, -, -, ⟨h6, -⟩, -⟩ := id H
  obtain ⟨u8, b1, b2⟩ := k_settle (p := w) hn (by omega) ha hw hY P s ρ FU hP H (by
    simp only [List.length_append] at h6
    rw [FU_e]; omega)
  obtain ⟨g1, ⟨g2, -⟩, g3, -, ⟨g6, -⟩, -⟩ := id b2
  have e28 : s_t u8 28 0 (nI (opc (w :: Y))) = u8 := by
    rw [opc_op hw, ← g3]
    exact st_id
  have hp := MS.push b2 hi hn (w := w) (by omega) rfl
  rw [e28] at hp
  refine ⟨_, fun m => ?_, hp⟩
  show f_X9_takesE_22 _ _ _ _ = _
  unfold f_X9_takesE_22 f_X9_takesE_122
  have b1' : f_X9_settle ρ (nI w) = some u8 := b1
  rw [k_next X h1 (by omega), bd_s, i00, if_pos hi, hT, b1', bd_s, g2, z_in (by omega) (by decide), nI_clamp (by omega), lt_d, lt_d, lt_d, st_ne (show (27 : Nat) ≠ 25 by omega), g2, nI_1, st_ne (show (16 : Nat) ≠ 27 by omega), st_ne (show (16 : Nat) ≠ 25 by omega), g1.2.1, nI_1]
  rcases hw with rfl | rfl
  · rw [if_pos (show nI 38 = 38 from rfl)]
  · rw [if_neg (show ¬ nI 124 = 38 by decide), if_pos (show nI 124 = 124 from rfl)]
/-- no operator: all is settled, and what then -/
theorem lp_close (X : TX n T) {i : Nat} {Y P s : List Nat} {ρ : Mm} (H : MS n T c a p0 ρ0 i (P ++ Y) s ρ) (ha : a ≤ 500 + p0) (hc : c < 60) (hin : i ≤ n) (h38 : ¬ (i < n ∧ T i = 38)) (h124 : ¬ (i < n ∧ T i = 124)) (hY : stopp 124 Y) (hP : ∀ x, x ∈ P → x = 38 ∨ x = 124) : ∃ ρ1 : Mm, MS n T c a p0 ρ0 i Y (s ++ P.map cd) ρ1 ∧ ρ1 23 c = nI (a + (s ++ P.map cd).length) ∧ ∀ m, f_X9_takesE_22L (nI c) (m + 1) ρ 0 = if nI Y.length = 0 then some (1, ρ1) else if (if i < n then nI (T i) else -1) = (41 : Int32) then bd (f_X9_whole (s_t (s_t (s_t ρ1 27 0 (nI Y.length - 1)) 28 0 (nI (opc Y) - 1)) 16 0 (nI (i + 1)))) (fun u22 => f_X9_takesE_22L (nI c) m u22 0) else some (0, ρ1) := by
  have hn := X.1
  obtain ⟨h1, -, -, -, ⟨h6, -⟩, -⟩ := id H
  obtain ⟨u8, b1, b2⟩ := k_settle (p := 124) hn (by omega) ha (Or.inr rfl) hY P s ρ FU (fun x hx => (hP x hx).imp id (fun z => ⟨z, by omega⟩)) H (by
    simp only [List.length_append] at h6
    rw [FU_e]; omega)
  obtain ⟨g1, ⟨g2, g2'⟩, g3, ⟨g4, g5⟩, g6, g7, g8, g9⟩ := id b2
  have b1' : f_X9_settle ρ 124 = some u8 := b1
  refine ⟨s_t u8 23 c (nI (a + (s ++ P.map cd).length)), ⟨g1.ef (fun k hk => st_ne (by omega)), ⟨by rw [st_ne (by omega)]; exact g2, fun q hq => by rw [st_ne (by omega)]; exact g2' q hq⟩, by rw [st_ne (by omega)]; exact g3, ⟨by rw [st_ne (by omega)]; exact g4, fun q hq => by rw [st_ne (by omega)]; exact g5 q hq⟩, g6, EF.st g7 (by decide), fun x hx => by rw [st_k, if_neg hx]; exact g8 x hx, fun x hx => by rw [st_ne (by omega)]; exact g9 x hx⟩, st_eq, fun m => ?_⟩
  show f_X9_takesE_22 _ _ _ _ = _
  unfold f_X9_takesE_22
  rw [k_next X h1 hin, bd_s, i00, if_neg (show ¬ (if i < n then nI (T i) else -1) = (38 : Int32) from k_ne X (w := 38) (by omega) h38), if_neg (show ¬ (if i < n then nI (T i) else -1) = (124 : Int32) from k_ne X (w := 124) (by omega) h124), b1', bd_s, z_in hc (by decide), nI_clamp (by omega), g4, lt_d, st_ne (show (27 : Nat) ≠ 23 by omega), g2, lt_d, lt_d, lt_d, st_ne (show (28 : Nat) ≠ 27 by omega), st_ne (show (28 : Nat) ≠ 23 by omega), g3, st_ne (show (16 : Nat) ≠ 28 by omega), st_ne (show (16 : Nat) ≠ 27 by omega), st_ne (show (16 : Nat) ≠ 23 by omega), g1.2.1, nI_1]
theorem test0 {t : Mm} {i : Nat} (H : T8 n h T i t) (hi : i < n) (hn : n ≤ 100) (hT : T i = 33 ∨ T i = 40) (hs : Ms) : f_X7_test t hs = some (0, t, hs) := by
  obtain ⟨h1, h2, h3, -⟩ := H
  have e3 : f_X7_takesOne t 3 = some (-1, t) := by
    unfold f_X7_takesOne f_X7_takesOne_0 f_X7_takesOne_29
    have e : f_J0_indexOf_0f7a4 3 (((nI (T i)).toUInt32 % 65536).toInt32) = some (-1) := by
      rcases hT with q | q <;> rw [q] <;> decide +kernel
    rw [h1, h2, if_neg (nI_ge hi (by omega)), z_in (by omega) (by decide), nI_clamp (by omega), h3 i hi, e, bd_s, if_pos (by decide)]
  unfold f_X7_test f_X7_test_0
  rw [e3, bd_s]
  dsimp only
  rw [if_neg (by decide)]
def V1 (d e : Nat) (st : List Nat) : Prop := ∀ (q : Nat) (K : List Nat), q + e + 2 * (5 - d) ≤ 29 → vd K (q + 1) → vd (st ++ K) q
/-- the rest of a row of operands: one truth stands, one stands behind it -/
def V2 (d e : Nat) (st : List Nat) : Prop := ∀ (q : Nat) (K : List Nat), q + e + 2 * (5 - d) ≤ 29 → vd K (q + 1) → vd (st ++ K) (q + 1)
def G1 (n : Nat) (T : Nat → Nat) (c a p0 : Nat) (ρ0 : Mm) (W s : List Nat) (j : Nat) (st : List Nat) (ρ' : Mm) : Prop := MS n T c a p0 ρ0 j (wh W) (s ++ st ++ negs W) ρ'
def G2 (n : Nat) (T : Nat → Nat) (c a p0 : Nat) (ρ0 : Mm) (X s : List Nat) (j : Nat) (st : List Nat) (ρ' : Mm) : Prop := ∃ P s' : List Nat, (∀ x, x ∈ P → x = 38) ∧ MS n T c a p0 ρ0 j (P ++ X) s' ρ' ∧ s' ++ P.map cd = s ++ st ∧ ¬ (j < n ∧ T j = 38)
def G3 (n : Nat) (T : Nat → Nat) (c a p0 : Nat) (ρ0 : Mm) (X s : List Nat) (j : Nat) (st : List Nat) (ρ' : Mm) : Prop := ∃ P s' : List Nat, (∀ x, x ∈ P → x = 38 ∨ x = 124) ∧ MS n T c a p0 ρ0 j (P ++ X) s' ρ' ∧ s' ++ P.map cd = s ++ st ∧ ¬ (j < n ∧ T j = 38) ∧ ¬ (j < n ∧ T j = 124)
def P1 (n h : Nat) (T : Nat → Nat) (c a p0 : Nat) (ρ0 : Mm) (d : Nat) : Prop := ∀ (N i : Nat) (L W s : List Nat) (hs : Ms) (t ρ : Mm), 3 * (4 - d) + 1 ≤ N → i ≤ n → T8 n h T i t → HST L (hs h) → L.length ≤ i → MS n T c a p0 ρ0 i W s ρ → opc W = d → OUT n h T c a ρ0 1 i L hs t (f_X7_rec N 2 t hs (nI d)) 1 ρ (V1 d 0) (G1 n T c a p0 ρ0 W s)
def hd (P : Nat → Prop) (X : List Nat) : Prop := X = [] ∨ ∃ x X', X = x :: X' ∧ P x
def P2 (n h : Nat) (T : Nat → Nat) (c a p0 : Nat) (ρ0 : Mm) (d : Nat) : Prop := ∀ (N i : Nat) (L X s : List Nat) (hs : Ms) (t ρ : Mm), 3 * (4 - d) + 2 ≤ N → i ≤ n → T8 n h T i t → HST L (hs h) → L.length ≤ i → MS n T c a p0 ρ0 i X s ρ → opc X = d → hd (fun x => x ≠ 33 ∧ x ≠ 38) X → OUT n h T c a ρ0 1 i L hs t (f_X7_rec N 1 t hs (nI d)) 1 ρ (V1 d 1) (G2 n T c a p0 ρ0 X s)
def P3 (n h : Nat) (T : Nat → Nat) (c a p0 : Nat) (ρ0 : Mm) (d : Nat) : Prop := ∀ (N i : Nat) (L X s : List Nat) (hs : Ms) (t ρ : Mm), 3 * (4 - d) + 3 ≤ N → i ≤ n → T8 n h T i t → HST L (hs h) → L.length ≤ i → MS n T c a p0 ρ0 i X s ρ → opc X = d → hd (fun x => x ≠ 33 ∧ x ≠ 38 ∧ x ≠ 124) X → OUT n h T c a ρ0 1 i L hs t (f_X7_rec N 0 t hs (nI d)) 1 ρ (V1 d 2) (G3 n T c a p0 ρ0 X s)
theorem hd_wh {X : List Nat} {P : Nat → Prop} (H : hd P X) (h : ∀ x, P x → x ≠ 33) : wh X = X ∧ negs X = [] := by
  rcases H with rfl | ⟨x, X', rfl, hx⟩
  · exact ⟨rfl, rfl⟩
  · have := h x hx
    refine ⟨if_neg this, ?_⟩
    unfold negs
    rw [show ng (x :: X') = 0 from if_neg this]
    rfl
theorem hd_stop {X : List Nat} {P : Nat → Prop} {p : Nat} (H : hd P X) (h : ∀ x, P x → x ≠ 38 ∧ (x = 124 → p = 38)) : stopp p X := by
  rcases H with rfl | ⟨x, X', rfl, hx⟩
  · exact Or.inl rfl
  · exact Or.inr ⟨x, X', rfl, h x hx⟩
end TC
