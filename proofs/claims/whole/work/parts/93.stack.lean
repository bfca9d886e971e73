/-! PURE: the model's stack of what waits -/
def opc : List Nat → Nat
  | [] => 0
  | w :: W => (if w = 33 ∨ w = 40 then 1 else 0) + opc W
/-- the model in a clause's E: place i, W waits (the top first), s is emitted -/
def MS (n : Nat) (T : Nat → Nat) (c a p0 : Nat) (ρ0 : Mm) (i : Nat) (W s : List Nat) (ρ : Mm) : Prop := M9 n T i ρ ∧ (ρ 27 0 = nI W.length ∧ ∀ q, q < W.length → ρ 25 (W.length - 1 - q) = nI (W.getD q 0)) ∧ ρ 28 0 = nI (opc W) ∧ (ρ 26 0 = nI (a + s.length) ∧ ∀ q, q < s.length → ρ 24 (a + q) = mcode (s.getD q 0)) ∧ (s.length + W.length + p0 ≤ i ∧ ∀ w, w ∈ W → w < 128) ∧ EF [16, 17, 23, 24, 25, 26, 27, 28] ρ ρ0 ∧ (∀ x, x ≠ c → ρ 23 x = ρ0 23 x) ∧ ∀ x, x < a → ρ 24 x = ρ0 24 x
theorem opc_le : ∀ W : List Nat, opc W ≤ W.length := by
  intro W
  induction W with
  | nil => exact Nat.le_refl _
  | cons w W ih =>
    show (if w = 33 ∨ w = 40 then 1 else 0) + opc W ≤ W.length + 1
    split <;> omega
section TB
variable {n c a p0 i : Nat} {T : Nat → Nat} {ρ0 ρ : Mm} {W s : List Nat}
/-- a step code is emitted, what waits goes from W to W' -/
theorem MS.emit {t : Nat} (H : MS n T c a p0 ρ0 i W s ρ) (hn : n ≤ 100) (hin : i ≤ n) (ha : a ≤ 500 + p0) {x : Int32} (hx : x = mcode t) (h0 : W.length ≠ 0 ∨ s.length + 1 + W.length + p0 ≤ i) : f_X9_emits ρ x = some (s_t (s_t ρ 24 (a + s.length) x) 26 0 (nI (a + (s ++ [t]).length))) ∧ (∀ q, q < (s ++ [t]).length → s_t (s_t ρ 24 (a + s.length) x) 26 0 (nI (a + (s ++ [t]).length)) 24 (a + q) = mcode ((s ++ [t]).getD q 0)) := by
  obtain ⟨h1, h2, h3, ⟨h4, h5⟩, ⟨h6, -⟩, -⟩ := H
  constructor
  · unfold f_X9_emits f_X9_emits_0
    rw [h4, z_in (by omega) (by decide), nI_clamp (by omega), lt_d, lt_d, st_ne (show (26 : Nat) ≠ 24 by omega), h4, nI_1, List.length_append]
    rfl
  · intro q hq
    rw [st_ne (show (24 : Nat) ≠ 26 by omega), st_k]
    simp only [List.length_append, List.length_cons, List.length_nil] at hq
    by_cases e : q = s.length
    · rw [if_pos (by omega), hx, e]
      simp
    · rw [if_neg (by omega), h5 q (by omega)]
      congr 1
      simp [List.getElem?_append_left (show q < s.length by omega)]
def wh : List Nat → List Nat
  | [] => []
  | w :: W => if w = 33 then wh W else w :: W
def ng : List Nat → Nat
  | [] => 0
  | w :: W => if w = 33 then ng W + 1 else 0
def negs (W : List Nat) : List Nat := List.replicate (ng W) 1800
theorem top_at {w : Nat} (h : ∀ q, q < (w :: W).length → ρ 25 ((w :: W).length - 1 - q) = nI ((w :: W).getD q 0)) : ρ 25 W.length = nI w := by
  have := h 0 (by simp)
  simpa using this
theorem tl_at {w : Nat} {ρ' : Mm} (h : ∀ q, q < (w :: W).length → ρ 25 ((w :: W).length - 1 - q) = nI ((w :: W).getD q 0)) (e : ρ' 25 = ρ 25) : ∀ q, q < W.length → ρ' 25 (W.length - 1 - q) = nI (W.getD q 0) := fun q hq => by
  have := h (q + 1) (by simp; omega)
  rw [e]
  simp only [List.length_cons] at this
  rw [show W.length + 1 - 1 - (q + 1) = W.length - 1 - q by omega] at this
  simpa using this
theorem k_whole (hn : n ≤ 100) (hin : i ≤ n) (ha : a ≤ 500 + p0) : ∀ (W s : List Nat) (ρ : Mm) (fu : Nat), MS n T c a p0 ρ0 i W s ρ → W.length < fu → ∃ ρ' : Mm, f_X9_whole_0L fu ρ = some ρ' ∧ MS n T c a p0 ρ0 i (wh W) (s ++ negs W) ρ' := by
  intro W
  induction W with
  | nil =>
    intro s ρ fu H hf
    obtain ⟨fu, rfl⟩ : ∃ j, fu = j + 1 := ⟨fu - 1, by omega⟩
    refine ⟨ρ, ?_, by rw [show s ++ negs [] = s from List.append_nil s]; exact H⟩
    show f_X9_whole_0 _ _ = _
    unfold f_X9_whole_0
    rw [H.2.1.1, if_pos (show nI ([] : List Nat).length ≤ 0 by decide)]
  | cons w W ih =>
    intro s ρ fu H hf
    obtain ⟨fu, rfl⟩ : ∃ j, fu = j + 1 := ⟨fu - 1, by omega⟩
    obtain ⟨h1, ⟨h2, h2'⟩, h3, ⟨h4, h5⟩, ⟨h6, h6'⟩, h7, h8, h9⟩ := id H
    simp only [List.length_cons] at h2 h6 hf
    have htop := top_at h2'
    have g : f_X9_whole_0L (fu + 1) ρ = f_X9_whole_0 (f_X9_whole_0L fu) ρ := rfl
    rw [g]
    unfold f_X9_whole_0
    rw [h2, if_neg (nI_nle (by omega) (by omega)), nI_pred, z_in (by omega) (by decide), nI_clamp (by omega), htop]
    by_cases hw : w = 33
    · subst hw
      obtain ⟨e1, e2⟩ := H.emit (t := 1800) (x := -33) hn hin ha mcode_0.symm (Or.inl (by simp))
      rw [if_pos (show nI 33 = 33 from rfl), e1, bd_s, lt_d, lt_d, st_ne (show (27 : Nat) ≠ 26 by omega), st_ne (show (27 : Nat) ≠ 24 by omega), h2, nI_pred, st_ne (show (28 : Nat) ≠ 27 by omega), st_ne (show (28 : Nat) ≠ 26 by omega), st_ne (show (28 : Nat) ≠ 24 by omega), h3]
      have ho : opc (33 :: W) = opc W + 1 := by show (if (33 : Nat) = 33 ∨ (33 : Nat) = 40 then 1 else 0) + opc W = _; rw [if_pos (Or.inl rfl)]; omega
      rw [ho, nI_pred]
      obtain ⟨ρ', b1, b2⟩ := ih (s ++ [1800]) (s_t (s_t (s_t (s_t ρ 24 (a + s.length) (-33)) 26 0 (nI (a + (s ++ [1800]).length))) 27 0 (nI W.length)) 28 0 (nI (opc W))) fu ⟨h1.ef (fun k hk => by rw [st_ne (by omega), st_ne (by omega), st_ne (by omega), st_ne (by omega)]), ⟨by rw [st_ne (by omega), st_eq], tl_at h2' (by rw [st_ne (by omega), st_ne (by omega), st_ne (by omega), st_ne (by omega)])⟩, st_eq, ⟨by rw [st_ne (by omega), st_ne (by omega), st_eq], fun q hq => by
        rw [st_ne (show (24 : Nat) ≠ 28 by omega), st_ne (show (24 : Nat) ≠ 27 by omega)]
        exact e2 q hq⟩, ⟨by simp; omega, fun w hw => h6' w (by simp [hw])⟩, ((((EF.st h7 (by decide)).st (by decide)).st (by decide)).st (by decide)), fun x hx => by rw [st_ne (by omega), st_ne (by omega), st_ne (by omega), st_ne (by omega)]; exact h8 x hx, fun x hx => by
        rw [st_ne (by omega), st_ne (by omega), st_ne (by omega), st_k, if_neg (by omega)]
        exact h9 x hx⟩ (by omega)
      refine ⟨ρ', b1, ?_⟩
      have en : s ++ negs (33 :: W) = s ++ [1800] ++ negs W := by
        unfold negs
        rw [show ng (33 :: W) = ng W + 1 from if_pos rfl, List.replicate_succ]
        simp
      rw [show wh (33 :: W) = wh W from if_pos rfl, en]
      exact b2
    · have hw3 := h6' w (by simp)
      have hw2 : ¬ nI w = 33 := z_neq (b := 33) hw (by omega) (by omega)
      rw [if_neg hw2]
      refine ⟨ρ, rfl, ?_⟩
      have en : s ++ negs (w :: W) = s := by
        unfold negs
        rw [show ng (w :: W) = 0 from if_neg hw]
        exact List.append_nil s
      rw [show wh (w :: W) = w :: W from if_neg hw, en]
      exact H
def cd (w : Nat) : Nat := if w = 38 then 1801 else 1802
/-- what may stop a settling by p -/
def stopp (p : Nat) (Y : List Nat) : Prop := Y = [] ∨ ∃ y Y', Y = y :: Y' ∧ y ≠ 38 ∧ (y = 124 → p = 38)
theorem opc_op {w : Nat} {W : List Nat} (h : w = 38 ∨ w = 124) : opc (w :: W) = opc W := by
  show (if w = 33 ∨ w = 40 then 1 else 0) + opc W = _
  rw [if_neg (by omega), Nat.zero_add]
theorem k_settle (hn : n ≤ 100) (hin : i ≤ n) (ha : a ≤ 500 + p0) {p : Nat} (hp : p = 38 ∨ p = 124) {Y : List Nat} (hY : stopp p Y) : ∀ (P s : List Nat) (ρ : Mm) (fu : Nat), (∀ x, x ∈ P → x = 38 ∨ (x = 124 ∧ p ≠ 38)) → MS n T c a p0 ρ0 i (P ++ Y) s ρ → P.length < fu → ∃ ρ' : Mm, f_X9_settle_0L (nI p) fu ρ = some ρ' ∧ MS n T c a p0 ρ0 i Y (s ++ P.map cd) ρ' := by
  intro P
  induction P with
  | nil =>
    intro s ρ fu hP H hf
    obtain ⟨fu, rfl⟩ : ∃ j, fu = j + 1 := ⟨fu - 1, by omega⟩
    have H : MS n T c a p0 ρ0 i Y s ρ := H
    refine ⟨ρ, ?_, by rw [show s ++ List.map cd [] = s from List.append_nil s]; exact H⟩
    show f_X9_settle_0 _ _ _ = _
    unfold f_X9_settle_0
    obtain ⟨h1, ⟨h2, h2'⟩, h3, h4, ⟨h6, h6'⟩, -⟩ := id H
    rcases hY with rfl | ⟨y, Y', rfl, y1, y2⟩
    · rw [h2, if_pos (show nI ([] : List Nat).length ≤ 0 by decide)]
    · have hy := h6' y (by simp)
      simp only [List.length_cons] at h2 h6
      have htop := top_at h2'
      rw [h2, if_neg (nI_nle (by omega) (by omega)), nI_pred, z_in (by omega) (by decide), z_in (by omega) (by decide), nI_clamp (by omega), htop, if_neg (show ¬ nI y = 38 from z_neq (b := 38) y1 (by omega) (by omega))]
      by_cases h124 : y = 124
      · rw [if_pos (show nI y = 124 by rw [h124]; rfl), if_pos (show nI p = 38 by rw [y2 h124]; rfl)]
      · rw [if_neg (show ¬ nI y = 124 from z_neq (b := 124) h124 (by omega) (by omega))]
  | cons w P ih =>
    intro s ρ fu hP H hf
    obtain ⟨fu, rfl⟩ : ∃ j, fu = j + 1 := ⟨fu - 1, by omega⟩
    have H : MS n T c a p0 ρ0 i (w :: (P ++ Y)) s ρ := H
    obtain ⟨h1, ⟨h2, h2'⟩, h3, ⟨h4, h5⟩, ⟨h6, h6'⟩, h7, h8, h9⟩ := id H
    have hw := hP w (by simp)
    simp only [List.length_cons] at h2 h6 hf
    have htop := top_at h2'
    have hc : -(nI w) = mcode (cd w) := by
      rcases hw with rfl | ⟨rfl, -⟩
      · rw [show cd 38 = 1801 from rfl, mcode_1]; decide
      · rw [show cd 124 = 1802 from rfl, mcode_2]; decide
    have e1 : f_X9_emits (s_t ρ 27 0 (nI (P ++ Y).length)) (-(nI w)) = some (s_t (s_t (s_t ρ 27 0 (nI (P ++ Y).length)) 24 (a + s.length) (-(nI w))) 26 0 (nI (a + (s ++ [cd w]).length))) := by
      unfold f_X9_emits f_X9_emits_0
      rw [st_ne (show (26 : Nat) ≠ 27 by omega), h4, z_in (by omega) (by decide), nI_clamp (by omega), lt_d, lt_d, st_ne (show (26 : Nat) ≠ 24 by omega), st_ne (show (26 : Nat) ≠ 27 by omega), h4, nI_1, show (s ++ [cd w]).length = s.length + 1 by simp]
      rfl
    have step : f_X9_settle_45 (nI p) (f_X9_settle_0L (nI p) fu) ρ = f_X9_settle_0L (nI p) fu (s_t (s_t (s_t ρ 27 0 (nI (P ++ Y).length)) 24 (a + s.length) (-(nI w))) 26 0 (nI (a + (s ++ [cd w]).length))) := by
      unfold f_X9_settle_45
      rw [h2, nI_pred, lt_d, st_eq, z_in (by omega) (by decide), nI_clamp (by omega), st_ne (show (25 : Nat) ≠ 27 by omega), htop, e1, bd_s]
    have g : f_X9_settle_0L (nI p) (fu + 1) ρ = f_X9_settle_0L (nI p) fu (s_t (s_t (s_t ρ 27 0 (nI (P ++ Y).length)) 24 (a + s.length) (-(nI w))) 26 0 (nI (a + (s ++ [cd w]).length))) := by
      rw [← step]
      show f_X9_settle_0 _ _ _ = _
      unfold f_X9_settle_0
      rw [h2, if_neg (nI_nle (by omega) (by omega)), nI_pred, z_in (by omega) (by decide), z_in (by omega) (by decide), nI_clamp (by omega), htop]
      rcases hw with rfl | ⟨rfl, hp2⟩
      · rw [if_pos (show nI 38 = 38 from rfl)]
      · rw [if_neg (show ¬ nI 124 = 38 by decide), if_pos (show nI 124 = 124 from rfl), if_neg (show ¬ nI p = 38 from z_neq (b := 38) hp2 (by omega) (by omega))]
    rw [g]
    obtain ⟨ρ', b1, b2⟩ := ih (s ++ [cd w]) (s_t (s_t (s_t ρ 27 0 (nI (P ++ Y).length)) 24 (a + s.length) (-(nI w))) 26 0 (nI (a + (s ++ [cd w]).length))) fu (fun x hx => hP x (by simp [hx])) ⟨h1.ef (fun k hk => by rw [st_ne (by omega), st_ne (by omega), st_ne (by omega)]), ⟨by rw [st_ne (by omega), st_ne (by omega), st_eq], tl_at h2' (by rw [st_ne (by omega), st_ne (by omega), st_ne (by omega)])⟩, by
        rw [st_ne (by omega), st_ne (by omega), st_ne (by omega), h3, opc_op (by omega)], ⟨st_eq, fun q hq => by
        rw [st_ne (show (24 : Nat) ≠ 26 by omega), st_k]
        simp only [List.length_append, List.length_cons, List.length_nil] at hq
        by_cases e : q = s.length
        · rw [if_pos (by omega), hc, e]
          simp
        · rw [if_neg (by omega), st_ne (by omega), h5 q (by omega)]
          congr 1
          simp [List.getElem?_append_left (show q < s.length by omega)]⟩, ⟨by simp only [List.length_append, List.length_cons, List.length_nil] at h6 ⊢; omega, fun w' hw' => h6' w' (by simp at hw' ⊢; exact Or.inr hw')⟩, (((EF.st h7 (by decide)).st (by decide)).st (by decide)), fun x hx => by rw [st_ne (by omega), st_ne (by omega), st_ne (by omega)]; exact h8 x hx, fun x hx => by
        rw [st_ne (by omega), st_k, if_neg (by omega), st_ne (by omega)]
        exact h9 x hx⟩ (by omega)
    refine ⟨ρ', b1, ?_⟩
    have en : s ++ List.map cd (w :: P) = s ++ [cd w] ++ List.map cd P := by simp
    rw [en]
    exact b2
/-- something is put on what waits, and a sign is passed -/
theorem MS.push (H : MS n T c a p0 ρ0 i W s ρ) (hin : i < n) (hn : n ≤ 100) {w : Nat} (hw : w < 128) {x28 : Int32} (hx : x28 = nI (opc (w :: W))) : MS n T c a p0 ρ0 (i + 1) (w :: W) s (s_t (s_t (s_t (s_t ρ 28 0 x28) 25 W.length (nI w)) 27 0 (nI (W.length + 1))) 16 0 (nI (i + 1))) := by
  obtain ⟨h1, ⟨h2, h2'⟩, h3, ⟨h4, h5⟩, ⟨h6, h6'⟩, h7, h8, h9⟩ := H
  refine ⟨⟨?_, st_eq, ?_⟩, ⟨by rw [st_ne (by omega), st_eq]; rfl, fun q hq => ?_⟩, by rw [st_ne (by omega), st_ne (by omega), st_ne (by omega), st_eq, hx], ⟨by rw [st_ne (by omega), st_ne (by omega), st_ne (by omega), st_ne (by omega)]; exact h4, fun q hq => by rw [st_ne (by omega), st_ne (by omega), st_ne (by omega), st_ne (by omega)]; exact h5 q hq⟩, ⟨by simp only [List.length_cons]; omega, fun w' hw' => ?_⟩, ((((EF.st h7 (by decide)).st (by decide)).st (by decide)).st (by decide)), fun x hx => by rw [st_ne (by omega), st_ne (by omega), st_ne (by omega), st_ne (by omega)]; exact h8 x hx, fun x hx => by rw [st_ne (by omega), st_ne (by omega), st_ne (by omega), st_ne (by omega)]; exact h9 x hx⟩
  · rw [st_ne (by omega), st_ne (by omega), st_ne (by omega), st_ne (by omega)]; exact h1.1
  · rw [st_ne (by omega), st_ne (by omega), st_ne (by omega), st_ne (by omega)]; exact h1.2.2
  · rw [st_ne (show (25 : Nat) ≠ 16 by omega), st_ne (show (25 : Nat) ≠ 27 by omega), st_k]
    simp only [List.length_cons] at hq ⊢
    by_cases h0 : q = 0
    · subst h0
      rw [if_pos (by omega)]
      simp
    · obtain ⟨q, rfl⟩ : ∃ j, q = j + 1 := ⟨q - 1, by omega⟩
      rw [if_neg (by omega), st_ne (by omega), show W.length + 1 - 1 - (q + 1) = W.length - 1 - q by omega, h2' q (by omega)]
      simp
  · rcases List.mem_cons.mp hw' with e | e
    · rw [e]; exact hw
    · exact h6' w' e
end TB
