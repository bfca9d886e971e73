/-! PURE: a house's steps weighed, in both: runs -/
theorem w_run {h τo : Mm} {fa : Nat → Int32} {N : Nat} (hN : h 1 0 = nI N) (hN2 : N ≤ 100) (hf : ∀ k, k < 6 → τo 11 k = fa k) : ∀ (L : List Nat) (S : List Bool) (x : Int32) (i : Nat), vd L S.length → S.length ≤ 30 → ENC x S → i + L.length ≤ N → (∀ j, j < L.length → h 0 (i + j) = nI (L.getD j 0)) → ∃ y : Int32, ENC y (ev fa L S) ∧ (ev fa L S).length = 1 ∧ ∀ (n : Nat) (v : Int32), f_X2_weighs_7L h τo (n + L.length) v x (nI i) = f_X2_weighs_7L h τo n v y (nI (i + L.length)) := by
  intro L
  induction L with
  | nil =>
    intro S x i hv hS hx hi hL
    exact ⟨x, hx, hv, fun n v => rfl⟩
  | cons t L ih =>
    intro S x i hv hS hx hi hL
    simp only [List.length_cons] at hi
    obtain ⟨y, y1, y2⟩ := w_step (h := h) (τo := τo) (fa := fa) (i := i) hN hN2 (by omega) (by have := hL 0 (by simp); simpa using this) hf hv hS hx
    obtain ⟨v1, v2⟩ := ev1_len (fa := fa) hv hS
    obtain ⟨z, z1, z2, z3⟩ := ih (ev1 fa t S) y (i + 1) v1 v2 y1 (by omega) (fun j hj => by
      have := hL (j + 1) (by simpa using hj)
      rw [show i + 1 + j = i + (j + 1) by omega, this]
      simp)
    refine ⟨z, z1, z2, fun n v => ?_⟩
    show f_X2_weighs_7 h τo _ v x (nI i) = _
    rw [y2]
    refine (z3 n v).trans ?_
    rw [show i + 1 + L.length = i + (t :: L).length by simp; omega]
def csum (fa : Nat → Int32) : List Cl → Int32
  | [] => 0
  | c :: cs => (if c.1 = 2 then 0 else if (ev fa c.2.2 []).getD 0 false = true then (if c.1 = 0 then nI c.2.1 else -nI c.2.1) else 0) + csum fa cs
theorem w_fin {h τo : Mm} {N i t : Nat} {x : Int32} {b : Bool} {S : List Bool} (hN : h 1 0 = nI N) (hN2 : N ≤ 100) (hi : i < N) (ht : h 0 i = nI t) (h19 : 1900 ≤ t) (h21 : t < 2100) (hx : ENC x (b :: S)) (k : Int32 → Int32 → Int32 → Option Int32) (v : Int32) : f_X2_weighs_7 h τo k v x (nI i) = k (v + bI b * (if 2000 ≤ t then (2000 : Int32) - nI t else nI t - (1900 : Int32))) 0 (nI (i + 1)) := by
  have hl : x &&& 1 = bI b := by rw [p_and1, hx 0 (by omega)]; rfl
  have e1 : (1800 : Int32) ≤ nI t := nI_le (a := 1800) (by omega) (by omega)
  have e2 : ¬ nI t = (1800 : Int32) := fun q => by have := (nI_eq (a := t) (b := 1800) (by omega) (by omega)).mp q; omega
  have e3 : ¬ nI t = (1801 : Int32) := fun q => by have := (nI_eq (a := t) (b := 1801) (by omega) (by omega)).mp q; omega
  have e4 : ¬ nI t = (1802 : Int32) := fun q => by have := (nI_eq (a := t) (b := 1802) (by omega) (by omega)).mp q; omega
  unfold f_X2_weighs_7
  rw [hN, if_neg (p_nle (by omega) hi), gd_of (p_inN (i := i) (n := 100) (by omega) (by decide)), nI_clamp (by omega), ht, lt_d, lt_d, if_pos e1, if_neg e2, if_neg e3, if_neg e4, hl]
  unfold f_X2_weighs_185 f_X2_weighs_190
  by_cases h2 : 2000 ≤ t
  · rw [if_pos (show (2000 : Int32) ≤ nI t from nI_le (a := 2000) h2 (by omega)), if_pos h2, lt_d, lt_d, nI_1]
  · rw [if_neg (show ¬ (2000 : Int32) ≤ nI t from nI_ge (b := 2000) (by omega) (by omega)), if_neg h2, lt_d, lt_d, nI_1]
theorem i_one (x : Int32) : (1 : Int32) * x = x := Int32.one_mul x
theorem w_all {h τo : Mm} {fa : Nat → Int32} {N : Nat} (hN : h 1 0 = nI N) (hN2 : N ≤ 100) (hf : ∀ k, k < 6 → τo 11 k = fa k) : ∀ (cs : List Cl) (i : Nat), (∀ c, c ∈ cs → c.1 < 3 ∧ c.2.1 < 100 ∧ (c.1 < 2 → vd c.2.2 0)) → i + (csts cs).length ≤ N → (∀ j, j < (csts cs).length → h 0 (i + j) = nI ((csts cs).getD j 0)) → ∀ (n : Nat) (v : Int32), f_X2_weighs_7L h τo (n + (csts cs).length) v 0 (nI i) = f_X2_weighs_7L h τo n (v + csum fa cs) 0 (nI (i + (csts cs).length)) := by
  intro cs
  induction cs with
  | nil =>
    intro i hc hi hL n v
    show _ = f_X2_weighs_7L h τo n (v + 0) 0 (nI i)
    rw [Int32.add_zero]
    rfl
  | cons c cs ih =>
    intro i hc hi hL n v
    obtain ⟨c1, c2, c3⟩ := hc c (by simp)
    have hc' : ∀ d, d ∈ cs → d.1 < 3 ∧ d.2.1 < 100 ∧ (d.1 < 2 → vd d.2.2 0) := fun d hd => hc d (by simp [hd])
    by_cases h2 : c.1 = 2
    · have e1 : csts (c :: cs) = csts cs := by
        show cst c ++ csts cs = _
        unfold cst
        rw [if_pos h2]
        rfl
      have e2 : csum fa (c :: cs) = csum fa cs := by
        show _ + csum fa cs = _
        rw [if_pos h2, Int32.zero_add]
      rw [e1, e2]
      rw [e1] at hi hL
      exact ih i hc' hi hL n v
    · have e1 : csts (c :: cs) = c.2.2 ++ ((if c.1 = 0 then 1900 + c.2.1 else 2000 + c.2.1) :: csts cs) := by
        show cst c ++ csts cs = _
        unfold cst
        rw [if_neg h2]
        simp
      rw [e1] at hi hL
      simp only [List.length_append, List.length_cons] at hi hL
      obtain ⟨y, y1, y2, y3⟩ := w_run (h := h) (τo := τo) (fa := fa) hN hN2 hf c.2.2 [] 0 i (c3 (by omega)) (by simp) (fun j _ => by rw [b_0]; rfl) (by omega) (fun j hj => by
        rw [hL j (by omega)]
        simp [List.getElem?_append_left hj])
      obtain ⟨b, hb⟩ : ∃ b, ev fa c.2.2 [] = [b] := List.length_eq_one_iff.mp y2
      rw [hb] at y1
      have hfin := w_fin (h := h) (τo := τo) (i := i + c.2.2.length) (t := if c.1 = 0 then 1900 + c.2.1 else 2000 + c.2.1) hN hN2 (by omega) (by
        rw [hL c.2.2.length (by omega)]
        simp) (by split <;> omega) (by split <;> omega) y1
      have hih := ih (i + c.2.2.length + 1) hc' (by omega) (fun j hj => by
        rw [show i + c.2.2.length + 1 + j = i + (c.2.2.length + (j + 1)) by omega, hL (c.2.2.length + (j + 1)) (by omega)]
        congr 1
        simp [List.getElem?_append_right])
      rw [e1]
      simp only [List.length_append, List.length_cons]
      rw [show n + (c.2.2.length + ((csts cs).length + 1)) = (n + (csts cs).length + 1) + c.2.2.length by omega, y3]
      show f_X2_weighs_7 h τo _ v y (nI (i + c.2.2.length)) = _
      rw [hfin]
      refine (hih n _).trans ?_
      rw [show i + c.2.2.length + 1 + (csts cs).length = i + (c.2.2.length + ((csts cs).length + 1)) by omega]
      congr 1
      show _ = v + (_ + csum fa cs)
      rw [← Int32.add_assoc]
      congr 2
      rw [if_neg h2, hb]
      cases b
      · show (0 : Int32) * _ = _
        rw [Int32.zero_mul]
        rfl
      · show (1 : Int32) * _ = _
        rw [i_one]
        show _ = if c.1 = 0 then _ else _
        by_cases h0 : c.1 = 0
        · rw [if_pos h0, if_pos h0, if_neg (by omega)]
          rw [show (1900 : Int32) = nI 1900 from rfl, pk_sub (by omega), Nat.add_sub_cancel_left]
        · rw [if_neg h0, if_neg h0, if_pos (by omega), ← nI_add]
          rw [show (2000 : Int32) = nI 2000 from rfl]
          have : ∀ a b : Int32, a - (a + b) = -b := by
            intro a b
            rw [Int32.sub_eq_add_neg, Int32.neg_add, Int32.sub_eq_add_neg, ← Int32.add_assoc, Int32.add_right_neg, Int32.zero_add]
          exact this _ _
theorem w_weighs {h τo : Mm} {fa : Nat → Int32} {cs : List Cl} (H : CS h cs) (hc : ∀ c, c ∈ cs → c.1 < 3 ∧ c.2.1 < 100 ∧ (c.1 < 2 → vd c.2.2 0)) (hf : ∀ k, k < 6 → τo 11 k = fa k) : f_X2_weighs h τo = some (csum fa cs) := by
  obtain ⟨h1, h2, h3, -⟩ := H
  show f_X2_weighs_7L h τo FU 0 0 (nI 0) = _
  rw [FU_e, show 4000 = (4000 - (csts cs).length - 1 + 1) + (csts cs).length by omega, w_all h1 h2 hf cs 0 hc (by omega) (fun j hj => by rw [Nat.zero_add]; exact h3 j hj), Int32.zero_add]
  show f_X2_weighs_7 h τo _ _ _ _ = _
  unfold f_X2_weighs_7
  rw [h1, Nat.zero_add, if_pos (nI_le (Nat.le_refl _) (by omega))]
