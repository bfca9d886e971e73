/-! PURE: a house's steps weighed, in both -/
def bI (b : Bool) : Int32 := if b = true then 1 else 0
theorem bI_0 {b : Bool} : bI b = 0 ↔ b = false := by cases b <;> decide
theorem bt_bI {b : Bool} {i : Nat} : bt (bI b) i = (b && decide (i = 0)) := by
  cases b
  · exact b_0 i
  · show bt 1 i = _
    rw [b_1, Bool.true_and]
theorem p_and1 {x : Int32} : x &&& 1 = bI (bt x 0) := b_ext (fun i hi => by
  rw [b_and, bt_bI, b_1]
  by_cases h : i = 0
  · subst h; rfl
  · simp [h])
def tb (fa : Nat → Int32) (t : Nat) : Bool := if t / 100 % 3 = 0 then decide (fa (t / 300) < nI (t % 100)) else if t / 100 % 3 = 1 then decide (fa (t / 300) = nI (t % 100)) else decide (nI (t % 100) < fa (t / 300))
def ev1 (fa : Nat → Int32) (t : Nat) (S : List Bool) : List Bool := if t < 1800 then tb fa t :: S else match S with
  | [] => []
  | b :: S => if t = 1800 then (!b) :: S else match S with
    | [] => []
    | a :: S => (if t = 1801 then a && b else a || b) :: S
def ev (fa : Nat → Int32) : List Nat → List Bool → List Bool
  | [], S => S
  | t :: L, S => ev fa L (ev1 fa t S)
/-- the depth goes as vd says -/
theorem ev1_len {fa : Nat → Int32} {t : Nat} {L : List Nat} {S : List Bool} (h : vd (t :: L) S.length) (hS : S.length ≤ 30) : vd L (ev1 fa t S).length ∧ (ev1 fa t S).length ≤ 30 := by
  unfold vd at h
  unfold ev1
  by_cases h1 : t < 1800
  · rw [if_pos h1] at h ⊢
    refine ⟨?_, ?_⟩
    · simpa using h.2
    · simp; omega
  · rw [if_neg h1] at h ⊢
    by_cases h2 : t = 1800
    · rw [if_pos h2] at h
      rcases S with _ | ⟨b, S⟩
      · exact absurd h.1 (by simp)
      · simp only [if_pos h2]
        exact ⟨by simpa using h.2, by simpa using hS⟩
    · rw [if_neg h2] at h
      rcases S with _ | ⟨b, _ | ⟨a, S⟩⟩
      · exact absurd h.2.1 (by simp)
      · exact absurd h.2.1 (by simp)
      · simp only [if_neg h2]
        have h3 := h.2.2
        simp only [List.length_cons] at h3 hS ⊢
        exact ⟨by simpa using h3, by omega⟩
def ENC (x : Int32) (S : List Bool) : Prop := ∀ i, i < 32 → bt x i = S.getD i false
theorem gD_ge {S : List Bool} {i : Nat} (h : S.length ≤ i) : S.getD i false = false := by
  rw [List.getD_eq_getElem?_getD, List.getElem?_eq_none h]
  rfl
/-- one step of the class -/
theorem w_step {h τo : Mm} {fa : Nat → Int32} {t i N : Nat} {L : List Nat} {S : List Bool} {x : Int32} (hN : h 1 0 = nI N) (hN2 : N ≤ 100) (hi : i < N) (ht : h 0 i = nI t) (hf : ∀ k, k < 6 → τo 11 k = fa k) (hv : vd (t :: L) S.length) (hS : S.length ≤ 30) (hx : ENC x S) : ∃ y : Int32, ENC y (ev1 fa t S) ∧ ∀ (k : Int32 → Int32 → Int32 → Option Int32) (v : Int32), f_X2_weighs_7 h τo k v x (nI i) = k v y (nI (i + 1)) := by
  have hl : x &&& 1 = bI (S.getD 0 false) := by rw [p_and1, hx 0 (by omega)]
  have pre : ∀ (k : Int32 → Int32 → Int32 → Option Int32) (v : Int32), f_X2_weighs_7 h τo k v x (nI i) = (if (1800 : Int32) ≤ nI t then (if nI t = (1800 : Int32) then (lt ((x ^^^ (1 : Int32))) (fun x14 => f_X2_weighs_190 h τo k v x14 (nI i))) else (if nI t = (1801 : Int32) then (lt (((x >>> ((1 : Int32) &&& 31)) &&& (x &&& 1 ||| (-2 : Int32)))) (fun x13 => f_X2_weighs_190 h τo k v x13 (nI i))) else (if nI t = (1802 : Int32) then (lt (((x >>> ((1 : Int32) &&& 31)) ||| x &&& 1)) (fun x12 => f_X2_weighs_190 h τo k v x12 (nI i))) else (if (2000 : Int32) ≤ nI t then (f_X2_weighs_185 h τo k (nI i) v (x &&& 1) ((2000 : Int32) - nI t)) else (f_X2_weighs_185 h τo k (nI i) v (x &&& 1) (nI t - (1900 : Int32))))))) else (gd (inB (nI t / (300 : Int32)) 6) (lt ((τo 11 (nI t / (300 : Int32)).toNatClampNeg)) (fun x16 => lt ((nI t - nI t / (100 : Int32) * (100 : Int32))) (fun x17 => if x17 ≤ x16 then (if x16 = x17 then (f_X2_weighs_78 h τo k v x (nI i) (nI t) (1 : Int32)) else (f_X2_weighs_78 h τo k v x (nI i) (nI t) (2 : Int32))) else (f_X2_weighs_78 h τo k v x (nI i) (nI t) (0 : Int32))))))) := by
    intro k v
    unfold f_X2_weighs_7
    rw [hN, if_neg (p_nle (by omega) hi), gd_of (p_inN (i := i) (n := 100) (by omega) (by decide)), nI_clamp (by omega), ht, lt_d, lt_d]
  unfold vd at hv
  by_cases h1 : t < 1800
  · have e1 : nI t / (300 : Int32) = nI (t / 300) := pk_div (d := 300) (by omega) (by omega) (by omega)
    have e2 : nI t - nI t / (100 : Int32) * (100 : Int32) = nI (t % 100) := pk_rem (d := 100) (by omega) (by omega) (by omega)
    have e3 : nI t / (100 : Int32) - nI t / (100 : Int32) / (3 : Int32) * (3 : Int32) = nI (t / 100 % 3) := by
      rw [show nI t / (100 : Int32) = nI (t / 100) from pk_div (d := 100) (by omega) (by omega) (by omega)]
      exact pk_rem (d := 3) (by omega) (by omega) (by omega)
    have n18 : ¬ (1800 : Int32) ≤ nI t := nI_ge (b := 1800) h1 (by omega)
    refine ⟨(x <<< ((1 : Int32) &&& 31)) ||| bI (tb fa t), ?_, ?_⟩
    · intro j hj
      rw [b_or, show (1 : Int32) = nI 1 from rfl, b_shl 1 (by omega) x hj, bt_bI]
      unfold ev1
      rw [if_pos h1]
      by_cases hj0 : j = 0
      · subst hj0; simp
      · obtain ⟨j, rfl⟩ : ∃ q, j = q + 1 := ⟨j - 1, by omega⟩
        simp [hx j (by omega)]
    · intro k v
      rw [pre, if_neg n18, e1, gd_of (p_inN (i := t / 300) (n := 6) (by omega) (by decide)), nI_clamp (by omega), hf (t / 300) (by omega), lt_d, lt_d, e2]
      unfold f_X2_weighs_78 f_X2_weighs_100 f_X2_weighs_190
      simp only [e3, lt_d, nI_1]
      have hr : t / 100 % 3 < 3 := Nat.mod_lt _ (by omega)
      unfold tb
      have c01 : ¬ (0 : Int32) = nI 1 := by decide
      have c02 : ¬ (0 : Int32) = nI 2 := by decide
      have c10 : ¬ (1 : Int32) = nI 0 := by decide
      have c12 : ¬ (1 : Int32) = nI 2 := by decide
      have c20 : ¬ (2 : Int32) = nI 0 := by decide
      have c21 : ¬ (2 : Int32) = nI 1 := by decide
      have c00 : (0 : Int32) = nI 0 := by decide
      have c11 : (1 : Int32) = nI 1 := by decide
      have c22 : (2 : Int32) = nI 2 := by decide
      generalize t / 100 % 3 = r at hr
      generalize fa (t / 300) = a
      generalize nI (t % 100) = n
      rcases (by omega : r = 0 ∨ r = 1 ∨ r = 2) with rfl | rfl | rfl
      · by_cases q : n ≤ a
        · have q2 : ¬ a < n := by rw [p_lt]; rw [p_le] at q; omega
          by_cases q3 : a = n
          · simp [q, q2, q3, bI, c10, c20]
          · simp [q, q2, q3, bI, c10, c20]
        · have q2 : a < n := by rw [p_lt]; rw [p_le] at q; omega
          simp [q, q2, bI, c00]
      · by_cases q : n ≤ a
        · by_cases q3 : a = n
          · simp [q3, bI, c11]
          · simp [q, q3, bI, c21]
        · have q3 : ¬ a = n := by
            intro z
            rw [z] at q
            exact q (Int32.le_refl n)
          simp [q, q3, bI, c01]
      · by_cases q : n ≤ a
        · by_cases q3 : a = n
          · have q2 : ¬ n < a := by rw [q3, p_lt]; omega
            subst q3
            simp [bI, c12]
          · have q2 : n < a := by
              rw [p_lt]; rw [p_le] at q; rw [p_eq] at q3; omega
            simp [q, q2, q3, bI, c22]
        · have q2 : ¬ n < a := by rw [p_lt]; rw [p_le] at q; omega
          simp [q, q2, bI, c02]
  · rw [if_neg h1] at hv
    have p18 : (1800 : Int32) ≤ nI t := by
      have : t < 2 ^ 31 := by
        by_cases h2 : t = 1800
        · omega
        · rw [if_neg h2] at hv; omega
      exact nI_le (a := 1800) (by omega) this
    by_cases h2 : t = 1800
    · rw [if_pos h2] at hv
      subst h2
      rcases S with _ | ⟨b, S⟩
      · exact absurd hv.1 (by simp)
      · refine ⟨x ^^^ 1, ?_, ?_⟩
        · intro j hj
          rw [b_xor, b_1, hx j hj]
          unfold ev1
          rw [if_neg h1]
          by_cases hj0 : j = 0
          · subst hj0; cases b <;> rfl
          · obtain ⟨j, rfl⟩ : ∃ q, j = q + 1 := ⟨j - 1, by omega⟩
            simp
        · intro k v
          rw [pre, if_pos p18, if_pos (show nI 1800 = 1800 from rfl)]
          unfold f_X2_weighs_190
          rw [lt_d, lt_d, nI_1]
    · rw [if_neg h2] at hv
      rcases S with _ | ⟨b, _ | ⟨a, S⟩⟩
      · exact absurd hv.2.1 (by simp)
      · exact absurd hv.2.1 (by simp)
      · have hl' : x &&& 1 = bI b := by rw [hl]; rfl
        have hsh : ∀ j, j < 32 → bt (x >>> ((1 : Int32) &&& 31)) j = (a :: S).getD j false := by
          intro j hj
          rw [show (1 : Int32) = nI 1 from rfl, b_sshr 1 (by omega) x hj]
          by_cases hj2 : 1 + j < 32
          · rw [if_pos hj2, hx _ hj2, Nat.add_comm]
            rfl
          · rw [if_neg hj2, hx 31 (by omega)]
            simp only [List.length_cons] at hS
            rw [gD_ge (by simp; omega), gD_ge (by simp; omega)]
        by_cases h3 : t = 1801
        · subst h3
          refine ⟨(x >>> ((1 : Int32) &&& 31)) &&& (bI b ||| (-2 : Int32)), ?_, ?_⟩
          · intro j hj
            rw [b_and, hsh j hj, b_or, bt_bI, (by decide : ∀ j, j < 32 → bt (-2) j = !decide (j = 0)) j hj]
            unfold ev1
            simp only [if_neg h1, if_neg h2, if_true]
            by_cases hj0 : j = 0
            · subst hj0; cases a <;> cases b <;> rfl
            · obtain ⟨j, rfl⟩ : ∃ q, j = q + 1 := ⟨j - 1, by omega⟩
              simp
          · intro k v
            rw [pre, if_pos p18, if_neg (show ¬ nI 1801 = 1800 by decide), if_pos (show nI 1801 = 1801 from rfl), hl']
            unfold f_X2_weighs_190
            rw [lt_d, lt_d, nI_1]
        · have h4 : t = 1802 := by omega
          subst h4
          refine ⟨(x >>> ((1 : Int32) &&& 31)) ||| bI b, ?_, ?_⟩
          · intro j hj
            rw [b_or, hsh j hj, bt_bI]
            unfold ev1
            simp only [if_neg h1, if_neg h2, if_neg h3]
            by_cases hj0 : j = 0
            · subst hj0; cases a <;> cases b <;> rfl
            · obtain ⟨j, rfl⟩ : ∃ q, j = q + 1 := ⟨j - 1, by omega⟩
              simp
          · intro k v
            rw [pre, if_pos p18, if_neg (show ¬ nI 1802 = 1800 by decide), if_neg (show ¬ nI 1802 = 1801 by decide), if_pos (show nI 1802 = 1802 from rfl), hl']
            unfold f_X2_weighs_190
            rw [lt_d, lt_d, nI_1]
