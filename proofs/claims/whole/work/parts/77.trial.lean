/-! PURE: a trial begins and ends, in both -/
theorem cp_row (τ τo : Mm) (k N : Nat) (hN : N = 6 ∨ N = 24 ∨ N = 10 ∨ N = 5 ∨ N = 8) : ∃ τ' : Mm, gd (cpB (0 : Int32) (0 : Int32) (if (nI N) < (nI N) then (nI N) else (nI N)) N N) (lt (s_r τ k (va_cpy (τo k) (τ k) (0 : Int32).toNatClampNeg (0 : Int32).toNatClampNeg (if (nI N) < (nI N) then (nI N) else (nI N)).toNatClampNeg)) (fun τ2 => some τ2)) = some τ' ∧ (∀ p, p < N → τ' k p = τo k p) ∧ ∀ q, q ≠ k → τ' q = τ q := by
  have cc : cpB (0 : Int32) (0 : Int32) (if (nI N) < (nI N) then (nI N) else (nI N)) N N = true := by rcases hN with rfl | rfl | rfl | rfl | rfl <;> decide
  have nn : (if (nI N) < (nI N) then (nI N) else (nI N)).toNatClampNeg = N := by rcases hN with rfl | rfl | rfl | rfl | rfl <;> decide
  rw [gd_of cc, lt_d, nn]
  refine ⟨_, rfl, fun p hp => ?_, fun q hq => ?_⟩
  · rw [show ∀ F : Nat → Int32, s_r τ k F k = F from fun F => if_pos rfl, show (0 : Int32).toNatClampNeg = 0 from rfl, pk_cpy_in (Nat.zero_le _) (by omega)]
    congr 1
    omega
  · exact if_neg hq
theorem s_copies {τ τo : Mm} : ∃ τ' : Mm, f_X1_copies τ τo = some τ' ∧ EQ1 τ' τo ∧ τ' 0 = τ 0 ∧ τ' 1 = τ 1 := by
  obtain ⟨u1, a1, b1, c1⟩ := cp_row τ τo 2 6 (by omega)
  have a1 : f_X8_copy_1_1 τ τo = some u1 := a1
  obtain ⟨u2, a2, b2, c2⟩ := cp_row u1 τo 3 6 (by omega)
  have a2 : f_X8_copy_1_2 u1 τo = some u2 := a2
  obtain ⟨u3, a3, b3, c3⟩ := cp_row u2 τo 4 6 (by omega)
  have a3 : f_X8_copy_1_3 u2 τo = some u3 := a3
  obtain ⟨u4, a4, b4, c4⟩ := cp_row u3 τo 5 6 (by omega)
  have a4 : f_X8_copy_1_4 u3 τo = some u4 := a4
  obtain ⟨u5, a5, b5, c5⟩ := cp_row u4 τo 6 6 (by omega)
  have a5 : f_X8_copy_1_5 u4 τo = some u5 := a5
  obtain ⟨u6, a6, b6, c6⟩ := cp_row u5 τo 7 6 (by omega)
  have a6 : f_X8_copy_1_6 u5 τo = some u6 := a6
  obtain ⟨u7, a7, b7, c7⟩ := cp_row u6 τo 8 6 (by omega)
  have a7 : f_X8_copy_1_7 u6 τo = some u7 := a7
  obtain ⟨u8, a8, b8, c8⟩ := cp_row u7 τo 9 24 (by omega)
  have a8 : f_X8_copy_1_8 u7 τo = some u8 := a8
  obtain ⟨u9, a9, b9, c9⟩ := cp_row u8 τo 10 10 (by omega)
  have a9 : f_X8_copy_1_9 u8 τo = some u9 := a9
  unfold f_X1_copies f_X1_copies_0
  rw [a1, bd_s, a2, bd_s, a3, bd_s, a4, bd_s, a5, bd_s, a6, bd_s, a7, bd_s, a8, bd_s, a9, bd_s, lt_d, lt_d, lt_d, lt_d, lt_d]
  refine ⟨_, rfl, ?_, ?_, ?_⟩
  · intro k h2 h11
    refine ⟨fun h8 p hp => ?_, fun h9 p hp => ?_, fun h10 p hp => ?_, fun h12 h16 => ?_⟩
    · rw [st_ne (by omega), st_ne (by omega), st_ne (by omega), st_ne (by omega), st_ne (by omega), c9 k (by omega), c8 k (by omega)]
      rcases (by omega : k = 2 ∨ k = 3 ∨ k = 4 ∨ k = 5 ∨ k = 6 ∨ k = 7 ∨ k = 8) with rfl | rfl | rfl | rfl | rfl | rfl | rfl
      · rw [c7 _ (by omega), c6 _ (by omega), c5 _ (by omega), c4 _ (by omega), c3 _ (by omega), c2 _ (by omega), b1 p hp]
      · rw [c7 _ (by omega), c6 _ (by omega), c5 _ (by omega), c4 _ (by omega), c3 _ (by omega), b2 p hp]
      · rw [c7 _ (by omega), c6 _ (by omega), c5 _ (by omega), c4 _ (by omega), b3 p hp]
      · rw [c7 _ (by omega), c6 _ (by omega), c5 _ (by omega), b4 p hp]
      · rw [c7 _ (by omega), c6 _ (by omega), b5 p hp]
      · rw [c7 _ (by omega), b6 p hp]
      · rw [b7 p hp]
    · subst h9
      rw [st_ne (by omega), st_ne (by omega), st_ne (by omega), st_ne (by omega), st_ne (by omega), c9 _ (by omega), b8 p hp]
    · subst h10
      rw [st_ne (by omega), st_ne (by omega), st_ne (by omega), st_ne (by omega), st_ne (by omega), b9 p hp]
    · simp only [st_v]
      rcases (by omega : k = 12 ∨ k = 13 ∨ k = 14 ∨ k = 15 ∨ k = 16) with rfl | rfl | rfl | rfl | rfl <;> rfl
  · rw [st_ne (by omega), st_ne (by omega), st_ne (by omega), st_ne (by omega), st_ne (by omega), c9 _ (by omega), c8 _ (by omega), c7 _ (by omega), c6 _ (by omega), c5 _ (by omega), c4 _ (by omega), c3 _ (by omega), c2 _ (by omega), c1 _ (by omega)]
  · rw [st_ne (by omega), st_ne (by omega), st_ne (by omega), st_ne (by omega), st_ne (by omega), c9 _ (by omega), c8 _ (by omega), c7 _ (by omega), c6 _ (by omega), c5 _ (by omega), c4 _ (by omega), c3 _ (by omega), c2 _ (by omega), c1 _ (by omega)]
theorem s_copies4 {τ τo : Mm} {N : Nat} (hN : N = 5 ∨ N = 10 ∨ N = 8) : ∃ τ' : Mm, f_X4_copies τ τo N N = some τ' ∧ EQR N τ' τo := by
  obtain ⟨u1, a1, b1, c1⟩ := cp_row τ τo 0 N (by omega)
  have a1 : f_X8_copy_4_1 τ τo N N = some u1 := a1
  obtain ⟨u2, a2, b2, c2⟩ := cp_row u1 τo 1 N (by omega)
  have a2 : f_X8_copy_4_2 u1 τo N N = some u2 := a2
  obtain ⟨u3, a3, b3, c3⟩ := cp_row u2 τo 2 N (by omega)
  have a3 : f_X8_copy_4_3 u2 τo N N = some u3 := a3
  unfold f_X4_copies f_X4_copies_0
  rw [a1, bd_s, a2, bd_s, a3, bd_s, lt_d]
  refine ⟨_, rfl, st_eq, fun k p hk hp => ?_⟩
  rw [st_ne (by omega)]
  rcases (by omega : k = 0 ∨ k = 1 ∨ k = 2) with rfl | rfl | rfl
  · rw [c3 _ (by omega), c2 _ (by omega), b1 p hp]
  · rw [c3 _ (by omega), b2 p hp]
  · rw [b3 p hp]
def SVD (ρ ρ0 : Mm) : Prop := (∀ k, ¬ (1 ≤ k ∧ k ≤ 4 ∨ 7 ≤ k ∧ k ≤ 10 ∨ 30 ≤ k ∧ k ≤ 43) → ρ k = ρ0 k) ∧ (∀ k, 1 ≤ k → k ≤ 4 → ρ (32 + k) 0 = ρ0 k 0) ∧ ∀ k p, 7 ≤ k → k ≤ 10 → p < 6 → ρ (30 + k) p = ρ0 k p
theorem SVD.ef {ρ' ρ ρ0 : Mm} (h : SVD ρ ρ0) (e : EF [1, 2, 3, 4, 7, 8, 9, 10, 30] ρ' ρ) : SVD ρ' ρ0 := by
  have z : ∀ k, ¬ (1 ≤ k ∧ k ≤ 4 ∨ 7 ≤ k ∧ k ≤ 10 ∨ k = 30) → ρ' k = ρ k := fun k hk => e k (by simp; omega)
  exact ⟨fun k hk => (z k (by omega)).trans (h.1 k hk), fun k q r => by rw [z (32 + k) (by omega)]; exact h.2.1 k q r, fun k p q r s => by rw [z (30 + k) (by omega)]; exact h.2.2 k p q r s⟩
theorem s_svL : ∀ (k i n : Nat) (ρ : Mm), i + k = 6 → k < n → ∃ ρ' : Mm, f_X9_save_48L n ρ (nI i) = some ρ' ∧ (∀ q, ¬ (37 ≤ q ∧ q ≤ 40) → ρ' q = ρ q) ∧ ∀ q p, 7 ≤ q → q ≤ 10 → p < 6 → ρ' (30 + q) p = if i ≤ p then ρ q p else ρ (30 + q) p := by
  intro k
  induction k with
  | zero =>
    intro i n ρ hi hn
    obtain ⟨n, rfl⟩ : ∃ j, n = j + 1 := ⟨n - 1, by omega⟩
    refine ⟨ρ, ?_, fun _ _ => rfl, fun q p h1 h2 h3 => by rw [if_neg (by omega)]⟩
    show f_X9_save_48 _ _ _ = _
    unfold f_X9_save_48
    rw [show i = 6 by omega, if_pos (by decide)]
  | succ k ih =>
    intro i n ρ hi hn
    obtain ⟨n, rfl⟩ : ∃ j, n = j + 1 := ⟨n - 1, by omega⟩
    have g := fun {β : Type} (x : Option β) => gd_of (x := x) (p_inN (i := i) (n := 6) (by omega) (by decide))
    have c : (nI i).toNatClampNeg = i := nI_clamp (by omega)
    obtain ⟨ρ', a1, a2, a3⟩ := ih (i + 1) n (s_t (s_t (s_t (s_t ρ 37 i (ρ 7 i)) 38 i (ρ 8 i)) 39 i (ρ 9 i)) 40 i (ρ 10 i)) (by omega) (by omega)
    refine ⟨ρ', ?_, fun q hq => ?_, fun q p h1 h2 h3 => ?_⟩
    · show f_X9_save_48 _ _ _ = _
      unfold f_X9_save_48
      rw [if_neg (show ¬ (6 : Int32) ≤ nI i from nI_ge (b := 6) (by omega) (by omega))]
      simp only [g, c, lt_d, nI_1]
      exact a1
    · rw [a2 q hq, st_ne (by omega), st_ne (by omega), st_ne (by omega), st_ne (by omega)]
    · rw [a3 q p h1 h2 h3]
      by_cases hp : p = i
      · subst hp
        rw [if_neg (by omega), if_pos (Nat.le_refl _)]
        rcases (by omega : q = 7 ∨ q = 8 ∨ q = 9 ∨ q = 10) with rfl | rfl | rfl | rfl <;> simp [st_v]
      · by_cases hp2 : i + 1 ≤ p
        · rw [if_pos hp2, if_pos (by omega), st_ne (by omega), st_ne (by omega), st_ne (by omega), st_ne (by omega)]
        · rw [if_neg hp2, if_neg (by omega)]
          simp only [st_v]
          rw [if_neg (by omega), if_neg (by omega), if_neg (by omega), if_neg (by omega)]
theorem s_save {ρ : Mm} : ∃ ρ' : Mm, f_X9_save ρ = some ρ' ∧ (∀ k, ¬ (31 ≤ k ∧ k ≤ 40) → ρ' k = ρ k) ∧ ρ' 31 0 = 2000000000 ∧ ρ' 32 0 = 2000000000 ∧ SVD ρ' ρ := by
  obtain ⟨ρ', a1, a2, a3⟩ := s_svL 6 0 FU (s_t (s_t (s_t (s_t (s_t (s_t ρ 31 0 (2000000000 : Int32)) 32 0 (2000000000 : Int32)) 33 0 (ρ 1 0)) 34 0 (ρ 2 0)) 35 0 (ρ 3 0)) 36 0 (ρ 4 0)) (by omega) (by rw [FU_e]; omega)
  have z : ∀ k, ¬ (31 ≤ k ∧ k ≤ 40) → ρ' k = ρ k := fun k hk => by
    rw [a2 k (by omega), st_ne (by omega), st_ne (by omega), st_ne (by omega), st_ne (by omega), st_ne (by omega), st_ne (by omega)]
  have a0 : f_X9_save ρ = some ρ' := by
    unfold f_X9_save f_X9_save_0
    simp only [lt_d, st_ne (show (1 : Nat) ≠ 31 by decide), st_ne (show (1 : Nat) ≠ 32 by decide), st_ne (show (2 : Nat) ≠ 31 by decide), st_ne (show (2 : Nat) ≠ 32 by decide), st_ne (show (2 : Nat) ≠ 33 by decide), st_ne (show (3 : Nat) ≠ 31 by decide), st_ne (show (3 : Nat) ≠ 32 by decide), st_ne (show (3 : Nat) ≠ 33 by decide), st_ne (show (3 : Nat) ≠ 34 by decide), st_ne (show (4 : Nat) ≠ 31 by decide), st_ne (show (4 : Nat) ≠ 32 by decide), st_ne (show (4 : Nat) ≠ 33 by decide), st_ne (show (4 : Nat) ≠ 34 by decide), st_ne (show (4 : Nat) ≠ 35 by decide)]
    exact a1
  refine ⟨ρ', a0, z, ?_, ?_, fun k hk => z k (by omega), fun k q r => ?_, fun k p q r s => ?_⟩
  · rw [a2 31 (by omega)]
    simp [st_v]
  · rw [a2 32 (by omega)]
    simp [st_v]
  · rw [a2 (32 + k) (by omega)]
    rcases (by omega : k = 1 ∨ k = 2 ∨ k = 3 ∨ k = 4) with rfl | rfl | rfl | rfl <;> simp [st_v]
  · rw [a3 k p q r s, if_pos (Nat.zero_le _), st_ne (by omega), st_ne (by omega), st_ne (by omega), st_ne (by omega), st_ne (by omega), st_ne (by omega)]
theorem s_ptL : ∀ (k i n : Nat) (ρ : Mm), i + k = 6 → k < n → ∃ ρ' : Mm, f_X9_putBack_47L n ρ (nI i) = some ρ' ∧ (∀ q, ¬ (7 ≤ q ∧ q ≤ 10) → ρ' q = ρ q) ∧ ∀ q p, 7 ≤ q → q ≤ 10 → p < 6 → ρ' q p = if i ≤ p then ρ (30 + q) p else ρ q p := by
  intro k
  induction k with
  | zero =>
    intro i n ρ hi hn
    obtain ⟨n, rfl⟩ : ∃ j, n = j + 1 := ⟨n - 1, by omega⟩
    refine ⟨ρ, ?_, fun _ _ => rfl, fun q p h1 h2 h3 => by rw [if_neg (by omega)]⟩
    show f_X9_putBack_47 _ _ _ = _
    unfold f_X9_putBack_47
    rw [show i = 6 by omega, if_pos (by decide)]
  | succ k ih =>
    intro i n ρ hi hn
    obtain ⟨n, rfl⟩ : ∃ j, n = j + 1 := ⟨n - 1, by omega⟩
    have g := fun {β : Type} (x : Option β) => gd_of (x := x) (p_inN (i := i) (n := 6) (by omega) (by decide))
    have c : (nI i).toNatClampNeg = i := nI_clamp (by omega)
    obtain ⟨ρ', a1, a2, a3⟩ := ih (i + 1) n (s_t (s_t (s_t (s_t ρ 7 i (ρ 37 i)) 8 i (ρ 38 i)) 9 i (ρ 39 i)) 10 i (ρ 40 i)) (by omega) (by omega)
    refine ⟨ρ', ?_, fun q hq => ?_, fun q p h1 h2 h3 => ?_⟩
    · show f_X9_putBack_47 _ _ _ = _
      unfold f_X9_putBack_47
      rw [if_neg (show ¬ (6 : Int32) ≤ nI i from nI_ge (b := 6) (by omega) (by omega))]
      simp only [g, c, lt_d, nI_1]
      exact a1
    · rw [a2 q hq, st_ne (by omega), st_ne (by omega), st_ne (by omega), st_ne (by omega)]
    · rw [a3 q p h1 h2 h3]
      by_cases hp : p = i
      · subst hp
        rw [if_neg (by omega), if_pos (Nat.le_refl _)]
        rcases (by omega : q = 7 ∨ q = 8 ∨ q = 9 ∨ q = 10) with rfl | rfl | rfl | rfl <;> simp [st_v]
      · by_cases hp2 : i + 1 ≤ p
        · rw [if_pos hp2, if_pos (by omega), st_ne (by omega), st_ne (by omega), st_ne (by omega), st_ne (by omega)]
        · rw [if_neg hp2, if_neg (by omega)]
          simp only [st_v]
          rw [if_neg (by omega), if_neg (by omega), if_neg (by omega), if_neg (by omega)]
theorem s_put {ρ ρ0 : Mm} (S : SVD ρ ρ0) : ∃ ρ' : Mm, f_X9_putBack ρ = some ρ' ∧ EQ9 ρ' ρ0 ∧ ρ' 31 0 = 9999 ∧ ρ' 32 0 = 999999 := by
  obtain ⟨ρ', a1, a2, a3⟩ := s_ptL 6 0 FU (s_t (s_t (s_t (s_t (s_t (s_t ρ 31 0 (9999 : Int32)) 32 0 (999999 : Int32)) 1 0 (ρ 33 0)) 2 0 (ρ 34 0)) 3 0 (ρ 35 0)) 4 0 (ρ 36 0)) (by omega) (by rw [FU_e]; omega)
  have a0 : f_X9_putBack ρ = some ρ' := by
    unfold f_X9_putBack f_X9_putBack_0
    simp only [lt_d, st_ne (show (33 : Nat) ≠ 31 by decide), st_ne (show (33 : Nat) ≠ 32 by decide), st_ne (show (34 : Nat) ≠ 31 by decide), st_ne (show (34 : Nat) ≠ 32 by decide), st_ne (show (34 : Nat) ≠ 1 by decide), st_ne (show (35 : Nat) ≠ 31 by decide), st_ne (show (35 : Nat) ≠ 32 by decide), st_ne (show (35 : Nat) ≠ 1 by decide), st_ne (show (35 : Nat) ≠ 2 by decide), st_ne (show (36 : Nat) ≠ 31 by decide), st_ne (show (36 : Nat) ≠ 32 by decide), st_ne (show (36 : Nat) ≠ 1 by decide), st_ne (show (36 : Nat) ≠ 2 by decide), st_ne (show (36 : Nat) ≠ 3 by decide)]
    exact a1
  refine ⟨ρ', a0, ⟨fun k hk => ?_, fun k q r => ?_, fun k p q r s => ?_⟩, ?_, ?_⟩
  · rw [a2 k (by omega), st_ne (by omega), st_ne (by omega), st_ne (by omega), st_ne (by omega), st_ne (by omega), st_ne (by omega)]
    exact S.1 k hk
  · rw [a2 k (by omega), ← S.2.1 k q r]
    rcases (by omega : k = 1 ∨ k = 2 ∨ k = 3 ∨ k = 4) with rfl | rfl | rfl | rfl <;> simp [st_v]
  · rw [a3 k p q r s, if_pos (Nat.zero_le _), st_ne (by omega), st_ne (by omega), st_ne (by omega), st_ne (by omega), st_ne (by omega), st_ne (by omega)]
    exact S.2.2 k p q r s
  · rw [a2 31 (by omega)]
    simp [st_v]
  · rw [a2 32 (by omega)]
    simp [st_v]
/-- a trial's beginning -/
def TR (C M m w : Nat) (σ : Ms) (ρ τ2 ρ2 : Mm) : Prop := HR M m w m τ2 ρ2 ∧ w ≤ 10 * m ∧ (∀ hs : Ms, (∀ o, 14 ≤ o → o < 20 → hs o = σ o) → HH (τ2 16 0) hs ρ2) ∧ Lim C τ2 ρ2 ∧ SVD ρ2 ρ ∧ τ2 0 = σ 2 0 ∧ τ2 1 = σ 2 1
theorem HH.eq {x y : Int32} {hs : Ms} {ρ : Mm} (h : HH x hs ρ) (e : y = x) : HH y hs ρ := by rw [e]; exact h
theorem RX.trial {nh : Nat} {σ : Ms} {ρ : Mm} {ℓ : Mz} {η : Mj} (R : RX nh σ ρ ℓ η) : ∃ (M m w : Nat) (τ2 ρ2 : Mm), f_X1_copies (σ 2) (σ 1) = some τ2 ∧ f_X9_save ρ = some ρ2 ∧ TR 30000 M m w σ ρ τ2 ρ2 ∧ m ≤ 9999 ∧ HR M m w m (σ 1) ρ ∧ EQ1 τ2 (σ 1) ∧ (∀ k, ¬ (31 ≤ k ∧ k ≤ 40) → ρ2 k = ρ k) := by
  obtain ⟨τ2, a1, a2, a3, a4⟩ := s_copies (τ := σ 2) (τo := σ 1)
  obtain ⟨ρ2, b1, b2, b3, b4, b5⟩ := s_save (ρ := ρ)
  obtain ⟨M, m, w, H, hm, hw, -⟩ := R.1
  have L := R.2.1
  refine ⟨M, m, w, τ2, ρ2, a1, b1, ⟨HR_e H a2 ⟨fun k hk => b2 k (by omega), fun k q r => by rw [b2 k (by omega)], fun k p q r s => by rw [b2 k (by omega)]⟩, hw, fun hs h => ?_, ?_, b5, a3, a4⟩, hm, H, a2, b2⟩
  · exact ((R.HH h).of (fun k hk => b2 k (by omega))).eq (a2.k0 (by omega))
  · unfold Lim
    rw [a3, a4, L.2.1.1, L.2.1.2, b3, b4]
    decide +kernel
theorem RX.back {nh : Nat} {σ σ' : Ms} {ρ ρ3 : Mm} {ℓ : Mz} {η : Mj} (R : RX nh σ ρ ℓ η) (hσ : ∀ o, o ≠ 2 → σ' o = σ o) (h2 : σ' 2 0 = σ 2 0 ∧ σ' 2 1 = σ 2 1) (S : SVD ρ3 ρ) : ∃ ρ4 : Mm, f_X9_putBack ρ3 = some ρ4 ∧ RX nh σ' ρ4 ℓ η ∧ EQ9 ρ4 ρ := by
  obtain ⟨ρ4, a1, a2, a3⟩ := s_put S
  exact ⟨ρ4, a1, R.fr (fun o _ h _ _ => hσ o h) (fun k _ => by rw [hσ 1 (by omega)]) (by rw [h2.1, h2.2]; exact ⟨rfl, rfl⟩) a2 a3, a2⟩
/-- minutes of a trial -/
theorem TR.mins {C M m w n : Nat} {σ : Ms} {ρ τ2 ρ2 : Mm} (T : TR C M m w σ ρ τ2 ρ2) (hC : C ≤ 30000) (hn : m + n ≤ C) {hs : Ms} (hh : ∀ o, 14 ≤ o → o < 20 → hs o = σ o) : ∃ (w' : Nat) (τ3 ρ3 : Mm), cmins hs n τ2 τ3 ∧ mmins n ρ2 ρ3 ∧ TR C M (m + n) w' σ ρ τ3 ρ3 ∧ EF [4, 5, 6, 8, 11, 13, 14, 15] τ3 τ2 ∧ EF [2, 3, 4, 7, 8, 9, 10, 30] ρ3 ρ2 := by
  obtain ⟨H, hw, hH, L, S, z0, z1⟩ := T
  obtain ⟨τ3, ρ3, w', a1, a2, a3, a4, a5, a6, -⟩ := s_mins hC n m w τ2 ρ2 H (hH hs hh) L hn hw
  refine ⟨w', τ3, ρ3, a1, a2, ⟨a4, a3, fun hs' hh' => ?_, L.of (a5 0 (by decide)) (a5 1 (by decide)) (a6 31 (by decide)) (a6 32 (by decide)), S.ef (a6.sub (by decide)), (a5 0 (by decide)).trans z0, (a5 1 (by decide)).trans z1⟩, a5, a6⟩
  rw [a5 16 (by decide)]
  exact (hH hs' hh').of (fun k hk => a6 k (by simp; omega))
theorem TR.hh {C M m w : Nat} {σ : Ms} {ρ τ2 ρ2 : Mm} (T : TR C M m w σ ρ τ2 ρ2) {hs : Ms} (hh : ∀ o, 14 ≤ o → o < 20 → hs o = σ o) : HH (τ2 16 0) hs ρ2 := T.2.2.1 hs hh
theorem TR.gives {C M m w : Nat} {σ : Ms} {ρ τ2 ρ2 : Mm} (T : TR C M m w σ ρ τ2 ρ2) {hs : Ms} (hh : ∀ o, 14 ≤ o → o < 20 → hs o = σ o) : ∃ (τ3 ρ3 : Mm), f_X1_gives τ2 hs = some τ3 ∧ f_X9_giveGoals ρ2 = some ρ3 ∧ TR C M m w σ ρ τ3 ρ3 := by
  obtain ⟨H, hw, hH, L, S, z0, z1⟩ := T
  obtain ⟨τ3, ρ3, a1, a2, a3, a4, a5⟩ := s_gives H (hH hs hh)
  refine ⟨τ3, ρ3, a1, a2, a3, hw, fun hs' hh' => ?_, L.of (a4 0 (by decide)) (a4 1 (by decide)) (a5 31 (by decide)) (a5 32 (by decide)), S.ef (a5.sub (by decide)), (a4 0 (by decide)).trans z0, (a4 1 (by decide)).trans z1⟩
  rw [a4 16 (by decide)]
  exact (hH hs' hh').of (fun k hk => a5 k (by simp; omega))
