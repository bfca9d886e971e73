/-! PURE: a house's clauses, in both -/
/-- the letters of slow, keen, rest -/
def wch (x k : Nat) : Nat := ([115, 108, 111, 119, 32, 107, 101, 101, 110, 32, 114, 101, 115, 116, 32] : List Nat).getD (5 * x + k) 0
/-- where the class keeps such a word -/
def cw (x : Nat) : Nat := if x = 0 then 1 else if x = 1 then 0 else 2
theorem cw_len : ∀ x, x < 3 → f_J0_length_8abf5 (cw x) = some 5 := by decide +kernel
theorem cw_at : ∀ x, x < 3 → ∀ k, k < 5 → f_J0_charAt_5068e (cw x) (nI k) = some (nI (wch x k)) := by decide +kernel
theorem wch_lt : ∀ x, x < 3 → ∀ k, k < 5 → wch x k < 128 := by decide
theorem wch_l : ∀ x, x < 3 → ∀ k, k < 4 → ltr (4 * x + k) = nI (wch x k) := by decide
theorem wch_s : ∀ x, x < 3 → wch x 4 = 32 := by decide
section TE
variable {n h i : Nat} {T : Nat → Nat}
theorem k_word (X : TX n T) {x : Nat} (hx : x < 3) : ∀ (r k i m m' : Nat) (t ρ : Mm), k + r = 4 → i ≤ n → T8 n h T i t → M9 n T i ρ → (∀ q, q < 12 → ρ 29 q = ltr q) → r + 1 < m → r < m' → ∃ (b : Int32) (j : Nat) (t' ρ' : Mm), (b = 0 ∨ b = 1) ∧ i ≤ j ∧ j ≤ n ∧ f_X7_takesAll_2L (cw x) m t (nI k) = some (b, t') ∧ f_X9_takesWord_2L (nI (4 * x)) 4 m' ρ (nI k) = some (b, ρ') ∧ T8 n h T j t' ∧ EF [2] t' t ∧ M9 n T j ρ' ∧ EF [16] ρ' ρ := by
  intro r
  induction r with
  | zero =>
    intro k i m m' t ρ hk hin H8 H9 hl hm hm'
    obtain rfl : k = 4 := hk
    obtain ⟨m, rfl⟩ : ∃ q, m = q + 1 + 1 := ⟨m - 2, by omega⟩
    obtain ⟨m', rfl⟩ : ∃ q, m' = q + 1 := ⟨m' - 1, by omega⟩
    have e8 : f_X7_takesAll_2L (cw x) (m + 1 + 1) t (nI 4) = f_X7_takesAll_2 (cw x) (f_X7_takesAll_2L (cw x) (m + 1)) t (nI 4) := rfl
    have e9 : f_X9_takesWord_2L (nI (4 * x)) 4 (m' + 1) ρ (nI 4) = f_X9_takesWord_2 (nI (4 * x)) 4 (f_X9_takesWord_2L (nI (4 * x)) 4 m') ρ (nI 4) := rfl
    have e7 : ∀ t1, f_X7_takesAll_2L (cw x) (m + 1) t1 (nI 4 + 1) = some (1, t1) := fun t1 => by
      show f_X7_takesAll_2 (cw x) (f_X7_takesAll_2L (cw x) m) t1 (nI 4 + 1) = _
      unfold f_X7_takesAll_2
      rw [cw_len x hx, bd_s, if_pos (by decide)]
    have t9 : f_X9_takes ρ 32 = _ := k_takes9 X H9 hin (c := 32) (by omega)
    rw [e8, e9]
    unfold f_X7_takesAll_2 f_X9_takesWord_2
    rw [cw_len x hx, bd_s, if_neg (show ¬ (5 : Int32) ≤ nI 4 by decide), cw_at x hx 4 (by omega), bd_s, wch_s x hx, if_pos (show (4 : Int32) ≤ nI 4 by decide), k_takes8 X H8 hin (c := 32) (by omega), t9]
    by_cases hT : i < n ∧ T i = 32
    · rw [if_pos hT, if_pos hT, bd_s, bd_s]
      dsimp only
      rw [if_neg (by decide), lt_d, e7, gd_of (by decide)]
      exact ⟨1, i + 1, _, _, Or.inr rfl, by omega, hT.1, rfl, rfl, H8.at, ef_s (by decide), H9.at, ef_s (by decide)⟩
    · rw [if_neg hT, if_neg hT, bd_s, bd_s]
      dsimp only
      rw [if_pos rfl, gd_of (by decide)]
      exact ⟨0, i, _, _, Or.inl rfl, by omega, hin, rfl, rfl, H8, EF.rf, H9, EF.rf⟩
  | succ r ih =>
    intro k i m m' t ρ hk hin H8 H9 hl hm hm'
    obtain ⟨m, rfl⟩ : ∃ q, m = q + 1 := ⟨m - 1, by omega⟩
    obtain ⟨m', rfl⟩ : ∃ q, m' = q + 1 := ⟨m' - 1, by omega⟩
    have e8 : f_X7_takesAll_2L (cw x) (m + 1) t (nI k) = f_X7_takesAll_2 (cw x) (f_X7_takesAll_2L (cw x) m) t (nI k) := rfl
    have e9 : f_X9_takesWord_2L (nI (4 * x)) 4 (m' + 1) ρ (nI k) = f_X9_takesWord_2 (nI (4 * x)) 4 (f_X9_takesWord_2L (nI (4 * x)) 4 m') ρ (nI k) := rfl
    rw [e8, e9]
    unfold f_X7_takesAll_2 f_X9_takesWord_2
    have hw := wch_lt x hx k (by omega)
    rw [cw_len x hx, bd_s, if_neg (show ¬ (5 : Int32) ≤ nI k from nI_ge (b := 5) (by omega) (by omega)), cw_at x hx k (by omega), bd_s, if_neg (show ¬ (4 : Int32) ≤ nI k from nI_ge (b := 4) (by omega) (by omega)), k_takes8 X H8 hin hw, nI_add, z_in (by omega) (by decide), nI_clamp (by omega), hl _ (by omega), wch_l x hx k (by omega), k_takes9 X H9 hin hw]
    by_cases hT : i < n ∧ T i = wch x k
    · rw [if_pos hT, if_pos hT, bd_s, bd_s]
      dsimp only
      rw [if_neg (by decide), if_neg (by decide), lt_d, lt_d, nI_1]
      obtain ⟨b, j, t', ρ', h1, h2, h3, h4, h5, h6, h7, h8, h9⟩ := ih (k + 1) (i + 1) m m' (s_t t 2 0 (nI (i + 1))) (s_t ρ 16 0 (nI (i + 1))) (by omega) hT.1 H8.at H9.at (fun q hq => by rw [st_ne (by omega)]; exact hl q hq) (by omega) (by omega)
      exact ⟨b, j, t', ρ', h1, by omega, h3, h4, h5, h6, h7.tr (ef_s (by decide)), h8, h9.tr (ef_s (by decide))⟩
    · rw [if_neg hT, if_neg hT, bd_s, bd_s]
      dsimp only
      rw [if_pos rfl, if_pos rfl]
      exact ⟨0, i, _, _, Or.inl rfl, by omega, hin, rfl, rfl, H8, EF.rf, H9, EF.rf⟩
/-- what a clause leaves alone -/
def CF (c a : Nat) (ρ' ρ : Mm) : Prop := EF [16, 17, 20, 21, 22, 23, 24, 25, 26, 27, 28] ρ' ρ ∧ (∀ k x, 20 ≤ k → k ≤ 23 → x ≠ c → ρ' k x = ρ k x) ∧ ∀ x, x < a → ρ' 24 x = ρ 24 x
theorem CF.rf {c a : Nat} {ρ : Mm} : CF c a ρ ρ := ⟨EF.rf, fun _ _ _ _ _ => rfl, fun _ _ => rfl⟩
theorem CF.tr {c a : Nat} {u v w : Mm} (h1 : CF c a u v) (h2 : CF c a v w) : CF c a u w := ⟨h1.1.tr h2.1, fun k x p q r => (h1.2.1 k x p q r).trans (h2.2.1 k x p q r), fun x hx => (h1.2.2 x hx).trans (h2.2.2 x hx)⟩
theorem CF.ef {c a : Nat} {ρ' ρ : Mm} (h : EF [16, 17] ρ' ρ) : CF c a ρ' ρ := ⟨h.sub (by decide), fun k x p q _ => by rw [h k (by simp; omega)], fun x _ => by rw [h 24 (by decide)]⟩
theorem CF.s {c a k : Nat} {ρ : Mm} {v : Int32} (hk : 20 ≤ k ∧ k ≤ 23) : CF c a (s_t ρ k c v) ρ := ⟨ef_s (by simp; omega), fun k' x p q r => by rw [st_v, if_neg (fun z => r z.2)], fun x _ => by rw [st_ne (by omega)]⟩
theorem CF.fin {c a : Nat} {ρ' ρ : Mm} (h : FIN c a ρ ρ') : CF c a ρ' ρ := ⟨h.1.sub (by decide), fun k x p q r => by
  by_cases h3 : k = 23
  · rw [h3]; exact h.2.1 x r
  · rw [h.1 k (by simp; omega)], h.2.2⟩
/-- a clause of house j in the model, its steps below b -/
def CLa (j : Nat) (ρ : Mm) (c : Nat) (x : Cl) (b : Nat) : Prop := ρ 20 c = nI x.1 ∧ x.1 < 3 ∧ ρ 21 c = nI x.2.1 ∧ x.2.1 < 100 ∧ (x.1 < 2 → ∃ a : Nat, ρ 22 c = nI a ∧ ρ 23 c = nI (a + x.2.2.length) ∧ 100 * j ≤ a ∧ a + x.2.2.length ≤ b ∧ (∀ i, i < x.2.2.length → ρ 24 (a + i) = mcode (x.2.2.getD i 0)) ∧ vd x.2.2 0)
theorem CLa.cl {j c b : Nat} {ρ : Mm} {x : Cl} (h : CLa j ρ c x b) (hb : b ≤ 100 * j + 100) : CL j ρ c x := ⟨h.1, h.2.1, h.2.2.1, h.2.2.2.1, fun q => by
  obtain ⟨a, h1, h2, h3, h4, h5⟩ := h.2.2.2.2 q
  exact ⟨a, h1, h2, h3, by omega, h5⟩⟩
theorem CLa.fr {j c b b' : Nat} {ρ ρ' : Mm} {x : Cl} (h : CLa j ρ c x b) (h1 : ∀ k, 20 ≤ k → k ≤ 23 → ρ' k c = ρ k c) (h2 : ∀ x, x < b → ρ' 24 x = ρ 24 x) (hb : b ≤ b') : CLa j ρ' c x b' := by
  unfold CLa at h ⊢
  rw [h1 20 (by omega) (by omega), h1 21 (by omega) (by omega), h1 22 (by omega) (by omega), h1 23 (by omega) (by omega)]
  obtain ⟨a1, a2, a3, a4, a5⟩ := h
  refine ⟨a1, a2, a3, a4, fun q => ?_⟩
  obtain ⟨a, b1, b2, b3, b4, b5, b6⟩ := a5 q
  exact ⟨a, b1, b2, b3, by omega, fun i hi => by rw [h2 _ (by omega)]; exact b5 i hi, b6⟩
/-- a clause read, in both -/
def CLO (n h nh c : Nat) (T : Nat → Nat) (i a R : Nat) (L : List Nat) (hs : Ms) (t : Mm) (x : Option (Int32 × Mm × Ms)) (ρ : Mm) (y : Option (Int32 × Mm)) : Prop := ∃ (r : Int32) (t' h' ρ' : Mm) (j : Nat), x = some (r, t', va_up hs h h') ∧ y = some (r, ρ') ∧ T8 n h T j t' ∧ EF [2] t' t ∧ j ≤ n ∧ ρ' 16 0 = nI j ∧ CF c a ρ' ρ ∧ (r = 0 ∨ (r = 1 ∧ ∃ (cl : Cl) (a' : Nat), M9 n T j ρ' ∧ CLa nh ρ' c cl a' ∧ HST (L ++ cst cl) h' ∧ h' 2 0 = nI (if cl.1 = 2 then cl.2.1 else R) ∧ (L ++ cst cl).length ≤ j ∧ ρ' 26 0 = nI a' ∧ a ≤ a' ∧ a' ≤ 100 * nh + j))
/-- the model's clause, its word read -/
def mtl (p0 : Int32) (u1 : Int32 × Mm) : Option (Int32 × Mm) := if u1.1 = (0 : Int32) then (some ((0 : Int32), u1.2)) else (bd (f_X9_takesNumber u1.2) (fun u3 => if u3.1 = (0 : Int32) then (some ((0 : Int32), u3.2)) else (gd (inB p0 60) (lt (s_t u3.2 21 p0.toNatClampNeg (u3.2 17 0)) (fun τ6 => gd (inB p0 60) (if (τ6 20 p0.toNatClampNeg) = (2 : Int32) then (f_X9_takesClause_54 p0  τ6) else (bd (f_X9_takes τ6 (32 : Int32)) (fun u9 => if u9.1 = (0 : Int32) then (some ((0 : Int32), u9.2)) else (bd (f_X9_takesE u9.2 p0) (fun u11 => if u11.1 = (0 : Int32) then (some ((0 : Int32), u11.2)) else (f_X9_takesClause_54 p0  u11.2)))))))))))
theorem clause9 {ρ : Mm} {p0 : Int32} : f_X9_takesClause ρ p0 = bd (f_X9_takesHead ρ p0) (mtl p0) := rfl
def wd (ρ : Mm) (c x : Nat) : Option (Int32 × Mm) := bd (f_X9_takesWord (s_t ρ 20 c (nI x)) (nI (4 * x)) 4) (fun u => gd (isB u.1) (some (u.1, u.2)))
theorem k_c8 (X : TX n T) {t : Mm} (H : T8 n h T i t) (hin : i ≤ n) (hs : Ms) : f_X7_clause t hs = if i < n ∧ T i = 114 then bd (f_X7_rest t hs) (fun u22 => gd (isB u22.1) (some (u22.1, u22.2.1, u22.2.2))) else if i < n ∧ T i = 107 then f_X7_clause_73 t hs 1 0 else f_X7_clause_73 t hs 0 1 := by
  obtain ⟨h1, h2, h3, -⟩ := H
  have hn := X.1
  unfold f_X7_clause f_X7_clause_0 f_X7_clause_30 f_X7_clause_59 f_X7_clause_60
  rw [h1, h2]
  by_cases hi : i < n
  · have hT := X.2 i hi
    rw [if_neg (nI_ge hi (by omega)), if_neg (nI_ge hi (by omega)), z_in (by omega) (by decide), z_in (by omega) (by decide), nI_clamp (by omega), h3 i hi]
    by_cases h114 : T i = 114
    · rw [if_pos (show i < n ∧ T i = 114 from ⟨hi, h114⟩), h114, if_pos (show nI 114 = 114 from rfl)]
    · rw [if_neg (show ¬ (i < n ∧ T i = 114) from fun q => h114 q.2), if_neg (show ¬ nI (T i) = 114 from z_neq (b := 114) h114 (by omega) (by omega))]
      by_cases h107 : T i = 107
      · rw [if_pos (show i < n ∧ T i = 107 from ⟨hi, h107⟩), h107, if_pos (show nI 107 = 107 from rfl), i10]
      · rw [if_neg (show ¬ (i < n ∧ T i = 107) from fun q => h107 q.2), if_neg (show ¬ nI (T i) = 107 from z_neq (b := 107) h107 (by omega) (by omega)), i00]
  · rw [if_pos (nI_le (by omega) (by omega)), if_pos (nI_le (by omega) (by omega)), if_neg (show ¬ (i < n ∧ T i = 114) from fun q => hi q.1), if_neg (show ¬ (i < n ∧ T i = 107) from fun q => hi q.1), i00]
theorem k_h9 (X : TX n T) {ρ : Mm} (H : M9 n T i ρ) (hin : i ≤ n) {c : Nat} (hc : c < 60) : f_X9_takesHead ρ (nI c) = if i < n ∧ T i = 107 then wd ρ c 1 else if i < n ∧ T i = 115 then wd ρ c 0 else wd ρ c 2 := by
  have q0 : nI (4 * 0) = 0 := rfl
  have q1 : nI (4 * 1) = 4 := rfl
  have q2 : nI (4 * 2) = 8 := rfl
  have p1 : nI 1 = 1 := rfl
  have p2 : nI 2 = 2 := rfl
  unfold f_X9_takesHead f_X9_takesHead_0 wd
  rw [k_next X H hin, bd_s, z_in hc (by decide), z_in hc (by decide), z_in hc (by decide), nI_clamp (by omega), lt_d, lt_d, lt_d, q0, q1, q2, p1, p2]
  by_cases h107 : i < n ∧ T i = 107
  · rw [if_pos h107, if_pos (show (if i < n then nI (T i) else -1) = (107 : Int32) from (k_is X (c := 107) (by omega)).mpr h107)]
  · rw [if_neg h107, if_neg (show ¬ (if i < n then nI (T i) else -1) = (107 : Int32) from k_ne X (w := 107) (by omega) h107)]
    by_cases h115 : i < n ∧ T i = 115
    · rw [if_pos h115, if_pos (show (if i < n then nI (T i) else -1) = (115 : Int32) from (k_is X (c := 115) (by omega)).mpr h115)]
    · rw [if_neg h115, if_neg (show ¬ (if i < n then nI (T i) else -1) = (115 : Int32) from k_ne X (w := 115) (by omega) h115)]
/-- the word, in both -/
theorem k_wd (X : TX n T) {x c a : Nat} (hx : x < 3) {t ρ : Mm} (hin : i ≤ n) (H8 : T8 n h T i t) (H9 : M9 n T i ρ) (hl : ∀ q, q < 12 → ρ 29 q = ltr q) : ∃ (b : Int32) (j : Nat) (t' ρ' : Mm), (b = 0 ∨ b = 1) ∧ i ≤ j ∧ j ≤ n ∧ f_X7_takesAll t (cw x) = some (b, t') ∧ wd ρ c x = some (b, ρ') ∧ T8 n h T j t' ∧ EF [2] t' t ∧ M9 n T j ρ' ∧ CF c a ρ' ρ ∧ ρ' 20 c = nI x ∧ ρ' 26 = ρ 26 := by
  obtain ⟨b, j, t', ρ', h1, h2, h3, h4, h5, h6, h7, h8, h9⟩ := k_word (h := h) X hx 4 0 i FU FU t (s_t ρ 20 c (nI x)) rfl hin H8 (H9.ef (fun k hk => st_ne (by omega))) (fun q hq => by rw [st_ne (by omega)]; exact hl q hq) (by rw [FU_e]; omega) (by rw [FU_e]; omega)
  refine ⟨b, j, t', ρ', h1, h2, h3, ?_, ?_, h6, h7, h8, (CF.ef (h9.sub (by decide))).tr (CF.s (by omega)), ?_, ?_⟩
  · unfold f_X7_takesAll f_X7_takesAll_0
    exact h4
  · have e : f_X9_takesWord (s_t ρ 20 c (nI x)) (nI (4 * x)) 4 = some (b, ρ') := by
      unfold f_X9_takesWord f_X9_takesWord_0
      exact h5
    unfold wd
    rw [e, bd_s]
    rcases h1 with rfl | rfl
    · exact gd_of (show isB (0 : Int32) = true by decide)
    · exact gd_of (show isB (1 : Int32) = true by decide)
  · rw [h9 20 (by decide), st_eq]
  · rw [h9 26 (by decide), st_ne (by omega)]
end TE
