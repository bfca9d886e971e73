/-! PURE: a house told, in both -/
theorem csts_app (x : Cl) : ∀ cs : List Cl, csts (cs ++ [x]) = csts cs ++ cst x
  | [] => by show cst x ++ [] = [] ++ cst x; simp
  | c :: cs => by
    show cst c ++ csts (cs ++ [x]) = (cst c ++ csts cs) ++ cst x
    rw [csts_app x cs, List.append_assoc]
theorem crest_app (x : Cl) : ∀ (cs : List Cl) (r : Nat), crest (cs ++ [x]) r = if x.1 = 2 then x.2.1 else crest cs r
  | [], r => rfl
  | c :: cs, r => crest_app x cs _
/-- what a house's reading leaves alone -/
def HF (nh : Nat) (ρ' ρ : Mm) : Prop := EF [16, 17, 19, 20, 21, 22, 23, 24, 25, 26, 27, 28] ρ' ρ ∧ (∀ x, x < nh → ρ' 19 x = ρ 19 x) ∧ (∀ k x, 20 ≤ k → k ≤ 23 → x < 10 * nh → ρ' k x = ρ k x) ∧ ∀ x, x < 100 * nh → ρ' 24 x = ρ 24 x
theorem HF.tr {nh : Nat} {u v w : Mm} (h1 : HF nh u v) (h2 : HF nh v w) : HF nh u w := ⟨h1.1.tr h2.1, fun x hx => (h1.2.1 x hx).trans (h2.2.1 x hx), fun k x p q r => (h1.2.2.1 k x p q r).trans (h2.2.2.1 k x p q r), fun x hx => (h1.2.2.2 x hx).trans (h2.2.2.2 x hx)⟩
theorem HF.cf {nh c a : Nat} {ρ' ρ : Mm} (h : CF c a ρ' ρ) (hc : 10 * nh ≤ c) (ha : 100 * nh ≤ a) : HF nh ρ' ρ := ⟨h.1.sub (by decide), fun x _ => by rw [h.1 19 (by decide)], fun k x p q r => h.2.1 k x p q (by omega), fun x hx => h.2.2 x (by omega)⟩
theorem HF.s {nh k p : Nat} {ρ : Mm} {v : Int32} (hk : k = 16 ∨ k = 26 ∨ (k = 19 ∧ nh ≤ p)) : HF nh (s_t ρ k p v) ρ := ⟨ef_s (by simp; omega), fun x hx => by rw [st_v, if_neg (by omega)], fun k' x q r s => by rw [st_v, if_neg (by omega)], fun x hx => by rw [st_v, if_neg (by omega)]⟩
theorem HO_f {j nh : Nat} (hj : j < nh) {h ρ ρ' : Mm} (H : HO j h ρ) (e : HF nh ρ' ρ) : HO j h ρ' := by
  obtain ⟨cs, a, b, c, d⟩ := H
  refine ⟨cs, a, by rw [e.2.1 j hj]; exact b, fun i hi => ?_, d⟩
  have hcl := c i hi
  unfold CL at hcl ⊢
  rw [e.2.2.1 20 _ (by omega) (by omega) (by omega), e.2.2.1 21 _ (by omega) (by omega) (by omega), e.2.2.1 22 _ (by omega) (by omega) (by omega), e.2.2.1 23 _ (by omega) (by omega) (by omega)]
  obtain ⟨a1, a2, a3, a4, a5⟩ := hcl
  refine ⟨a1, a2, a3, a4, fun q => ?_⟩
  obtain ⟨s, b1, b2, b3, b4, b5, b6⟩ := a5 q
  exact ⟨s, b1, b2, b3, b4, fun i hi => by rw [e.2.2.2 _ (by omega)]; exact b5 i hi, b6⟩
section TG
variable {n h : Nat} {T : Nat → Nat}
theorem k_clauses (X : TX n T) (hH : inH (nI h) = true) (hh : h < 30) {nh q : Nat} (hnh : nh ≤ 5) : ∀ (r k i a fu fu' : Nat) (cs : List Cl) (hs : Ms) (t ρ : Mm), k + r = 10 → k < 10 → cs.length = k → i ≤ n → T8 n h T i t → M9 n T i ρ → (∀ q, q < 12 → ρ 29 q = ltr q) → (∀ c, c < k → CLa nh ρ (10 * nh + c) (cs.getD c (0, 0, [])) a) → HST (csts cs) (hs h) → (csts cs).length ≤ i → hs h 2 0 = nI (crest cs 2) → ρ 26 0 = nI a → 100 * nh ≤ a → a ≤ 100 * nh + i → r < fu → r < fu' → ∃ (b : Int32) (t' h' ρ' : Mm) (j : Nat), f_X7_makes_29L q fu t hs (nI (k + 1)) = some (b, t', va_up hs h h') ∧ f_X9_goesText_15L (nI nh) fu' ρ (nI k) = some (b, ρ') ∧ t' 2 0 = nI j ∧ EF [2] t' t ∧ ρ' 16 0 = nI j ∧ HF nh ρ' ρ ∧ (b = 0 ∨ b = 1 ∧ HO nh h' ρ') := by
  have hn := X.1
  intro r
  induction r with
  | zero => intro k i a fu fu' cs hs t ρ hk hk1; omega
  | succ r ih =>
    intro k i a fu fu' cs hs t ρ hk hk1 hcs hin H8 H9 hl hcl hL hLi hR h26 ha0 ha hf hf'
    obtain ⟨fu, rfl⟩ : ∃ z, fu = z + 1 := ⟨fu - 1, by omega⟩
    obtain ⟨fu', rfl⟩ : ∃ z, fu' = z + 1 := ⟨fu' - 1, by omega⟩
    have e8 : f_X7_makes_29L q (fu + 1) t hs (nI (k + 1)) = f_X7_makes_29 q (f_X7_makes_29L q fu) t hs (nI (k + 1)) := rfl
    have e9 : f_X9_goesText_15L (nI nh) (fu' + 1) ρ (nI k) = f_X9_goesText_15 (nI nh) (f_X9_goesText_15L (nI nh) fu') ρ (nI k) := rfl
    have em : (10 : Int32) * nI nh + nI k = nI (10 * nh + k) := by rw [show (10 : Int32) = nI 10 from rfl, pk_mul, nI_add]
    rw [e8, e9]
    unfold f_X7_makes_29 f_X9_goesText_15
    rw [if_neg (show ¬ (10 : Int32) < nI (k + 1) from nI_nlt (a := 10) (by omega) (by omega)), em]
    obtain ⟨b, t1, h1, ρ1, j, c1, c2, c3, c4, c5, c6, c7, c8⟩ := k_clause (R := crest cs 2) X hH hh (c := 10 * nh + k) (a := a) (nh := nh) (by omega) hnh hin H8 H9 hl hL hLi hR h26 ha0 ha
    rw [c1, c2, bd_s, bd_s]
    dsimp only
    have hF1 : HF nh ρ1 ρ := HF.cf c7 (by omega) ha0
    rcases c8 with rfl | ⟨rfl, cl, a', d1, d2, d3, d4, d5, d6, d7, d8⟩
    · rw [i00, i00]
      exact ⟨0, t1, h1, ρ1, j, rfl, rfl, c3.2.1, c4, c6, hF1, Or.inl rfl⟩
    rw [i10, i10, lt_d, z_in (show nh < 6 by omega) (by decide), nI_clamp (by omega), show nI k + 1 = nI (k + 1) from nI_1 k, lt_d, st_ne (show (16 : Nat) ≠ 19 by omega), st_ne (show (15 : Nat) ≠ 19 by omega)]
    have M2 : M9 n T j (s_t ρ1 19 nh (nI (k + 1))) := d1.ef (fun k hk => st_ne (by omega))
    have hF2 : HF nh (s_t ρ1 19 nh (nI (k + 1))) ρ := (HF.s (Or.inr (Or.inr ⟨rfl, Nat.le_refl _⟩))).tr hF1
    have g19 : s_t ρ1 19 nh (nI (k + 1)) 19 nh = nI (k + 1) := st_eq
    have g26 : s_t ρ1 19 nh (nI (k + 1)) 26 0 = nI a' := by rw [st_ne (by omega)]; exact d6
    have g29 : ∀ q, q < 12 → s_t ρ1 19 nh (nI (k + 1)) 29 q = ltr q := fun q hq => by rw [st_ne (by omega), c7.1 29 (by decide)]; exact hl q hq
    have gcl : ∀ c, c < k + 1 → CLa nh (s_t ρ1 19 nh (nI (k + 1))) (10 * nh + c) ((cs ++ [cl]).getD c (0, 0, [])) a' := by
      intro c hc
      by_cases e : c = k
      · have e2 : (cs ++ [cl]).getD c (0, 0, []) = cl := by
          rw [e, ← hcs]; simp
        rw [e2, e]
        exact d2.fr (fun k' p q => by rw [st_ne (by omega)]) (fun x _ => by rw [st_ne (by omega)]) (Nat.le_refl _)
      · have e2 : (cs ++ [cl]).getD c (0, 0, []) = cs.getD c (0, 0, []) := by
          simp [List.getElem?_append_left (show c < cs.length by omega)]
        rw [e2]
        exact (hcl c (by omega)).fr (fun k' p q => by rw [st_ne (by omega)]; exact c7.2.1 k' _ p q (by omega)) (fun x hx => by rw [st_ne (by omega)]; exact c7.2.2 x hx) d7
    have gcs : (cs ++ [cl]).length = k + 1 := by simp; omega
    have gL : HST (csts (cs ++ [cl])) h1 := by rw [csts_app]; exact d3
    have gLi : (csts (cs ++ [cl])).length ≤ j := by rw [csts_app]; exact d5
    have gR : h1 2 0 = nI (crest (cs ++ [cl]) 2) := by rw [crest_app]; exact d4
    generalize s_t ρ1 19 nh (nI (k + 1)) = ρ2 at *
    by_cases hjn : j = n
    · rw [if_pos (show t1 2 0 = t1 3 0 by rw [c3.1, c3.2.1, hjn]), if_pos (show ρ1 16 0 = ρ1 15 0 by rw [c6, d1.1, hjn])]
      refine ⟨1, t1, h1, ρ2, j, rfl, rfl, c3.2.1, c4, M2.2.1, hF2, Or.inr ⟨rfl, cs ++ [cl], by omega, by rw [gcs]; exact g19, fun c hc => (gcl c (by omega)).cl (by omega), gL.1, gL.2.1, gL.2.2, gR⟩⟩
    rw [if_neg (show ¬ t1 2 0 = t1 3 0 by rw [c3.1, c3.2.1]; exact z_neq hjn (by omega) (by omega)), if_neg (show ¬ ρ1 16 0 = ρ1 15 0 by rw [c6, d1.1]; exact z_neq hjn (by omega) (by omega))]
    by_cases hk9 : k + 1 = 10
    · rw [hk9, if_pos (show nI 10 = 10 from rfl), if_pos (show nI 10 = 10 from rfl)]
      exact ⟨0, t1, h1, ρ2, j, rfl, rfl, c3.2.1, c4, M2.2.1, hF2, Or.inl rfl⟩
    have n10 : ¬ nI (k + 1) = 10 := z_neq (b := 10) hk9 (by omega) (by omega)
    have k8 : f_X7_takes t1 59 = _ := k_takes8 X c3 c5 (c := 59) (by omega)
    have k9 : f_X9_takes ρ2 59 = _ := k_takes9 X M2 c5 (c := 59) (by omega)
    rw [if_neg n10, if_neg n10, k8, k9]
    by_cases h59 : j < n ∧ T j = 59
    · rw [if_pos h59, if_pos h59, bd_s, bd_s]
      dsimp only
      rw [i10, i10, lt_d, nI_1]
      obtain ⟨b, t', h', ρ', j', w1, w2, w3, w4, w5, w6, w7⟩ := ih (k + 1) (j + 1) a' fu fu' (cs ++ [cl]) (va_up hs h h1) (s_t t1 2 0 (nI (j + 1))) (s_t ρ2 16 0 (nI (j + 1))) (by omega) (by omega) gcs h59.1 c3.at M2.at (fun q hq => by rw [st_ne (by omega)]; exact g29 q hq) (fun c hc => (gcl c hc).fr (fun k' p q => by rw [st_ne (by omega)]) (fun x _ => by rw [st_ne (by omega)]) (Nat.le_refl _)) (by rw [up_eq]; exact gL) (by omega) (by rw [up_eq]; exact gR) (by rw [st_ne (by omega)]; exact g26) (by omega) (by omega) (by omega) (by omega)
      refine ⟨b, t', h', ρ', j', ?_, w2, w3, w4.tr (EF.st c4 (by decide)), w5, w6.tr ((HF.s (Or.inl rfl)).tr hF2), w7⟩
      rw [w1, up_up]
    · rw [if_neg h59, if_neg h59, bd_s, bd_s]
      dsimp only
      rw [i00, i00]
      exact ⟨0, t1, h1, ρ2, j, rfl, rfl, c3.2.1, c4, M2.2.1, hF2, Or.inl rfl⟩
end TG
theorem Core_up {nh nh' : Nat} {τ s p b ρ : Mm} (H : Core nh τ s p b ρ) (h : nh ≤ nh') : Core nh' τ s p b ρ := by
  obtain ⟨M, m, w, a1, a2, a3, a4, a5, a6, a7, a8, a9⟩ := H
  exact ⟨M, m, w, a1, a2, a3, a4, a5, a6.imp id (fun ⟨j, h1, h2⟩ => ⟨j, by omega, h2⟩), a7, a8, a9⟩
theorem HR_t {M m w cb : Nat} {τ τ' ρ : Mm} (a1 : HR M m w cb τ ρ) (hk : ∀ k, k ≠ 16 → τ' k = τ k) : HR M m w cb τ' ρ := by
  unfold HR MR at a1 ⊢
  simp only [hk 2 (by omega), hk 3 (by omega), hk 4 (by omega), hk 5 (by omega), hk 6 (by omega), hk 7 (by omega), hk 8 (by omega), hk 9 (by omega), hk 10 (by omega), hk 12 (by omega), hk 13 (by omega), hk 14 (by omega), hk 15 (by omega)]
  exact a1
theorem RX.hs {nh nh' : Nat} {σ σ' : Ms} {ρ ρ' : Mm} {ℓ : Mz} {η : Mj} (R : RX nh σ ρ ℓ η) (hσ : ∀ o, o ≠ 0 → o ≠ 1 → o ≠ 12 → ¬ (14 ≤ o ∧ o < 20) → σ' o = σ o) (h0 : σ' 0 5 0 = σ 0 5 0) (h1 : σ' 1 0 = σ 1 0 ∧ σ' 1 1 = σ 1 1) (hρ : ∀ k, ¬ (13 ≤ k ∧ k ≤ 17 ∨ 19 ≤ k ∧ k ≤ 28) → ρ' k = ρ k) (hn : nh ≤ nh') (hc : Core nh' (σ' 1) (σ 6) (σ 7) (σ 8) ρ') (hh : HsR nh' σ' ρ') (ht : TxR (σ' 12) ρ') : RX nh' σ' ρ' ℓ η := by
  obtain ⟨a1, ⟨⟨a2, a3⟩, ⟨a4, a5⟩, a6⟩, b, -, ⟨d1, d2⟩, e, f⟩ := R
  have z : ∀ o, o ≠ 0 → o ≠ 1 → o ≠ 12 → ¬ (14 ≤ o ∧ o < 20) → σ' o = σ o := hσ
  refine ⟨?_, ⟨?_, ?_, ?_⟩, hh, ht, ?_, ?_, TpR_e f (fun o q r => z o (by omega) (by omega) (by omega) (by omega)) ⟨hρ 81 (by omega), hρ 82 (by omega)⟩⟩
  · rw [z 6 (by omega) (by omega) (by omega) (by omega), z 7 (by omega) (by omega) (by omega) (by omega), z 8 (by omega) (by omega) (by omega) (by omega)]
    exact hc
  · rw [h1.1, h1.2]
    exact ⟨a2, a3⟩
  · rw [z 2 (by omega) (by omega) (by omega) (by omega)]
    exact ⟨a4, a5⟩
  · rw [hρ 31 (by omega), hρ 32 (by omega)]
    exact a6
  · exact ImR_e (nh := nh') ⟨d1, d2.imp id (fun q => ⟨q.1, Core_up q.2 hn⟩)⟩ h0 (fun o ho => z o (by omega) (by omega) (by omega) (by omega)) (fun k q r => hρ k (by omega))
  · rw [z 21 (by omega) (by omega) (by omega) (by omega)]
    exact AcR_e e ⟨hρ 79 (by omega), hρ 80 (by omega)⟩
theorem S_house {nh : Nat} {σ : Ms} {ρ : Mm} {ℓ : Mz} {η : Mj} (R : RX nh σ ρ ℓ η) : ∃ (r : Int32) (σ' : Ms) (ρ' : Mm) (nh' : Nat), f_X8_house σ = some (r, σ') ∧ f_X9_house ρ = some (r, ρ') ∧ RX nh' σ' ρ' ℓ η ∧ KP σ' σ := by
  obtain ⟨c0, -, ⟨h6, g8, g13, ho⟩, ⟨⟨n, hn, x1, x15, xq⟩, hl⟩, -, -, -⟩ := id R
  unfold f_X8_house f_X8_house_0 f_X9_house f_X9_house_0
  rw [g8, g13]
  by_cases hf : nh = 6
  · rw [hf, if_neg (by decide), if_pos (show nI 6 = 6 from rfl)]
    exact ⟨-4, σ, ρ, nh, rfl, rfl, R, rfl, rfl⟩
  have hnh : nh ≤ 5 := by omega
  have hX : TX n (fun q => (ρ 18 q).toNatClampNeg) := ⟨hn, fun q hq => by
    obtain ⟨-, c, hc, e⟩ := xq q hq
    show (ρ 18 q).toNatClampNeg < 128
    rw [e, nI_clamp (by omega)]
    exact hc⟩
  have h18 : ∀ q, q < n → ρ 18 q = nI ((ρ 18 q).toNatClampNeg) := fun q hq => by
    obtain ⟨-, c, hc, e⟩ := xq q hq
    rw [e, nI_clamp (by omega)]
  rw [if_pos (show nI nh < 6 from nI_lt (b := 6) (by omega) (by omega)), if_neg (show ¬ nI nh = 6 from z_neq (b := 6) hf (by omega) (by omega)), lt_d, z_in (by omega) (by decide), nI_clamp (by omega)]
  have e8 : f_X7_makes (σ 12) σ (14 + nh) = f_X7_makes_29L (14 + nh) FU (s_t (s_t (s_t (s_t (σ 12) 3 0 (nI n)) 1 0 0) 2 0 0) 4 0 (nI (14 + nh))) (va_up σ (14 + nh) (s_t (s_t (σ (14 + nh)) 1 0 0) 2 0 2)) (nI (0 + 1)) := by
    unfold f_X7_makes f_X7_makes_0 f_X2_empties f_X2_empties_0
    rw [lt_d, lt_d, lt_d, lt_d, lt_d, lt_d, bd_s, lt_d, x1]
    rfl
  have e9 : f_X9_goesText ρ (nI nh) = f_X9_goesText_15L (nI nh) FU (s_t (s_t ρ 16 0 0) 26 0 (nI (100 * nh))) (nI 0) := by
    unfold f_X9_goesText f_X9_goesText_0
    rw [lt_d, lt_d, show (100 : Int32) = nI 100 from rfl, pk_mul]
    rfl
  obtain ⟨b, t', h', u, j, w1, w2, w3, w4, w5, w6, w7⟩ := k_clauses (q := 14 + nh) hX (inH_j nh (by omega)) (by omega) hnh 10 0 0 (100 * nh) FU FU [] (va_up σ (14 + nh) (s_t (s_t (σ (14 + nh)) 1 0 0) 2 0 2)) (s_t (s_t (s_t (s_t (σ 12) 3 0 (nI n)) 1 0 0) 2 0 0) 4 0 (nI (14 + nh))) (s_t (s_t ρ 16 0 0) 26 0 (nI (100 * nh))) rfl (by omega) rfl (by omega) ⟨by rw [st_ne (by omega), st_ne (by omega), st_ne (by omega), st_eq], by rw [st_ne (by omega), st_eq]; rfl, fun q hq => by rw [st_ne (by omega), st_ne (by omega), st_ne (by omega), st_ne (by omega), (xq q hq).1]; exact h18 q hq, st_eq⟩ ⟨by rw [st_ne (by omega), st_ne (by omega)]; exact x15, by rw [st_ne (by omega), st_eq]; rfl, fun q hq => by rw [st_ne (by omega), st_ne (by omega)]; exact h18 q hq⟩ (fun q hq => by rw [st_ne (by omega), st_ne (by omega)]; exact hl q hq) (fun c hc => absurd hc (Nat.not_lt_zero c)) ⟨by rw [up_eq, st_ne (by omega), st_eq]; rfl, by show 0 ≤ 100; omega, fun i hi => absurd hi (Nat.not_lt_zero i)⟩ (by show 0 ≤ 0; omega) (by rw [up_eq, st_eq]; rfl) st_eq (by omega) (by omega) (by rw [FU_e]; omega) (by rw [FU_e]; omega)
  have hF : HF nh u ρ := w6.tr ((HF.s (Or.inr (Or.inl rfl))).tr (HF.s (Or.inl rfl)))
  have t1 : t' 1 0 = 0 := by rw [w4 1 (by decide), st_ne (by omega), st_ne (by omega), st_eq]
  rw [e8, e9, w1, w2, bd_s, bd_s, up_up]
  dsimp only
  rw [lt_d, up_eq]
  have l15 : ∀ k, k ≠ 15 → s_t u 15 0 0 k = u k := fun k hk => st_ne hk
  rcases w7 with rfl | ⟨rfl, w7⟩
  · rw [i00, lt_d, i00, l15 16 (by omega), w3, w5]
    refine ⟨_, _, _, nh, rfl, rfl, R.hs (fun o p q r s => ?_) ?_ ?_ (fun k hk => ?_) (Nat.le_refl _) ?_ ⟨h6, ?_, ?_, fun i hi => ?_⟩ ⟨⟨0, by omega, ?_, ?_, fun i hi => absurd hi (Nat.not_lt_zero i)⟩, fun q hq => ?_⟩, ?_, ?_⟩
    · rw [up_ne r, up_ne (by omega)]
    · rw [up_ne (by omega), up_ne (by omega)]
    · rw [up_ne (by omega), up_ne (by omega)]; exact ⟨rfl, rfl⟩
    · rw [l15 k (by omega)]; exact hF.1 k (by simp; omega)
    · rw [up_ne (by omega), up_ne (by omega)]
      exact Core_k c0 (fun k hk => by rw [l15 k (by omega)]; exact hF.1 k (by simp; omega))
    · rw [up_ne (by omega), up_ne (by omega)]; exact g8
    · rw [l15 13 (by omega), hF.1 13 (by decide)]; exact g13
    · rw [up_ne (by omega), up_ne (by omega)]
      exact HO_e (HO_f hi (ho i hi) hF) (fun k q r => l15 k (by omega))
    · rw [up_eq]; exact t1
    · exact st_eq
    · rw [l15 29 (by omega), hF.1 29 (by decide)]; exact hl q hq
    · rw [up_ne (by omega), up_ne (by omega)]
    · rw [up_ne (by omega), up_ne (by omega)]
  · rw [i10, lt_d, lt_d, lt_d, lt_d, lt_d, i10, lt_d, lt_d]
    have u13 : u 13 0 = nI nh := by rw [hF.1 13 (by decide)]; exact g13
    have e0 : va_up (va_up (va_up σ (14 + nh) h') 12 t') 1 (s_t (va_up (va_up σ (14 + nh) h') 12 t' 1) 16 0 (nI (14 + nh))) 0 = σ 0 := by
      rw [up_ne (by omega), up_ne (by omega), up_ne (by omega)]
    have e1 : va_up (va_up σ (14 + nh) h') 12 t' 1 = σ 1 := by rw [up_ne (by omega), up_ne (by omega)]
    rw [e0, e1, g8, nI_1, up_eq, st_eq, nI_pred, l15 13 (by omega), u13, st_ne (show (13 : Nat) ≠ 14 by omega), l15 13 (by omega), u13, nI_1, st_ne (show (14 : Nat) ≠ 13 by omega), st_eq]
    have r13 : ∀ k, k ≠ 13 → k ≠ 14 → k ≠ 15 → s_t (s_t (s_t u 15 0 0) 14 0 (nI nh)) 13 0 (nI (nh + 1)) k = u k := fun k p q r => by rw [st_ne p, st_ne q, st_ne r]
    refine ⟨_, _, _, nh + 1, rfl, rfl, R.hs (fun o p q r s => ?_) ?_ ?_ (fun k hk => ?_) (Nat.le_succ _) ?_ ⟨by omega, ?_, st_eq, fun i hi => ?_⟩ ⟨⟨0, by omega, ?_, ?_, fun i hi => absurd hi (Nat.not_lt_zero i)⟩, fun q hq => ?_⟩, ?_, ?_⟩
    · rw [up_ne p, up_ne q, up_ne r, up_ne (by omega)]
    · rw [up_eq, st_ne (by omega)]
    · rw [up_ne (by omega), up_eq]
      exact ⟨by rw [st_ne (by omega)], by rw [st_ne (by omega)]⟩
    · rw [r13 k (by omega) (by omega) (by omega)]; exact hF.1 k (by simp; omega)
    · rw [up_ne (by omega), up_eq]
      obtain ⟨M, m, w, a1, a2, a3, a4, a5, a6, a7, a8, a9⟩ := c0
      have ek : ∀ k, k ≤ 12 ∨ 44 ≤ k ∧ k ≤ 53 → s_t (s_t (s_t u 15 0 0) 14 0 (nI nh)) 13 0 (nI (nh + 1)) k = ρ k := fun k hk => by
        rw [r13 k (by omega) (by omega) (by omega)]
        exact hF.1 k (by simp; omega)
      have et : ∀ k, k ≠ 16 → s_t (σ 1) 16 0 (nI (14 + nh)) k = σ 1 k := fun k hk => st_ne hk
      refine Core_s (HR_k (HR_t a1 et) (fun k hk => ek k (by omega))) a2 a3 ?_ ?_ (Or.inr ⟨nh, by omega, st_eq, by rw [st_ne (by omega), st_eq]⟩) a7 a8 a9 (fun k q r => ek k (by omega))
      · unfold HZ at a4 ⊢
        simp only [et 2 (by omega), et 3 (by omega), et 6 (by omega), et 7 (by omega), et 8 (by omega), et 9 (by omega)]
        exact a4
      · unfold PW at a5 ⊢
        simp only [et 10 (by omega)]
        exact a5
    · rw [up_eq, st_eq]
    · have hne : 14 + i ≠ 0 ∧ 14 + i ≠ 1 ∧ 14 + i ≠ 12 := by omega
      rw [up_ne hne.1, up_ne hne.2.1, up_ne hne.2.2]
      by_cases e : i = nh
      · rw [e, up_eq]
        exact HO_e w7 (fun k q r => r13 k (by omega) (by omega) (by omega))
      · rw [up_ne (by omega)]
        exact HO_e (HO_f (by omega) (ho i (by omega)) hF) (fun k q r => r13 k (by omega) (by omega) (by omega))
    · rw [up_ne (by omega), up_ne (by omega), up_eq]; exact t1
    · rw [st_ne (by omega), st_ne (by omega), st_eq]; rfl
    · rw [r13 29 (by omega) (by omega) (by omega), hF.1 29 (by decide)]; exact hl q hq
    · rw [up_ne (by omega), up_ne (by omega), up_ne (by omega), up_ne (by omega)]
    · rw [up_ne (by omega), up_ne (by omega), up_ne (by omega), up_ne (by omega)]
