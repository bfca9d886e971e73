/-! PURE: what a house weighs, and how long one rests, in both -/
theorem gD_mem {cs : List Cl} {c : Cl} (h : c ∈ cs) : ∃ i, i < cs.length ∧ cs.getD i (0, 0, []) = c := by
  obtain ⟨i, hi, e⟩ := List.getElem_of_mem h
  exact ⟨i, hi, by rw [List.getD_eq_getElem?_getD, List.getElem?_eq_getElem hi, e]; rfl⟩
theorem HO_HH {j : Nat} {hs : Ms} {ρ : Mm} (hj : j < 6) (H : HO j (hs (14 + j)) ρ) (h14 : ρ 14 0 = nI j) : HH (nI (14 + j)) hs ρ := by
  obtain ⟨cs, h1, h2, h3, h4⟩ := H
  have n0 : ¬ nI (14 + j) = 0 := nI_ne0 (by omega) (by omega)
  have hok : ∀ c, c ∈ cs → c.1 < 3 ∧ c.2.1 < 100 ∧ (c.1 < 2 → vd c.2.2 0) := by
    intro c hc
    obtain ⟨i, hi, e⟩ := gD_mem hc
    obtain ⟨-, a2, -, a4, a5⟩ := h3 i hi
    rw [e] at a2 a4 a5
    exact ⟨a2, a4, fun h => (a5 h).choose_spec.2.2.2.2.2⟩
  have hbeg : ∀ ρ' : Mm, ρ' 14 0 = nI j → f_X9_begin ρ' = some (nI (10 * j)) := by
    intro ρ' h
    unfold f_X9_begin f_X9_begin_0
    rw [h, if_pos (nI_pos' (by omega)), show (10 : Int32) = nI 10 from rfl, pk_mul]
  refine ⟨?_, ⟨crest cs 2, ?_, ?_, ?_⟩, Or.inr (inH_j j hj)⟩
  · intro M m w cb τ' ρ' R h16 hk p f hp hf
    have hM := R.1.1
    obtain ⟨hm, m1, m2⟩ := R.2.1
    obtain ⟨a2, a3, ⟨a4, g, hg, a4'⟩, -⟩ := R.2.2.2.2.1 p hp
    have hff : ∀ ρ1 : Mm, EF [30] ρ1 ρ' → ∀ k : Nat, k < 6 → f_X9_factOf ρ1 (nI k) (nI p) (nI f) = some (fcs (nI p) (ρ' 5 p) (ρ' 6 p) (nI f) (nI (apt g f)) (nI (m % 10)) k) := by
      intro ρ1 e k hk
      rw [f_fact (ρ := ρ1) (g := g) (m := m) (by omega) hg hf (by omega) (by rw [e 7 (by decide)]; exact a4') (by rw [e 4 (by decide)]; exact m2) hk, e 5 (by decide), e 6 (by decide)]
    have h14' : ρ' 14 0 = nI j := by rw [hk 14 (by omega)]; exact h14
    have h19' : ρ' 19 j = nI cs.length := by rw [hk 19 (by omega)]; exact h2
    obtain ⟨ρ2, s1, s2⟩ := s_sumL hj h1 hff h14' h19' cs 0 FU ((2 : Int32) * nI (apt g f)) ρ' EF.rf (by omega) (by rw [FU_e]; omega) (fun c hc => CL_e (h3 c hc) (fun k q r => hk k (by omega)))
    obtain ⟨τ2, t1, t2⟩ := sum8 (τ := τ') (hs := hs) (p := p) (f := f) (g := g) (m := m) (j := j) (W := csum (fcs (nI p) (ρ' 5 p) (ρ' 6 p) (nI f) (nI (apt g f)) (nI (m % 10))) cs) (by omega) hf hg (by omega) hj (a4.trans a4') m1 h16 (fun τo ho => w_weighs h4 hok (fun k hk => by rw [ho k hk, a2, a3]))
    refine ⟨_, τ2, ρ2, t1, fun k hk => t2 k (by simpa using hk), ?_, fun k hk => s1 k (by simpa using hk)⟩
    unfold f_X9_sum f_X9_sum_0
    rw [gd_of (p_inN (by omega) (by decide)), nI_clamp (by omega), a4', p_apart9 hg hf, bd_s, lt_d, hbeg ρ' h14', bd_s]
    exact s2
  · exact (s_restL hj h1 h14 h2 cs 0 FU 2 (by omega) (by rw [FU_e]; omega) h3 (by omega)).2
  · rw [if_neg n0, nI_clamp (by omega)]
    exact h4.2.2.2
  · intro ρ' hk
    have h14' : ρ' 14 0 = nI j := by rw [hk 14 (by omega)]; exact h14
    have h19' : ρ' 19 j = nI cs.length := by rw [hk 19 (by omega)]; exact h2
    unfold f_X9_rest f_X9_rest_0
    rw [hbeg ρ' h14', bd_s]
    exact (s_restL hj h1 h14' h19' cs 0 FU 2 (by omega) (by rw [FU_e]; omega) (fun c hc => CL_e (h3 c hc) (fun k q r => hk k (by omega))) (by omega)).1
theorem H0_HH {hs : Ms} {ρ : Mm} (h14 : ρ 14 0 = -1) : HH 0 hs ρ := by
  have hneg : ¬ (0 : Int32) ≤ -1 := by decide
  have hbeg : ∀ ρ' : Mm, ρ' 14 0 = -1 → f_X9_begin ρ' = some 0 := by
    intro ρ' h
    unfold f_X9_begin f_X9_begin_0
    rw [h, if_neg hneg]
  have hbeh : ∀ ρ' : Mm, ρ' 14 0 = -1 → f_X9_behind ρ' = some 0 := by
    intro ρ' h
    unfold f_X9_behind f_X9_behind_0
    rw [h, if_neg hneg]
  refine ⟨?_, ⟨2, by omega, by rw [if_pos rfl]; rfl, ?_⟩, Or.inl rfl⟩
  · intro M m w cb τ' ρ' R h16 hk p f hp hf
    have hM := R.1.1
    obtain ⟨a2, a3, ⟨a4, g, hg, a4'⟩, -⟩ := R.2.2.2.2.1 p hp
    have h14' : ρ' 14 0 = -1 := by rw [hk 14 (by omega)]; exact h14
    refine ⟨(2 : Int32) * nI (apt g f), τ', ρ', ?_, fun _ _ => rfl, ?_, fun _ _ => rfl⟩
    · unfold f_X1_sum f_X1_sum_0
      rw [gd_of (p_inN (by omega) (by decide)), nI_clamp (by omega), a4, a4', lt_d, p_apart8 hg hf, h16, if_pos rfl]
    · unfold f_X9_sum f_X9_sum_0
      rw [gd_of (p_inN (by omega) (by decide)), nI_clamp (by omega), a4', p_apart9 hg hf, bd_s, lt_d, hbeg ρ' h14', bd_s]
      show f_X9_sum_20 _ _ _ _ _ _ = _
      unfold f_X9_sum_20
      rw [hbeh ρ' h14', bd_s, if_pos (by decide)]
  · intro ρ' hk
    have h14' : ρ' 14 0 = -1 := by rw [hk 14 (by omega)]; exact h14
    unfold f_X9_rest f_X9_rest_0
    rw [hbeg ρ' h14', bd_s]
    show f_X9_rest_7 _ _ _ _ = _
    unfold f_X9_rest_7
    rw [hbeh ρ' h14', bd_s, if_pos (by decide)]
    rfl
/-- the house that holds -/
theorem RX.HH {nh : Nat} {σ hs : Ms} {ρ : Mm} {ℓ : Mz} {η : Mj} (R : RX nh σ ρ ℓ η) (h : ∀ o, 14 ≤ o → o < 20 → hs o = σ o) : HH (σ 1 16 0) hs ρ := by
  obtain ⟨⟨M, m, w, -, -, -, -, -, hl, -⟩, -, ⟨b1, -, -, b4⟩, -⟩ := R
  rcases hl with ⟨e1, e2⟩ | ⟨j, hj, e1, e2⟩
  · rw [e1]
    exact H0_HH e2
  · rw [e1]
    exact HO_HH (by omega) (by rw [h (14 + j) (by omega) (by omega)]; exact b4 j hj) e2
