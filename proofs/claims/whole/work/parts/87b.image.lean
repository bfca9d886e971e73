/-! PURE: the image -/
/-- the same to all that an image holds -/
def EQI (ρ' ρ : Mm) : Prop := ((∀ k, k ≤ 4 → ρ' k 0 = ρ k 0) ∧ ρ' 14 0 = ρ 14 0 ∧ (∀ k p, 5 ≤ k → k ≤ 10 → p < 6 → ρ' k p = ρ k p) ∧ (∀ p, p < 24 → ρ' 11 p = ρ 11 p) ∧ ∀ p, p < 10 → ρ' 12 p = ρ 12 p) ∧ (ρ' 44 0 = ρ 44 0 ∧ ρ' 48 0 = ρ 48 0 ∧ ρ' 49 0 = ρ 49 0) ∧ (∀ k p, 45 ≤ k → k ≤ 47 → p < 5 → ρ' k p = ρ k p) ∧ (∀ k p, 50 ≤ k → k ≤ 51 → p < 10 → ρ' k p = ρ k p) ∧ ∀ k p, 52 ≤ k → k ≤ 53 → p < 8 → ρ' k p = ρ k p
theorem HR_i {M m w cb : Nat} {τ ρ ρ' : Mm} (H : HR M m w cb τ ρ) (e : EQI ρ' ρ) : HR M m w cb τ ρ' := by
  obtain ⟨⟨e0, e14, e5, e11, e12⟩, -⟩ := e
  obtain ⟨⟨a1, a2, a3⟩, ⟨b1, b2, b3⟩, ⟨c1, c2, c3⟩, d, f, g⟩ := H
  refine ⟨⟨a1, a2, (e0 0 (by omega)).trans a3⟩, ⟨b1, b2, (e0 4 (by omega)).trans b3⟩, ⟨c1, c2, (e0 3 (by omega)).trans c3⟩, by rw [e0 2 (by omega)]; exact d, fun p hp => ?_, fun q hq => by rw [e12 q hq]; exact g q hq⟩
  have := f p hp
  unfold MR at this ⊢
  rw [e5 5 p (by omega) (by omega) (by omega), e5 6 p (by omega) (by omega) (by omega), e5 7 p (by omega) (by omega) (by omega), e5 8 p (by omega) (by omega) (by omega), e5 9 p (by omega) (by omega) (by omega), e5 10 p (by omega) (by omega) (by omega), e0 1 (by omega)]
  obtain ⟨t1, t2, t3, t4, t5, t6, t7, t10⟩ := this
  exact ⟨t1, t2, t3, t4, t5, t6, t7, fun k hk => by rw [e11 _ (by omega)]; exact t10 k hk⟩
theorem Core_i {nh : Nat} {τ s p b ρ τ' s' p' b' ρ' : Mm} (H : Core nh τ s p b ρ) (h1 : EQ1 τ' τ) (h2 : EQI ρ' ρ) (h3 : EQR 5 s' s) (h4 : EQR 10 p' p) (h5 : EQR 8 b' b) : Core nh τ' s' p' b' ρ' := by
  obtain ⟨M, m, w, a1, a2, a3, a4, a5, a6, a7, a8, a9⟩ := H
  refine ⟨M, m, w, HR_i (HR_e a1 h1 EQ9.rf) h2, a2, a3, HZ_e a4 h1, PW_e a5 h1, ?_, ?_, ?_, ?_⟩
  · rw [h1.k0 (by omega), h2.1.2.1]
    exact a6
  · obtain ⟨k, a, b, c, d⟩ := NS_e a7 h3 (fun _ _ _ => rfl)
    refine ⟨k, a, b, h2.2.1.1.trans c, fun i hi => ?_⟩
    rw [h2.2.2.1 45 i (by omega) (by omega) (by omega), h2.2.2.1 46 i (by omega) (by omega) (by omega), h2.2.2.1 47 i (by omega) (by omega) (by omega)]
    exact d i hi
  · obtain ⟨k, a, b, c, d⟩ := NP_e a8 h4 (fun _ _ _ => rfl)
    refine ⟨k, a, b, h2.2.1.2.1.trans c, fun i hi => ?_⟩
    rw [h2.2.2.2.1 50 i (by omega) (by omega) (by omega), h2.2.2.2.1 51 i (by omega) (by omega) (by omega)]
    exact d i hi
  · obtain ⟨k, a, b, c, d⟩ := NB_e a9 h5 (fun _ _ _ => rfl)
    refine ⟨k, a, b, h2.2.1.2.2.trans c, fun i hi => ?_⟩
    rw [h2.2.2.2.2 52 i (by omega) (by omega) (by omega), h2.2.2.2.2 53 i (by omega) (by omega) (by omega)]
    exact d i hi
