/-! THE LAW'S CALLS, in both, as pairs of contracts (made by wip/whole/gen/gen99.py) -/
theorem RX.o29 {nh : Nat} {σ σ' : Ms} {ρ : Mm} {ℓ ℓ' : Mz} {η : Mj} (R : RX nh σ ρ ℓ η) (z : ∀ o, o ≠ 29 → σ' o = σ o) (zl : ∀ o, o ≠ 29 → ℓ' o = ℓ o) : RX nh σ' ρ ℓ' η := by
  obtain ⟨a1, ⟨⟨a2, a3⟩, ⟨a4, a5⟩, a6⟩, b, c, d, e, f⟩ := R
  refine ⟨?_, ⟨?_, ?_, a6⟩, HsR_e b (by rw [z 0 (by omega)]) (fun j q r => z j (by omega)) (fun k hk => rfl), ?_, ImR_e d (by rw [z 0 (by omega)]) (fun o ho => z o (by omega)) (fun k q r => rfl), ?_, fun t ht => ?_⟩
  · rw [z 1 (by omega), z 6 (by omega), z 7 (by omega), z 8 (by omega)]
    exact a1
  · rw [z 1 (by omega)]
    exact ⟨a2, a3⟩
  · rw [z 2 (by omega)]
    exact ⟨a4, a5⟩
  · rw [z 12 (by omega)]
    exact c
  · rw [z 21 (by omega)]
    exact e
  · rw [z (23 + t) (by omega), zl (23 + t) (by omega)]
    exact f t ht
/-- the two memories are one -/
def INV (σ : Ms) (ℓ : Mz) : Prop := ∃ nh : Nat, RX nh σ (σ 29) ℓ (ℓ 29) ∧ SH (σ 20)
theorem INV.mk9 {nh : Nat} {σ : Ms} {ρ : Mm} {ℓ : Mz} {η : Mj} (R : RX nh σ ρ ℓ η) (S : SH (σ 20)) : INV (va_up σ 29 ρ) (va_up ℓ 29 η) := ⟨nh, by
  rw [up_eq, up_eq]
  exact R.o29 (fun o h => up_ne h) (fun o h => up_ne h), by rw [up_ne (by omega)]; exact S⟩
theorem INV.mk8 {nh : Nat} {σ : Ms} {ρ : Mm} {ℓ : Mz} (R : RX nh σ ρ ℓ (ℓ 29)) (S : SH (σ 20)) : INV (va_up σ 29 ρ) ℓ := ⟨nh, by
  rw [up_eq]
  exact R.o29 (fun o h => up_ne h) (fun o h => rfl), by rw [up_ne (by omega)]; exact S⟩
theorem INV.mkl {nh : Nat} {σ : Ms} {ℓ : Mz} {η : Mj} (R : RX nh σ (σ 29) ℓ η) (S : SH (σ 20)) : INV σ (va_up ℓ 29 η) := ⟨nh, by
  rw [up_eq]
  exact R.o29 (fun o h => rfl) (fun o h => up_ne h), S⟩
section LW
variable {l : Launch} {E : Ev} {σ : Ms} {ℓ : Mz}
theorem L_master (I : INV σ ℓ) (a : Int32) (b : Int32) (c : Int32) : ∃ (r : Int32) (σ1 : Ms) (ℓ1 : Mz) (σ2 : Ms) (ℓ2 : Mz), Ct l yX8_master wsX8_master rm_X8_master [.ref (Ea E 0 0), .int a, .int b, .int c] E σ ℓ (some (.int r)) σ1 ℓ1 ∧ Ct l yX9_master wsX9_master rm_X9_master [.ref (Ea E 29 0), .int a, .int b, .int c] E σ1 ℓ1 (some (.int r)) σ2 ℓ2 ∧ INV σ2 ℓ2 := by
  obtain ⟨nh, R, S⟩ := I
  obtain ⟨r, σ', ρ', e8, e9, R', k1, k2⟩ := S_master R a b c
  exact ⟨r, σ', ℓ, _, ℓ, c_X8_master e8, k_X9_master k2 e9, INV.mk8 R' (by rw [k1]; exact S)⟩
theorem L_of (I : INV σ ℓ) (a : Int32) (b : Int32) : ∃ (r : Int32) (σ1 : Ms) (ℓ1 : Mz) (σ2 : Ms) (ℓ2 : Mz), Ct l yX8_of wsX8_of rm_X8_of [.ref (Ea E 0 0), .int a, .int b] E σ ℓ (some (.int r)) σ1 ℓ1 ∧ Ct l yX9_of wsX9_of rm_X9_of [.ref (Ea E 29 0), .int a, .int b] E σ1 ℓ1 (some (.int r)) σ2 ℓ2 ∧ INV σ2 ℓ2 := by
  obtain ⟨nh, R, S⟩ := I
  obtain ⟨r, σ', ρ', e8, e9, R', k1, k2⟩ := S_of R a b
  exact ⟨r, σ', ℓ, _, ℓ, c_X8_of e8, k_X9_of k2 e9, INV.mk8 R' (by rw [k1]; exact S)⟩
theorem L_set (I : INV σ ℓ) (a : Int32) (b : Int32) (c : Int32) : ∃ (r : Int32) (σ1 : Ms) (ℓ1 : Mz) (σ2 : Ms) (ℓ2 : Mz), Ct l yX8_set wsX8_set rm_X8_set [.ref (Ea E 0 0), .int a, .int b, .int c] E σ ℓ (some (.int r)) σ1 ℓ1 ∧ Ct l yX9_set wsX9_set rm_X9_set [.ref (Ea E 29 0), .int a, .int b, .int c] E σ1 ℓ1 (some (.int r)) σ2 ℓ2 ∧ INV σ2 ℓ2 := by
  obtain ⟨nh, R, S⟩ := I
  obtain ⟨r, σ', ρ', e8, e9, R', k1, k2⟩ := S_set R a b c
  exact ⟨r, σ', ℓ, _, ℓ, c_X8_set e8, k_X9_set k2 e9, INV.mk8 R' (by rw [k1]; exact S)⟩
theorem L_away (I : INV σ ℓ) (a : Int32) (b : Int32) : ∃ (r : Int32) (σ1 : Ms) (ℓ1 : Mz) (σ2 : Ms) (ℓ2 : Mz), Ct l yX8_away wsX8_away rm_X8_away [.ref (Ea E 0 0), .int a, .int b] E σ ℓ (some (.int r)) σ1 ℓ1 ∧ Ct l yX9_away wsX9_away rm_X9_away [.ref (Ea E 29 0), .int a, .int b] E σ1 ℓ1 (some (.int r)) σ2 ℓ2 ∧ INV σ2 ℓ2 := by
  obtain ⟨nh, R, S⟩ := I
  obtain ⟨r, σ', ρ', e8, e9, R', k1, k2⟩ := S_away R a b
  exact ⟨r, σ', ℓ, _, ℓ, c_X8_away e8, k_X9_away k2 e9, INV.mk8 R' (by rw [k1]; exact S)⟩
theorem L_ring (I : INV σ ℓ) (a : Int32) : ∃ (r : Int32) (σ1 : Ms) (ℓ1 : Mz) (σ2 : Ms) (ℓ2 : Mz), Ct l yX8_ring wsX8_ring rm_X8_ring [.ref (Ea E 0 0), .int a] E σ ℓ (some (.int r)) σ1 ℓ1 ∧ Ct l yX9_ring wsX9_ring rm_X9_ring [.ref (Ea E 29 0), .int a] E σ1 ℓ1 (some (.int r)) σ2 ℓ2 ∧ INV σ2 ℓ2 := by
  obtain ⟨nh, R, S⟩ := I
  obtain ⟨r, σ', ρ', e8, e9, R', k1, k2⟩ := S_ring R a
  exact ⟨r, σ', ℓ, _, ℓ, c_X8_ring e8, k_X9_ring k2 e9, INV.mk8 R' (by rw [k1]; exact S)⟩
theorem L_cross (I : INV σ ℓ) (a : Int32) (b : Int32) : ∃ (r : Int32) (σ1 : Ms) (ℓ1 : Mz) (σ2 : Ms) (ℓ2 : Mz), Ct l yX8_cross wsX8_cross rm_X8_cross [.ref (Ea E 0 0), .int a, .int b] E σ ℓ (some (.int r)) σ1 ℓ1 ∧ Ct l yX9_cross wsX9_cross rm_X9_cross [.ref (Ea E 29 0), .int a, .int b] E σ1 ℓ1 (some (.int r)) σ2 ℓ2 ∧ INV σ2 ℓ2 := by
  obtain ⟨nh, R, S⟩ := I
  obtain ⟨r, σ', ρ', e8, e9, R', k1, k2⟩ := S_cross R a b
  exact ⟨r, σ', ℓ, _, ℓ, c_X8_cross e8, k_X9_cross k2 e9, INV.mk8 R' (by rw [k1]; exact S)⟩
theorem L_row (I : INV σ ℓ) (a : Int32) (b : Int32) (c : Int32) : ∃ (r : Int32) (σ1 : Ms) (ℓ1 : Mz) (σ2 : Ms) (ℓ2 : Mz), Ct l yX8_row wsX8_row rm_X8_row [.ref (Ea E 0 0), .int a, .int b, .int c] E σ ℓ (some (.int r)) σ1 ℓ1 ∧ Ct l yX9_row wsX9_row rm_X9_row [.ref (Ea E 29 0), .int a, .int b, .int c] E σ1 ℓ1 (some (.int r)) σ2 ℓ2 ∧ INV σ2 ℓ2 := by
  obtain ⟨nh, R, S⟩ := I
  obtain ⟨r, σ', ρ', e8, e9, R', k1, k2⟩ := S_row R a b c
  exact ⟨r, σ', ℓ, _, ℓ, c_X8_row e8, k_X9_row k2 e9, INV.mk8 R' (by rw [k1]; exact S)⟩
theorem L_feed (I : INV σ ℓ) (a : Int32) : ∃ (r : Int32) (σ1 : Ms) (ℓ1 : Mz) (σ2 : Ms) (ℓ2 : Mz), Ct l yX8_feed wsX8_feed rm_X8_feed [.ref (Ea E 0 0), .int a] E σ ℓ (some (.int r)) σ1 ℓ1 ∧ Ct l yX9_feed wsX9_feed rm_X9_feed [.ref (Ea E 29 0), .int a] E σ1 ℓ1 (some (.int r)) σ2 ℓ2 ∧ INV σ2 ℓ2 := by
  obtain ⟨nh, R, S⟩ := I
  obtain ⟨r, σ', ρ', e8, e9, R', k1, k2⟩ := S_feed R a
  exact ⟨r, σ', ℓ, _, ℓ, c_X8_feed e8, k_X9_feed k2 e9, INV.mk8 R' (by rw [k1]; exact S)⟩
theorem L_house (I : INV σ ℓ)  : ∃ (r : Int32) (σ1 : Ms) (ℓ1 : Mz) (σ2 : Ms) (ℓ2 : Mz), Ct l yX8_house wsX8_house rm_X8_house [.ref (Ea E 0 0)] E σ ℓ (some (.int r)) σ1 ℓ1 ∧ Ct l yX9_house wsX9_house rm_X9_house [.ref (Ea E 29 0)] E σ1 ℓ1 (some (.int r)) σ2 ℓ2 ∧ INV σ2 ℓ2 := by
  obtain ⟨nh, R, S⟩ := I
  obtain ⟨r, σ', ρ', nh', e8, e9, R', k1, k2⟩ := S_house R 
  exact ⟨r, σ', ℓ, _, ℓ, c_X8_house e8, k_X9_house k2 e9, INV.mk8 R' (by rw [k1]; exact S)⟩
theorem L_told (I : INV σ ℓ) (a : Int32) : ∃ (r : Int32) (σ1 : Ms) (ℓ1 : Mz) (σ2 : Ms) (ℓ2 : Mz), Ct l yX8_told wsX8_told rm_X8_told [.ref (Ea E 0 0), .int a] E σ ℓ (some (.int r)) σ1 ℓ1 ∧ Ct l yX9_told wsX9_told rm_X9_told [.ref (Ea E 29 0), .int a] E σ1 ℓ1 (some (.int r)) σ2 ℓ2 ∧ INV σ2 ℓ2 := by
  obtain ⟨nh, R, S⟩ := I
  obtain ⟨r, σ', ρ', e8, e9, R', k1, k2⟩ := S_told R a
  exact ⟨r, σ', ℓ, _, ℓ, c_X8_told e8, k_X9_told k2 e9, INV.mk8 R' (by rw [k1]; exact S)⟩
theorem L_pass (I : INV σ ℓ) (a : Int32) : ∃ (r : Int32) (σ1 : Ms) (ℓ1 : Mz) (σ2 : Ms) (ℓ2 : Mz), Ct l yX8_pass wsX8_pass rm_X8_pass [.ref (Ea E 0 0), .int a] E σ ℓ (some (.int r)) σ1 ℓ1 ∧ Ct l yX9_pass wsX9_pass rm_X9_pass [.ref (Ea E 29 0), .int a] E σ1 ℓ1 (some (.int r)) σ2 ℓ2 ∧ INV σ2 ℓ2 := by
  obtain ⟨nh, R, S⟩ := I
  obtain ⟨r, σ', ρ', e8, e9, R', k1, k2⟩ := S_pass R a
  exact ⟨r, σ', ℓ, _, ℓ, c_X8_pass e8, k_X9_pass k2 e9, INV.mk8 R' (by rw [k1]; exact S)⟩
theorem L_on (I : INV σ ℓ) (a : Int32) (b : Int32) : ∃ (r : Int32) (σ1 : Ms) (ℓ1 : Mz) (σ2 : Ms) (ℓ2 : Mz), Ct l yX8_on wsX8_on rm_X8_on [.ref (Ea E 0 0), .int a, .int b] E σ ℓ (some (.int r)) σ1 ℓ1 ∧ Ct l yX9_on wsX9_on rm_X9_on [.ref (Ea E 29 0), .int a, .int b] E σ1 ℓ1 (some (.int r)) σ2 ℓ2 ∧ INV σ2 ℓ2 := by
  obtain ⟨nh, R, S⟩ := I
  obtain ⟨r, σ', ρ', e8, e9, R', k1, k2⟩ := S_on R a b
  exact ⟨r, σ', ℓ, _, ℓ, c_X8_on e8, k_X9_on k2 e9, INV.mk8 R' (by rw [k1]; exact S)⟩
theorem L_bell (I : INV σ ℓ) (a : Int32) (b : Int32) : ∃ (r : Int32) (σ1 : Ms) (ℓ1 : Mz) (σ2 : Ms) (ℓ2 : Mz), Ct l yX8_bell wsX8_bell rm_X8_bell [.ref (Ea E 0 0), .int a, .int b] E σ ℓ (some (.int r)) σ1 ℓ1 ∧ Ct l yX9_bell wsX9_bell rm_X9_bell [.ref (Ea E 29 0), .int a, .int b] E σ1 ℓ1 (some (.int r)) σ2 ℓ2 ∧ INV σ2 ℓ2 := by
  obtain ⟨nh, R, S⟩ := I
  obtain ⟨r, σ', ρ', e8, e9, R', k1, k2⟩ := S_bell R a b
  exact ⟨r, σ', ℓ, _, ℓ, c_X8_bell e8, k_X9_bell k2 e9, INV.mk8 R' (by rw [k1]; exact S)⟩
theorem L_shared (I : INV σ ℓ) (a : Int32) : ∃ (r : Int32) (σ1 : Ms) (ℓ1 : Mz) (σ2 : Ms) (ℓ2 : Mz), Ct l yX8_shared wsX8_shared rm_X8_shared [.ref (Ea E 0 0), .int a] E σ ℓ (some (.int r)) σ1 ℓ1 ∧ Ct l yX9_shared wsX9_shared rm_X9_shared [.ref (Ea E 29 0), .int a] E σ1 ℓ1 (some (.int r)) σ2 ℓ2 ∧ INV σ2 ℓ2 := by
  obtain ⟨nh, R, S⟩ := I
  obtain ⟨r, σ', ρ', e8, e9, R', k1, k2⟩ := S_shared R S a
  exact ⟨r, σ', ℓ, _, ℓ, c_X8_shared e8, k_X9_shared k2 e9, INV.mk8 R' k1⟩
theorem L_see (I : INV σ ℓ) (a : Int32) (b : Int32) (c : Int32) : ∃ (r : Int32) (σ1 : Ms) (ℓ1 : Mz) (σ2 : Ms) (ℓ2 : Mz), Ct l yX8_see wsX8_see rm_X8_see [.ref (Ea E 0 0), .int a, .int b, .int c] E σ ℓ (some (.int r)) σ1 ℓ1 ∧ Ct l yX9_see wsX9_see rm_X9_see [.ref (Ea E 29 0), .int a, .int b, .int c] E σ1 ℓ1 (some (.int r)) σ2 ℓ2 ∧ INV σ2 ℓ2 := by
  obtain ⟨nh, R, S⟩ := I
  obtain ⟨r, σ', ρ', e8, e9, R', k1, k2⟩ := S_see R a b c
  exact ⟨r, σ', ℓ, _, ℓ, c_X8_see e8, k_X9_see k2 e9, INV.mk8 R' (by rw [k1]; exact S)⟩
theorem L_from (I : INV σ ℓ) (a : Int32) : ∃ (r : Int32) (σ1 : Ms) (ℓ1 : Mz) (σ2 : Ms) (ℓ2 : Mz), Ct l yX8_from wsX8_from rm_X8_from [.ref (Ea E 0 0), .int a] E σ ℓ (some (.int r)) σ1 ℓ1 ∧ Ct l yX9_from wsX9_from rm_X9_from [.ref (Ea E 29 0), .int a] E σ1 ℓ1 (some (.int r)) σ2 ℓ2 ∧ INV σ2 ℓ2 := by
  obtain ⟨nh, R, S⟩ := I
  obtain ⟨r, σ', ρ', e8, e9, R', k1, k2⟩ := S_from R a
  exact ⟨r, σ', ℓ, _, ℓ, c_X8_from e8, k_X9_from k2 e9, INV.mk8 R' (by rw [k1]; exact S)⟩
theorem L_can (I : INV σ ℓ) (a : Int32) (b : Int32) : ∃ (r : Int32) (σ1 : Ms) (ℓ1 : Mz) (σ2 : Ms) (ℓ2 : Mz), Ct l yX8_can wsX8_can rm_X8_can [.ref (Ea E 0 0), .int a, .int b] E σ ℓ (some (.int r)) σ1 ℓ1 ∧ Ct l yX9_can wsX9_can rm_X9_can [.ref (Ea E 29 0), .int a, .int b] E σ1 ℓ1 (some (.int r)) σ2 ℓ2 ∧ INV σ2 ℓ2 := by
  obtain ⟨nh, R, S⟩ := I
  obtain ⟨r, σ', ρ', e8, e9, R', k1, k2⟩ := S_can R a b
  exact ⟨r, σ', ℓ, _, ℓ, c_X8_can e8, k_X9_can k2 e9, INV.mk8 R' (by rw [k1]; exact S)⟩
theorem L_odds (I : INV σ ℓ) (a : Int32) (b : Int32) : ∃ (r : Int64) (σ1 : Ms) (ℓ1 : Mz) (σ2 : Ms) (ℓ2 : Mz), Ct l yX8_odds wsX8_odds rm_X8_odds [.ref (Ea E 0 0), .int a, .int b] E σ ℓ (some (.long r)) σ1 ℓ1 ∧ Ct l yX9_odds wsX9_odds rm_X9_odds [.ref (Ea E 29 0), .int a, .int b] E σ1 ℓ1 (some (.long r)) σ2 ℓ2 ∧ INV σ2 ℓ2 := by
  obtain ⟨nh, R, S⟩ := I
  obtain ⟨r, σ', ρ', e8, e9, R', k1, k2⟩ := S_odds R a b
  exact ⟨r, σ', ℓ, _, ℓ, c_X8_odds e8, k_X9_odds k2 e9, INV.mk8 R' (by rw [k1]; exact S)⟩
theorem L_mean (I : INV σ ℓ) (a : Int32) (b : Int32) : ∃ (r : Int64) (σ1 : Ms) (ℓ1 : Mz) (σ2 : Ms) (ℓ2 : Mz), Ct l yX8_mean wsX8_mean rm_X8_mean [.ref (Ea E 0 0), .int a, .int b] E σ ℓ (some (.long r)) σ1 ℓ1 ∧ Ct l yX9_mean wsX9_mean rm_X9_mean [.ref (Ea E 29 0), .int a, .int b] E σ1 ℓ1 (some (.long r)) σ2 ℓ2 ∧ INV σ2 ℓ2 := by
  obtain ⟨nh, R, S⟩ := I
  obtain ⟨r, σ', ρ', e8, e9, R', k1, k2⟩ := S_mean R a b
  exact ⟨r, σ', ℓ, _, ℓ, c_X8_mean e8, k_X9_mean k2 e9, INV.mk8 R' (by rw [k1]; exact S)⟩
theorem L_plan (I : INV σ ℓ) (a : Int32) (b : Int32) : ∃ (r : Int32) (σ1 : Ms) (ℓ1 : Mz) (σ2 : Ms) (ℓ2 : Mz), Ct l yX8_plan wsX8_plan rm_X8_plan [.ref (Ea E 0 0), .int a, .int b] E σ ℓ (some (.int r)) σ1 ℓ1 ∧ Ct l yX9_plan wsX9_plan rm_X9_plan [.ref (Ea E 29 0), .int a, .int b] E σ1 ℓ1 (some (.int r)) σ2 ℓ2 ∧ INV σ2 ℓ2 := by
  obtain ⟨nh, R, S⟩ := I
  obtain ⟨r, σ', ρ', e8, e9, R', k1, k2⟩ := S_plan R a b
  exact ⟨r, σ', ℓ, _, ℓ, c_X8_plan e8, k_X9_plan k2 e9, INV.mk8 R' (by rw [k1]; exact S)⟩
theorem L_ends (I : INV σ ℓ) (a : Int32) : ∃ (r : Int32) (σ1 : Ms) (ℓ1 : Mz) (σ2 : Ms) (ℓ2 : Mz), Ct l yX8_ends wsX8_ends rm_X8_ends [.ref (Ea E 0 0), .int a] E σ ℓ (some (.int r)) σ1 ℓ1 ∧ Ct l yX9_ends wsX9_ends rm_X9_ends [.ref (Ea E 29 0), .int a] E σ1 ℓ1 (some (.int r)) σ2 ℓ2 ∧ INV σ2 ℓ2 := by
  obtain ⟨nh, R, S⟩ := I
  obtain ⟨r, σ', ρ', e8, e9, R', k1, k2⟩ := S_ends R a
  exact ⟨r, σ', ℓ, _, ℓ, c_X8_ends e8, k_X9_ends k2 e9, INV.mk8 R' (by rw [k1]; exact S)⟩
theorem L_book (I : INV σ ℓ) (a : Int32) (b : Int32) : ∃ (r : Int32) (σ1 : Ms) (ℓ1 : Mz) (σ2 : Ms) (ℓ2 : Mz), Ct l yX8_book wsX8_book rm_X8_book [.ref (Ea E 0 0), .int a, .int b] E σ ℓ (some (.int r)) σ1 ℓ1 ∧ Ct l yX9_book wsX9_book rm_X9_book [.ref (Ea E 29 0), .int a, .int b] E σ1 ℓ1 (some (.int r)) σ2 ℓ2 ∧ INV σ2 ℓ2 := by
  obtain ⟨nh, R, S⟩ := I
  obtain ⟨r, σ', ρ', e8, e9, R', k1, k2⟩ := S_book R a b
  exact ⟨r, σ', ℓ, _, ℓ, c_X8_book e8, k_X9_book k2 e9, INV.mk8 R' (by rw [k1]; exact S)⟩
theorem L_looked (I : INV σ ℓ)  : ∃ (r : Int32) (σ1 : Ms) (ℓ1 : Mz) (σ2 : Ms) (ℓ2 : Mz), Ct l yX8_looked wsX8_looked rm_X8_looked [.ref (Ea E 0 0)] E σ ℓ (some (.int r)) σ1 ℓ1 ∧ Ct l yX9_looked wsX9_looked rm_X9_looked [.ref (Ea E 29 0)] E σ1 ℓ1 (some (.int r)) σ2 ℓ2 ∧ INV σ2 ℓ2 := by
  obtain ⟨nh, R, S⟩ := I
  obtain ⟨r, e8, e9⟩ := S_looked R 
  exact ⟨r, σ, ℓ, σ, ℓ, c_X8_looked e8, c_X9_looked rfl e9, nh, R, S⟩
theorem L_judge (I : INV σ ℓ) (a : Int32) (b : Int32) : ∃ (r : Int32) (σ1 : Ms) (ℓ1 : Mz) (σ2 : Ms) (ℓ2 : Mz), Ct l yX8_judge wsX8_judge rm_X8_judge [.ref (Ea E 0 0), .int a, .int b] E σ ℓ (some (.int r)) σ1 ℓ1 ∧ Ct l yX9_judge wsX9_judge rm_X9_judge [.ref (Ea E 29 0), .int a, .int b] E σ1 ℓ1 (some (.int r)) σ2 ℓ2 ∧ INV σ2 ℓ2 := by
  obtain ⟨nh, R, S⟩ := I
  obtain ⟨r, e8, e9⟩ := S_judge R a b
  exact ⟨r, σ, ℓ, σ, ℓ, c_X8_judge e8, c_X9_judge rfl rfl e9, nh, R, S⟩
theorem L_image (I : INV σ ℓ)  : ∃ (r : Int32) (σ1 : Ms) (ℓ1 : Mz) (σ2 : Ms) (ℓ2 : Mz), Ct l yX8_image wsX8_image rm_X8_image [.ref (Ea E 0 0)] E σ ℓ (some (.int r)) σ1 ℓ1 ∧ Ct l yX9_image wsX9_image rm_X9_image [.ref (Ea E 29 0)] E σ1 ℓ1 (some (.int r)) σ2 ℓ2 ∧ INV σ2 ℓ2 := by
  obtain ⟨nh, R, S⟩ := I
  obtain ⟨r, σ', ρ', e8, e9, R', k1, k2⟩ := S_image R 
  exact ⟨r, σ', ℓ, _, ℓ, c_X8_image e8, k_X9_image k2 e9, INV.mk8 R' (by rw [k1]; exact S)⟩
theorem L_undo (I : INV σ ℓ)  : ∃ (r : Int32) (σ1 : Ms) (ℓ1 : Mz) (σ2 : Ms) (ℓ2 : Mz), Ct l yX8_undo wsX8_undo rm_X8_undo [.ref (Ea E 0 0)] E σ ℓ (some (.int r)) σ1 ℓ1 ∧ Ct l yX9_undo wsX9_undo rm_X9_undo [.ref (Ea E 29 0)] E σ1 ℓ1 (some (.int r)) σ2 ℓ2 ∧ INV σ2 ℓ2 := by
  obtain ⟨nh, R, S⟩ := I
  obtain ⟨r, σ', ρ', e8, e9, R', k1, k2⟩ := S_undo R 
  exact ⟨r, σ', ℓ, _, ℓ, c_X8_undo e8, k_X9_undo k2 e9, INV.mk8 R' (by rw [k1]; exact S)⟩
theorem L_act (I : INV σ ℓ) (a : Int32) (b : Int32) (c : Int32) : ∃ (r : Int32) (σ1 : Ms) (ℓ1 : Mz) (σ2 : Ms) (ℓ2 : Mz), Ct l yX8_act wsX8_act rm_X8_act [.ref (Ea E 0 0), .int a, .int b, .int c] E σ ℓ (some (.int r)) σ1 ℓ1 ∧ Ct l yX9_act wsX9_act rm_X9_act [.ref (Ea E 29 0), .int a, .int b, .int c] E σ1 ℓ1 (some (.int r)) σ2 ℓ2 ∧ INV σ2 ℓ2 := by
  obtain ⟨nh, R, S⟩ := I
  obtain ⟨r, σ', ρ', e8, e9, R', k1, k2⟩ := S_act R a b c
  exact ⟨r, σ', ℓ, _, ℓ, c_X8_act e8, k_X9_act k2 e9, INV.mk8 R' (by rw [k1]; exact S)⟩
theorem L_trace (I : INV σ ℓ) (a : Int32) : ∃ (r : Int32) (σ1 : Ms) (ℓ1 : Mz) (σ2 : Ms) (ℓ2 : Mz), Ct l yX8_trace wsX8_trace rm_X8_trace [.ref (Ea E 0 0), .int a] E σ ℓ (some (.int r)) σ1 ℓ1 ∧ Ct l yX9_trace wsX9_trace rm_X9_trace [.ref (Ea E 29 0), .int a] E σ1 ℓ1 (some (.int r)) σ2 ℓ2 ∧ INV σ2 ℓ2 := by
  obtain ⟨nh, R, S⟩ := I
  obtain ⟨r, e8, e9⟩ := S_trace R a
  exact ⟨r, σ, ℓ, σ, ℓ, c_X8_trace e8, c_X9_trace rfl e9, nh, R, S⟩
theorem L_taken (I : INV σ ℓ) (a : Int32) (b : Int32) : ∃ (r : Int32) (σ1 : Ms) (ℓ1 : Mz) (σ2 : Ms) (ℓ2 : Mz), Ct l yX8_taken wsX8_taken rm_X8_taken [.ref (Ea E 0 0), .int a, .int b] E σ ℓ (some (.int r)) σ1 ℓ1 ∧ Ct l yX9_taken wsX9_taken rm_X9_taken [.ref (Ea E 29 0), .int a, .int b] E σ1 ℓ1 (some (.int r)) σ2 ℓ2 ∧ INV σ2 ℓ2 := by
  obtain ⟨nh, R, S⟩ := I
  obtain ⟨r, e8, e9⟩ := S_taken R a b
  exact ⟨r, σ, ℓ, σ, ℓ, c_X8_taken e8, c_X9_taken rfl e9, nh, R, S⟩
theorem L_count (I : INV σ ℓ) (a : Int32) : ∃ (r : Int32) (σ1 : Ms) (ℓ1 : Mz) (σ2 : Ms) (ℓ2 : Mz), Ct l yX8_count wsX8_count rm_X8_count [.ref (Ea E 0 0), .int a] E σ ℓ (some (.int r)) σ1 ℓ1 ∧ Ct l yX9_count wsX9_count rm_X9_count [.ref (Ea E 29 0), .int a] E σ1 ℓ1 (some (.int r)) σ2 ℓ2 ∧ INV σ2 ℓ2 := by
  obtain ⟨nh, R, S⟩ := I
  obtain ⟨r, e8, e9⟩ := S_count R a
  exact ⟨r, σ, ℓ, σ, ℓ, c_X8_count e8, c_X9_count rfl e9, nh, R, S⟩
theorem L_tape (I : INV σ ℓ) (a : Int32) (b : Int32) (c : Int32) : ∃ (r : Int32) (σ1 : Ms) (ℓ1 : Mz) (σ2 : Ms) (ℓ2 : Mz), Ct l yX8_tape wsX8_tape rm_X8_tape [.ref (Ea E 0 0), .int a, .int b, .int c] E σ ℓ (some (.int r)) σ1 ℓ1 ∧ Ct l yX9_tape wsX9_tape rm_X9_tape [.ref (Ea E 29 0), .int a, .int b, .int c] E σ1 ℓ1 (some (.int r)) σ2 ℓ2 ∧ INV σ2 ℓ2 := by
  obtain ⟨nh, R, S⟩ := I
  obtain ⟨r, σ', ρ', ℓ', η', e8, e9, R', ⟨k1, k2⟩, k3⟩ := S_tape R a b c
  exact ⟨r, σ', ℓ', _, _, c_X8_tape e8, k_X9_tape k2 k3 e9, INV.mk9 R' (by rw [k1]; exact S)⟩
theorem L_item (I : INV σ ℓ) (a : Int32) (b : Int32) (w : Int64) : ∃ (r : Int32) (σ1 : Ms) (ℓ1 : Mz) (σ2 : Ms) (ℓ2 : Mz), Ct l yX8_item wsX8_item rm_X8_item [.ref (Ea E 0 0), .int a, .int b, .long w] E σ ℓ (some (.int r)) σ1 ℓ1 ∧ Ct l yX9_item wsX9_item rm_X9_item [.ref (Ea E 29 0), .int a, .int b, .long w] E σ1 ℓ1 (some (.int r)) σ2 ℓ2 ∧ INV σ2 ℓ2 := by
  obtain ⟨nh, R, S⟩ := I
  obtain ⟨r, ℓ', η', e8, e9, R', k3⟩ := S_item R a b w
  exact ⟨r, σ, ℓ', _, _, c_X8_item e8, k_X9_item rfl k3 e9, INV.mkl R' S⟩
theorem L_read (I : INV σ ℓ) (a : Int32) (b : Int32) : ∃ (r : Int64) (σ1 : Ms) (ℓ1 : Mz) (σ2 : Ms) (ℓ2 : Mz), Ct l yX8_read wsX8_read rm_X8_read [.ref (Ea E 0 0), .int a, .int b] E σ ℓ (some (.long r)) σ1 ℓ1 ∧ Ct l yX9_read wsX9_read rm_X9_read [.ref (Ea E 29 0), .int a, .int b] E σ1 ℓ1 (some (.long r)) σ2 ℓ2 ∧ INV σ2 ℓ2 := by
  obtain ⟨nh, R, S⟩ := I
  obtain ⟨r, e8, e9⟩ := S_read R a b
  exact ⟨r, σ, ℓ, σ, ℓ, c_X8_read e8, c_X9_read rfl rfl e9, nh, R, S⟩
theorem L_shift (I : INV σ ℓ) (a : Int32) (b : Int32) (c : Int32) (d : Int32) (e : Int32) : ∃ (r : Int32) (σ1 : Ms) (ℓ1 : Mz) (σ2 : Ms) (ℓ2 : Mz), Ct l yX8_shift wsX8_shift rm_X8_shift [.ref (Ea E 0 0), .int a, .int b, .int c, .int d, .int e] E σ ℓ (some (.int r)) σ1 ℓ1 ∧ Ct l yX9_shift wsX9_shift rm_X9_shift [.ref (Ea E 29 0), .int a, .int b, .int c, .int d, .int e] E σ1 ℓ1 (some (.int r)) σ2 ℓ2 ∧ INV σ2 ℓ2 := by
  obtain ⟨nh, R, S⟩ := I
  obtain ⟨r, ℓ', η', e8, e9, R', k3⟩ := S_shift R a b c d e
  exact ⟨r, σ, ℓ', _, _, c_X8_shift e8, k_X9_shift rfl k3 e9, INV.mkl R' S⟩
end LW
