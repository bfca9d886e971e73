/-! PURE: the calls, in both: tools -/
def bB (p : Int32) (n : Nat) : Int32 := b2 (0 ≤ p.toInt ∧ p.toInt < (n : Int))
def bC (p : Int32) (a n : Nat) : Int32 := b2 ((a : Int) ≤ p.toInt ∧ p.toInt < (a : Int) + (n : Int))
theorem bB_c (p : Int32) {n : Nat} (hn : n < 2 ^ 31) : (bB p n = 0 ∧ ∀ k, k < n → ¬ p = nI k) ∨ ∃ k : Nat, k < n ∧ p = nI k ∧ bB p n = 1 := by
  unfold bB
  by_cases h : 0 ≤ p.toInt ∧ p.toInt < (n : Int)
  · right
    exact ⟨p.toInt.toNat, by omega, p_nat h.1, b2_t h⟩
  · left
    refine ⟨b2_f h, fun k hk q => h ?_⟩
    rw [q, nI_toInt (by omega)]
    omega
theorem bC_c (p : Int32) {a n : Nat} (hn : a + n < 2 ^ 31) : (bC p a n = 0 ∧ ∀ k, k < n → ¬ p = nI (a + k)) ∨ ∃ k : Nat, k < n ∧ p = nI (a + k) ∧ bC p a n = 1 := by
  unfold bC
  by_cases h : (a : Int) ≤ p.toInt ∧ p.toInt < (a : Int) + (n : Int)
  · right
    refine ⟨p.toInt.toNat - a, by omega, ?_, b2_t h⟩
    rw [show a + (p.toInt.toNat - a) = p.toInt.toNat by omega]
    exact p_nat (by omega)
  · left
    refine ⟨b2_f h, fun k hk q => h ?_⟩
    rw [q, nI_toInt (by omega)]
    omega
theorem bB_k {k n : Nat} (h : k < n) (hn : n < 2 ^ 31) : bB (nI k) n = 1 := b2_t (by rw [nI_toInt (by omega)]; omega)
theorem bB_o {k n : Nat} (h : n ≤ k) (hn : k < 2 ^ 31) : bB (nI k) n = 0 := b2_f (by rw [nI_toInt (by omega)]; omega)
theorem i10 {α : Type} {a b : α} : (if (1 : Int32) = 0 then a else b) = b := if_neg (by decide)
theorem i00 {α : Type} {a b : α} : (if (0 : Int32) = 0 then a else b) = a := if_pos rfl
theorem q_w (p k : Int32) (n : Nat) (hk : k.toInt = (n : Int)) : f_X8_within p.toInt64 k = some (bB p n) := by
  rw [p_within, hk, Int32.toInt_toInt64]
  rfl
theorem q_wc (p : Int32) (j : Int64) (k : Int32) (a n : Nat) (hj : j.toInt = (a : Int)) (ha : a < 100) (hk : k.toInt = (n : Int)) : f_X8_within (p.toInt64 - j) k = some (bC p a n) := by
  have h := p_rng p
  have e : (p.toInt64 - j).toInt = p.toInt - (a : Int) := by
    rw [Int64.toInt_sub, Int32.toInt_toInt64, hj, p_bml (by omega) (by omega)]
  rw [p_within, e, hk]
  exact congrArg some (b2_c (by omega))
theorem q_i (p a b : Int32) (n : Nat) (ha : a.toInt = 0) (hb : b.toInt + 1 = (n : Int)) : f_X9_in p a b = some (bB p n) := by
  rw [p_in, ha]
  exact congrArg some (b2_c (by omega))
theorem q_ic (p a b : Int32) (i n : Nat) (ha : a.toInt = (i : Int)) (hb : b.toInt + 1 = (i : Int) + (n : Int)) : f_X9_in p a b = some (bC p i n) := by
  rw [p_in, ha]
  exact congrArg some (b2_c (by omega))
theorem q_F (p : Int32) : f_X9_isFloor p = some (bB p 10) := by
  rw [p_isF]
  exact congrArg some (b2_c (by omega))
theorem q_Mi (p : Int32) : f_X9_isMinutes p = some (bB p 61) := by
  rw [p_isMi]
  exact congrArg some (b2_c (by omega))
theorem bB_B {p : Int32} {n : Nat} : isB (bB p n) = true := p_isB
theorem q_T (p : Int32) : f_X9_isTape p = some (bB p 6) := by
  unfold f_X9_isTape f_X9_isTape_0
  rw [q_i p 0 5 6 rfl rfl, bd_s, gd_of bB_B]
theorem q_M8 {σ : Ms} {M : Nat} (hM : M ≤ 6) (h : σ 1 12 0 = nI M) (p : Int32) : f_X8_isMaster σ p.toInt64 = some (bB p M) := by
  rw [p_isM8 (by omega) h, Int32.toInt_toInt64]
  rfl
theorem q_M8c {σ : Ms} {M : Nat} (hM : M ≤ 6) (h : σ 1 12 0 = nI M) (p : Int32) (j : Int64) (a : Nat) (hj : j.toInt = (a : Int)) (ha : a < 100) : f_X8_isMaster σ (p.toInt64 - j) = some (bC p a M) := by
  have h' := p_rng p
  have e : (p.toInt64 - j).toInt = p.toInt - (a : Int) := by
    rw [Int64.toInt_sub, Int32.toInt_toInt64, hj, p_bml (by omega) (by omega)]
  rw [p_isM8 (by omega) h, e]
  exact congrArg some (b2_c (by omega))
theorem q_M9 {ρ : Mm} {M : Nat} (hM : M ≤ 6) (h : ρ 0 0 = nI M) (p : Int32) : f_X9_isMaster ρ p = some (bB p M) := p_isM9 (by omega) h p
theorem z_in {p N : Nat} (h : p < N) (hN : N < 2 ^ 31) {β : Type} {x : Option β} : gd (inB (nI p) N) x = x := gd_of (p_inN h hN)
theorem z_neq {a b : Nat} (h : a ≠ b) (ha : a < 2 ^ 31) (hb : b < 2 ^ 31) : ¬ nI a = nI b := fun q => h ((nI_eq ha hb).mp q)
theorem z_subc (a k : Nat) : nI (a + k) - nI a = nI k := by
  rw [pk_sub (by omega)]
  congr 1
  omega
/-! frames of the relation -/
theorem Core_k {nh : Nat} {τ s p b ρ ρ' : Mm} (c : Core nh τ s p b ρ) (hk : ∀ k, (k ≤ 12 ∨ k = 14 ∨ 44 ≤ k ∧ k ≤ 53) → ρ' k = ρ k) : Core nh τ s p b ρ' := by
  obtain ⟨M, m, w, a1, a2, a3, a4, a5, a6, a7, a8, a9⟩ := c
  have hn : EQN ρ' ρ := fun k q r => hk k (by omega)
  refine ⟨M, m, w, ?_, a2, a3, a4, a5, ?_, NS_e a7 EQR.rf hn, NP_e a8 EQR.rf hn, NB_e a9 EQR.rf hn⟩
  · unfold HR MR at a1 ⊢
    simp only [hk 0 (by omega), hk 1 (by omega), hk 2 (by omega), hk 3 (by omega), hk 4 (by omega), hk 5 (by omega), hk 6 (by omega), hk 7 (by omega), hk 8 (by omega), hk 9 (by omega), hk 10 (by omega), hk 11 (by omega), hk 12 (by omega)]
    exact a1
  · rw [hk 14 (by omega)]
    exact a6
theorem Core_s {nh : Nat} {τ' s p b ρ ρ' : Mm} {M m w : Nat} (H' : HR M m w m τ' ρ') (hm : m ≤ 9999) (hw : w ≤ 10 * m) (hz : HZ M τ') (hp : PW τ') (hl : HL (τ' 16 0) (ρ' 14 0) nh) (ns : NS M s ρ) (np : NP M p ρ) (nb : NB M b ρ) (hn : EQN ρ' ρ) : Core nh τ' s p b ρ' := ⟨M, m, w, H', hm, hw, hz, hp, hl, NS_e ns EQR.rf hn, NP_e np EQR.rf hn, NB_e nb EQR.rf hn⟩
theorem RX.gen {nh : Nat} {σ σ' : Ms} {ρ ρ' : Mm} {ℓ : Mz} {η : Mj} (R : RX nh σ ρ ℓ η) (hσ : ∀ o, o < 29 → o ≠ 12 → o ≠ 20 → o ≠ 21 → σ' o = σ o) (hρ : ∀ k, (k ≤ 14 ∨ 19 ≤ k ∧ k ≤ 24 ∨ k = 31 ∨ k = 32 ∨ 44 ≤ k ∧ k ≤ 78 ∨ k = 81 ∨ k = 82) → ρ' k = ρ k) (ht : TxR (σ' 12) ρ') (ha : AcR (σ' 21) ρ') : RX nh σ' ρ' ℓ η := by
  obtain ⟨a1, ⟨⟨a2, a3⟩, ⟨a4, a5⟩, a6⟩, b, -, d, -, f⟩ := R
  have z : ∀ o, o < 29 → o ≠ 12 → o ≠ 20 → o ≠ 21 → σ' o = σ o := hσ
  refine ⟨?_, ⟨?_, ?_, ?_⟩, HsR_e b (by rw [z 0 (by omega) (by omega) (by omega) (by omega)]) (fun j q r => z j (by omega) (by omega) (by omega) (by omega)) (fun k hk => hρ k (by omega)), ht, ImR_e d (by rw [z 0 (by omega) (by omega) (by omega) (by omega)]) (fun o ho => z o (by omega) (by omega) (by omega) (by omega)) (fun k q r => hρ k (by omega)), ha, TpR_e f (fun o q r => z o (by omega) (by omega) (by omega) (by omega)) ⟨hρ 81 (by omega), hρ 82 (by omega)⟩⟩
  · rw [z 1 (by omega) (by omega) (by omega) (by omega), z 6 (by omega) (by omega) (by omega) (by omega), z 7 (by omega) (by omega) (by omega) (by omega), z 8 (by omega) (by omega) (by omega) (by omega)]
    exact Core_k a1 (fun k hk => hρ k (by omega))
  · rw [z 1 (by omega) (by omega) (by omega) (by omega)]
    exact ⟨a2, a3⟩
  · rw [z 2 (by omega) (by omega) (by omega) (by omega)]
    exact ⟨a4, a5⟩
  · rw [hρ 31 (by omega), hρ 32 (by omega)]
    exact a6
/-- kept: the row of SHARED, the model's object -/
def KP (σ' σ : Ms) : Prop := σ' 20 = σ 20 ∧ σ' 29 = σ 29
theorem KP.up {σ : Ms} {o : Nat} {t : Mm} (h : o < 20 ∨ 20 < o ∧ o < 29) : KP (va_up σ o t) σ := ⟨up_ne (by omega), up_ne (by omega)⟩
def SM {α : Type} (nh : Nat) (σ : Ms) (ℓ : Mz) (η : Mj) (x : Option (α × Ms)) (y : Option (α × Mm)) : Prop := ∃ (r : α) (σ' : Ms) (ρ' : Mm), x = some (r, σ') ∧ y = some (r, ρ') ∧ RX nh σ' ρ' ℓ η ∧ KP σ' σ
theorem SM.same {α : Type} {nh : Nat} {σ : Ms} {ρ : Mm} {ℓ : Mz} {η : Mj} (R : RX nh σ ρ ℓ η) (r : α) : SM nh σ ℓ η (some (r, σ)) (some (r, ρ)) := ⟨r, σ, ρ, rfl, rfl, R, rfl, rfl⟩
theorem SM.now {α : Type} {nh : Nat} {σ : Ms} {ρ : Mm} {ℓ : Mz} {η : Mj} (R : RX nh σ ρ ℓ η) (r : α) {τ' ρ' : Mm} (h1 : τ' 0 = σ 1 0 ∧ τ' 1 = σ 1 1) (hρ : ∀ k, ¬ (k ≤ 12 ∨ k = 14 ∨ k = 30 ∨ 44 ≤ k ∧ k ≤ 53) → ρ' k = ρ k) (hc : Core nh τ' (σ 6) (σ 7) (σ 8) ρ') : SM nh σ ℓ η (some (r, va_up σ 1 τ')) (some (r, ρ')) := by
  refine ⟨r, _, _, rfl, rfl, R.now (fun o h _ _ _ _ _ => up_ne h) ?_ (up_ne (by omega)) hρ ?_, KP.up (by omega)⟩
  · rw [up_eq]; exact h1
  · rw [up_eq, up_ne (show (6 : Nat) ≠ 1 by omega), up_ne (show (7 : Nat) ≠ 1 by omega), up_ne (show (8 : Nat) ≠ 1 by omega)]
    exact hc
/-- the hall changed at a master, or at what is rung -/
theorem HR_away {M m w cb : Nat} {τ ρ : Mm} (H : HR M m w cb τ ρ) {p : Nat} (v : Bool) {x : Int32} (hx : ∀ i, i < 6 → bt x i = if i = p then v else bt (ρ 1 0) i) : HR M m w cb (s_t τ 7 p (if v = true then 1 else 0)) (s_t ρ 1 0 x) := by
  obtain ⟨h1, h2, h3, h4, h5, h6⟩ := H
  refine ⟨h1, h2, h3, h4, fun q hq => ?_, h6⟩
  obtain ⟨a2, a3, a4, a5, a6, a7, a8, a9⟩ := h5 q hq
  refine ⟨a2, a3, a4, a5, a6, ?_, a8, a9⟩
  rw [st_k, st_eq, hx q (by omega)]
  by_cases hpq : q = p
  · rw [if_pos hpq, if_pos hpq]
  · rw [if_neg hpq, if_neg hpq]
    exact a7
theorem HR_ring {M m w cb : Nat} {τ ρ : Mm} (H : HR M m w cb τ ρ) {g : Nat} (hg : g < 10) : HR M m w cb (s_t τ 13 0 (τ 13 0 ||| ((1 : Int32) <<< (nI g &&& 31)))) (s_t ρ 2 0 (ρ 2 0 ||| ((1 : Int32) <<< (nI g &&& 31)))) := by
  obtain ⟨h1, h2, h3, h4, h5, h6⟩ := H
  refine ⟨h1, h2, h3, ⟨by rw [st_eq, st_eq, h4.1], fun i hi => ?_⟩, h5, h6⟩
  rw [st_eq]
  by_cases h : i < 32
  · rw [p_on (by omega) h, h4.2 i hi]
    simp
    omega
  · exact b_big (by omega)
theorem p_rings {τ : Mm} {f g : Nat} (hf : f < 10) (h : τ 10 f = nI g) : f_X1_rings τ (nI f) = some (nI g, s_t τ 13 0 (τ 13 0 ||| ((1 : Int32) <<< (nI g &&& 31)))) := by
  unfold f_X1_rings f_X1_rings_0
  rw [z_in hf (by decide), lt_d, z_in hf (by decide), nI_clamp (by omega), h, st_ne (by omega), h]
/-- the same, but no step of the kernel's own -/
theorem lt_e {α β : Type} {v : α} {k : α → β} : lt v k = k v := Eq.trans lt_d (Eq.trans (Eq.symm lt_d) lt_d)
theorem bd_e {α β : Type} {a : α} {k : α → Option β} : bd (some a) k = k a := Eq.trans bd_s (Eq.trans (Eq.symm bd_s) bd_s)
