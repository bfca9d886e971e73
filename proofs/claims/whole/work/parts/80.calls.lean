/-! PURE: the calls, in both: rows told by hand, numbers asked -/
section CB
variable {nh : Nat} {σ : Ms} {ρ : Mm} {ℓ : Mz} {η : Mj}
theorem SM.row {α : Type} {o : Nat} (R : RX nh σ ρ ℓ η) (r : α) {t ρ' : Mm} (ho : o = 6 ∨ o = 7 ∨ o = 8) (hρ : ∀ k, ¬ (44 ≤ k ∧ k ≤ 53) → ρ' k = ρ k) (hc : Core nh (σ 1) (va_up σ o t 6) (va_up σ o t 7) (va_up σ o t 8) ρ') : SM nh σ ℓ η (some (r, va_up σ o t)) (some (r, ρ')) := by
  refine ⟨r, _, _, rfl, rfl, R.now (fun q _ _ h6 h7 h8 _ => up_ne (by omega)) ?_ (up_ne (by omega)) (fun k hk => hρ k (by omega)) ?_, KP.up (by omega)⟩
  · rw [up_ne (by omega)]; exact ⟨rfl, rfl⟩
  · rw [up_ne (show (1 : Nat) ≠ o by omega)]; exact hc
theorem HR_k {M m w cb : Nat} {τ ρ ρ' : Mm} (a1 : HR M m w cb τ ρ) (hk : ∀ k, k ≤ 12 → ρ' k = ρ k) : HR M m w cb τ ρ' := by
  unfold HR MR at a1 ⊢
  simp only [hk 0 (by omega), hk 1 (by omega), hk 2 (by omega), hk 3 (by omega), hk 4 (by omega), hk 5 (by omega), hk 6 (by omega), hk 7 (by omega), hk 8 (by omega), hk 9 (by omega), hk 10 (by omega), hk 11 (by omega), hk 12 (by omega)]
  exact a1
theorem Core_n {nh : Nat} {τ s' p' b' ρ ρ' : Mm} {M m w : Nat} (H' : HR M m w m τ ρ) (hm : m ≤ 9999) (hw : w ≤ 10 * m) (hz : HZ M τ) (hp : PW τ) (hl : HL (τ 16 0) (ρ 14 0) nh) (hk : ∀ k, ¬ (44 ≤ k ∧ k ≤ 53) → ρ' k = ρ k) (ns : NS M s' ρ') (np : NP M p' ρ') (nb : NB M b' ρ') : Core nh τ s' p' b' ρ' := ⟨M, m, w, HR_k H' (fun k q => hk k (by omega)), hm, hw, hz, hp, by rw [hk 14 (by omega)]; exact hl, ns, np, nb⟩
theorem p_full {s : Mm} {N k : Nat} (hk : k ≤ N) (hN : N < 2 ^ 31) (h : s 3 0 = nI k) : f_X4_isFull s N = some (if k = N then 1 else 0) := by
  unfold f_X4_isFull f_X4_isFull_0
  rw [h]
  by_cases e : k = N
  · rw [if_neg (by rw [e]; exact nI_nlt (Nat.le_refl _) hN), if_pos e]
  · rw [if_pos (nI_lt (by omega) hN), if_neg e]
theorem p_adds {s : Mm} {N k : Nat} {a b c : Int32} (hk : k < N) (hN : N < 2 ^ 31) (h : s 3 0 = nI k) : f_X4_adds s N a b c = some (nI (k + 1), s_t (s_t (s_t (s_t s 0 k a) 1 k b) 2 k c) 3 0 (nI (k + 1))) := by
  unfold f_X4_adds f_X4_adds_0 f_X4_adds_47
  rw [p_full (by omega) hN h, bd_s, if_neg (show ¬ k = N by omega), i00]
  have g : ∀ {β : Type} {x : Option β}, gd (inB (nI k) N) x = x := z_in hk hN
  have c : (nI k).toNatClampNeg = k := nI_clamp (by omega)
  simp only [h, g, c, lt_d, st_ne (show (3 : Nat) ≠ 0 by omega), st_ne (show (3 : Nat) ≠ 1 by omega), st_ne (show (3 : Nat) ≠ 2 by omega), st_eq, nI_1]
theorem p_empt {s : Mm} : f_X4_empties s = some (0, s_t s 3 0 0) := rfl
theorem rl6 : rl 6 = 5 := rfl
theorem rl7 : rl 7 = 10 := rfl
theorem rl8 : rl 8 = 8 := rfl
theorem z_m1 (k : Nat) (hk : k < 2 ^ 31) : ¬ nI k = -1 := fun q => by
  have := congrArg Int32.toInt q
  rw [nI_toInt hk, show (-1 : Int32).toInt = -1 from rfl] at this
  omega
theorem NS_f {M : Nat} {s ρ ρ' : Mm} (H : NS M s ρ) (a : ρ' 44 = ρ 44) (b : ρ' 45 = ρ 45) (c : ρ' 46 = ρ 46) (d : ρ' 47 = ρ 47) : NS M s ρ' := by
  unfold NS at H ⊢
  rw [a, b, c, d]
  exact H
theorem NP_f {M : Nat} {s ρ ρ' : Mm} (H : NP M s ρ) (a : ρ' 48 = ρ 48) (b : ρ' 50 = ρ 50) (c : ρ' 51 = ρ 51) : NP M s ρ' := by
  unfold NP at H ⊢
  rw [a, b, c]
  exact H
theorem NB_f {M : Nat} {s ρ ρ' : Mm} (H : NB M s ρ) (a : ρ' 49 = ρ 49) (b : ρ' 52 = ρ 52) (c : ρ' 53 = ρ 53) : NB M s ρ' := by
  unfold NB at H ⊢
  rw [a, b, c]
  exact H
theorem S_see (R : RX nh σ ρ ℓ η) (a b c : Int32) : SM nh σ ℓ η (f_X8_see σ a b c) (f_X9_see ρ a b c) := by
  obtain ⟨M, m, w, H, hm, hw, hz, hp, hl, ns, np, nb⟩ := R.1
  have hM := H.1.1
  unfold f_X8_see f_X8_see_0 f_X9_see f_X9_see_0
  by_cases ha : a = -1
  · rw [if_pos ha, if_pos ha, p_empt, bd_s, lt_d, lt_d]
    dsimp only
    refine SM.row (o := 6) R _ (by omega) (fun k hk => st_ne (by omega)) ?_
    rw [up_eq, up_ne (show (7 : Nat) ≠ 6 by omega), up_ne (show (8 : Nat) ≠ 6 by omega)]
    exact Core_n H hm hw hz hp hl (fun k hk => st_ne (by omega)) ⟨0, by omega, st_eq, st_eq, fun i hi => absurd hi (Nat.not_lt_zero _)⟩ (NP_f np rfl rfl rfl) (NB_f nb rfl rfl rfl)
  rw [if_neg ha, if_neg ha, q_M8 hM H.1.2.1, q_M9 hM H.1.2.2, bd_s, bd_s]
  rcases bB_c a (n := M) (by omega) with ⟨h, -⟩ | ⟨p, hp', rfl, h⟩
  · rw [h]; simp only [i00]; exact SM.same R _
  rw [h]; simp only [i10]
  rw [q_w c 10 10 rfl, q_F, bd_s, bd_s]
  rcases bB_c c (n := 10) (by omega) with ⟨h, -⟩ | ⟨f, hf, rfl, h⟩
  · rw [h]; simp only [i00]; exact SM.same R _
  rw [h]; simp only [i10]
  rw [q_w b 21 21 rfl, q_i b 0 20 21 rfl rfl, bd_s, bd_s]
  rcases bB_c b (n := 21) (by omega) with ⟨h, -⟩ | ⟨n, hn, rfl, h⟩
  · rw [h]; simp only [i00]; exact SM.same R _
  rw [h]; simp only [i10]
  obtain ⟨k, n1, n2, n3, n4'⟩ := ns
  rw [rl6, p_full n1 (by decide) n2, bd_s, n3]
  by_cases hk : k = 5
  · rw [if_pos hk, i10, hk, if_pos (show nI 5 = 5 from rfl)]
    exact SM.same R _
  rw [if_neg hk, i00, if_neg (show ¬ nI k = 5 from z_neq (b := 5) hk (by omega) (by omega)), p_adds (by omega) (by decide) n2, bd_s]
  have g : ∀ {β : Type} {x : Option β}, gd (inB (nI k) 5) x = x := z_in (by omega) (by decide)
  have cc : (nI k).toNatClampNeg = k := nI_clamp (by omega)
  simp only [g, cc, lt_d, n3, st_ne (show (44 : Nat) ≠ 45 by omega), st_ne (show (44 : Nat) ≠ 46 by omega), st_ne (show (44 : Nat) ≠ 47 by omega), st_eq, nI_1]
  have fr : ∀ q, ¬ (44 ≤ q ∧ q ≤ 53) → s_t (s_t (s_t (s_t ρ 45 k (nI p)) 46 k (nI n)) 47 k (nI f)) 44 0 (nI (k + 1)) q = ρ q := fun q hq => by rw [st_ne (by omega), st_ne (by omega), st_ne (by omega), st_ne (by omega)]
  have hns : NS M (s_t (s_t (s_t (s_t (σ 6) 0 k (nI p)) 1 k (nI f)) 2 k (nI n)) 3 0 (nI (k + 1))) (s_t (s_t (s_t (s_t ρ 45 k (nI p)) 46 k (nI n)) 47 k (nI f)) 44 0 (nI (k + 1))) := by
    refine ⟨k + 1, by omega, st_eq, st_eq, fun i hi => ?_⟩
    by_cases hik : i = k
    · subst hik
      refine ⟨by simp [st_v], by simp [st_v], by simp [st_v], ⟨p, hp', by simp [st_v]⟩, ⟨n, by omega, by simp [st_v]⟩⟩
    · obtain ⟨y1, y2, y3, y4, y5⟩ := n4' i (by omega)
      refine ⟨by simpa [st_v, hik] using y1, by simpa [st_v, hik] using y2, by simpa [st_v, hik] using y3, by simpa [st_v, hik] using y4, by simpa [st_v, hik] using y5⟩
  refine SM.row (o := 6) R _ (by omega) fr ?_
  rw [up_eq, up_ne (show (7 : Nat) ≠ 6 by omega), up_ne (show (8 : Nat) ≠ 6 by omega)]
  exact Core_n H hm hw hz hp hl fr hns (NP_f np rfl rfl rfl) (NB_f nb rfl rfl rfl)
theorem S_book (R : RX nh σ ρ ℓ η) (a b : Int32) : SM nh σ ℓ η (f_X8_book σ a b) (f_X9_book ρ a b) := by
  obtain ⟨M, m, w, H, hm, hw, hz, hp, hl, ns, np, nb⟩ := R.1
  have hM := H.1.1
  unfold f_X8_book f_X8_book_0 f_X9_book f_X9_book_0
  by_cases ha : a = -1
  · rw [if_pos ha, if_pos ha, p_empt, bd_s, lt_d, lt_d]
    dsimp only
    refine SM.row (o := 8) R _ (by omega) (fun k hk => st_ne (by omega)) ?_
    rw [up_eq, up_ne (show (7 : Nat) ≠ 8 by omega), up_ne (show (6 : Nat) ≠ 8 by omega)]
    exact Core_n H hm hw hz hp hl (fun k hk => st_ne (by omega)) (NS_f ns rfl rfl rfl rfl) (NP_f np rfl rfl rfl) ⟨0, by omega, st_eq, st_eq, fun i hi => absurd hi (Nat.not_lt_zero _)⟩
  rw [if_neg ha, if_neg ha, q_M8 hM H.1.2.1, q_M9 hM H.1.2.2, bd_s, bd_s]
  rcases bB_c a (n := M) (by omega) with ⟨h, -⟩ | ⟨p, hp', rfl, h⟩
  · rw [h]; simp only [i00]; exact SM.same R _
  rw [h]; simp only [i10]
  rw [q_w b 10 10 rfl, q_F, bd_s, bd_s]
  rcases bB_c b (n := 10) (by omega) with ⟨h, -⟩ | ⟨f, hf, rfl, h⟩
  · rw [h]; simp only [i00]; exact SM.same R _
  rw [h]; simp only [i10]
  obtain ⟨k, n1, n2, n3, n4'⟩ := nb
  rw [rl8, p_full n1 (by decide) n2, bd_s, n3]
  by_cases hk : k = 8
  · rw [if_pos hk, i10, hk, if_pos (show nI 8 = 8 from rfl)]
    exact SM.same R _
  rw [if_neg hk, i00, if_neg (show ¬ nI k = 8 from z_neq (b := 8) hk (by omega) (by omega)), p_adds (by omega) (by decide) n2, bd_s]
  have g : ∀ {β : Type} {x : Option β}, gd (inB (nI k) 8) x = x := z_in (by omega) (by decide)
  have cc : (nI k).toNatClampNeg = k := nI_clamp (by omega)
  simp only [g, cc, lt_d, n3, st_ne (show (49 : Nat) ≠ 52 by omega), st_ne (show (49 : Nat) ≠ 53 by omega), st_eq, nI_1]
  have fr : ∀ q, ¬ (44 ≤ q ∧ q ≤ 53) → s_t (s_t (s_t ρ 52 k (nI p)) 53 k (nI f)) 49 0 (nI (k + 1)) q = ρ q := fun q hq => by rw [st_ne (by omega), st_ne (by omega), st_ne (by omega)]
  have hnb : NB M (s_t (s_t (s_t (s_t (σ 8) 0 k (nI p)) 1 k (nI f)) 2 k 0) 3 0 (nI (k + 1))) (s_t (s_t (s_t ρ 52 k (nI p)) 53 k (nI f)) 49 0 (nI (k + 1))) := by
    refine ⟨k + 1, by omega, st_eq, st_eq, fun i hi => ?_⟩
    by_cases hik : i = k
    · subst hik
      refine ⟨by simp [st_v], by simp [st_v], ⟨p, hp', by simp [st_v]⟩⟩
    · obtain ⟨y1, y2, y3⟩ := n4' i (by omega)
      refine ⟨by simpa [st_v, hik] using y1, by simpa [st_v, hik] using y2, by simpa [st_v, hik] using y3⟩
  refine SM.row (o := 8) R _ (by omega) fr ?_
  rw [up_eq, up_ne (show (7 : Nat) ≠ 8 by omega), up_ne (show (6 : Nat) ≠ 8 by omega)]
  exact Core_n H hm hw hz hp hl fr (NS_f ns rfl rfl rfl rfl) (NP_f np rfl rfl rfl) hnb
/-- a plan's row is taken in both, or in neither -/
theorem p_able (R : RX nh σ ρ ℓ η) {M m w : Nat} (H : HR M m w m (σ 1) ρ) (a b : Int32) (ha : ¬ a = -1) : (∃ k : Nat, k < 4 ∧ a = nI k ∧ f_X8_isPlannable σ a b = some 1 ∧ (k = 1 → ∃ f : Nat, f < 10 ∧ b = nI f) ∧ (1 < k → ∃ p : Nat, p < M ∧ b = nI p) ∧ f_X9_plan ρ a b = f_X9_plan_50 a b ρ) ∨ (f_X8_isPlannable σ a b = some 0 ∧ f_X9_plan ρ a b = some (-1, ρ)) := by
  have hM := H.1.1
  unfold f_X8_isPlannable f_X8_isPlannable_0 f_X9_plan f_X9_plan_0 f_X9_plan_35
  rw [if_neg ha, q_i a 0 3 4 rfl rfl, bd_s, q_w b 10 10 rfl, bd_s, gd_of bB_B, q_M8 hM H.1.2.1, bd_s, gd_of bB_B, q_F, bd_s, q_M9 hM H.1.2.2, bd_s]
  rcases bB_c a (n := 4) (by omega) with ⟨h, h'⟩ | ⟨k, hk, rfl, h⟩
  · right
    rw [h, i00, if_neg (show ¬ a = 0 from h' 0 (by omega)), if_neg (show ¬ a = 1 from h' 1 (by omega)), if_neg (show ¬ a = 2 from h' 2 (by omega)), if_neg (show ¬ a = 3 from h' 3 (by omega))]
    exact ⟨rfl, rfl⟩
  rw [h, i10]
  have c1 : (nI k = 0 ↔ k = 0) ∧ (nI k = 1 ↔ k = 1) ∧ (nI k = 2 ↔ k = 2) ∧ (nI k = 3 ↔ k = 3) ∧ (nI k ≤ 1 ↔ k ≤ 1) := ⟨nI_eq (b := 0) (by omega) (by omega), nI_eq (b := 1) (by omega) (by omega), nI_eq (b := 2) (by omega) (by omega), nI_eq (b := 3) (by omega) (by omega), nI_leI (b := 1) (by omega) (by omega)⟩
  simp only [c1.1, c1.2.1, c1.2.2.1, c1.2.2.2.1, c1.2.2.2.2]
  rcases (by omega : k = 0 ∨ k = 1 ∨ k = 2 ∨ k = 3) with rfl | rfl | rfl | rfl
  · left
    exact ⟨0, by omega, rfl, rfl, fun h => by omega, fun h => by omega, rfl⟩
  · rcases bB_c b (n := 10) (by omega) with ⟨h, -⟩ | ⟨f, hf, rfl, h⟩
    · right
      rw [h]
      exact ⟨rfl, rfl⟩
    · left
      rw [h]
      exact ⟨1, by omega, rfl, rfl, fun _ => ⟨f, hf, rfl⟩, fun h => by omega, rfl⟩
  · rcases bB_c b (n := M) (by omega) with ⟨h, -⟩ | ⟨f, hf, rfl, h⟩
    · right
      rw [h]
      exact ⟨rfl, rfl⟩
    · left
      rw [h]
      exact ⟨2, by omega, rfl, rfl, fun h => by omega, fun _ => ⟨f, hf, rfl⟩, rfl⟩
  · rcases bB_c b (n := M) (by omega) with ⟨h, -⟩ | ⟨f, hf, rfl, h⟩
    · right
      rw [h]
      exact ⟨rfl, rfl⟩
    · left
      rw [h]
      exact ⟨3, by omega, rfl, rfl, fun h => by omega, fun _ => ⟨f, hf, rfl⟩, rfl⟩
theorem S_plan (R : RX nh σ ρ ℓ η) (a b : Int32) : SM nh σ ℓ η (f_X8_plan σ a b) (f_X9_plan ρ a b) := by
  obtain ⟨M, m, w, H, hm, hw, hz, hp, hl, ns, np, nb⟩ := R.1
  have hM := H.1.1
  by_cases ha : a = -1
  · unfold f_X8_plan f_X8_plan_0 f_X9_plan f_X9_plan_0
    rw [if_pos ha, if_pos ha, p_empt, bd_s, lt_d, lt_d]
    dsimp only
    refine SM.row (o := 7) R _ (by omega) (fun k hk => st_ne (by omega)) ?_
    rw [up_eq, up_ne (show (6 : Nat) ≠ 7 by omega), up_ne (show (8 : Nat) ≠ 7 by omega)]
    exact Core_n H hm hw hz hp hl (fun k hk => st_ne (by omega)) (NS_f ns rfl rfl rfl rfl) ⟨0, by omega, st_eq, st_eq, fun i hi => absurd hi (Nat.not_lt_zero _)⟩ (NB_f nb rfl rfl rfl)
  rcases p_able R H a b ha with ⟨j, hj, rfl, e1, e2, e3, e4⟩ | ⟨e1, e2⟩
  · rw [e4]
    unfold f_X8_plan f_X8_plan_0
    rw [if_neg ha, e1, bd_s, i10]
    obtain ⟨k, n1, n2, n3, n4'⟩ := np
    unfold f_X9_plan_50 f_X9_plan_89
    rw [rl7, p_full n1 (by decide) n2, bd_s, n3]
    by_cases hk : k = 10
    · rw [if_pos hk, i10, hk, if_pos (show nI 10 = 10 from rfl)]
      exact SM.same R _
    rw [if_neg hk, i00, if_neg (show ¬ nI k = 10 from z_neq (b := 10) hk (by omega) (by omega)), p_adds (by omega) (by decide) n2, bd_s]
    have g : ∀ {β : Type} {x : Option β}, gd (inB (nI k) 10) x = x := z_in (by omega) (by decide)
    have cc : (nI k).toNatClampNeg = k := nI_clamp (by omega)
    simp only [g, cc, lt_d, n3, st_ne (show (48 : Nat) ≠ 50 by omega), st_ne (show (48 : Nat) ≠ 51 by omega), st_eq, nI_1, ite_some]
    have key : ∀ v : Int32, (j = 0 ∨ b = v) → SM nh σ ℓ η (some (nI (k + 1), va_up σ 7 (s_t (s_t (s_t (s_t (σ 7) 0 k (nI j)) 1 k b) 2 k 0) 3 0 (nI (k + 1))))) (some (nI (k + 1), s_t (s_t (s_t ρ 50 k (nI j)) 51 k v) 48 0 (nI (k + 1)))) := by
      intro v hv
      have fr : ∀ q, ¬ (44 ≤ q ∧ q ≤ 53) → s_t (s_t (s_t ρ 50 k (nI j)) 51 k v) 48 0 (nI (k + 1)) q = ρ q := fun q hq => by rw [st_ne (by omega), st_ne (by omega), st_ne (by omega)]
      have hnp : NP M (s_t (s_t (s_t (s_t (σ 7) 0 k (nI j)) 1 k b) 2 k 0) 3 0 (nI (k + 1))) (s_t (s_t (s_t ρ 50 k (nI j)) 51 k v) 48 0 (nI (k + 1))) := by
        refine ⟨k + 1, by omega, st_eq, st_eq, fun i hi => ?_⟩
        by_cases hik : i = k
        · subst hik
          refine ⟨by simp [st_v], j, hj, by simp [st_v], ?_⟩
          rcases hv with hv | hv
          · exact Or.inl hv
          · subst hv
            refine Or.inr ⟨by simp [st_v], fun q => ?_, fun q => ?_⟩
            · obtain ⟨f, hf, e⟩ := e2 q
              exact ⟨f, hf, by simp [st_v, e]⟩
            · obtain ⟨f, hf, e⟩ := e3 q
              exact ⟨f, hf, by simp [st_v, e]⟩
        · obtain ⟨y1, y2⟩ := n4' i (by omega)
          refine ⟨by simpa [st_v, hik] using y1, by simpa [st_v, hik] using y2⟩
      refine SM.row (o := 7) R _ (by omega) fr ?_
      rw [up_eq, up_ne (show (6 : Nat) ≠ 7 by omega), up_ne (show (8 : Nat) ≠ 7 by omega)]
      exact Core_n H hm hw hz hp hl fr (NS_f ns rfl rfl rfl rfl) hnp (NB_f nb rfl rfl rfl)
    by_cases h0 : nI j ≤ 0
    · rw [if_pos h0]
      exact key 0 (Or.inl (by have := (nI_leI (a := j) (b := 0) (by omega) (by omega)).mp h0; omega))
    · rw [if_neg h0]
      exact key b (Or.inr rfl)
  · rw [e2]
    unfold f_X8_plan f_X8_plan_0
    rw [if_neg ha, e1, bd_s, i00]
    exact SM.same R _
/-- answers of calls that change nothing -/
theorem l_look {M k0 : Nat} {τ s ρ : Mm} (hM : M ≤ 6) (h8 : k0 ≤ 8) (H : ∀ p, p < M → τ 4 p = ρ 7 p) (hs : s 3 0 = nI k0) (hr : ρ 49 0 = nI k0) (hb : ∀ i : Nat, i < k0 → s 0 i = ρ 52 i ∧ s 1 i = ρ 53 i ∧ ∃ q : Nat, q < M ∧ ρ 52 i = nI q) (σ : Ms) (e1 : σ 1 = τ) (e8 : σ 8 = s) : ∀ (k i n n2 : Nat), i + k = k0 → k < n → k < n2 → ∃ r : Int32, f_X8_looked_2L σ n (nI i) = some r ∧ f_X9_looked_2L ρ n2 (nI i) = some r := by
  intro k
  induction k with
  | zero =>
    intro i n n2 hi hn hn2
    obtain ⟨n, rfl⟩ : ∃ j, n = j + 1 := ⟨n - 1, by omega⟩
    obtain ⟨n2, rfl⟩ : ∃ j, n2 = j + 1 := ⟨n2 - 1, by omega⟩
    refine ⟨-5, ?_, ?_⟩
    · show f_X8_looked_2 σ _ _ = _
      unfold f_X8_looked_2
      rw [e8, hs, if_pos (nI_le (by omega) (by omega))]
    · show f_X9_looked_2 ρ _ _ = _
      unfold f_X9_looked_2
      rw [hr, if_pos (nI_le (by omega) (by omega))]
  | succ k ih =>
    intro i n n2 hi hn hn2
    obtain ⟨n, rfl⟩ : ∃ j, n = j + 1 := ⟨n - 1, by omega⟩
    obtain ⟨n2, rfl⟩ : ∃ j, n2 = j + 1 := ⟨n2 - 1, by omega⟩
    obtain ⟨b1, b2, q, hq, b3⟩ := hb i (by omega)
    have g1 : f_X8_looked_2L σ (n + 1) (nI i) = f_X8_looked_2 σ (f_X8_looked_2L σ n) (nI i) := rfl
    have g2 : f_X9_looked_2L ρ (n2 + 1) (nI i) = f_X9_looked_2 ρ (f_X9_looked_2L ρ n2) (nI i) := rfl
    rw [g1, g2]
    unfold f_X8_looked_2 f_X9_looked_2
    rw [e8, hs, hr, rl8, if_neg (nI_ge (by omega) (by omega)), if_neg (nI_ge (by omega) (by omega))]
    have g : ∀ {β : Type} {x : Option β}, gd (inB (nI i) 8) x = x := z_in (by omega) (by decide)
    have gq : ∀ {β : Type} {x : Option β}, gd (inB (nI q) 6) x = x := z_in (by omega) (by decide)
    have cc : (nI i).toNatClampNeg = i := nI_clamp (by omega)
    have cq : (nI q).toNatClampNeg = q := nI_clamp (by omega)
    simp only [g, cc, b1, b3, gq, cq, e1, H q hq, b2, lt_d, nI_1]
    by_cases he : ρ 7 q = ρ 53 i
    · simp only [if_pos he]
      exact ih (i + 1) n n2 (by omega) (by omega) (by omega)
    · simp only [if_neg he]
      exact ⟨_, rfl, rfl⟩
theorem S_looked (R : RX nh σ ρ ℓ η) : ∃ r : Int32, f_X8_looked σ = some r ∧ f_X9_looked ρ = some r := by
  obtain ⟨M, m, w, H, hm, hw, hz, hp, hl, ns, np, ⟨k, n1, n2, n3, n4'⟩⟩ := R.1
  exact l_look H.1.1 n1 (fun p h => (H.2.2.2.2.1 p h).2.2.1.1) n2 n3 n4' σ rfl rfl k 0 FU FU (by omega) (by rw [FU_e]; omega) (by rw [FU_e]; omega)
theorem S_count (R : RX nh σ ρ ℓ η) (a : Int32) : ∃ r : Int32, f_X8_count σ a = some r ∧ f_X9_count ρ a = some r := by
  obtain ⟨⟨M, m, w, H, hm, hw, hz, hp, hl, ⟨k1, -, s1, s2, -⟩, ⟨k2, -, s3, s4, -⟩, ⟨k3, -, s5, s6, -⟩⟩, -, ⟨-, s7, s8, -⟩, ⟨⟨k4, -, s9, s10, -⟩, -⟩, -, ⟨k5, -, s11, s12, -⟩, -⟩ := R
  unfold f_X8_count f_X8_count_0 f_X9_count f_X9_count_0
  simp only [H.1.2.1, H.1.2.2, s1, s2, s3, s4, s5, s6, s7, s8, s9, s10, s11, s12, ite_some]
  exact ⟨_, rfl, rfl⟩
theorem S_trace (R : RX nh σ ρ ℓ η) (a : Int32) : ∃ r : Int32, f_X8_trace σ a = some r ∧ f_X9_trace ρ a = some r := by
  obtain ⟨n, hn, s1, s2, s3⟩ := R.2.2.2.2.2.1
  unfold f_X8_trace f_X8_trace_0 f_X9_trace f_X9_trace_0
  rw [s1, s2]
  by_cases h20 : 20 < n
  · rw [if_pos (nI_lt h20 (by omega)), q_w a (nI 20) 20 rfl, q_i a 0 19 20 rfl rfl, bd_s, bd_s]
    rcases bB_c a (n := 20) (by omega) with ⟨h, -⟩ | ⟨k, hk, rfl, h⟩
    · rw [h]; simp only [i00]; exact ⟨_, rfl, rfl⟩
    rw [h]; simp only [i10]
    rw [if_neg (nI_ge (by omega) (by omega)), z_in hk (by decide), z_in hk (by decide), nI_clamp (by omega), s3 k (by omega) hk]
    exact ⟨_, rfl, rfl⟩
  · rw [if_neg (nI_nlt (by omega) (by omega)), q_w a (nI n) n (nI_toInt (by omega)), q_i a 0 19 20 rfl rfl, bd_s, bd_s]
    rcases bB_c a (n := n) (by omega) with ⟨h, h'⟩ | ⟨k, hk, rfl, h⟩
    · rw [h]; simp only [i00]
      refine ⟨_, rfl, ?_⟩
      rcases bB_c a (n := 20) (by omega) with ⟨h2, -⟩ | ⟨k, hk, rfl, h2⟩
      · rw [h2, i00]
      · rw [h2, i10]
        have : n ≤ k := by
          rcases Nat.lt_or_ge k n with z | z
          · exact absurd rfl (h' k z)
          · exact z
        rw [if_pos (nI_le this (by omega))]
    rw [h, bB_k (by omega) (by omega)]; simp only [i10]
    rw [if_neg (nI_ge (by omega) (by omega)), z_in (by omega) (by decide), z_in (by omega) (by decide), nI_clamp (by omega), s3 k (by omega) (by omega)]
    exact ⟨_, rfl, rfl⟩
def tkB (x k : Nat) : Bool := (match f_X8_isUnder (nI x) (nI k) with | some u => (if u = 0 then (-12 : Int32) else nI x) == (if k = 0 ∨ x = k ∨ (k = 1 ∧ x = 4) ∨ (k = 2 ∧ x = 5) ∨ (k = 3 ∧ x = 6) then nI x else -12) | none => false)
theorem tkB_t : ∀ x, x < 7 → ∀ k, k < 7 → tkB x k = true := by decide +kernel
theorem S_taken (R : RX nh σ ρ ℓ η) (a b : Int32) : ∃ r : Int32, f_X8_taken σ a b = some r ∧ f_X9_taken ρ a b = some r := by
  obtain ⟨M, m, w, H, hm, hw, hz, hp, hl, ns, np, nb⟩ := R.1
  have hM := H.1.1
  unfold f_X8_taken f_X8_taken_0 f_X9_taken f_X9_taken_0
  rw [q_w b 7 7 rfl, q_i b 0 6 7 rfl rfl, bd_s, bd_s]
  rcases bB_c b (n := 7) (by omega) with ⟨h, -⟩ | ⟨k, hk, rfl, h⟩
  · rw [h]; simp only [i00]; exact ⟨_, rfl, rfl⟩
  rw [h]; simp only [i10]
  rw [q_M8 hM H.1.2.1, q_M9 hM H.1.2.2, bd_s, bd_s]
  rcases bB_c a (n := M) (by omega) with ⟨h, -⟩ | ⟨p, hp', rfl, h⟩
  · rw [h]; simp only [i00]; exact ⟨_, rfl, rfl⟩
  rw [h]; simp only [i10]
  have ip : ∀ {β : Type} {x : Option β}, gd (inB (nI p) 6) x = x := z_in (by omega) (by decide)
  have ic : (nI p).toNatClampNeg = p := nI_clamp (by omega)
  obtain ⟨a2, -⟩ := H.2.2.2.2.1 p hp'
  obtain ⟨⟨x, hx, ex⟩, -⟩ := hz.2 p hp' (by omega)
  simp only [ip, ic]
  rw [← a2, ex, lt_d]
  have t := tkB_t x hx k hk
  unfold tkB at t
  rcases hu : f_X8_isUnder (nI x) (nI k) with _ | u
  · rw [hu] at t
    exact absurd t (fun z => Bool.false_ne_true z)
  rw [hu] at t
  dsimp only at t
  rw [bd_s, ite_some]
  refine ⟨_, rfl, ?_⟩
  rw [beq_iff_eq.mp t]
  have c1 : ∀ j, j < 7 → ((nI k = nI j ↔ k = j) ∧ (nI x = nI j ↔ x = j)) := fun j hj => ⟨nI_eq (by omega) (by omega), nI_eq (by omega) (by omega)⟩
  unfold f_X9_taken_51 f_X9_taken_61 f_X9_taken_72
  simp only [show (0 : Int32) = nI 0 from rfl, show (1 : Int32) = nI 1 from rfl, show (2 : Int32) = nI 2 from rfl, show (3 : Int32) = nI 3 from rfl, show (4 : Int32) = nI 4 from rfl, show (5 : Int32) = nI 5 from rfl, show (6 : Int32) = nI 6 from rfl, (c1 0 (by omega)).1, (c1 1 (by omega)).1, (c1 2 (by omega)).1, (c1 3 (by omega)).1, (c1 4 (by omega)).2, (c1 5 (by omega)).2, (c1 6 (by omega)).2, (c1 k hk).2]
  by_cases k0 : k = 0
  · simp [k0]
  by_cases xk : x = k
  · simp [xk]
  by_cases k1 : k = 1
  · subst k1
    by_cases x4 : x = 4 <;> simp [x4, xk]
  by_cases k2 : k = 2
  · subst k2
    by_cases x5 : x = 5 <;> simp [x5, xk]
  by_cases k3 : k = 3
  · subst k3
    by_cases x6 : x = 6 <;> simp [x6, xk]
  simp [k0, xk, k1, k2, k3]
end CB
