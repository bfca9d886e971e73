/-! PURE: the calls that try minutes, in both: where one stands, ends, of -/
section CE
variable {nh : Nat} {σ : Ms} {ρ : Mm} {ℓ : Mz} {η : Mj}
theorem big_a : (300001 : Int) ≤ (2147483647 : Int32).toInt := by decide +kernel
theorem big_b : (300001 : Int) ≤ (2000000000 : Int32).toInt := by decide +kernel
theorem standsL {M p : Nat} (hp : p < M) (hM : M ≤ 6) : ∀ (k i n n2 : Nat) (b l8 l9 : Int32) (σ : Ms) (ρ : Mm), RX nh σ ρ ℓ η → σ 1 12 0 = nI M → i + k = 10 → k < n → k < n2 → ((300001 ≤ l8.toInt ∧ 300001 ≤ l9.toInt) ∨ ∃ x : Nat, x ≤ 300000 ∧ l8 = nI x ∧ l9 = nI x) → SM nh σ ℓ η (f_X8_standsBest_8L (nI p) n σ b l8 (nI i)) (f_X9_stands_9L (nI p) n2 ρ b l9 (nI i)) := by
  intro k
  induction k with
  | zero =>
    intro i n n2 b l8 l9 σ ρ R hσ hi hn hn2 hl
    obtain ⟨n, rfl⟩ : ∃ j, n = j + 1 := ⟨n - 1, by omega⟩
    obtain ⟨n2, rfl⟩ : ∃ j, n2 = j + 1 := ⟨n2 - 1, by omega⟩
    show SM nh σ ℓ η (f_X8_standsBest_8 _ _ _ _ _ _) (f_X9_stands_9 _ _ _ _ _ _)
    unfold f_X8_standsBest_8 f_X9_stands_9
    rw [show i = 10 by omega, if_pos (by decide), if_pos (by decide)]
    exact SM.same R _
  | succ k ih =>
    intro i n n2 b l8 l9 σ ρ R hσ hi hn hn2 hl
    obtain ⟨n, rfl⟩ : ∃ j, n = j + 1 := ⟨n - 1, by omega⟩
    obtain ⟨n2, rfl⟩ : ∃ j, n2 = j + 1 := ⟨n2 - 1, by omega⟩
    show SM nh σ ℓ η (f_X8_standsBest_8 _ _ _ _ _ _) (f_X9_stands_9 _ _ _ _ _ _)
    unfold f_X8_standsBest_8 f_X9_stands_9 f_X8_standsBest_68 f_X9_stands_59
    obtain ⟨M', m, w, τ2, ρ2, a1, a2, T, hm, H, he, hr⟩ := R.trial
    obtain rfl := same_M hM H.1.1 hσ H.1.2.1
    have T2 : TR 30000 M' m w σ ρ (s_t τ2 4 p (nI i)) (s_t ρ2 7 p (nI i)) := T.of (HR_floor T.1 (by omega)) rfl rfl rfl (ef_s (by decide))
    obtain ⟨w2, τ3, ρ3, c1, c2, T3, -⟩ := T2.mins (n := 20) (by omega) (by omega) (hs := va_up σ 2 (s_t τ2 4 p (nI i))) up2
    obtain ⟨ρ4, b1, b2, b3⟩ := R.back (σ' := va_up σ 2 τ3) (fun o h => up_ne h) (by rw [up_eq]; exact T3.2.2.2.2.2) T3.2.2.2.2.1
    have n10 : ¬ (10 : Int32) ≤ nI i := nI_ge (b := 10) (by omega) (by omega)
    have gp : ∀ {β : Type} {x : Option β}, gd (inB (nI p) 6) x = x := z_in (by omega) (by decide)
    have g8 : f_X1_goes (s_t τ2 4 p (nI i)) (va_up σ 2 (s_t τ2 4 p (nI i))) (nI 20) = some τ3 := c1.goes (n := 20) (by omega)
    have g9 : f_X9_goMinutes (s_t ρ2 7 p (nI i)) (nI 20) = some ρ3 := c2.goes (n := 20) (by omega)
    rw [show (20 : Int32) = nI 20 from rfl]
    rw [if_neg n10, if_neg n10, a1, bd_s, lt_d, up_eq, gp, nI_clamp (show p < 2 ^ 31 by omega), lt_d, up_up, lt_d, up_eq, g8, bd_s, up_up, lt_d, up_eq, a2, bd_s, gp]
    simp only [lt_e, g9, bd_e, b1, nI_1, T3.1.2.2.1.2.1, T3.1.2.2.1.2.2]
    have hw2 := T3.1.2.2.1.1
    have hcmp : l8 ≤ nI w2 ↔ ¬ nI w2 < l9 := by
      rw [p_le, p_lt, nI_toInt (by omega)]
      rcases hl with ⟨e1, e2⟩ | ⟨x, hx, e1, e2⟩
      · omega
      · rw [e1, e2, nI_toInt (by omega)]
        omega
    by_cases hc : nI w2 < l9
    · rw [if_neg (fun q => hcmp.mp q hc), if_pos hc]
      exact SM.tr (KP.up (by omega)) (ih (i + 1) n n2 (nI i) (nI w2) (nI w2) (va_up σ 2 τ3) ρ4 b2 (by rw [up_ne (by omega)]; exact hσ) (by omega) (by omega) (by omega) (Or.inr ⟨w2, hw2, rfl, rfl⟩))
    · rw [if_pos (hcmp.mpr hc), if_neg hc]
      exact SM.tr (KP.up (by omega)) (ih (i + 1) n n2 b l8 l9 (va_up σ 2 τ3) ρ4 b2 (by rw [up_ne (by omega)]; exact hσ) (by omega) (by omega) (by omega) hl)
theorem S_cost (R : RX nh σ ρ ℓ η) {M m w p f : Nat} (H : HR M m w m (σ 1) ρ) (hp : p < M) (hf : f < 10) : SM nh σ ℓ η (bd (f_X1_cost (σ 1) σ (nI p) (nI f)) (fun u24 => lt (va_up σ 1 u24.2) (fun σ25 => some (u24.1, σ25)))) (bd (f_X9_cost ρ (nI p) (nI f)) (fun u25 => some (u25.1, u25.2))) := by
  have S := (R.HH (hs := σ) (fun _ _ _ => rfl)).1 M m w m (σ 1) ρ H rfl (fun _ _ => rfl)
  obtain ⟨c, τ1, ρ1, c1, c2, c3, c4⟩ := s_cost H S hp hf
  have L := R.2.1
  rw [c1, c3, bd_s, bd_s, lt_d]
  dsimp only
  refine ⟨c, _, _, rfl, rfl, R.fr (fun o h _ _ _ => up_ne h) ?_ ?_ (EQ9.of (fun k hk => c4 k (by simpa using hk))) ?_, KP.up (by omega)⟩
  · rw [up_eq]
    exact fun k hk => c2 k (by simpa using hk)
  · rw [up_ne (by omega)]
    exact ⟨rfl, rfl⟩
  · rw [c4 31 (by omega), c4 32 (by omega)]
    exact L.2.2
theorem S_of (R : RX nh σ ρ ℓ η) (a b : Int32) : SM nh σ ℓ η (f_X8_of σ a b) (f_X9_of ρ a b) := by
  obtain ⟨M, m, w, H, -⟩ := R.1
  have hM := H.1.1
  unfold f_X8_of f_X8_of_0 f_X9_of f_X9_of_0
  rw [q_M8 hM H.1.2.1, q_M9 hM H.1.2.2, bd_s, bd_s]
  rcases bB_c a (n := M) (by omega) with ⟨h, -⟩ | ⟨p, hp', rfl, h⟩
  · rw [h]; simp only [i00]; exact SM.same R _
  rw [h]; simp only [i10]
  rw [q_wc b 10 10 10 10 rfl (by omega) rfl, q_ic b 10 19 10 10 rfl rfl, bd_s, bd_s]
  rcases bC_c b (a := 10) (n := 10) (by omega) with ⟨h, -⟩ | ⟨f, hf, rfl, h⟩
  · rw [h]; simp only [i00]
    have gp : ∀ {β : Type} {x : Option β}, gd (inB (nI p) 6) x = x := z_in (by omega) (by decide)
    obtain ⟨a2, a3, ⟨a4, -⟩, ⟨a5, -⟩, ⟨a6, -⟩, a7, ⟨a8, -⟩, a9⟩ := H.2.2.2.2.1 p hp'
    simp only [gp, nI_clamp (show p < 2 ^ 31 by omega)]
    by_cases b0 : b = 0
    · rw [if_pos b0, if_pos b0, a2]; exact SM.same R _
    rw [if_neg b0, if_neg b0]
    by_cases b1 : b = 1
    · rw [if_pos b1, if_pos b1, a3]; exact SM.same R _
    rw [if_neg b1, if_neg b1]
    by_cases b2' : b = 2
    · rw [if_pos b2', if_pos b2', a4]; exact SM.same R _
    rw [if_neg b2', if_neg b2']
    by_cases b3 : b = 3
    · rw [if_pos b3, if_pos b3, a5]; exact SM.same R _
    rw [if_neg b3, if_neg b3]
    by_cases b4 : b = 4
    · rw [if_pos b4, if_pos b4, a6]; exact SM.same R _
    rw [if_neg b4, if_neg b4]
    by_cases b5 : b = 5
    · rw [if_pos b5, if_pos b5, a7, p_has (by omega), bd_s]
      by_cases hb : bt (ρ 1 0) p = true
      · rw [b2_t hb, i10, if_pos hb]; exact SM.same R _
      · rw [b2_f hb, i00, if_neg hb]; exact SM.same R _
    rw [if_neg b5, if_neg b5]
    by_cases b6 : b = 6
    · rw [if_pos b6, if_pos b6, a8]; exact SM.same R _
    rw [if_neg b6, if_neg b6]
    by_cases b7 : b = 7
    · rw [if_pos b7, if_pos b7, (s_free H hp').1, (s_free H hp').2, bd_s, bd_s]
      by_cases hF : (σ 1 7 p = 0 ∧ σ 1 5 p = -5 ∧ σ 1 6 p = 0)
      · rw [b2_t hF, i10, i10]; exact SM.same R _
      · rw [b2_f hF, i00, i00]; exact SM.same R _
    rw [if_neg b7, if_neg b7]
    by_cases b8 : b = 8
    · rw [if_pos b8, if_pos b8, bd_eta, bd_eta]
      unfold f_X8_standsBest f_X8_standsBest_0 f_X9_stands f_X9_stands_0
      exact standsL hp' hM 10 0 FU FU 0 2147483647 2000000000 σ ρ R H.1.2.1 (by omega) (by rw [FU_e]; omega) (by rw [FU_e]; omega) (Or.inl ⟨big_a, big_b⟩)
    rw [if_neg b8, if_neg b8]
    exact SM.same R _
  · rw [h]; simp only [i10]
    rw [show (10 : Int32) = nI 10 from rfl, z_subc]
    exact S_cost R H hp' hf
theorem TR.away {C M m w p : Nat} {τ2 ρ2 : Mm} (T : TR C M m w σ ρ τ2 ρ2) (v : Bool) {x : Int32} (hx : ∀ i, i < 6 → bt x i = if i = p then v else bt (ρ2 1 0) i) : TR C M m w σ ρ (s_t τ2 7 p (if v = true then 1 else 0)) (s_t ρ2 1 0 x) :=
  T.of (HR_away T.1 v hx) rfl rfl rfl (ef_s (by decide))
theorem endsL (R : RX nh σ ρ ℓ η) {M k0 : Nat} (a : Int32) (hM : M ≤ 6) (n1 : k0 ≤ 10) (n2' : σ 7 3 0 = nI k0) (n3 : ρ 48 0 = nI k0) (n4' : ∀ i : Nat, i < k0 → σ 7 0 i = ρ 50 i ∧ ∃ n : Nat, n < 4 ∧ ρ 50 i = nI n ∧ (n = 0 ∨ σ 7 1 i = ρ 51 i ∧ (n = 1 → ∃ f : Nat, f < 10 ∧ ρ 51 i = nI f) ∧ (1 < n → ∃ q : Nat, q < M ∧ ρ 51 i = nI q))) : ∀ (k i n n2 m w : Nat) (τ ρ' : Mm), i + k = k0 → k < n → k < n2 → m + k ≤ 20000 → TR 30000 M m w σ ρ τ ρ' → SM nh σ ℓ η (f_X8_ends_24L a n (va_up σ 2 τ) (nI i)) (f_X9_ends_18L a n2 ρ' (nI i)) := by
  intro k
  induction k with
  | zero =>
    intro i n n2 m w τ ρ' hi hn hn2 hm T
    obtain ⟨n, rfl⟩ : ∃ j, n = j + 1 := ⟨n - 1, by omega⟩
    obtain ⟨n2, rfl⟩ : ∃ j, n2 = j + 1 := ⟨n2 - 1, by omega⟩
    show SM nh σ ℓ η (f_X8_ends_24 _ _ _ _) (f_X9_ends_18 _ _ _ _)
    unfold f_X8_ends_24 f_X9_ends_18 f_X9_ends_63
    have k48 : ρ' 48 0 = nI k0 := by rw [T.2.2.2.2.1.1 48 (by omega)]; exact n3
    rw [up_ne (show (7 : Nat) ≠ 2 by omega), n2', k48, if_pos (nI_le (by omega) (by omega)), if_pos (nI_le (by omega) (by omega)), up_eq, T.1.2.2.1.2.1, T.1.2.2.1.2.2, T.1.2.2.2.1.1]
    by_cases h0 : a = 0
    · rw [if_pos h0, if_pos h0]
      obtain ⟨ρ4, b1, b2⟩ := SM.back R T (nI w)
      rw [b1, bd_s]
      exact b2
    · rw [if_neg h0, if_neg h0]
      obtain ⟨ρ4, b1, b2⟩ := SM.back R T (ρ' 2 0)
      rw [b1, bd_s]
      exact b2
  | succ k ih =>
    intro i n n2 m w τ ρ' hi hn hn2 hm T
    obtain ⟨n, rfl⟩ : ∃ j, n = j + 1 := ⟨n - 1, by omega⟩
    obtain ⟨n2, rfl⟩ : ∃ j, n2 = j + 1 := ⟨n2 - 1, by omega⟩
    show SM nh σ ℓ η (f_X8_ends_24 _ _ _ _) (f_X9_ends_18 _ _ _ _)
    unfold f_X8_ends_24 f_X9_ends_18
    have k48 : ρ' 48 0 = nI k0 := by rw [T.2.2.2.2.1.1 48 (by omega)]; exact n3
    have k50 : ρ' 50 = ρ 50 := T.2.2.2.2.1.1 50 (by omega)
    have k51 : ρ' 51 = ρ 51 := T.2.2.2.2.1.1 51 (by omega)
    have g : ∀ {β : Type} {x : Option β}, gd (inB (nI i) 10) x = x := z_in (by omega) (by decide)
    rw [up_ne (show (7 : Nat) ≠ 2 by omega), n2', k48, if_neg (nI_ge (by omega) (by omega)), if_neg (nI_ge (by omega) (by omega)), rl7, g, g, g, g, nI_clamp (show i < 2 ^ 31 by omega), k50, k51]
    obtain ⟨e0, j, hj, e1, e2⟩ := n4' i (by omega)
    rw [e0, e1]
    have cj : ∀ q, q < 4 → (nI j = nI q ↔ j = q) := fun q hq => nI_eq (by omega) (by omega)
    -- the next state of a trial
    suffices hgo : ∃ (m' w' : Nat) (τ3 ρ3 : Mm), m' ≤ m + 1 ∧ f_X8_carriesOut (va_up σ 2 τ) (nI j) (σ 7 1 i) = some (va_up σ 2 τ3) ∧ f_X9_goPlan ρ' (nI j) (ρ 51 i) = some ρ3 ∧ TR 30000 M m' w' σ ρ τ3 ρ3 by
      obtain ⟨m', w', τ3, ρ3, hm', x1, x2, T3⟩ := hgo
      rw [x1, x2, bd_s, bd_s, lt_d, lt_d, nI_1]
      exact ih (i + 1) n n2 m' w' τ3 ρ3 (by omega) (by omega) (by omega) (by omega) T3
    unfold f_X8_carriesOut f_X8_carriesOut_0 f_X8_carriesOut_69 f_X9_goPlan f_X9_goPlan_0 f_X9_goPlan_8 f_X9_goPlan_30 f_X9_goPlan_47
    rcases (by omega : j = 0 ∨ j = 1 ∨ j = 2 ∨ j = 3) with rfl | rfl | rfl | rfl
    · obtain ⟨w', τ3, ρ3, c1, c2, T3, -⟩ := T.one (by omega) (by omega) (hs := va_up σ 2 τ) up2
      refine ⟨m + 1, w', τ3, ρ3, Nat.le_refl _, ?_, ?_, T3⟩
      · rw [if_pos (show nI 0 = 0 from rfl), up_eq, c1, bd_s, lt_d, up_up]
      · rw [if_pos (show nI 0 = 0 from rfl), c2, bd_s, if_neg (by decide), if_pos (by decide)]
    · obtain ⟨e3, e4, e5⟩ := e2.resolve_left (by omega)
      obtain ⟨f, hf, e6⟩ := e4 rfl
      obtain ⟨ew, gg, hg, ew'⟩ := T.1.2.2.2.2.2 f hf
      refine ⟨m, w, _, _, Nat.le_succ _, ?_, ?_, T.ring hg⟩
      · rw [if_neg (by decide), if_pos (show nI 1 = 1 from rfl), up_eq, e3, e6, p_rings hf (ew.trans ew'), bd_s, lt_d, up_up]
      · rw [if_neg (by decide), if_pos (show nI 1 = 1 from rfl), e6, z_in hf (by decide), nI_clamp (by omega), ew', lt_d, if_pos (by decide)]
    · obtain ⟨e3, e4, e5⟩ := e2.resolve_left (by omega)
      obtain ⟨p, hp, e6⟩ := e5 (by omega)
      refine ⟨m, w, _, _, Nat.le_succ _, ?_, ?_, T.away (p := p) true (x := ρ' 1 0 ||| ((1 : Int32) <<< (nI p &&& 31))) (fun i hi => ?_)⟩
      · rw [if_neg (by decide), if_neg (by decide), if_pos (show nI 2 = 2 from rfl), e3, e6, z_in (by omega) (by decide), nI_clamp (by omega), lt_d, up_eq, up_up, lt_d, if_pos rfl]
      · rw [if_neg (by decide), if_neg (by decide), if_neg (by decide), if_pos (show nI 2 = 2 from rfl), e6]
        unfold f_X9_goes f_X9_goes_0 f_X9_goes_26
        rw [if_neg (by decide), lt_d, bd_s]
      · rw [p_on (by omega) (by omega)]
        by_cases hi : i = p <;> simp [hi]
    · obtain ⟨e3, e4, e5⟩ := e2.resolve_left (by omega)
      obtain ⟨p, hp, e6⟩ := e5 (by omega)
      refine ⟨m, w, _, _, Nat.le_succ _, ?_, ?_, T.away (p := p) false (x := ρ' 1 0 &&& (((1 : Int32) <<< (nI p &&& 31)) ^^^ (-1))) (fun i hi => ?_)⟩
      · rw [if_neg (by decide), if_neg (by decide), if_neg (by decide), e3, e6, z_in (by omega) (by decide), nI_clamp (by omega), lt_d, up_eq, up_up, lt_d, if_neg (by decide)]
      · rw [if_neg (by decide), if_neg (by decide), if_neg (by decide), if_neg (by decide), e6]
        unfold f_X9_goes f_X9_goes_0 f_X9_goes_26
        rw [if_pos rfl, lt_d, bd_s]
      · rw [p_off (by omega) (by omega)]
        by_cases hi : i = p <;> simp [hi]
theorem S_ends (R : RX nh σ ρ ℓ η) (a : Int32) : SM nh σ ℓ η (f_X8_ends σ a) (f_X9_ends ρ a) := by
  obtain ⟨M, m, w, H, hm, hw, hz, hp, hl, ns, ⟨k0, n1, n2, n3, n4'⟩, nb⟩ := R.1
  unfold f_X8_ends f_X8_ends_0 f_X9_ends f_X9_ends_0
  rw [q_w a 2 2 rfl, q_i a 0 1 2 rfl rfl, bd_s, bd_s]
  rcases bB_c a (n := 2) (by omega) with ⟨h, -⟩ | ⟨k, hk, rfl, h⟩
  · rw [h]; simp only [i00]; exact SM.same R _
  rw [h]; simp only [i10]
  obtain ⟨M', m', w', τ2, ρ2, a1, a2, T, hm', H', -⟩ := R.trial
  obtain rfl := same_M H.1.1 H'.1.1 H.1.2.1 H'.1.2.1
  rw [a1, a2, bd_s, bd_s, lt_d]
  exact endsL R (nI k) H.1.1 n1 n2 n3 n4' k0 0 FU FU m' w' τ2 ρ2 (by omega) (by rw [FU_e]; omega) (by rw [FU_e]; omega) (by omega) T
end CE
