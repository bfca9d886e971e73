/-! PURE: E read, in both: one, all, any (made by wip/whole/gen/gen95.py) -/
section TD
variable {n h c a p0 : Nat} {T : Nat → Nat} {ρ0 : Mm}
theorem MS.pop {j : Nat} {W s : List Nat} {ρ : Mm} (H : MS n T c a p0 ρ0 j (40 :: W) s ρ) (hj : j < n) : MS n T c a p0 ρ0 (j + 1) W s (s_t (s_t (s_t ρ 27 0 (nI (40 :: W).length - 1)) 28 0 (nI (opc (40 :: W)) - 1)) 16 0 (nI (j + 1))) := by
  obtain ⟨h1, ⟨h2, h2'⟩, h3, ⟨h4, h5⟩, ⟨h6, h6'⟩, h7, h8, h9⟩ := H
  have ho : opc (40 :: W) = opc W + 1 := by
    show (if (40 : Nat) = 33 ∨ (40 : Nat) = 40 then 1 else 0) + opc W = _
    rw [if_pos (Or.inr rfl)]; omega
  have e27 : nI (40 :: W).length - 1 = nI W.length := nI_pred _
  rw [ho, nI_pred, e27]
  refine ⟨⟨?_, st_eq, ?_⟩, ⟨by rw [st_ne (by omega), st_ne (by omega), st_eq], tl_at h2' (by rw [st_ne (by omega), st_ne (by omega), st_ne (by omega)])⟩, by rw [st_ne (by omega), st_eq], ⟨by rw [st_ne (by omega), st_ne (by omega), st_ne (by omega)]; exact h4, fun q hq => by rw [st_ne (by omega), st_ne (by omega), st_ne (by omega)]; exact h5 q hq⟩, ⟨by simp only [List.length_cons] at h6; omega, fun w hw => h6' w (by simp [hw])⟩, (((EF.st h7 (by decide)).st (by decide)).st (by decide)), fun x hx => by rw [st_ne (by omega), st_ne (by omega), st_ne (by omega)]; exact h8 x hx, fun x hx => by rw [st_ne (by omega), st_ne (by omega), st_ne (by omega)]; exact h9 x hx⟩
  · rw [st_ne (by omega), st_ne (by omega), st_ne (by omega)]; exact h1.1
  · rw [st_ne (by omega), st_ne (by omega), st_ne (by omega)]; exact h1.2.2
theorem MS.ef {i j : Nat} {W s : List Nat} {ρ ρ1 : Mm} (H : MS n T c a p0 ρ0 i W s ρ) (M : M9 n T j ρ1) (e : EF [16, 17] ρ1 ρ) (hij : i ≤ j) : MS n T c a p0 ρ0 j W s ρ1 := by
  obtain ⟨h1, ⟨h2, h2'⟩, h3, ⟨h4, h5⟩, ⟨h6, h6'⟩, h7, h8, h9⟩ := H
  exact ⟨M, ⟨by rw [e 27 (by decide)]; exact h2, fun q hq => by rw [e 25 (by decide)]; exact h2' q hq⟩, by rw [e 28 (by decide)]; exact h3, ⟨by rw [e 26 (by decide)]; exact h4, fun q hq => by rw [e 24 (by decide)]; exact h5 q hq⟩, ⟨by omega, h6'⟩, (e.sub (by decide)).tr h7, fun x hx => by rw [e 23 (by decide)]; exact h8 x hx, fun x hx => by rw [e 24 (by decide)]; exact h9 x hx⟩
theorem FIN.ef {ρ ρ1 : Mm} (H : FIN c a ρ0 ρ) (e : EF [16, 17] ρ1 ρ) : FIN c a ρ0 ρ1 := ⟨(e.sub (by decide)).tr H.1, fun x hx => by rw [e 23 (by decide)]; exact H.2.1 x hx, fun x hx => by rw [e 24 (by decide)]; exact H.2.2 x hx⟩
theorem MS.emitted {i t : Nat} {W s : List Nat} {ρ : Mm} (H : MS n T c a p0 ρ0 i W s ρ) (hn : n ≤ 100) (hin : i ≤ n) (ha : a ≤ 500 + p0) (h0 : s.length + 1 + W.length + p0 ≤ i) : ∃ ρ' : Mm, f_X9_emits ρ (mcode t) = some ρ' ∧ MS n T c a p0 ρ0 i W (s ++ [t]) ρ' := by
  obtain ⟨e1, e2⟩ := H.emit (t := t) hn hin ha rfl (Or.inr h0)
  obtain ⟨h1, ⟨h2, h2'⟩, h3, ⟨h4, h5⟩, ⟨h6, h6'⟩, h7, h8, h9⟩ := H
  refine ⟨_, e1, h1.ef (fun k hk => by rw [st_ne (by omega), st_ne (by omega)]), ⟨by rw [st_ne (by omega), st_ne (by omega)]; exact h2, fun q hq => by rw [st_ne (by omega), st_ne (by omega)]; exact h2' q hq⟩, by rw [st_ne (by omega), st_ne (by omega)]; exact h3, ⟨st_eq, e2⟩, ⟨by simp; omega, h6'⟩, ((EF.st h7 (by decide)).st (by decide)), fun x hx => by rw [st_ne (by omega), st_ne (by omega)]; exact h8 x hx, fun x hx => by
    rw [st_ne (by omega), st_k, if_neg (by omega)]
    exact h9 x hx⟩
theorem p1_test (X : TX n T) (hH : inH (nI h) = true) (hh : h < 30) (ha : a ≤ 500 + p0) {d i : Nat} {L W s : List Nat} {hs : Ms} {t ρ : Mm} (hin : i ≤ n) (H8 : T8 n h T i t) (hL : HST L (hs h)) (hLi : L.length ≤ i) (HM : MS n T c a p0 ρ0 i W s ρ) (h33 : ¬ (i < n ∧ T i = 33)) (h40 : ¬ (i < n ∧ T i = 40)) : OUT n h T c a ρ0 1 i L hs t (bd (f_X7_test t hs) (fun u3 => gd (isB u3.1) (some (u3.1, u3.2.1, u3.2.2)))) 1 ρ (V1 d 0) (G1 n T c a p0 ρ0 W s) := by
  have hn := X.1
  rcases k_test X H8 HM.1 hin hs hH hh with ⟨j, t', ρ', j1, j2, e8, x2, x3, e9, e16, ef⟩ | ⟨v, j, t', ρ1, hv, j3, j2, e8, x2, x3, e9, M1, ef⟩
  · refine ⟨0, t', hs h, j, ?_, x2, x3, by rw [if_neg (by decide)]; omega, j2, Or.inr ⟨rfl, ⟨L, hL⟩, ρ', fun m hm => ?_, e16, HM.fin.ef ef⟩⟩
    · rw [e8, bd_s]
      dsimp only
      rw [gd_of (show isB 0 = true from rfl), up_id]
    · obtain ⟨m, rfl⟩ : ∃ q, m = q + 1 := ⟨m - 1, by omega⟩
      rw [lp_test X HM hin h33 h40, e9, bd_s]
      dsimp only
      rw [i00]
  · obtain ⟨h', a1, a2, a3⟩ := k_adds (t := v) hL (by omega)
    have HM1 := HM.ef M1 ef (by omega)
    have hl := HM.2.2.2.2.1.1
    obtain ⟨ρ2, b1, b2⟩ := HM1.emitted (t := v) hn j2 ha (by omega)
    obtain ⟨ρ3, c1, c2⟩ := k_whole hn j2 ha W (s ++ [v]) ρ2 FU b2 (by rw [FU_e]; omega)
    have c1' : f_X9_whole ρ2 = some ρ3 := c1
    refine ⟨1, t', h', j, ?_, x2, x3, by rw [if_pos rfl]; omega, j2, Or.inl ⟨rfl, [v], ρ3, 1, a2, by rw [a3], by simp; omega, fun q K hq hK => ?_, by omega, fun m => ?_, c2⟩⟩
    · rw [e8, a1, bd_s, bd_s]
      dsimp only
      rw [gd_of (show isB 1 = true from rfl)]
    · show vd (v :: K) q
      unfold vd
      rw [if_pos hv]
      exact ⟨by omega, hK⟩
    · rw [lp_test X HM hin h33 h40, e9, b1, bd_s, c1', bd_s, bd_s]
      dsimp only
      rw [i10]
theorem p1_ok (X : TX n T) (hH : inH (nI h) = true) (hh : h < 30) (ha : a ≤ 500 + p0) (hc : c < 60) {d : Nat} (hd4 : d ≤ 4) (IH1 : d < 4 → P1 n h T c a p0 ρ0 (d + 1)) (IH3 : d < 4 → P3 n h T c a p0 ρ0 (d + 1)) : P1 n h T c a p0 ρ0 d := by
  intro N i L W s hs t ρ hN hin H8 hL hLi HM hW
  have hn := X.1
  have ch : (nI h).toNatClampNeg = h := nI_clamp (by omega)
  obtain ⟨N, rfl⟩ : ∃ q, N = q + 1 := ⟨N - 1, by omega⟩
  have tk33 : f_X7_takes t (33 : Int32) = if i < n ∧ T i = 33 then some (1, s_t t 2 0 (nI (i + 1))) else some (0, t) := k_takes8 X H8 hin (c := 33) (by omega)
  have tk40 : f_X7_takes t (40 : Int32) = if i < n ∧ T i = 40 then some (1, s_t t 2 0 (nI (i + 1))) else some (0, t) := k_takes8 X H8 hin (c := 40) (by omega)
  rw [rec2]
  unfold f_X7_oneHolds_0 f_X7_oneHolds_34 f_X7_oneHolds_73
  by_cases hd : d = 4
  · subst hd
    rw [if_pos (show (4 : Int32) ≤ nI 4 by decide), if_pos (show (4 : Int32) ≤ nI 4 by decide)]
    by_cases hq : (i < n ∧ T i = 33) ∨ (i < n ∧ T i = 40)
    · have hi : i < n := hq.elim (fun z => z.1) (fun z => z.1)
      have hT : T i = 33 ∨ T i = 40 := hq.imp (fun z => z.2) (fun z => z.2)
      rw [test0 H8 hi hn hT hs, bd_s]
      dsimp only
      rw [gd_of (show isB 0 = true from rfl)]
      refine ⟨0, t, hs h, i, by rw [up_id], H8, EF.rf, by rw [if_neg (by decide)]; omega, hin, Or.inr ⟨rfl, ⟨L, hL⟩, ρ, fun m hm => ?_, HM.1.2.1, HM.fin⟩⟩
      obtain ⟨m, rfl⟩ : ∃ q, m = q + 1 := ⟨m - 1, by omega⟩
      exact lp_full X HM hi rfl hT hW m
    · exact p1_test X hH hh ha hin H8 hL hLi HM (fun q => hq (Or.inl q)) (fun q => hq (Or.inr q))
  have hlt : d < 4 := by omega
  have nd : ¬ (4 : Int32) ≤ nI d := nI_ge (b := 4) (by omega) (by omega)
  rw [if_neg nd, tk33]
  by_cases h33 : i < n ∧ T i = 33
  · rw [if_pos h33, bd_s]
    dsimp only
    rw [i10, nI_1]
    have ho : opc (33 :: W) = d + 1 := by
      show (if (33 : Nat) = 33 ∨ (33 : Nat) = 40 then 1 else 0) + opc W = _
      rw [if_pos (Or.inl rfl)]; omega
    obtain ⟨r, t', h1, j, x1, x2, x3, x4, x5, x6⟩ := IH1 hlt N (i + 1) L (33 :: W) s hs _ _ (by omega) h33.1 H8.at hL (by omega) (HM.push h33.1 hn (w := 33) (by omega) rfl) ho
    rw [x1, bd_s]
    dsimp only
    rw [x2.2.2.2, gd_of hH, ch, up_eq]
    have x3' : EF [2] t' t := x3.tr (ef_s (by decide))
    rcases x6 with ⟨rfl, st, ρ', k, y1, y2, y3, y4, y5, y6, y7⟩ | ⟨rfl, ⟨L', z1⟩, ρ', z2, z3, z4⟩
    · have x4 : i + 1 + 1 ≤ j := by rw [if_pos rfl] at x4; omega
      obtain ⟨h2, b1, b2, b3⟩ := k_adds (t := 1800) y1 (by simp; omega)
      have b1' : f_X2_adds h1 (1800 : Int32) = some h2 := b1
      rw [b1', bd_s, lt_d, up_up, gd_of (show isB 1 = true from rfl)]
      refine ⟨1, t', h2, j, rfl, x2, x3', by rw [if_pos rfl]; omega, x5, Or.inl ⟨rfl, st ++ [1800], ρ', k + 1, by rw [← List.append_assoc]; exact b2, b3.trans y2, by simp; omega, fun q K hq hK => ?_, by omega, fun m => ?_, ?_⟩⟩
      · rw [show st ++ [1800] ++ K = st ++ (1800 :: K) by simp]
        refine y4 q (1800 :: K) (by omega) ?_
        unfold vd
        rw [if_neg (by omega), if_pos rfl]
        exact ⟨by omega, hK⟩
      · rw [show m + (k + 1) = (m + k) + 1 by omega, lp_open X HM h33.1 h33.2 (Or.inl rfl) hW hlt]
        exact y6 m
      · have e1 : wh (33 :: W) = wh W := if_pos rfl
        have e2 : negs (33 :: W) = 1800 :: negs W := by
          unfold negs
          rw [show ng (33 :: W) = ng W + 1 from if_pos rfl, List.replicate_succ]
        have y7 : MS n T c a p0 ρ0 j (wh (33 :: W)) (s ++ st ++ negs (33 :: W)) ρ' := y7
        rw [e1, e2] at y7
        show MS n T c a p0 ρ0 j (wh W) (s ++ (st ++ [1800]) ++ negs W) ρ'
        rw [show s ++ (st ++ [1800]) ++ negs W = s ++ st ++ 1800 :: negs W by simp]
        exact y7
    · obtain ⟨L2, h2, b1, b2⟩ := k_addt (t := 1800) z1
      have b1' : f_X2_adds h1 (1800 : Int32) = some h2 := b1
      rw [b1', bd_s, lt_d, up_up, gd_of (show isB 0 = true from rfl)]
      have x4 : i + 1 ≤ j := by rw [if_neg (by decide)] at x4; omega
      refine ⟨0, t', h2, j, rfl, x2, x3', by rw [if_neg (by decide)]; omega, x5, Or.inr ⟨rfl, ⟨L2, b2⟩, ρ', fun m hm => ?_, z3, z4⟩⟩
      obtain ⟨m, rfl⟩ : ∃ q, m = q + 1 := ⟨m - 1, by omega⟩
      rw [lp_open X HM h33.1 h33.2 (Or.inl rfl) hW hlt]
      exact z2 m (by omega)
  rw [if_neg h33, bd_s]
  dsimp only
  rw [i00, if_neg nd, tk40]
  by_cases h40 : i < n ∧ T i = 40
  · rw [if_pos h40, bd_s]
    dsimp only
    rw [i10, nI_1]
    have ho : opc (40 :: W) = d + 1 := by
      show (if (40 : Nat) = 33 ∨ (40 : Nat) = 40 then 1 else 0) + opc W = _
      rw [if_pos (Or.inr rfl)]; omega
    obtain ⟨r, t', h1, j, x1, x2, x3, x4, x5, x6⟩ := IH3 hlt N (i + 1) L (40 :: W) s hs _ _ (by omega) h40.1 H8.at hL (by omega) (HM.push h40.1 hn (w := 40) (by omega) rfl) ho (Or.inr ⟨40, W, rfl, by omega, by omega, by omega⟩)
    rw [x1, bd_s]
    dsimp only
    have x3' : EF [2] t' t := x3.tr (ef_s (by decide))
    rcases x6 with ⟨rfl, st, ρ', k, y1, y2, y3, y4, y5, y6, ⟨PP, s', hP, HM', es, n38, n124⟩⟩ | ⟨rfl, ⟨L', z1⟩, ρ', z2, z3, z4⟩
    · have x4 : i + 1 + 1 ≤ j := by rw [if_pos rfl] at x4; omega
      obtain ⟨ρ2, c1, -, c2⟩ := lp_close X HM' ha hc x5 n38 n124 (Or.inr ⟨40, W, rfl, by omega, fun q => by omega⟩) hP
      rw [es] at c1
      have tk41 : f_X7_takes t' (41 : Int32) = if j < n ∧ T j = 41 then some (1, s_t t' 2 0 (nI (j + 1))) else some (0, t') := k_takes8 X x2 x5 (c := 41) (by omega)
      have nl : ¬ nI (40 :: W).length = 0 := nI_ne0 (by simp) (by have := c1.2.2.2.2.1.1; omega)
      rw [i10, tk41]
      by_cases h41 : j < n ∧ T j = 41
      · rw [if_pos h41, bd_s]
        dsimp only
        rw [i10]
        obtain ⟨ρ3, d1, d2⟩ := k_whole hn (show j + 1 ≤ n from h41.1) ha W (s ++ st) _ FU (c1.pop h41.1) (by have := c1.2.2.2.2.1.1; simp only [List.length_cons] at this; rw [FU_e]; omega)
        have d1' : f_X9_whole (s_t (s_t (s_t ρ2 27 0 (nI (40 :: W).length - 1)) 28 0 (nI (opc (40 :: W)) - 1)) 16 0 (nI (j + 1))) = some ρ3 := d1
        refine ⟨1, _, h1, j + 1, rfl, x2.at, (ef_s (by decide) : EF [2] _ t').tr x3', by rw [if_pos rfl]; omega, h41.1, Or.inl ⟨rfl, st, ρ3, k + 2, y1, y2, by omega, fun q K hq hK => y4 q K (by omega) hK, by omega, fun m => ?_, d2⟩⟩
        rw [show m + (k + 2) = (m + 1 + k) + 1 by omega, lp_open X HM h40.1 h40.2 (Or.inr rfl) hW hlt]
        refine (y6 (m + 1)).trans ?_
        rw [c2 m, if_neg nl, if_pos (show (if j < n then nI (T j) else -1) = (41 : Int32) from (k_is X (c := 41) (by omega)).mpr h41), d1', bd_s]
      · rw [if_neg h41, bd_s]
        dsimp only
        rw [i00]
        refine ⟨0, t', h1, j, rfl, x2, x3', by rw [if_neg (by decide)]; omega, x5, Or.inr ⟨rfl, ⟨_, y1⟩, ρ2, fun m hm => ?_, c1.1.2.1, c1.fin⟩⟩
        obtain ⟨m, rfl⟩ : ∃ q, m = (q + 1 + k) + 1 := ⟨m - k - 2, by omega⟩
        rw [lp_open X HM h40.1 h40.2 (Or.inr rfl) hW hlt]
        refine (y6 (m + 1)).trans ?_
        rw [c2 m, if_neg nl, if_neg (show ¬ (if j < n then nI (T j) else -1) = (41 : Int32) from k_ne X (w := 41) (by omega) h41)]
    · have x4 : i + 1 ≤ j := by rw [if_neg (by decide)] at x4; omega
      rw [i00]
      refine ⟨0, t', h1, j, rfl, x2, x3', by rw [if_neg (by decide)]; omega, x5, Or.inr ⟨rfl, ⟨L', z1⟩, ρ', fun m hm => ?_, z3, z4⟩⟩
      obtain ⟨m, rfl⟩ : ∃ q, m = q + 1 := ⟨m - 1, by omega⟩
      rw [lp_open X HM h40.1 h40.2 (Or.inr rfl) hW hlt]
      exact z2 m (by omega)
  rw [if_neg h40, bd_s]
  dsimp only
  rw [i00]
  exact p1_test X hH hh ha hin H8 hL hLi HM h33 h40
theorem p2_loop (X : TX n T) (hH : inH (nI h) = true) (hh : h < 30) (ha : a ≤ 500 + p0) {d N : Nat} (IH : P1 n h T c a p0 ρ0 d) (hN : 3 * (4 - d) + 1 ≤ N) : ∀ (k i v fu : Nat) (L Y P s' s2 : List Nat) (hs : Ms) (t ρ : Mm), n ≤ i + k → i ≤ n → v + 1 ≤ i → k < fu → T8 n h T i t → HST L (hs h) → L.length ≤ i → (∀ x, x ∈ P → x = 38) → MS n T c a p0 ρ0 i (P ++ Y) s' ρ → s' ++ P.map cd = s2 → opc Y = d → hd (fun x => x ≠ 33 ∧ x ≠ 38) Y → OUT n h T c a ρ0 0 i L hs t (f_X7_allHold_12L (f_X7_rec N) (nI d) fu t hs (nI v)) 0 ρ (V2 d 1) (G2 n T c a p0 ρ0 Y s2) := by
  have hn := X.1
  have ch : (nI h).toNatClampNeg = h := nI_clamp (by omega)
  intro k
  induction k with
  | zero =>
    intro i v fu L Y P s' s2 hs t ρ hik hin hv hf H8 hL hLi hP HM es hY hdY
    obtain ⟨fu, rfl⟩ : ∃ j, fu = j + 1 := ⟨fu - 1, by omega⟩
    have tk : f_X7_takes t (38 : Int32) = if i < n ∧ T i = 38 then some (1, s_t t 2 0 (nI (i + 1))) else some (0, t) := k_takes8 X H8 hin (c := 38) (by omega)
    show OUT n h T c a ρ0 0 i L hs t (f_X7_allHold_12 _ _ _ _ _ _) _ _ _ _
    unfold f_X7_allHold_12
    rw [if_neg (show ¬ (100 : Int32) ≤ nI v from nI_ge (b := 100) (by omega) (by omega)), tk, if_neg (show ¬ (i < n ∧ T i = 38) by omega), bd_s]
    dsimp only
    rw [i00]
    refine ⟨1, t, hs h, i, by rw [up_id], H8, EF.rf, by rw [if_pos rfl]; omega, hin, Or.inl ⟨rfl, [], ρ, 0, by rw [List.append_nil]; exact hL, rfl, by simp, fun q K hq hK => hK, by omega, fun m => rfl, P, s', hP, HM, by rw [List.append_nil]; exact es, by omega⟩⟩
  | succ k ih =>
    intro i v fu L Y P s' s2 hs t ρ hik hin hv hf H8 hL hLi hP HM es hY hdY
    obtain ⟨fu, rfl⟩ : ∃ j, fu = j + 1 := ⟨fu - 1, by omega⟩
    have tk : f_X7_takes t (38 : Int32) = if i < n ∧ T i = 38 then some (1, s_t t 2 0 (nI (i + 1))) else some (0, t) := k_takes8 X H8 hin (c := 38) (by omega)
    show OUT n h T c a ρ0 0 i L hs t (f_X7_allHold_12 _ _ _ _ _ _) _ _ _ _
    unfold f_X7_allHold_12
    rw [if_neg (show ¬ (100 : Int32) ≤ nI v from nI_ge (b := 100) (by omega) (by omega)), tk]
    by_cases hop : i < n ∧ T i = 38
    · rw [if_pos hop, bd_s]
      dsimp only
      rw [i10]
      obtain ⟨ρ1, c1, c2⟩ := lp_op X HM ha hop.1 hop.2 (w := 38) (by omega) (hd_stop hdY (fun x hx => ⟨by omega, fun q => by omega⟩)) (fun x hx => by have := hP x hx; omega)
      rw [es] at c2
      obtain ⟨r, t', h1, j, x1, x2, x3, x4, x5, x6⟩ := IH N (i + 1) L (38 :: Y) s2 hs _ ρ1 hN hop.1 H8.at hL (by omega) c2 (by rw [opc_op (by omega)]; exact hY)
      rw [x1, bd_s]
      dsimp only
      have x3' : EF [2] t' t := x3.tr (ef_s (by decide))
      rcases x6 with ⟨rfl, st, ρ', k', y1, y2, y3, y4, y5, y6, y7⟩ | ⟨rfl, ⟨L', z1⟩, ρ', z2, z3, z4⟩
      · have x4 : i + 1 + 1 ≤ j := by rw [if_pos rfl] at x4; omega
        obtain ⟨h2, b1, b2, b3⟩ := k_adds (t := 1801) y1 (by simp; omega)
        have b1' : f_X2_adds h1 (1801 : Int32) = some h2 := b1
        rw [i10, x2.2.2.2, gd_of hH, ch, up_eq, b1', bd_s, lt_d, up_up, lt_d, nI_1]
        have hms : MS n T c a p0 ρ0 j ([38] ++ Y) (s2 ++ st) ρ' := by
          have y7 : MS n T c a p0 ρ0 j (wh (38 :: Y)) (s2 ++ st ++ negs (38 :: Y)) ρ' := y7
          have e1 : wh (38 :: Y) = 38 :: Y := if_neg (by decide)
          have e2 : negs (38 :: Y) = [] := by
            unfold negs
            rw [show ng (38 :: Y) = 0 from if_neg (by decide)]
            rfl
          rw [e1, e2, List.append_nil] at y7
          exact y7
        obtain ⟨r3, t3, h3, j3, w1, w2, w3, w4, w5, w6⟩ := ih j (v + 1) fu (L ++ st ++ [1801]) Y [38] (s2 ++ st) (s2 ++ (st ++ [1801])) (va_up hs h h2) t' ρ' (by omega) x5 (by omega) (by omega) x2 (by rw [up_eq]; exact b2) (by simp; omega) (fun x hx => by simpa using hx) hms (by simp [cd]) hY hdY
        rw [up_up] at w1
        refine ⟨r3, t3, h3, j3, w1, w2, w3.tr x3', ?_, w5, ?_⟩
        · rcases w6 with ⟨rfl, -⟩ | ⟨rfl, -⟩
          · rw [if_pos rfl] at w4 ⊢; omega
          · rw [if_neg (by decide)] at w4 ⊢; omega
        · rcases w6 with ⟨rfl, st3, ρ3, k3, u1, u2, u3, u4, u5, u6, u7⟩ | ⟨rfl, hL3, ρ3, u2, u3, u4⟩
          · refine Or.inl ⟨rfl, st ++ [1801] ++ st3, ρ3, k' + k3 + 1, ?_, ?_, ?_, fun q K hq hK => ?_, by omega, fun m => ?_, ?_⟩
            · rw [show L ++ (st ++ [1801] ++ st3) = L ++ st ++ [1801] ++ st3 by simp]; exact u1
            · rw [u2, up_eq, b3]; exact y2
            · simp at u3 ⊢; omega
            · rw [show st ++ [1801] ++ st3 ++ K = st ++ (1801 :: (st3 ++ K)) by simp]
              refine y4 (q + 1) (1801 :: (st3 ++ K)) (by omega) ?_
              unfold vd
              rw [if_neg (by omega), if_neg (by omega)]
              exact ⟨by omega, by omega, u4 q K (by omega) hK⟩
            · rw [show m + (k' + k3 + 1) = (m + k3 + k') + 1 by omega, c1]
              refine (y6 (m + k3)).trans ?_
              exact u6 m
            · rw [show s2 ++ (st ++ [1801]) = s2 ++ (st ++ [1801]) from rfl] at u7
              unfold G2 at u7 ⊢
              rw [show s2 ++ (st ++ [1801] ++ st3) = s2 ++ (st ++ [1801]) ++ st3 by simp]
              exact u7
          · refine Or.inr ⟨rfl, hL3, ρ3, fun m hm => ?_, u3, u4⟩
            have w4 : j ≤ j3 := by rw [if_neg (by decide)] at w4; omega
            obtain ⟨m, rfl⟩ : ∃ q, m = (q + k') + 1 := ⟨m - k' - 1, by omega⟩
            rw [c1]
            refine (y6 m).trans ?_
            exact u2 m (by omega)
      · have x4 : i + 1 ≤ j := by rw [if_neg (by decide)] at x4; omega
        rw [i00]
        refine ⟨0, t', h1, j, rfl, x2, x3', by rw [if_neg (by decide)]; omega, x5, Or.inr ⟨rfl, ⟨L', z1⟩, ρ', fun m hm => ?_, z3, z4⟩⟩
        obtain ⟨m, rfl⟩ : ∃ q, m = q + 1 := ⟨m - 1, by omega⟩
        rw [c1]
        exact z2 m (by omega)
    · rw [if_neg hop, bd_s]
      dsimp only
      rw [i00]
      refine ⟨1, t, hs h, i, by rw [up_id], H8, EF.rf, by rw [if_pos rfl]; omega, hin, Or.inl ⟨rfl, [], ρ, 0, by rw [List.append_nil]; exact hL, rfl, by simp, fun q K hq hK => hK, by omega, fun m => rfl, P, s', hP, HM, by rw [List.append_nil]; exact es, hop⟩⟩
theorem p2_ok (X : TX n T) (hH : inH (nI h) = true) (hh : h < 30) (ha : a ≤ 500 + p0) {d : Nat} (hd4 : d ≤ 4) (IH : P1 n h T c a p0 ρ0 d) : P2 n h T c a p0 ρ0 d := by
  intro N i L Y s hs t ρ hN hin H8 hL hLi HM hY hdY
  have hn := X.1
  obtain ⟨N, rfl⟩ : ∃ q, N = q + 1 := ⟨N - 1, by omega⟩
  rw [rec1]
  unfold f_X7_allHold_0
  obtain ⟨r, t', h1, j, x1, x2, x3, x4, x5, x6⟩ := IH N i L Y s hs t ρ (by omega) hin H8 hL hLi HM hY
  rw [x1, bd_s]
  dsimp only
  rcases x6 with ⟨rfl, st, ρ', k', y1, y2, y3, y4, y5, y6, y7⟩ | ⟨rfl, ⟨L', z1⟩, ρ', z2, z3, z4⟩
  · have x4 : i + 1 ≤ j := by rw [if_pos rfl] at x4; omega
    rw [i10]
    have hms : MS n T c a p0 ρ0 j Y (s ++ st) ρ' := by
      have y7 : MS n T c a p0 ρ0 j (wh Y) (s ++ st ++ negs Y) ρ' := y7
      obtain ⟨e1, e2⟩ := hd_wh hdY (fun x hx => hx.1)
      rw [e1, e2, List.append_nil] at y7
      exact y7
    obtain ⟨r3, t3, h3, j3, w1, w2, w3, w4, w5, w6⟩ := p2_loop X hH hh ha IH (show 3 * (4 - d) + 1 ≤ N by omega) (n - j) j 0 FU (L ++ st) Y [] (s ++ st) (s ++ st) (va_up hs h h1) t' ρ' (by omega) x5 (by omega) (by rw [FU_e]; omega) x2 (by rw [up_eq]; exact y1) (by simp; omega) (fun x hx => by simp at hx) hms (by simp) hY hdY
    rw [up_up] at w1
    refine ⟨r3, t3, h3, j3, w1, w2, w3.tr x3, ?_, w5, ?_⟩
    · rcases w6 with ⟨rfl, -⟩ | ⟨rfl, -⟩
      · rw [if_pos rfl] at w4 ⊢; omega
      · rw [if_neg (by decide)] at w4 ⊢; omega
    · rcases w6 with ⟨rfl, st3, ρ3, k3, u1, u2, u3, u4, u5, u6, u7⟩ | ⟨rfl, hL3, ρ3, u2, u3, u4⟩
      · refine Or.inl ⟨rfl, st ++ st3, ρ3, k' + k3, ?_, ?_, ?_, fun q K hq hK => ?_, by omega, fun m => ?_, ?_⟩
        · rw [← List.append_assoc]; exact u1
        · rw [u2, up_eq]; exact y2
        · simp; omega
        · rw [List.append_assoc]
          exact y4 q (st3 ++ K) (by omega) (u4 q K (by omega) hK)
        · rw [show m + (k' + k3) = (m + k3) + k' by omega]
          exact (y6 (m + k3)).trans (u6 m)
        · unfold G2 at u7 ⊢
          rw [← List.append_assoc]
          exact u7
      · refine Or.inr ⟨rfl, hL3, ρ3, fun m hm => ?_, u3, u4⟩
        have w4 : j ≤ j3 := by rw [if_neg (by decide)] at w4; omega
        obtain ⟨m, rfl⟩ : ∃ q, m = q + k' := ⟨m - k', by omega⟩
        refine (y6 m).trans ?_
        exact u2 m (by omega)
  · rw [i00]
    exact ⟨0, t', h1, j, rfl, x2, x3, x4, x5, Or.inr ⟨rfl, ⟨L', z1⟩, ρ', z2, z3, z4⟩⟩
theorem p3_loop (X : TX n T) (hH : inH (nI h) = true) (hh : h < 30) (ha : a ≤ 500 + p0) {d N : Nat} (IH : P2 n h T c a p0 ρ0 d) (hN : 3 * (4 - d) + 2 ≤ N) : ∀ (k i v fu : Nat) (L Y P s' s2 : List Nat) (hs : Ms) (t ρ : Mm), n ≤ i + k → i ≤ n → v + 1 ≤ i → k < fu → T8 n h T i t → HST L (hs h) → L.length ≤ i → (∀ x, x ∈ P → x = 38 ∨ x = 124) → MS n T c a p0 ρ0 i (P ++ Y) s' ρ → s' ++ P.map cd = s2 → opc Y = d → hd (fun x => x ≠ 33 ∧ x ≠ 38 ∧ x ≠ 124) Y → ¬ (i < n ∧ T i = 38) → OUT n h T c a ρ0 0 i L hs t (f_X7_anyHolds_12L (f_X7_rec N) (nI d) fu t hs (nI v)) 0 ρ (V2 d 2) (G3 n T c a p0 ρ0 Y s2) := by
  have hn := X.1
  have ch : (nI h).toNatClampNeg = h := nI_clamp (by omega)
  intro k
  induction k with
  | zero =>
    intro i v fu L Y P s' s2 hs t ρ hik hin hv hf H8 hL hLi hP HM es hY hdY n38
    obtain ⟨fu, rfl⟩ : ∃ j, fu = j + 1 := ⟨fu - 1, by omega⟩
    have tk : f_X7_takes t (124 : Int32) = if i < n ∧ T i = 124 then some (1, s_t t 2 0 (nI (i + 1))) else some (0, t) := k_takes8 X H8 hin (c := 124) (by omega)
    show OUT n h T c a ρ0 0 i L hs t (f_X7_anyHolds_12 _ _ _ _ _ _) _ _ _ _
    unfold f_X7_anyHolds_12
    rw [if_neg (show ¬ (100 : Int32) ≤ nI v from nI_ge (b := 100) (by omega) (by omega)), tk, if_neg (show ¬ (i < n ∧ T i = 124) by omega), bd_s]
    dsimp only
    rw [i00]
    refine ⟨1, t, hs h, i, by rw [up_id], H8, EF.rf, by rw [if_pos rfl]; omega, hin, Or.inl ⟨rfl, [], ρ, 0, by rw [List.append_nil]; exact hL, rfl, by simp, fun q K hq hK => hK, by omega, fun m => rfl, P, s', hP, HM, by rw [List.append_nil]; exact es, n38, by omega⟩⟩
  | succ k ih =>
    intro i v fu L Y P s' s2 hs t ρ hik hin hv hf H8 hL hLi hP HM es hY hdY n38
    obtain ⟨fu, rfl⟩ : ∃ j, fu = j + 1 := ⟨fu - 1, by omega⟩
    have tk : f_X7_takes t (124 : Int32) = if i < n ∧ T i = 124 then some (1, s_t t 2 0 (nI (i + 1))) else some (0, t) := k_takes8 X H8 hin (c := 124) (by omega)
    show OUT n h T c a ρ0 0 i L hs t (f_X7_anyHolds_12 _ _ _ _ _ _) _ _ _ _
    unfold f_X7_anyHolds_12
    rw [if_neg (show ¬ (100 : Int32) ≤ nI v from nI_ge (b := 100) (by omega) (by omega)), tk]
    by_cases hop : i < n ∧ T i = 124
    · rw [if_pos hop, bd_s]
      dsimp only
      rw [i10]
      obtain ⟨ρ1, c1, c2⟩ := lp_op X HM ha hop.1 hop.2 (w := 124) (by omega) (hd_stop hdY (fun x hx => ⟨by omega, fun q => by omega⟩)) (fun x hx => by have := hP x hx; omega)
      rw [es] at c2
      obtain ⟨r, t', h1, j, x1, x2, x3, x4, x5, x6⟩ := IH N (i + 1) L (124 :: Y) s2 hs _ ρ1 hN hop.1 H8.at hL (by omega) c2 (by rw [opc_op (by omega)]; exact hY) (Or.inr ⟨124, Y, rfl, by omega, by omega⟩)
      rw [x1, bd_s]
      dsimp only
      have x3' : EF [2] t' t := x3.tr (ef_s (by decide))
      rcases x6 with ⟨rfl, st, ρ', k', y1, y2, y3, y4, y5, y6, y7⟩ | ⟨rfl, ⟨L', z1⟩, ρ', z2, z3, z4⟩
      · have x4 : i + 1 + 1 ≤ j := by rw [if_pos rfl] at x4; omega
        obtain ⟨h2, b1, b2, b3⟩ := k_adds (t := 1802) y1 (by simp; omega)
        have b1' : f_X2_adds h1 (1802 : Int32) = some h2 := b1
        rw [i10, x2.2.2.2, gd_of hH, ch, up_eq, b1', bd_s, lt_d, up_up, lt_d, nI_1]
        obtain ⟨P1, s1, hP1, HM1, es1, m38⟩ := y7
        obtain ⟨r3, t3, h3, j3, w1, w2, w3, w4, w5, w6⟩ := ih j (v + 1) fu (L ++ st ++ [1802]) Y (P1 ++ [124]) s1 (s2 ++ (st ++ [1802])) (va_up hs h h2) t' ρ' (by omega) x5 (by omega) (by omega) x2 (by rw [up_eq]; exact b2) (by simp; omega) (fun x hx => by
          rcases List.mem_append.mp hx with z | z
          · exact Or.inl (hP1 x z)
          · exact Or.inr (by simpa using z)) (by rw [List.append_assoc]; exact HM1) (by rw [List.map_append, ← List.append_assoc, es1]; simp [cd]) hY hdY m38
        rw [up_up] at w1
        refine ⟨r3, t3, h3, j3, w1, w2, w3.tr x3', ?_, w5, ?_⟩
        · rcases w6 with ⟨rfl, -⟩ | ⟨rfl, -⟩
          · rw [if_pos rfl] at w4 ⊢; omega
          · rw [if_neg (by decide)] at w4 ⊢; omega
        · rcases w6 with ⟨rfl, st3, ρ3, k3, u1, u2, u3, u4, u5, u6, u7⟩ | ⟨rfl, hL3, ρ3, u2, u3, u4⟩
          · refine Or.inl ⟨rfl, st ++ [1802] ++ st3, ρ3, k' + k3 + 1, ?_, ?_, ?_, fun q K hq hK => ?_, by omega, fun m => ?_, ?_⟩
            · rw [show L ++ (st ++ [1802] ++ st3) = L ++ st ++ [1802] ++ st3 by simp]; exact u1
            · rw [u2, up_eq, b3]; exact y2
            · simp at u3 ⊢; omega
            · rw [show st ++ [1802] ++ st3 ++ K = st ++ (1802 :: (st3 ++ K)) by simp]
              refine y4 (q + 1) (1802 :: (st3 ++ K)) (by omega) ?_
              unfold vd
              rw [if_neg (by omega), if_neg (by omega)]
              exact ⟨by omega, by omega, u4 q K (by omega) hK⟩
            · rw [show m + (k' + k3 + 1) = (m + k3 + k') + 1 by omega, c1]
              refine (y6 (m + k3)).trans ?_
              exact u6 m
            · rw [show s2 ++ (st ++ [1802]) = s2 ++ (st ++ [1802]) from rfl] at u7
              unfold G3 at u7 ⊢
              rw [show s2 ++ (st ++ [1802] ++ st3) = s2 ++ (st ++ [1802]) ++ st3 by simp]
              exact u7
          · refine Or.inr ⟨rfl, hL3, ρ3, fun m hm => ?_, u3, u4⟩
            have w4 : j ≤ j3 := by rw [if_neg (by decide)] at w4; omega
            obtain ⟨m, rfl⟩ : ∃ q, m = (q + k') + 1 := ⟨m - k' - 1, by omega⟩
            rw [c1]
            refine (y6 m).trans ?_
            exact u2 m (by omega)
      · have x4 : i + 1 ≤ j := by rw [if_neg (by decide)] at x4; omega
        rw [i00]
        refine ⟨0, t', h1, j, rfl, x2, x3', by rw [if_neg (by decide)]; omega, x5, Or.inr ⟨rfl, ⟨L', z1⟩, ρ', fun m hm => ?_, z3, z4⟩⟩
        obtain ⟨m, rfl⟩ : ∃ q, m = q + 1 := ⟨m - 1, by omega⟩
        rw [c1]
        exact z2 m (by omega)
    · rw [if_neg hop, bd_s]
      dsimp only
      rw [i00]
      refine ⟨1, t, hs h, i, by rw [up_id], H8, EF.rf, by rw [if_pos rfl]; omega, hin, Or.inl ⟨rfl, [], ρ, 0, by rw [List.append_nil]; exact hL, rfl, by simp, fun q K hq hK => hK, by omega, fun m => rfl, P, s', hP, HM, by rw [List.append_nil]; exact es, n38, hop⟩⟩
theorem p3_ok (X : TX n T) (hH : inH (nI h) = true) (hh : h < 30) (ha : a ≤ 500 + p0) {d : Nat} (hd4 : d ≤ 4) (IH : P2 n h T c a p0 ρ0 d) : P3 n h T c a p0 ρ0 d := by
  intro N i L Y s hs t ρ hN hin H8 hL hLi HM hY hdY
  have hn := X.1
  obtain ⟨N, rfl⟩ : ∃ q, N = q + 1 := ⟨N - 1, by omega⟩
  rw [rec0]
  unfold f_X7_anyHolds_0
  obtain ⟨r, t', h1, j, x1, x2, x3, x4, x5, x6⟩ := IH N i L Y s hs t ρ (by omega) hin H8 hL hLi HM hY (hdY.imp id (fun ⟨x, X', e, h1, h2, h3⟩ => ⟨x, X', e, h1, h2⟩))
  rw [x1, bd_s]
  dsimp only
  rcases x6 with ⟨rfl, st, ρ', k', y1, y2, y3, y4, y5, y6, y7⟩ | ⟨rfl, ⟨L', z1⟩, ρ', z2, z3, z4⟩
  · have x4 : i + 1 ≤ j := by rw [if_pos rfl] at x4; omega
    rw [i10]
    obtain ⟨P1, s1, hP1, HM1, es1, m38⟩ := y7
    obtain ⟨r3, t3, h3, j3, w1, w2, w3, w4, w5, w6⟩ := p3_loop X hH hh ha IH (show 3 * (4 - d) + 2 ≤ N by omega) (n - j) j 0 FU (L ++ st) Y P1 s1 (s ++ st) (va_up hs h h1) t' ρ' (by omega) x5 (by omega) (by rw [FU_e]; omega) x2 (by rw [up_eq]; exact y1) (by simp; omega) (fun x hx => Or.inl (hP1 x hx)) HM1 es1 hY hdY m38
    rw [up_up] at w1
    refine ⟨r3, t3, h3, j3, w1, w2, w3.tr x3, ?_, w5, ?_⟩
    · rcases w6 with ⟨rfl, -⟩ | ⟨rfl, -⟩
      · rw [if_pos rfl] at w4 ⊢; omega
      · rw [if_neg (by decide)] at w4 ⊢; omega
    · rcases w6 with ⟨rfl, st3, ρ3, k3, u1, u2, u3, u4, u5, u6, u7⟩ | ⟨rfl, hL3, ρ3, u2, u3, u4⟩
      · refine Or.inl ⟨rfl, st ++ st3, ρ3, k' + k3, ?_, ?_, ?_, fun q K hq hK => ?_, by omega, fun m => ?_, ?_⟩
        · rw [← List.append_assoc]; exact u1
        · rw [u2, up_eq]; exact y2
        · simp; omega
        · rw [List.append_assoc]
          exact y4 q (st3 ++ K) (by omega) (u4 q K (by omega) hK)
        · rw [show m + (k' + k3) = (m + k3) + k' by omega]
          exact (y6 (m + k3)).trans (u6 m)
        · unfold G3 at u7 ⊢
          rw [← List.append_assoc]
          exact u7
      · refine Or.inr ⟨rfl, hL3, ρ3, fun m hm => ?_, u3, u4⟩
        have w4 : j ≤ j3 := by rw [if_neg (by decide)] at w4; omega
        obtain ⟨m, rfl⟩ : ∃ q, m = q + k' := ⟨m - k', by omega⟩
        refine (y6 m).trans ?_
        exact u2 m (by omega)
  · rw [i00]
    exact ⟨0, t', h1, j, rfl, x2, x3, x4, x5, Or.inr ⟨rfl, ⟨L', z1⟩, ρ', z2, z3, z4⟩⟩
theorem p_all (X : TX n T) (hH : inH (nI h) = true) (hh : h < 30) (ha : a ≤ 500 + p0) (hc : c < 60) : ∀ k d : Nat, d + k = 4 → P1 n h T c a p0 ρ0 d ∧ P3 n h T c a p0 ρ0 d := by
  intro k
  induction k with
  | zero =>
    intro d hd
    have h1 : P1 n h T c a p0 ρ0 d := p1_ok X hH hh ha hc (by omega) (fun q => by omega) (fun q => by omega)
    exact ⟨h1, p3_ok X hH hh ha (by omega) (p2_ok X hH hh ha (by omega) h1)⟩
  | succ k ih =>
    intro d hd
    obtain ⟨i1, i3⟩ := ih (d + 1) (by omega)
    have h1 : P1 n h T c a p0 ρ0 d := p1_ok X hH hh ha hc (by omega) (fun _ => i1) (fun _ => i3)
    exact ⟨h1, p3_ok X hH hh ha (by omega) (p2_ok X hH hh ha (by omega) h1)⟩
end TD
