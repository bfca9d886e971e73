/-! PURE: a clause, in both -/
section TF
variable {n h i : Nat} {T : Nat → Nat}
/-- slow and keen -/
theorem k_sk (X : TX n T) (hH : inH (nI h) = true) (hh : h < 30) {x c a nh R : Nat} (hx : x < 2) (hc : c < 60) (hnh : nh ≤ 5) {L : List Nat} {hs : Ms} {t ρ : Mm} (hin : i ≤ n) (H8 : T8 n h T i t) (H9 : M9 n T i ρ) (hl : ∀ q, q < 12 → ρ 29 q = ltr q) (hL : HST L (hs h)) (hLi : L.length ≤ i) (hR : hs h 2 0 = nI R) (h26 : ρ 26 0 = nI a) (ha0 : 100 * nh ≤ a) (ha : a ≤ 100 * nh + i) : CLO n h nh c T i a R L hs t (f_X7_clause_73 t hs (nI x) (cw x)) ρ (bd (wd ρ c x) (mtl (nI c))) := by
  have hn := X.1
  obtain ⟨b, j, t1, ρ1, hb, ij, jn, e8, e9, K8, F8, K9, F9, g20, g26⟩ := k_wd (c := c) (a := a) X (x := x) (by omega) hin H8 H9 hl
  unfold f_X7_clause_73
  rw [e8, e9, bd_s, bd_s]
  unfold mtl
  rcases hb with rfl | rfl
  · dsimp only
    rw [i00, i00]
    exact ⟨0, t1, hs h, ρ1, j, by rw [up_id], rfl, K8, F8, jn, K9.2.1, F9, Or.inl rfl⟩
  dsimp only
  rw [i10, i10]
  rcases k_number X K8 K9 jn with ⟨n8, n9⟩ | ⟨v, j2, ρ2, hv, j1, j2n, n8, n9, M2, e17, ef2⟩
  · rw [n8, n9, bd_s, bd_s]
    dsimp only
    rw [if_pos (by decide), i00]
    exact ⟨0, t1, hs h, ρ1, j, by rw [up_id], rfl, K8, F8, jn, K9.2.1, F9, Or.inl rfl⟩
  rw [n8, n9, bd_s, bd_s]
  dsimp only
  have K82 : T8 n h T j2 (s_t t1 2 0 (nI j2)) := K8.at
  have F82 : EF [2] (s_t t1 2 0 (nI j2)) t := F8.st (by decide)
  have z20 : s_t ρ2 21 c (nI v) 20 c = nI x := by rw [st_ne (by omega), ef2 20 (by decide), g20]
  have z26 : s_t ρ2 21 c (nI v) 26 0 = nI a := by rw [st_ne (by omega), ef2 26 (by decide), g26, h26]
  have z21 : s_t ρ2 21 c (nI v) 21 c = nI v := st_eq
  have zF : CF c a (s_t ρ2 21 c (nI v)) ρ := (CF.s (by omega)).tr ((CF.ef ef2).tr F9)
  have M3 : M9 n T j2 (s_t ρ2 21 c (nI v)) := M2.ef (fun k hk => st_ne (by omega))
  rw [if_neg (show ¬ nI v < 0 from nI_pos (by omega)), i10, z_in hc (by decide), nI_clamp (by omega), e17, lt_d, z_in hc (by decide), z20, if_neg (show ¬ nI x = 2 from z_neq (b := 2) (by omega) (by omega) (by omega))]
  generalize s_t ρ2 21 c (nI v) = ρ3 at *
  generalize s_t t1 2 0 (nI j2) = t2 at *
  have k8 : f_X7_takes t2 32 = _ := k_takes8 X K82 j2n (c := 32) (by omega)
  have k9 : f_X9_takes ρ3 32 = _ := k_takes9 X M3 j2n (c := 32) (by omega)
  rw [k8, k9]
  by_cases h32 : j2 < n ∧ T j2 = 32
  · rw [if_pos h32, if_pos h32, bd_s, bd_s]
    dsimp only
    rw [i10, i10]
    have K83 : T8 n h T (j2 + 1) (s_t t2 2 0 (nI (j2 + 1))) := K82.at
    have F83 : EF [2] (s_t t2 2 0 (nI (j2 + 1))) t := F82.st (by decide)
    have M4 : M9 n T (j2 + 1) (s_t ρ3 16 0 (nI (j2 + 1))) := M3.at
    have zF4 : CF c a (s_t ρ3 16 0 (nI (j2 + 1))) ρ := (CF.ef (ef_s (by decide))).tr zF
    have y20 : s_t ρ3 16 0 (nI (j2 + 1)) 20 c = nI x := by rw [st_ne (by omega), z20]
    have y21 : s_t ρ3 16 0 (nI (j2 + 1)) 21 c = nI v := by rw [st_ne (by omega), z21]
    have y26 : s_t ρ3 16 0 (nI (j2 + 1)) 26 0 = nI a := by rw [st_ne (by omega), z26]
    generalize s_t ρ3 16 0 (nI (j2 + 1)) = ρ4 at *
    generalize s_t t2 2 0 (nI (j2 + 1)) = t3 at *
    unfold f_X9_takesE f_X9_takesE_0
    rw [lt_d, lt_d, z_in hc (by decide), nI_clamp (by omega), st_ne (show (26 : Nat) ≠ 28 by omega), st_ne (show (26 : Nat) ≠ 27 by omega), y26, lt_d]
    have M5 : M9 n T (j2 + 1) (s_t (s_t (s_t ρ4 27 0 0) 28 0 0) 22 c (nI a)) := M4.ef (fun k hk => by rw [st_ne (by omega), st_ne (by omega), st_ne (by omega)])
    have zF5 : CF c a (s_t (s_t (s_t ρ4 27 0 0) 28 0 0) 22 c (nI a)) ρ := (CF.s (by omega)).tr (CF.tr ⟨(ef_s (by decide) : EF _ _ _).tr (ef_s (by decide)), fun k x p q r => by rw [st_ne (by omega), st_ne (by omega)], fun x _ => by rw [st_ne (by omega), st_ne (by omega)]⟩ zF4)
    have x20 : s_t (s_t (s_t ρ4 27 0 0) 28 0 0) 22 c (nI a) 20 c = nI x := by rw [st_ne (by omega), st_ne (by omega), st_ne (by omega), y20]
    have x21 : s_t (s_t (s_t ρ4 27 0 0) 28 0 0) 22 c (nI a) 21 c = nI v := by rw [st_ne (by omega), st_ne (by omega), st_ne (by omega), y21]
    have x22 : s_t (s_t (s_t ρ4 27 0 0) 28 0 0) 22 c (nI a) 22 c = nI a := st_eq
    have x26 : s_t (s_t (s_t ρ4 27 0 0) 28 0 0) 22 c (nI a) 26 0 = nI a := by rw [st_ne (by omega), st_ne (by omega), st_ne (by omega), y26]
    have x27 : s_t (s_t (s_t ρ4 27 0 0) 28 0 0) 22 c (nI a) 27 0 = 0 := by rw [st_ne (by omega), st_ne (by omega), st_eq]
    have x28 : s_t (s_t (s_t ρ4 27 0 0) 28 0 0) 22 c (nI a) 28 0 = 0 := by rw [st_ne (by omega), st_eq]
    generalize s_t (s_t (s_t ρ4 27 0 0) 28 0 0) 22 c (nI a) = ρ5 at *
    have HM : MS n T c a (j2 + 1) ρ5 (j2 + 1) [] [] ρ5 := ⟨M5, ⟨x27, fun q hq => absurd hq (Nat.not_lt_zero q)⟩, x28, ⟨x26, fun q hq => absurd hq (Nat.not_lt_zero q)⟩, ⟨by simp, fun w hw => absurd hw (List.not_mem_nil)⟩, EF.rf, fun _ _ => rfl, fun _ _ => rfl⟩
    obtain ⟨r, t4, h4, j4, q1, q2, q3, q4, q5, q6⟩ := (p_all (n := n) (h := h) (c := c) (a := a) (p0 := j2 + 1) (T := T) (ρ0 := ρ5) X hH hh (by omega) hc 4 0 rfl).2 45 (j2 + 1) L [] [] hs t3 ρ5 (by omega) h32.1 K83 hL (by omega) HM rfl (Or.inl rfl)
    have q1' : f_X7_rec 45 0 t3 hs 0 = some (r, t4, va_up hs h h4) := q1
    rw [q1', bd_s]
    dsimp only
    rcases q6 with ⟨rfl, st, ρ6, k, w1, w2, w3, w4, w5, w6, P, s', w7, w8, w9, w10, w11⟩ | ⟨rfl, -, ρ6, w1, w2, w3⟩
    · obtain ⟨ρ7, u1, u2, u3⟩ := lp_close X w8 (by omega) hc q5 w10 w11 (Or.inl rfl) w7
      have est : s' ++ P.map cd = st := w9
      rw [est] at u1 u2
      obtain ⟨f, hf⟩ : ∃ f, FU = (f + 1) + k := ⟨3999 - k, by rw [FU_e]; omega⟩
      have lp : f_X9_takesE_22L (nI c) FU ρ5 1 = some (1, ρ7) := by
        rw [hf, w6 (f + 1), u3 f]
        exact if_pos rfl
      obtain ⟨v1, ⟨v2, -⟩, v3, ⟨v4, v4'⟩, v5, v6, v7, v8⟩ := u1
      have fin7 : FIN c a ρ5 ρ7 := ⟨v6, v7, v8⟩
      rw [lp, bd_s]
      dsimp only
      unfold f_X9_takesClause_54
      rw [i10, i10, q2.2.2.2, gd_of hH, nI_clamp (by omega), up_eq]
      have hlen : (L ++ st).length < 100 := by simp only [List.length_append]; omega
      have hvd : vd st 0 := by
        have := w4 0 [] (by omega) rfl
        rw [List.append_nil] at this
        exact this
      have e7 : ∀ k, 20 ≤ k → k ≤ 22 → ρ7 k = ρ5 k := fun k q1 q2 => v6 k (by simp; omega)
      have hcl : CLa nh ρ7 c (x, v, st) (a + st.length) := ⟨by rw [e7 20 (by omega) (by omega)]; exact x20, by show x < 3; omega, by rw [e7 21 (by omega) (by omega)]; exact x21, hv, fun _ => ⟨a, by rw [e7 22 (by omega) (by omega)]; exact x22, u2, ha0, Nat.le_refl _, v4', hvd⟩⟩
      have hfin : ∀ (y : Nat) (h5 : Mm), y = (if x = 0 then 1900 + v else 2000 + v) → HST (L ++ st ++ [y]) h5 → h5 2 = h4 2 → CLO n h nh c T i a R L hs t (some (1, t4, va_up (va_up hs h h4) h h5)) ρ (some (1, ρ7)) := by
        intro y h5 hy k1 k2
        refine ⟨1, t4, h5, ρ7, j4, by rw [up_up], rfl, q2, q3.tr F83, q5, v1.2.1, (CF.fin fin7).tr zF5, Or.inr ⟨rfl, (x, v, st), a + st.length, v1, hcl, ?_, ?_, ?_, v4, by omega, by omega⟩⟩
        · have : cst (x, v, st) = st ++ [y] := by
            unfold cst
            rw [if_neg (show ¬ x = 2 by omega), hy]
          rw [this, ← List.append_assoc]
          exact k1
        · rw [k2, w2, hR, if_neg (show ¬ x = 2 by omega)]
        · have : (cst (x, v, st)).length = st.length + 1 := by
            unfold cst
            rw [if_neg (show ¬ x = 2 by omega)]
            simp
          rw [List.length_append, this]
          omega
      by_cases h0 : x = 0
      · subst h0
        obtain ⟨h5, k1, k2, k3⟩ := k_adds (t := 1900 + v) w1 hlen
        rw [if_pos (show nI 0 = 0 from rfl), show (1900 : Int32) = nI 1900 from rfl, nI_add, k1, bd_s, lt_d]
        exact hfin _ h5 (if_pos rfl).symm k2 k3
      · obtain ⟨h5, k1, k2, k3⟩ := k_adds (t := 2000 + v) w1 hlen
        rw [if_neg (nI_ne0 (by omega) (by omega)), show (2000 : Int32) = nI 2000 from rfl, nI_add, k1, bd_s, lt_d]
        exact hfin _ h5 (if_neg h0).symm k2 k3
    · have lp : f_X9_takesE_22L (nI c) FU ρ5 1 = some (0, ρ6) := w1 FU (by rw [FU_e]; omega)
      rw [lp, bd_s]
      dsimp only
      rw [i00, i00]
      exact ⟨0, t4, h4, ρ6, j4, rfl, rfl, q2, q3.tr F83, q5, w2, (CF.fin w3).tr zF5, Or.inl rfl⟩
  · rw [if_neg h32, if_neg h32, bd_s, bd_s]
    dsimp only
    rw [i00, i00]
    exact ⟨0, t2, hs h, ρ3, j2, by rw [up_id], rfl, K82, F82, j2n, M3.2.1, zF, Or.inl rfl⟩
/-- rest -/
theorem k_rs (X : TX n T) (hH : inH (nI h) = true) (hh : h < 30) {c a nh R : Nat} (hc : c < 60) {L : List Nat} {hs : Ms} {t ρ : Mm} (hin : i ≤ n) (H8 : T8 n h T i t) (H9 : M9 n T i ρ) (hl : ∀ q, q < 12 → ρ 29 q = ltr q) (hL : HST L (hs h)) (hLi : L.length ≤ i) (h26 : ρ 26 0 = nI a) (ha : a ≤ 100 * nh + i) : CLO n h nh c T i a R L hs t (bd (f_X7_rest t hs) (fun u22 => gd (isB u22.1) (some (u22.1, u22.2.1, u22.2.2)))) ρ (bd (wd ρ c 2) (mtl (nI c))) := by
  obtain ⟨b, j, t1, ρ1, hb, ij, jn, e8, e9, K8, F8, K9, F9, g20, g26⟩ := k_wd (c := c) (a := a) X (x := 2) (by omega) hin H8 H9 hl
  have e8' : f_X7_takesAll t 2 = some (b, t1) := e8
  have B0 : isB (0 : Int32) = true := by decide
  have B1 : isB (1 : Int32) = true := by decide
  unfold f_X7_rest f_X7_rest_0
  rw [e8', e9, bd_s, bd_s]
  unfold mtl
  rcases hb with rfl | rfl
  · dsimp only
    rw [i00, i00, bd_s]
    dsimp only
    rw [gd_of B0]
    exact ⟨0, t1, hs h, ρ1, j, by rw [up_id], rfl, K8, F8, jn, K9.2.1, F9, Or.inl rfl⟩
  dsimp only
  rw [i10, i10]
  rcases k_number X K8 K9 jn with ⟨n8, n9⟩ | ⟨v, j2, ρ2, hv, j1, j2n, n8, n9, M2, e17, ef2⟩
  · rw [n8, n9, bd_s, bd_s]
    dsimp only
    rw [if_neg (show ¬ (0 : Int32) ≤ -1 by decide), i00, bd_s]
    dsimp only
    rw [gd_of B0]
    exact ⟨0, t1, hs h, ρ1, j, by rw [up_id], rfl, K8, F8, jn, K9.2.1, F9, Or.inl rfl⟩
  rw [n8, n9, bd_s, bd_s]
  dsimp only
  have K82 : T8 n h T j2 (s_t t1 2 0 (nI j2)) := K8.at
  have z20 : s_t ρ2 21 c (nI v) 20 c = nI 2 := by rw [st_ne (by omega), ef2 20 (by decide), g20]
  have z26 : s_t ρ2 21 c (nI v) 26 0 = nI a := by rw [st_ne (by omega), ef2 26 (by decide), g26, h26]
  have zF : CF c a (s_t ρ2 21 c (nI v)) ρ := (CF.s (by omega)).tr ((CF.ef ef2).tr F9)
  have M3 : M9 n T j2 (s_t ρ2 21 c (nI v)) := M2.ef (fun k hk => st_ne (by omega))
  rw [if_pos (show (0 : Int32) ≤ nI v from nI_pos' (by omega)), K82.2.2.2, gd_of hH, nI_clamp (show h < 2 ^ 31 by omega), lt_d, lt_d, bd_s, i10, z_in hc (by decide), nI_clamp (show c < 2 ^ 31 by omega), e17, lt_d, z_in hc (by decide), z20, if_pos (show nI 2 = 2 from rfl)]
  dsimp only
  rw [gd_of B1]
  unfold f_X9_takesClause_54
  have ec : cst (2, v, []) = [] := rfl
  refine ⟨1, _, s_t (hs h) 2 0 (nI v), _, j2, rfl, rfl, K82, F8.st (by decide), j2n, M3.2.1, zF, Or.inr ⟨rfl, (2, v, []), a, M3, ⟨z20, show (2 : Nat) < 3 by decide, st_eq, hv, fun q => absurd q (show ¬ (2 : Nat) < 2 by decide)⟩, ?_, st_eq, ?_, z26, Nat.le_refl _, by omega⟩⟩
  · rw [ec, List.append_nil]
    exact ⟨by rw [st_ne (by omega)]; exact hL.1, hL.2.1, fun i hi => by rw [st_ne (by omega)]; exact hL.2.2 i hi⟩
  · rw [ec, List.append_nil]
    omega
theorem k_clause (X : TX n T) (hH : inH (nI h) = true) (hh : h < 30) {c a nh R : Nat} (hc : c < 60) (hnh : nh ≤ 5) {L : List Nat} {hs : Ms} {t ρ : Mm} (hin : i ≤ n) (H8 : T8 n h T i t) (H9 : M9 n T i ρ) (hl : ∀ q, q < 12 → ρ 29 q = ltr q) (hL : HST L (hs h)) (hLi : L.length ≤ i) (hR : hs h 2 0 = nI R) (h26 : ρ 26 0 = nI a) (ha0 : 100 * nh ≤ a) (ha : a ≤ 100 * nh + i) : CLO n h nh c T i a R L hs t (f_X7_clause t hs) ρ (f_X9_takesClause ρ (nI c)) := by
  rw [clause9, k_c8 X H8 hin hs, k_h9 X H9 hin hc]
  by_cases h114 : i < n ∧ T i = 114
  · rw [if_pos h114, if_neg (show ¬ (i < n ∧ T i = 107) by omega), if_neg (show ¬ (i < n ∧ T i = 115) by omega)]
    exact k_rs X hH hh hc hin H8 H9 hl hL hLi h26 ha
  rw [if_neg h114]
  by_cases h107 : i < n ∧ T i = 107
  · rw [if_pos h107, if_pos h107]
    exact k_sk X hH hh (x := 1) (by omega) hc hnh hin H8 H9 hl hL hLi hR h26 ha0 ha
  rw [if_neg h107, if_neg h107]
  by_cases h115 : i < n ∧ T i = 115
  · rw [if_pos h115]
    exact k_sk X hH hh (x := 0) (by omega) hc hnh hin H8 H9 hl hL hLi hR h26 ha0 ha
  · rw [if_neg h115]
    have e1 : ∀ m, f_X7_takesAll_2L 1 (m + 1) t (nI 0) = some (0, t) := fun m => by
      show f_X7_takesAll_2 1 (f_X7_takesAll_2L 1 m) t (nI 0) = _
      unfold f_X7_takesAll_2
      have l1 := cw_len 0 (by omega)
      have l2 := cw_at 0 (by omega) 0 (by omega)
      rw [show cw 0 = 1 from rfl] at l1 l2
      rw [l1, bd_s, if_neg (by decide), l2, bd_s, k_takes8 X H8 hin (wch_lt 0 (by omega) 0 (by omega)), show wch 0 0 = 115 from rfl, if_neg h115, bd_s]
      exact if_pos rfl
    have e2 : f_X7_takesAll t 1 = some (0, t) := by
      unfold f_X7_takesAll f_X7_takesAll_0
      exact e1 3999
    have M2 : M9 n T i (s_t ρ 20 c (nI 2)) := H9.ef (fun k hk => st_ne (by omega))
    have e3 : ∀ m, f_X9_takesWord_2L (nI (4 * 2)) 4 (m + 1) (s_t ρ 20 c (nI 2)) (nI 0) = some (0, s_t ρ 20 c (nI 2)) := fun m => by
      show f_X9_takesWord_2 (nI (4 * 2)) 4 (f_X9_takesWord_2L (nI (4 * 2)) 4 m) (s_t ρ 20 c (nI 2)) (nI 0) = _
      unfold f_X9_takesWord_2
      rw [if_neg (by decide), nI_add, z_in (by omega) (by decide), nI_clamp (by omega), st_ne (by omega), hl _ (by omega), wch_l 2 (by omega) 0 (by omega), k_takes9 X M2 hin (wch_lt 2 (by omega) 0 (by omega)), show wch 2 0 = 114 from rfl, if_neg h114, bd_s]
      exact if_pos rfl
    have e4 : wd ρ c 2 = some (0, s_t ρ 20 c (nI 2)) := by
      unfold wd f_X9_takesWord f_X9_takesWord_0
      have e5 : f_X9_takesWord_2L (nI (4 * 2)) 4 FU (s_t ρ 20 c (nI 2)) 0 = some (0, s_t ρ 20 c (nI 2)) := e3 3999
      rw [e5, bd_s]
      exact gd_of (show isB (0 : Int32) = true by decide)
    unfold f_X7_clause_73
    rw [e2, e4, bd_s, bd_s]
    unfold mtl
    dsimp only
    rw [i00, i00]
    exact ⟨0, t, hs h, _, i, by rw [up_id], rfl, H8, EF.rf, hin, M2.2.1, CF.s (by omega), Or.inl rfl⟩
end TF
