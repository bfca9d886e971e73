/-! THE LAW'S LOOP (made by wip/whole/gen/gen99c.py) -/
theorem p_ofs {L i : Nat} (hL : L ≤ 3072) (hi : i ≤ 4000) : (Int32.ofNat L - 6 < nI i) ↔ L < i + 6 := by
  have e : (nI L - 6).toInt = (L : Int) - 6 := by
    rw [p_sub] <;> rw [nI_toInt (by omega)] <;> simp <;> omega
  show nI L - 6 < nI i ↔ _
  rw [Int32.lt_iff_toInt_lt, e, nI_toInt (by omega)]
  omega
section LP
variable {p : Program} {l : Launch} {e : Env} {s : State} {m : MethodId} {below : List Frame} {meth : Method} {c : Code} {cells slots : Nat} {E : Ev} {b L : Nat} {xs : Nat → Int32}
set_option maxHeartbeats 4000000 in
set_option maxRecDepth 100000 in
theorem lw_loop (C : Cx cL_law 4 ret lwF RL E p s m #[Value.ref b] meth c) (hX : va_X b L xs s s.heap) (hbl : b < s.heap.size) (hAE : ∀ q, AA E s.heap.size q → s.heap.size ≤ q) (hL : L ≤ 3072) (hcs : cells ≤ room_1.cells ∧ slots ≤ room_1.slots) : ∀ (k i : Nat) (σ : Ms) (ℓ : Mz) (H : Heap) (locs : List Loc) (ls : Array Slot), L < i + 6 * k + 6 → i ≤ L + 6 → HI E σ ℓ s H locs → INV σ ℓ → lv_has ls 4 [(3, .int (nI i)), (2, .ref (Ea E 29 0)), (1, .ref (Ea E 0 0)), (0, .ref b)] → W p l e room_1 s m #[Value.ref b] below meth c H locs cells slots (lw_Z below #[Value.ref b] s) (F0 m 18 ls []) := by
  obtain ⟨hx, hb, hr, hml, hown, hts, hlk, hK, -⟩ := id C
  have hbA : ¬ AA E s.heap.size b := fun q => absurd (hAE b q) (Nat.not_le.mpr hbl)
  intro k
  induction k with
  | zero =>
    intro i σ ℓ H locs ls hk hi h I hl
    refine lv_iload_n hx hb dL_law_18 rfl (lv_at hl 0 rfl) ?_
    refine lv_aload_n hx hb dL_law_19 rfl (lv_at hl 3 rfl) ?_
    refine va_slen hx hb hX hbl hbA h.2.2 dL_law_20 ?_
    refine lv_bipush (v := (6 : Int32)) hx hb dL_law_21 (by decide) ?_
    refine lv_isub hx hb dL_law_23 ?_
    refine lv_icmp_gt (tgt := 1291) hx hb dL_law_24 (by decide) (fun _ => ?_) (fun q => absurd ((p_ofs hL (by omega)).mpr (by omega)) q)
    refine lv_iconst (v := (1 : Int32)) hx hb dL_law_1291 (by decide) ?_
    refine va_forget (fun q hq => hAE _ (h.2.2.2.2 q hq)) ?_
    refine W.widen (k := 600000) (n := 7302250) hcs.1 hcs.2 ?_
    exact lw_ret hx hb hr hlk dL_law_1292
  | succ k ih =>
    intro i σ ℓ H locs ls hk hi h I hl
    refine lv_iload_n hx hb dL_law_18 rfl (lv_at hl 0 rfl) ?_
    refine lv_aload_n hx hb dL_law_19 rfl (lv_at hl 3 rfl) ?_
    refine va_slen hx hb hX hbl hbA h.2.2 dL_law_20 ?_
    refine lv_bipush (v := (6 : Int32)) hx hb dL_law_21 (by decide) ?_
    refine lv_isub hx hb dL_law_23 ?_
    refine lv_icmp_gt (tgt := 1291) hx hb dL_law_24 (by decide) (fun _ => ?_) (fun q => ?_)
    · refine lv_iconst (v := (1 : Int32)) hx hb dL_law_1291 (by decide) ?_
      refine va_forget (fun q hq => hAE _ (h.2.2.2.2 q hq)) ?_
      refine W.widen (k := 600000) (n := 7302250) hcs.1 hcs.2 ?_
      exact lw_ret hx hb hr hlk dL_law_1292
    · have hi6 : i + 6 ≤ L := by
        have : ¬ L < i + 6 := fun z => q ((p_ofs hL (by omega)).mpr z)
        omega
      have kk : ∀ (σ2 : Ms) (ℓ2 : Mz) (H1 : Heap) (locs1 : List Loc), HI E σ2 ℓ2 s H1 locs1 → INV σ2 ℓ2 → W p l e room_1 s m #[Value.ref b] below meth c H1 locs1 cells slots (lw_Z below #[Value.ref b] s) (F0 m 1285 ls []) := by
        intro σ2 ℓ2 H1 locs1 h2 I2
        refine lv_iinc (k := 0) (v := nI (i + 6)) (lv' := [(3, .int (nI (i + 6))), (2, .ref (Ea E 29 0)), (1, .ref (Ea E 0 0)), (0, .ref b)]) hx hb dL_law_1285 hl rfl (nI_add i 6) (by decide) rfl (fun ls hl => ?_)
        refine lv_goto (tgt := 18) hx hb dL_law_1288 (by decide) ?_
        exact ih (i + 6) σ2 ℓ2 H1 locs1 ls (by omega) (by omega) h2 I2 hl
      refine lv_aload_n hx hb dL_law_27 rfl (lv_at hl 3 rfl) ?_
      refine lv_iload_n hx hb dL_law_28 rfl (lv_at hl 0 rfl) ?_
      refine va_sld hx hb hX hbl hbA h.2.2 (inB_in (p_inN (by omega) (by omega))) dL_law_29 ?_
      refine lv_bipush (v := (63 : Int32)) hx hb dL_law_30 (by decide) ?_
      refine lv_iand hx hb dL_law_32 ?_
      generalize xs (nI i).toNatClampNeg &&& 63 = x
      by_cases c0 : x = Int32.ofInt 0
      · subst c0
        refine lv_tableIn (off := 151) (tgt := 184) hx hb dL_law_33 (by decide) (by decide) (by decide) (by decide) ?_
        exact cs_master C hX hbl hbA h I hi6 hL hcs hl kk
      by_cases c1 : x = Int32.ofInt 1
      · subst c1
        refine lv_tableIn (off := 194) (tgt := 227) hx hb dL_law_33 (by decide) (by decide) (by decide) (by decide) ?_
        exact cs_of C hX hbl hbA h I hi6 hL hcs hl kk
      by_cases c2 : x = Int32.ofInt 2
      · subst c2
        refine lv_tableIn (off := 227) (tgt := 260) hx hb dL_law_33 (by decide) (by decide) (by decide) (by decide) ?_
        exact cs_set C hX hbl hbA h I hi6 hL hcs hl kk
      by_cases c3 : x = Int32.ofInt 3
      · subst c3
        refine lv_tableIn (off := 270) (tgt := 303) hx hb dL_law_33 (by decide) (by decide) (by decide) (by decide) ?_
        exact cs_away C hX hbl hbA h I hi6 hL hcs hl kk
      by_cases c4 : x = Int32.ofInt 4
      · subst c4
        refine lv_tableIn (off := 319) (tgt := 352) hx hb dL_law_33 (by decide) (by decide) (by decide) (by decide) ?_
        exact cs_ring C hX hbl hbA h I hi6 hL hcs hl kk
      by_cases c5 : x = Int32.ofInt 5
      · subst c5
        refine lv_tableIn (off := 342) (tgt := 375) hx hb dL_law_33 (by decide) (by decide) (by decide) (by decide) ?_
        exact cs_cross C hX hbl hbA h I hi6 hL hcs hl kk
      by_cases c6 : x = Int32.ofInt 6
      · subst c6
        refine lv_tableIn (off := 375) (tgt := 408) hx hb dL_law_33 (by decide) (by decide) (by decide) (by decide) ?_
        exact cs_row C hX hbl hbA h I hi6 hL hcs hl kk
      by_cases c7 : x = Int32.ofInt 7
      · subst c7
        refine lv_tableIn (off := 418) (tgt := 451) hx hb dL_law_33 (by decide) (by decide) (by decide) (by decide) ?_
        exact cs_feed C hX hbl hbA h I hi6 hL hcs hl kk
      by_cases c8 : x = Int32.ofInt 8
      · subst c8
        refine lv_tableIn (off := 441) (tgt := 474) hx hb dL_law_33 (by decide) (by decide) (by decide) (by decide) ?_
        exact cs_house C hX hbl hbA h I hi6 hL hcs hl kk
      by_cases c9 : x = Int32.ofInt 9
      · subst c9
        refine lv_tableIn (off := 454) (tgt := 487) hx hb dL_law_33 (by decide) (by decide) (by decide) (by decide) ?_
        exact cs_told C hX hbl hbA h I hi6 hL hcs hl kk
      by_cases c10 : x = Int32.ofInt 10
      · subst c10
        refine lv_tableIn (off := 477) (tgt := 510) hx hb dL_law_33 (by decide) (by decide) (by decide) (by decide) ?_
        exact cs_pass C hX hbl hbA h I hi6 hL hcs hl kk
      by_cases c11 : x = Int32.ofInt 11
      · subst c11
        refine lv_tableIn (off := 500) (tgt := 533) hx hb dL_law_33 (by decide) (by decide) (by decide) (by decide) ?_
        exact cs_on C hX hbl hbA h I hi6 hL hcs hl kk
      by_cases c12 : x = Int32.ofInt 12
      · subst c12
        refine lv_tableIn (off := 533) (tgt := 566) hx hb dL_law_33 (by decide) (by decide) (by decide) (by decide) ?_
        exact cs_bell C hX hbl hbA h I hi6 hL hcs hl kk
      by_cases c13 : x = Int32.ofInt 13
      · subst c13
        refine lv_tableIn (off := 566) (tgt := 599) hx hb dL_law_33 (by decide) (by decide) (by decide) (by decide) ?_
        exact cs_shared C hX hbl hbA h I hi6 hL hcs hl kk
      by_cases c14 : x = Int32.ofInt 14
      · subst c14
        refine lv_tableIn (off := 589) (tgt := 622) hx hb dL_law_33 (by decide) (by decide) (by decide) (by decide) ?_
        exact cs_see C hX hbl hbA h I hi6 hL hcs hl kk
      by_cases c15 : x = Int32.ofInt 15
      · subst c15
        refine lv_tableIn (off := 632) (tgt := 665) hx hb dL_law_33 (by decide) (by decide) (by decide) (by decide) ?_
        exact cs_from C hX hbl hbA h I hi6 hL hcs hl kk
      by_cases c16 : x = Int32.ofInt 16
      · subst c16
        refine lv_tableIn (off := 655) (tgt := 688) hx hb dL_law_33 (by decide) (by decide) (by decide) (by decide) ?_
        exact cs_can C hX hbl hbA h I hi6 hL hcs hl kk
      by_cases c17 : x = Int32.ofInt 17
      · subst c17
        refine lv_tableIn (off := 688) (tgt := 721) hx hb dL_law_33 (by decide) (by decide) (by decide) (by decide) ?_
        exact cs_odds C hX hbl hbA h I hi6 hL hcs hl kk
      by_cases c18 : x = Int32.ofInt 18
      · subst c18
        refine lv_tableIn (off := 722) (tgt := 755) hx hb dL_law_33 (by decide) (by decide) (by decide) (by decide) ?_
        exact cs_mean C hX hbl hbA h I hi6 hL hcs hl kk
      by_cases c19 : x = Int32.ofInt 19
      · subst c19
        refine lv_tableIn (off := 756) (tgt := 789) hx hb dL_law_33 (by decide) (by decide) (by decide) (by decide) ?_
        exact cs_plan C hX hbl hbA h I hi6 hL hcs hl kk
      by_cases c20 : x = Int32.ofInt 20
      · subst c20
        refine lv_tableIn (off := 789) (tgt := 822) hx hb dL_law_33 (by decide) (by decide) (by decide) (by decide) ?_
        exact cs_ends C hX hbl hbA h I hi6 hL hcs hl kk
      by_cases c21 : x = Int32.ofInt 21
      · subst c21
        refine lv_tableIn (off := 812) (tgt := 845) hx hb dL_law_33 (by decide) (by decide) (by decide) (by decide) ?_
        exact cs_book C hX hbl hbA h I hi6 hL hcs hl kk
      by_cases c22 : x = Int32.ofInt 22
      · subst c22
        refine lv_tableIn (off := 845) (tgt := 878) hx hb dL_law_33 (by decide) (by decide) (by decide) (by decide) ?_
        exact cs_looked C hX hbl hbA h I hi6 hL hcs hl kk
      by_cases c23 : x = Int32.ofInt 23
      · subst c23
        refine lv_tableIn (off := 858) (tgt := 891) hx hb dL_law_33 (by decide) (by decide) (by decide) (by decide) ?_
        exact cs_judge C hX hbl hbA h I hi6 hL hcs hl kk
      by_cases c24 : x = Int32.ofInt 24
      · subst c24
        refine lv_tableIn (off := 891) (tgt := 924) hx hb dL_law_33 (by decide) (by decide) (by decide) (by decide) ?_
        exact cs_image C hX hbl hbA h I hi6 hL hcs hl kk
      by_cases c25 : x = Int32.ofInt 25
      · subst c25
        refine lv_tableIn (off := 904) (tgt := 937) hx hb dL_law_33 (by decide) (by decide) (by decide) (by decide) ?_
        exact cs_undo C hX hbl hbA h I hi6 hL hcs hl kk
      by_cases c26 : x = Int32.ofInt 26
      · subst c26
        refine lv_tableIn (off := 917) (tgt := 950) hx hb dL_law_33 (by decide) (by decide) (by decide) (by decide) ?_
        exact cs_act C hX hbl hbA h I hi6 hL hcs hl kk
      by_cases c27 : x = Int32.ofInt 27
      · subst c27
        refine lv_tableIn (off := 960) (tgt := 993) hx hb dL_law_33 (by decide) (by decide) (by decide) (by decide) ?_
        exact cs_trace C hX hbl hbA h I hi6 hL hcs hl kk
      by_cases c28 : x = Int32.ofInt 28
      · subst c28
        refine lv_tableIn (off := 983) (tgt := 1016) hx hb dL_law_33 (by decide) (by decide) (by decide) (by decide) ?_
        exact cs_taken C hX hbl hbA h I hi6 hL hcs hl kk
      by_cases c29 : x = Int32.ofInt 29
      · subst c29
        refine lv_tableIn (off := 1016) (tgt := 1049) hx hb dL_law_33 (by decide) (by decide) (by decide) (by decide) ?_
        exact cs_count C hX hbl hbA h I hi6 hL hcs hl kk
      by_cases c30 : x = Int32.ofInt 30
      · subst c30
        refine lv_tableIn (off := 1039) (tgt := 1072) hx hb dL_law_33 (by decide) (by decide) (by decide) (by decide) ?_
        exact cs_tape C hX hbl hbA h I hi6 hL hcs hl kk
      by_cases c31 : x = Int32.ofInt 31
      · subst c31
        refine lv_tableIn (off := 1082) (tgt := 1115) hx hb dL_law_33 (by decide) (by decide) (by decide) (by decide) ?_
        exact cs_item C hX hbl hbA h I hi6 hL hcs hl kk
      by_cases c32 : x = Int32.ofInt 32
      · subst c32
        refine lv_tableIn (off := 1155) (tgt := 1188) hx hb dL_law_33 (by decide) (by decide) (by decide) (by decide) ?_
        exact cs_read C hX hbl hbA h I hi6 hL hcs hl kk
      by_cases c33 : x = Int32.ofInt 33
      · subst c33
        refine lv_tableIn (off := 1189) (tgt := 1222) hx hb dL_law_33 (by decide) (by decide) (by decide) (by decide) ?_
        exact cs_shift C hX hbl hbA h I hi6 hL hcs hl kk
      refine lv_tableOut (tgt := 1285) hx hb dL_law_33 (tsw_out [0, 1, 2, 3, 4, 5, 6, 7, 8, 9, 10, 11, 12, 13, 14, 15, 16, 17, 18, 19, 20, 21, 22, 23, 24, 25, 26, 27, 28, 29, 30, 31, 32, 33] (List.forall_mem_cons.mpr ⟨c0, (List.forall_mem_cons.mpr ⟨c1, (List.forall_mem_cons.mpr ⟨c2, (List.forall_mem_cons.mpr ⟨c3, (List.forall_mem_cons.mpr ⟨c4, (List.forall_mem_cons.mpr ⟨c5, (List.forall_mem_cons.mpr ⟨c6, (List.forall_mem_cons.mpr ⟨c7, (List.forall_mem_cons.mpr ⟨c8, (List.forall_mem_cons.mpr ⟨c9, (List.forall_mem_cons.mpr ⟨c10, (List.forall_mem_cons.mpr ⟨c11, (List.forall_mem_cons.mpr ⟨c12, (List.forall_mem_cons.mpr ⟨c13, (List.forall_mem_cons.mpr ⟨c14, (List.forall_mem_cons.mpr ⟨c15, (List.forall_mem_cons.mpr ⟨c16, (List.forall_mem_cons.mpr ⟨c17, (List.forall_mem_cons.mpr ⟨c18, (List.forall_mem_cons.mpr ⟨c19, (List.forall_mem_cons.mpr ⟨c20, (List.forall_mem_cons.mpr ⟨c21, (List.forall_mem_cons.mpr ⟨c22, (List.forall_mem_cons.mpr ⟨c23, (List.forall_mem_cons.mpr ⟨c24, (List.forall_mem_cons.mpr ⟨c25, (List.forall_mem_cons.mpr ⟨c26, (List.forall_mem_cons.mpr ⟨c27, (List.forall_mem_cons.mpr ⟨c28, (List.forall_mem_cons.mpr ⟨c29, (List.forall_mem_cons.mpr ⟨c30, (List.forall_mem_cons.mpr ⟨c31, (List.forall_mem_cons.mpr ⟨c32, (List.forall_mem_cons.mpr ⟨c33, (fun _ h => absurd h List.not_mem_nil)⟩)⟩)⟩)⟩)⟩)⟩)⟩)⟩)⟩)⟩)⟩)⟩)⟩)⟩)⟩)⟩)⟩)⟩)⟩)⟩)⟩)⟩)⟩)⟩)⟩)⟩)⟩)⟩)⟩)⟩)⟩)⟩)⟩)⟩) rfl) (by decide) ?_
      exact kk σ ℓ H locs h I
end LP
