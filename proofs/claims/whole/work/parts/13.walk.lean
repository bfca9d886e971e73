/-! WALKS: made by wip/whole/gen -/
theorem hdX8_within : yX8_within.cls ≠ "java/lang/invoke/MethodHandle" ∧ yX8_within.cls ≠ "java/lang/invoke/VarHandle" ∧ (parseMethodDescriptor yX8_within.desc).map (fun d => d.parameters.length) = some 2 := by decide +kernel
def rm_X8_within : Room := { frames := 0, cells := 0, slots := 0, locals := 0 }
set_option maxHeartbeats 4000000 in
set_option maxRecDepth 100000 in
theorem w_X8_within_0 {p : Program} {l : Launch} {e : Env} {s : State} {m : MethodId} {args : Array Value} {below : List Frame} {meth : Method} {c : Code} {E : Ev} {ℓ : Mz} {σ : Ms} {p0 : Int64} {p1 : Int32} {out : Int32}   (C : Cx cX8_within 3 (some .boolean) wsX8_within RX8 E p s m args meth c)  : ∀  (H : Heap) (locs : List Loc) (h : HI E σ ℓ s H locs) (ls : Array Slot) (hl : lv_has ls 3 [(0, .long p0), (2, .int p1)]), f_X8_within_0 p0 p1   = some out → W p l e rm_X8_within s m args below meth c H locs 0 0 (MQ below (Po E s.heap.size (some (.int out)) σ ℓ) args s 0 0 (AA E s.heap.size)) (F0 m 0 ls []) := by
  intro  H locs h ls hl hf
  unfold f_X8_within_0 at hf
  have C0 := C
  obtain ⟨hx, hb, hr, hml, hown, hts, hlk, hK, hSF⟩ := C0
  refine lv_lload_n hx hb dX8_within_0 rfl (lv_at hl 0 rfl) ?_
  refine lv_lconst (v := (0 : Int64)) hx hb dX8_within_1 (by decide) ?_
  refine W.lcmp hx hb dX8_within_2 ?_
  refine lv_if_lt (tgt := 17) hx hb dX8_within_3 (by decide) (fun c1 => ?_) (fun c1 => ?_)
  · replace hf := it_t c1 hf
    refine lv_iconst (v := (0 : Int32)) hx hb dX8_within_17 (by decide) ?_
    replace hf := Option.some.inj hf
    subst hf
    exact r_zre (v := (0 : Int32)) C h rfl dX8_within_18
  replace hf := it_f c1 hf
  refine lv_lload_n hx hb dX8_within_6 rfl (lv_at hl 0 rfl) ?_
  refine lv_iload_n hx hb dX8_within_7 rfl (lv_at hl 1 rfl) ?_
  refine lv_i2l hx hb dX8_within_8 rfl ?_
  refine W.lcmp hx hb dX8_within_9 ?_
  refine lv_if_ge (tgt := 17) hx hb dX8_within_10 (by decide) (fun c2 => ?_) (fun c2 => ?_)
  · replace hf := it_t c2 hf
    refine lv_iconst (v := (0 : Int32)) hx hb dX8_within_17 (by decide) ?_
    replace hf := Option.some.inj hf
    subst hf
    exact r_zre (v := (0 : Int32)) C h rfl dX8_within_18
  replace hf := it_f c2 hf
  refine lv_iconst (v := (1 : Int32)) hx hb dX8_within_13 (by decide) ?_
  refine lv_goto (tgt := 18) hx hb dX8_within_14 (by decide) ?_
  replace hf := Option.some.inj hf
  subst hf
  exact r_zre (v := (1 : Int32)) C h rfl dX8_within_18
theorem c_X8_within {l : Launch} {E : Ev} {σ : Ms} {ℓ : Mz} {p0 : Int64} {p1 : Int32} {out : Int32} (hf : f_X8_within p0 p1 = some out) : Ct l yX8_within wsX8_within rm_X8_within [.long p0, .int p1] E σ ℓ (some (.int out)) σ ℓ := by
  refine Ct_mk (cc := cX8_within) (mL := 3) (ret := (some .boolean)) (own := RX8) (by decide +kernel) rfl rfl (Nat.le_of_ble_eq_true rfl) (fun p e s m below meth c C h ls hl => ?_)
  exact w_X8_within_0  C  _ _ h ls (lv_sub hl [0, 1] rfl) hf
theorem hdX8_master : yX8_master.cls = RX8 ∧ yX8_master.cls ≠ "java/lang/invoke/MethodHandle" ∧ yX8_master.cls ≠ "java/lang/invoke/VarHandle" ∧ (parseMethodDescriptor yX8_master.desc).map (fun d => d.parameters.length) = some 3 := by decide +kernel
def rm_X8_master : Room := { frames := 1, cells := 0, slots := 0, locals := 24 }
set_option maxRecDepth 100000 in
theorem inX8_master_8 : ∀ w ∈ wsX80, w ∈ wsX8_master := fun _ h => List.mem_cons_of_mem _ (List.mem_append_left _ (List.mem_append_right _ h))
set_option maxRecDepth 100000 in
theorem lkX8_master_17 : Cond.fieldLink RX8 17 "BellsBelow" "now" "LBellsBelow$Hall;" ∈ wsX8_master := by decide +kernel
set_option maxRecDepth 100000 in
theorem inX8_master_1 : ∀ w ∈ wsX10, w ∈ wsX8_master := fun _ h => List.mem_cons_of_mem _ (List.mem_append_right _ h)
set_option maxRecDepth 100000 in
theorem lkX8_master_77 : Cond.fieldLink RX8 77 "BellsBelow$Hall" "many" "I" ∈ wsX8_master := by decide +kernel
set_option maxHeartbeats 4000000 in
set_option maxRecDepth 100000 in
theorem w_X8_master_0 {p : Program} {l : Launch} {e : Env} {s : State} {m : MethodId} {args : Array Value} {below : List Frame} {meth : Method} {c : Code} {E : Ev} {ℓ : Mz} {p0 : Int32} {p1 : Int32} {p2 : Int32} {out : Int32 × Ms}   (C : Cx cX8_master 4 (some .int) wsX8_master RX8 E p s m args meth c)  : ∀ (σ : Ms) (H : Heap) (locs : List Loc) (h : HI E σ ℓ s H locs) (ls : Array Slot) (hl : lv_has ls 4 [(0, .ref (Ea E 0 0)), (1, .int p0), (2, .int p1), (3, .int p2)]), f_X8_master_0 p0 p1 p2  σ = some out → W p l e rm_X8_master s m args below meth c H locs 0 0 (MQ below (Po E s.heap.size (some (.int out.1)) out.2 ℓ) args s 0 0 (AA E s.heap.size)) (F0 m 0 ls []) := by
  intro σ H locs h ls hl hf
  unfold f_X8_master_0 at hf
  have C0 := C
  obtain ⟨hx, hb, hr, hml, hown, hts, hlk, hK, hSF⟩ := C0
  refine lv_iload_n hx hb dX8_master_0 rfl (lv_at hl 1 rfl) ?_
  refine lv_i2l hx hb dX8_master_1 rfl ?_
  refine lv_bipush (v := (7 : Int32)) hx hb dX8_master_2 (by decide) ?_
  obtain ⟨u1, hu1, hf⟩ := bd_use hf
  refine r_cs (rest := []) C h (c_X8_within  hu1) gX8_master_X8_within rfl ⟨rfl, rfl⟩ hdX8_within ⟨Nat.le_of_ble_eq_true rfl, Nat.le_of_ble_eq_true rfl⟩ ⟨Nat.zero_le _, Nat.zero_le _⟩ hl.1 rfl (Nat.le_of_ble_eq_true rfl) dX8_master_4 (fun H locs h => ?_)
  refine lv_if_eq (tgt := 20) hx hb dX8_master_7 (by decide) (fun c2 => ?_) (fun c2 => ?_)
  · replace hf := it_t c2 hf
    refine lv_iconst (v := (-1 : Int32)) hx hb dX8_master_20 (by decide) ?_
    replace hf := Option.some.inj hf
    subst hf
    exact r_ire C h dX8_master_21
  replace hf := it_f c2 hf
  refine lv_iload_n hx hb dX8_master_10 rfl (lv_at hl 3 rfl) ?_
  refine lv_i2l hx hb dX8_master_11 rfl ?_
  refine lv_bipush (v := (10 : Int32)) hx hb dX8_master_12 (by decide) ?_
  obtain ⟨u3, hu3, hf⟩ := bd_use hf
  refine r_cs (rest := []) C h (c_X8_within  hu3) gX8_master_X8_within rfl ⟨rfl, rfl⟩ hdX8_within ⟨Nat.le_of_ble_eq_true rfl, Nat.le_of_ble_eq_true rfl⟩ ⟨Nat.zero_le _, Nat.zero_le _⟩ hl.1 rfl (Nat.le_of_ble_eq_true rfl) dX8_master_14 (fun H locs h => ?_)
  refine lv_if_ne (tgt := 22) hx hb dX8_master_17 (by decide) (fun c4 => ?_) (fun c4 => ?_)
  · replace hf := it_f c4 hf
    refine lv_iload_n hx hb dX8_master_22 rfl (lv_at hl 2 rfl) ?_
    refine lv_i2l hx hb dX8_master_23 rfl ?_
    refine lv_bipush (v := (10 : Int32)) hx hb dX8_master_24 (by decide) ?_
    obtain ⟨u5, hu5, hf⟩ := bd_use hf
    refine r_cs (rest := []) C h (c_X8_within  hu5) gX8_master_X8_within rfl ⟨rfl, rfl⟩ hdX8_within ⟨Nat.le_of_ble_eq_true rfl, Nat.le_of_ble_eq_true rfl⟩ ⟨Nat.zero_le _, Nat.zero_le _⟩ hl.1 rfl (Nat.le_of_ble_eq_true rfl) dX8_master_26 (fun H locs h => ?_)
    refine lv_if_ne (tgt := 35) hx hb dX8_master_29 (by decide) (fun c6 => ?_) (fun c6 => ?_)
    · replace hf := it_f c6 hf
      refine lv_aload_n hx hb dX8_master_35 rfl (lv_at hl 0 rfl) ?_
      refine gf_8_0 C h (rfl : Kd 0 = 8) rfl inX8_master_8 lkX8_master_17 dX8_master_36 ?_
      refine gf_1_12 C h (rfl : Kd 1 = 1) rfl inX8_master_1 lkX8_master_77 dX8_master_39 ?_
      refine lv_bipush (v := (6 : Int32)) hx hb dX8_master_42 (by decide) ?_
      refine lv_icmp_lt (tgt := 52) hx hb dX8_master_44 (by decide) (fun c7 => ?_) (fun c7 => ?_)
      · replace hf := it_t c7 hf
        refine lv_aload_n hx hb dX8_master_52 rfl (lv_at hl 0 rfl) ?_
        refine gf_8_0 C h (rfl : Kd 0 = 8) rfl inX8_master_8 lkX8_master_17 dX8_master_53 ?_
        refine lv_iload_n hx hb dX8_master_56 rfl (lv_at hl 1 rfl) ?_
        refine lv_iload_n hx hb dX8_master_57 rfl (lv_at hl 2 rfl) ?_
        refine lv_iload_n hx hb dX8_master_58 rfl (lv_at hl 3 rfl) ?_
        obtain ⟨u8, hu8, hf⟩ := bd_use hf
        refine r_cv_1 (rest := []) C h (k_X1_comes (rfl : Kd 1 = 1) rfl hu8) (rfl : Kd 1 = 1) gX8_master_X1_comes rfl ⟨rfl, rfl⟩ hdX1_comes ⟨Nat.le_of_ble_eq_true rfl, Nat.le_of_ble_eq_true rfl⟩ ⟨Nat.zero_le _, Nat.zero_le _⟩ hl.1 rfl (Nat.le_of_ble_eq_true rfl) dX8_master_59 (fun H locs h => ?_)
        obtain ⟨σ9, eσ9⟩ : ∃ z, z = va_up σ 1 u8.2 := ⟨_, rfl⟩
        replace hf := lt_use eσ9 hf
        rw [← eσ9] at h
        clear eσ9
        replace hf := Option.some.inj hf
        subst hf
        exact r_ire C h dX8_master_62
      replace hf := it_f c7 hf
      refine lv_bipush (v := (-4 : Int32)) hx hb dX8_master_47 (by decide) ?_
      refine lv_goto (tgt := 62) hx hb dX8_master_49 (by decide) ?_
      replace hf := Option.some.inj hf
      subst hf
      exact r_ire C h dX8_master_62
    replace hf := it_t c6 hf
    refine lv_bipush (v := (-2 : Int32)) hx hb dX8_master_32 (by decide) ?_
    replace hf := Option.some.inj hf
    subst hf
    exact r_ire C h dX8_master_34
  replace hf := it_t c4 hf
  refine lv_iconst (v := (-1 : Int32)) hx hb dX8_master_20 (by decide) ?_
  replace hf := Option.some.inj hf
  subst hf
  exact r_ire C h dX8_master_21
theorem c_X8_master {l : Launch} {E : Ev} {σ : Ms} {ℓ : Mz} {p0 : Int32} {p1 : Int32} {p2 : Int32} {out : Int32 × Ms} (hf : f_X8_master σ p0 p1 p2 = some out) : Ct l yX8_master wsX8_master rm_X8_master [.ref (Ea E 0 0), .int p0, .int p1, .int p2] E σ ℓ (some (.int out.1)) out.2 ℓ := by
  refine Ct_mk (cc := cX8_master) (mL := 4) (ret := (some .int)) (own := RX8) (by decide +kernel) rfl rfl (Nat.le_of_ble_eq_true rfl) (fun p e s m below meth c C h ls hl => ?_)
  exact w_X8_master_0  C σ _ _ h ls (lv_sub hl [0, 1, 2, 3] rfl) hf
theorem hdX8_isMaster : yX8_isMaster.cls = RX8 ∧ yX8_isMaster.cls ≠ "java/lang/invoke/MethodHandle" ∧ yX8_isMaster.cls ≠ "java/lang/invoke/VarHandle" ∧ (parseMethodDescriptor yX8_isMaster.desc).map (fun d => d.parameters.length) = some 1 := by decide +kernel
def rm_X8_isMaster : Room := { frames := 1, cells := 0, slots := 0, locals := 22 }
set_option maxRecDepth 100000 in
theorem inX8_isMaster_8 : ∀ w ∈ wsX80, w ∈ wsX8_isMaster := fun _ h => List.mem_cons_of_mem _ (List.mem_append_left _ (List.mem_append_right _ h))
set_option maxRecDepth 100000 in
theorem lkX8_isMaster_17 : Cond.fieldLink RX8 17 "BellsBelow" "now" "LBellsBelow$Hall;" ∈ wsX8_isMaster := by decide +kernel
set_option maxRecDepth 100000 in
theorem inX8_isMaster_1 : ∀ w ∈ wsX10, w ∈ wsX8_isMaster := fun _ h => List.mem_cons_of_mem _ (List.mem_append_right _ h)
set_option maxRecDepth 100000 in
theorem lkX8_isMaster_77 : Cond.fieldLink RX8 77 "BellsBelow$Hall" "many" "I" ∈ wsX8_isMaster := by decide +kernel
set_option maxHeartbeats 4000000 in
set_option maxRecDepth 100000 in
theorem w_X8_isMaster_0 {p : Program} {l : Launch} {e : Env} {s : State} {m : MethodId} {args : Array Value} {below : List Frame} {meth : Method} {c : Code} {E : Ev} {ℓ : Mz} {σ : Ms} {p0 : Int64} {out : Int32}   (C : Cx cX8_isMaster 3 (some .boolean) wsX8_isMaster RX8 E p s m args meth c)  : ∀  (H : Heap) (locs : List Loc) (h : HI E σ ℓ s H locs) (ls : Array Slot) (hl : lv_has ls 3 [(0, .ref (Ea E 0 0)), (1, .long p0)]), f_X8_isMaster_0 σ p0   = some out → W p l e rm_X8_isMaster s m args below meth c H locs 0 0 (MQ below (Po E s.heap.size (some (.int out)) σ ℓ) args s 0 0 (AA E s.heap.size)) (F0 m 0 ls []) := by
  intro  H locs h ls hl hf
  unfold f_X8_isMaster_0 at hf
  have C0 := C
  obtain ⟨hx, hb, hr, hml, hown, hts, hlk, hK, hSF⟩ := C0
  refine lv_lload_n hx hb dX8_isMaster_0 rfl (lv_at hl 1 rfl) ?_
  refine lv_aload_n hx hb dX8_isMaster_1 rfl (lv_at hl 0 rfl) ?_
  refine gf_8_0 C h (rfl : Kd 0 = 8) rfl inX8_isMaster_8 lkX8_isMaster_17 dX8_isMaster_2 ?_
  refine gf_1_12 C h (rfl : Kd 1 = 1) rfl inX8_isMaster_1 lkX8_isMaster_77 dX8_isMaster_5 ?_
  obtain ⟨u1, hu1, hf⟩ := bd_use hf
  refine r_cs (rest := []) C h (c_X8_within  hu1) gX8_isMaster_X8_within rfl ⟨rfl, rfl⟩ hdX8_within ⟨Nat.le_of_ble_eq_true rfl, Nat.le_of_ble_eq_true rfl⟩ ⟨Nat.zero_le _, Nat.zero_le _⟩ hl.1 rfl (Nat.le_of_ble_eq_true rfl) dX8_isMaster_8 (fun H locs h => ?_)
  obtain ⟨g2, hf⟩ := gd_use hf
  replace hf := Option.some.inj hf
  subst hf
  exact r_zre C h (isB_use g2) dX8_isMaster_11
theorem c_X8_isMaster {l : Launch} {E : Ev} {σ : Ms} {ℓ : Mz} {p0 : Int64} {out : Int32} (hf : f_X8_isMaster σ p0 = some out) : Ct l yX8_isMaster wsX8_isMaster rm_X8_isMaster [.ref (Ea E 0 0), .long p0] E σ ℓ (some (.int out)) σ ℓ := by
  refine Ct_mk (cc := cX8_isMaster) (mL := 3) (ret := (some .boolean)) (own := RX8) (by decide +kernel) rfl rfl (Nat.le_of_ble_eq_true rfl) (fun p e s m below meth c C h ls hl => ?_)
  exact w_X8_isMaster_0  C  _ _ h ls (lv_sub hl [0, 1] rfl) hf
theorem hdX8_standsBest : yX8_standsBest.cls = RX8 ∧ yX8_standsBest.cls ≠ "java/lang/invoke/MethodHandle" ∧ yX8_standsBest.cls ≠ "java/lang/invoke/VarHandle" ∧ (parseMethodDescriptor yX8_standsBest.desc).map (fun d => d.parameters.length) = some 1 := by decide +kernel
def rm_X8_standsBest : Room := { frames := 6, cells := 0, slots := 0, locals := 177 }
set_option maxRecDepth 100000 in
theorem wdX8_standsBest_Cond_constant_RX8_21__2147483647_ : Cond.constant RX8 21 (2147483647) ∈ wsX8_standsBest := by decide +kernel
set_option maxRecDepth 100000 in
theorem inX8_standsBest_8 : ∀ w ∈ wsX80, w ∈ wsX8_standsBest := fun _ h => List.mem_cons_of_mem _ (List.mem_append_left _ (List.mem_append_left _ (List.mem_append_right _ h)))
set_option maxRecDepth 100000 in
theorem lkX8_standsBest_22 : Cond.fieldLink RX8 22 "BellsBelow" "trial" "LBellsBelow$Hall;" ∈ wsX8_standsBest := by decide +kernel
set_option maxRecDepth 100000 in
theorem lkX8_standsBest_17 : Cond.fieldLink RX8 17 "BellsBelow" "now" "LBellsBelow$Hall;" ∈ wsX8_standsBest := by decide +kernel
set_option maxRecDepth 100000 in
theorem inX8_standsBest_1 : ∀ w ∈ wsX10, w ∈ wsX8_standsBest := fun _ h => List.mem_cons_of_mem _ (List.mem_append_left _ (List.mem_append_right _ h))
set_option maxRecDepth 100000 in
theorem lkX8_standsBest_102 : Cond.fieldLink RX8 102 "BellsBelow$Hall" "floor" "[I" ∈ wsX8_standsBest := by decide +kernel
set_option maxRecDepth 100000 in
theorem lkX8_standsBest_172 : Cond.fieldLink RX8 172 "BellsBelow$Hall" "waited" "I" ∈ wsX8_standsBest := by decide +kernel
set_option maxHeartbeats 4000000 in
set_option maxRecDepth 100000 in
theorem w_X8_standsBest_68 {p : Program} {l : Launch} {e : Env} {s : State} {m : MethodId} {args : Array Value} {below : List Frame} {meth : Method} {c : Code} {E : Ev} {ℓ : Mz} {p0 : Int32} {out : Int32 × Ms}   (C : Cx cX8_standsBest 5 (some .int) wsX8_standsBest RX8 E p s m args meth c) {k8 : Ms → Int32 → Int32 → Int32 → Option (Int32 × Ms)} (hk8 : ∀ (σ : Ms) (v2 : Int32) (v3 : Int32) (v4 : Int32) (H : Heap) (locs : List Loc), HI E σ ℓ s H locs → ∀ ls : Array Slot, lv_has ls 5 [(0, .ref (Ea E 0 0)), (1, .int p0), (2, .int v2), (3, .int v3), (4, .int v4)] → k8 σ v2 v3 v4 = some out → W p l e rm_X8_standsBest s m args below meth c H locs 0 0 (MQ below (Po E s.heap.size (some (.int out.1)) out.2 ℓ) args s 0 0 (AA E s.heap.size)) (F0 m 8 ls [])) : ∀ (σ : Ms) (v2 : Int32) (v3 : Int32) (v4 : Int32) (H : Heap) (locs : List Loc) (h : HI E σ ℓ s H locs) (ls : Array Slot) (hl : lv_has ls 5 [(0, .ref (Ea E 0 0)), (1, .int p0), (2, .int v2), (3, .int v3), (4, .int v4)]), f_X8_standsBest_68 p0 k8 σ v2 v3 v4 = some out → W p l e rm_X8_standsBest s m args below meth c H locs 0 0 (MQ below (Po E s.heap.size (some (.int out.1)) out.2 ℓ) args s 0 0 (AA E s.heap.size)) (F0 m 68 ls []) := by
  intro σ v2 v3 v4 H locs h ls hl hf
  unfold f_X8_standsBest_68 at hf
  have C0 := C
  obtain ⟨hx, hb, hr, hml, hown, hts, hlk, hK, hSF⟩ := C0
  obtain ⟨x10, ex10⟩ : ∃ y : Int32, y = (v4 + (1 : Int32)) := ⟨_, rfl⟩
  refine lv_iinc (v := x10) (lv' := [(4, .int x10), (0, .ref (Ea E 0 0)), (1, .int p0), (2, .int v2), (3, .int v3)]) hx hb dX8_standsBest_68 hl (k := 4) rfl (by rw [ex10]; rfl) (by decide) rfl (fun ls hl => ?_)
  replace hf := lt_use ex10 hf
  clear ex10
  refine lv_goto (tgt := 8) hx hb dX8_standsBest_71 (by decide) ?_
  exact hk8 _ _ _ _ _ _ h ls (lv_sub hl [1, 2, 3, 4, 0] rfl) hf
set_option maxHeartbeats 4000000 in
set_option maxRecDepth 100000 in
theorem w_X8_standsBest_8 {p : Program} {l : Launch} {e : Env} {s : State} {m : MethodId} {args : Array Value} {below : List Frame} {meth : Method} {c : Code} {E : Ev} {ℓ : Mz} {p0 : Int32} {out : Int32 × Ms}   (C : Cx cX8_standsBest 5 (some .int) wsX8_standsBest RX8 E p s m args meth c) {k8 : Ms → Int32 → Int32 → Int32 → Option (Int32 × Ms)} (hk8 : ∀ (σ : Ms) (v2 : Int32) (v3 : Int32) (v4 : Int32) (H : Heap) (locs : List Loc), HI E σ ℓ s H locs → ∀ ls : Array Slot, lv_has ls 5 [(0, .ref (Ea E 0 0)), (1, .int p0), (2, .int v2), (3, .int v3), (4, .int v4)] → k8 σ v2 v3 v4 = some out → W p l e rm_X8_standsBest s m args below meth c H locs 0 0 (MQ below (Po E s.heap.size (some (.int out.1)) out.2 ℓ) args s 0 0 (AA E s.heap.size)) (F0 m 8 ls [])) : ∀ (σ : Ms) (v2 : Int32) (v3 : Int32) (v4 : Int32) (H : Heap) (locs : List Loc) (h : HI E σ ℓ s H locs) (ls : Array Slot) (hl : lv_has ls 5 [(0, .ref (Ea E 0 0)), (1, .int p0), (2, .int v2), (3, .int v3), (4, .int v4)]), f_X8_standsBest_8 p0 k8 σ v2 v3 v4 = some out → W p l e rm_X8_standsBest s m args below meth c H locs 0 0 (MQ below (Po E s.heap.size (some (.int out.1)) out.2 ℓ) args s 0 0 (AA E s.heap.size)) (F0 m 8 ls []) := by
  intro σ v2 v3 v4 H locs h ls hl hf
  unfold f_X8_standsBest_8 at hf
  have C0 := C
  obtain ⟨hx, hb, hr, hml, hown, hts, hlk, hK, hSF⟩ := C0
  refine lv_iload hx hb dX8_standsBest_8 (lv_at hl 4 rfl) ?_
  refine lv_bipush (v := (10 : Int32)) hx hb dX8_standsBest_10 (by decide) ?_
  refine lv_icmp_ge (tgt := 74) hx hb dX8_standsBest_12 (by decide) (fun c1 => ?_) (fun c1 => ?_)
  · replace hf := it_t c1 hf
    refine lv_iload_n hx hb dX8_standsBest_74 rfl (lv_at hl 2 rfl) ?_
    replace hf := Option.some.inj hf
    subst hf
    exact r_ire C h dX8_standsBest_75
  replace hf := it_f c1 hf
  refine lv_aload_n hx hb dX8_standsBest_15 rfl (lv_at hl 0 rfl) ?_
  refine gf_8_1 C h (rfl : Kd 0 = 8) rfl inX8_standsBest_8 lkX8_standsBest_22 dX8_standsBest_16 ?_
  refine lv_aload_n hx hb dX8_standsBest_19 rfl (lv_at hl 0 rfl) ?_
  refine gf_8_0 C h (rfl : Kd 0 = 8) rfl inX8_standsBest_8 lkX8_standsBest_17 dX8_standsBest_20 ?_
  obtain ⟨u2, hu2, hf⟩ := bd_use hf
  refine r_cv_1 (rest := []) C h (k_X1_copies (rfl : Kd 2 = 1) (rfl : Kd 1 = 1) (by decide) rfl rfl hu2) (rfl : Kd 2 = 1) gX8_standsBest_X1_copies rfl ⟨rfl, rfl⟩ hdX1_copies ⟨Nat.le_of_ble_eq_true rfl, Nat.le_of_ble_eq_true rfl⟩ ⟨Nat.zero_le _, Nat.zero_le _⟩ hl.1 rfl (Nat.le_of_ble_eq_true rfl) dX8_standsBest_23 (fun H locs h => ?_)
  obtain ⟨σ3, eσ3⟩ : ∃ z, z = va_up σ 2 u2 := ⟨_, rfl⟩
  replace hf := lt_use eσ3 hf
  rw [← eσ3] at h
  clear eσ3
  refine lv_aload_n hx hb dX8_standsBest_26 rfl (lv_at hl 0 rfl) ?_
  refine gf_8_1 C h (rfl : Kd 0 = 8) rfl inX8_standsBest_8 lkX8_standsBest_22 dX8_standsBest_27 ?_
  refine gf_1_4 C h (rfl : Kd 2 = 1) rfl inX8_standsBest_1 lkX8_standsBest_102 dX8_standsBest_30 ?_
  refine lv_iload_n hx hb dX8_standsBest_33 rfl (lv_at hl 1 rfl) ?_
  refine lv_iload hx hb dX8_standsBest_34 (lv_at hl 4 rfl) ?_
  obtain ⟨g4, hf⟩ := gd_use hf
  refine sa_1_3 C h (rfl : Kd 2 = 1) rfl (F := fun t => va_up σ3 2 t) (fun _ => rfl) (inB_in g4) dX8_standsBest_36 (fun τ5 eτ5 H locs h => ?_)
  replace hf := lt_use eτ5 hf
  clear eτ5
  obtain ⟨σ6, eσ6⟩ : ∃ z, z = va_up σ3 2 τ5 := ⟨_, rfl⟩
  replace hf := lt_use eσ6 hf
  replace h : HI E (va_up σ3 2 τ5) ℓ s H locs := h
  rw [← eσ6] at h
  clear eσ6
  refine lv_aload_n hx hb dX8_standsBest_37 rfl (lv_at hl 0 rfl) ?_
  refine gf_8_1 C h (rfl : Kd 0 = 8) rfl inX8_standsBest_8 lkX8_standsBest_22 dX8_standsBest_38 ?_
  refine lv_bipush (v := (20 : Int32)) hx hb dX8_standsBest_41 (by decide) ?_
  obtain ⟨u7, hu7, hf⟩ := bd_use hf
  refine r_cv_1 (rest := []) C h (k_X1_goes (rfl : Kd 2 = 1) rfl (fun _ _ => rfl) hu7) (rfl : Kd 2 = 1) gX8_standsBest_X1_goes rfl ⟨rfl, rfl⟩ hdX1_goes ⟨Nat.le_of_ble_eq_true rfl, Nat.le_of_ble_eq_true rfl⟩ ⟨Nat.zero_le _, Nat.zero_le _⟩ hl.1 rfl (Nat.le_of_ble_eq_true rfl) dX8_standsBest_43 (fun H locs h => ?_)
  obtain ⟨σ8, eσ8⟩ : ∃ z, z = va_up σ6 2 u7 := ⟨_, rfl⟩
  replace hf := lt_use eσ8 hf
  rw [← eσ8] at h
  clear eσ8
  refine lv_aload_n hx hb dX8_standsBest_46 rfl (lv_at hl 0 rfl) ?_
  refine gf_8_1 C h (rfl : Kd 0 = 8) rfl inX8_standsBest_8 lkX8_standsBest_22 dX8_standsBest_47 ?_
  refine gf_1_14 C h (rfl : Kd 2 = 1) rfl inX8_standsBest_1 lkX8_standsBest_172 dX8_standsBest_50 ?_
  refine lv_iload_n hx hb dX8_standsBest_53 rfl (lv_at hl 3 rfl) ?_
  refine lv_icmp_ge (tgt := 68) hx hb dX8_standsBest_54 (by decide) (fun c9 => ?_) (fun c9 => ?_)
  · replace hf := it_t c9 hf
    exact w_X8_standsBest_68    C hk8 _ _ _ _ _ _ h ls (lv_sub hl [0, 1, 2, 3, 4] rfl) hf
  replace hf := it_f c9 hf
  refine lv_aload_n hx hb dX8_standsBest_57 rfl (lv_at hl 0 rfl) ?_
  refine gf_8_1 C h (rfl : Kd 0 = 8) rfl inX8_standsBest_8 lkX8_standsBest_22 dX8_standsBest_58 ?_
  refine gf_1_14 C h (rfl : Kd 2 = 1) rfl inX8_standsBest_1 lkX8_standsBest_172 dX8_standsBest_61 ?_
  refine lv_topi (fun x11 ex11 => ?_)
  replace hf := lt_use ex11 hf
  clear ex11
  refine lv_istore_n (lv' := [(3, .int x11), (0, .ref (Ea E 0 0)), (1, .int p0), (2, .int v2), (4, .int v4)]) hx hb dX8_standsBest_64 rfl hl (by decide) rfl (fun ls hl => ?_)
  refine lv_iload hx hb dX8_standsBest_65 (lv_at hl 4 rfl) ?_
  refine lv_istore_n (lv' := [(2, .int v4), (3, .int x11), (0, .ref (Ea E 0 0)), (1, .int p0), (4, .int v4)]) hx hb dX8_standsBest_67 rfl hl (by decide) rfl (fun ls hl => ?_)
  exact w_X8_standsBest_68    C hk8 _ _ _ _ _ _ h ls (lv_sub hl [2, 3, 0, 1, 4] rfl) hf
set_option maxHeartbeats 4000000 in
set_option maxRecDepth 100000 in
theorem w_X8_standsBest_8L {p : Program} {l : Launch} {e : Env} {s : State} {m : MethodId} {args : Array Value} {below : List Frame} {meth : Method} {c : Code} {E : Ev} {ℓ : Mz} {p0 : Int32} {out : Int32 × Ms}   (C : Cx cX8_standsBest 5 (some .int) wsX8_standsBest RX8 E p s m args meth c)  : ∀ (n9 : Nat) (σ : Ms) (v2 : Int32) (v3 : Int32) (v4 : Int32) (H : Heap) (locs : List Loc) (h : HI E σ ℓ s H locs) (ls : Array Slot) (hl : lv_has ls 5 [(0, .ref (Ea E 0 0)), (1, .int p0), (2, .int v2), (3, .int v3), (4, .int v4)]), f_X8_standsBest_8L p0  n9 σ v2 v3 v4 = some out → W p l e rm_X8_standsBest s m args below meth c H locs 0 0 (MQ below (Po E s.heap.size (some (.int out.1)) out.2 ℓ) args s 0 0 (AA E s.heap.size)) (F0 m 8 ls []) := by
  intro n9
  induction n9 with
  | zero =>
    intro σ v2 v3 v4 H locs h ls hl hf
    cases (show (none : Option (Int32 × Ms)) = some out from hf)
  | succ n9 ih =>
    intro σ v2 v3 v4 H locs h ls hl hf
    exact w_X8_standsBest_8   C  ih σ v2 v3 v4 H locs h ls hl hf
set_option maxHeartbeats 4000000 in
set_option maxRecDepth 100000 in
theorem w_X8_standsBest_0 {p : Program} {l : Launch} {e : Env} {s : State} {m : MethodId} {args : Array Value} {below : List Frame} {meth : Method} {c : Code} {E : Ev} {ℓ : Mz} {p0 : Int32} {out : Int32 × Ms}   (C : Cx cX8_standsBest 5 (some .int) wsX8_standsBest RX8 E p s m args meth c)  : ∀ (σ : Ms) (H : Heap) (locs : List Loc) (h : HI E σ ℓ s H locs) (ls : Array Slot) (hl : lv_has ls 5 [(0, .ref (Ea E 0 0)), (1, .int p0)]), f_X8_standsBest_0 p0  σ = some out → W p l e rm_X8_standsBest s m args below meth c H locs 0 0 (MQ below (Po E s.heap.size (some (.int out.1)) out.2 ℓ) args s 0 0 (AA E s.heap.size)) (F0 m 0 ls []) := by
  intro σ H locs h ls hl hf
  unfold f_X8_standsBest_0 at hf
  have C0 := C
  obtain ⟨hx, hb, hr, hml, hown, hts, hlk, hK, hSF⟩ := C0
  refine lv_iconst (v := (0 : Int32)) hx hb dX8_standsBest_0 (by decide) ?_
  refine lv_istore_n (lv' := [(2, .int (0 : Int32)), (0, .ref (Ea E 0 0)), (1, .int p0)]) hx hb dX8_standsBest_1 rfl hl (by decide) rfl (fun ls hl => ?_)
  refine lv_ldc hx hb hown (hts _ wdX8_standsBest_Cond_constant_RX8_21__2147483647_) dX8_standsBest_2 ?_
  refine lv_istore_n (lv' := [(3, .int (2147483647 : Int32)), (2, .int (0 : Int32)), (0, .ref (Ea E 0 0)), (1, .int p0)]) hx hb dX8_standsBest_4 rfl hl (by decide) rfl (fun ls hl => ?_)
  refine lv_iconst (v := (0 : Int32)) hx hb dX8_standsBest_5 (by decide) ?_
  refine lv_istore (lv' := [(4, .int (0 : Int32)), (3, .int (2147483647 : Int32)), (2, .int (0 : Int32)), (0, .ref (Ea E 0 0)), (1, .int p0)]) hx hb dX8_standsBest_6 hl (by decide) rfl (fun ls hl => ?_)
  exact w_X8_standsBest_8L    C  _ _ _ _ _ _ _ h ls (lv_sub hl [3, 4, 2, 1, 0] rfl) hf
theorem c_X8_standsBest {l : Launch} {E : Ev} {σ : Ms} {ℓ : Mz} {p0 : Int32} {out : Int32 × Ms} (hf : f_X8_standsBest σ p0 = some out) : Ct l yX8_standsBest wsX8_standsBest rm_X8_standsBest [.ref (Ea E 0 0), .int p0] E σ ℓ (some (.int out.1)) out.2 ℓ := by
  refine Ct_mk (cc := cX8_standsBest) (mL := 5) (ret := (some .int)) (own := RX8) (by decide +kernel) rfl rfl (Nat.le_of_ble_eq_true rfl) (fun p e s m below meth c C h ls hl => ?_)
  exact w_X8_standsBest_0  C σ _ _ h ls (lv_sub hl [0, 1] rfl) hf
theorem hdX8_of : yX8_of.cls = RX8 ∧ yX8_of.cls ≠ "java/lang/invoke/MethodHandle" ∧ yX8_of.cls ≠ "java/lang/invoke/VarHandle" ∧ (parseMethodDescriptor yX8_of.desc).map (fun d => d.parameters.length) = some 2 := by decide +kernel
def rm_X8_of : Room := { frames := 7, cells := 0, slots := 0, locals := 201 }
set_option maxRecDepth 100000 in
theorem wdX8_of_Cond_constantLong_RX8_89__10_ : Cond.constantLong RX8 89 (10) ∈ wsX8_of := by decide +kernel
set_option maxRecDepth 100000 in
theorem inX8_of_8 : ∀ w ∈ wsX80, w ∈ wsX8_of := fun _ h => List.mem_cons_of_mem _ (List.mem_append_left _ (List.mem_append_left _ (List.mem_append_right _ h)))
set_option maxRecDepth 100000 in
theorem lkX8_of_17 : Cond.fieldLink RX8 17 "BellsBelow" "now" "LBellsBelow$Hall;" ∈ wsX8_of := by decide +kernel
set_option maxRecDepth 100000 in
theorem inX8_of_1 : ∀ w ∈ wsX10, w ∈ wsX8_of := fun _ h => List.mem_cons_of_mem _ (List.mem_append_left _ (List.mem_append_right _ h))
set_option maxRecDepth 100000 in
theorem lkX8_of_95 : Cond.fieldLink RX8 95 "BellsBelow$Hall" "kind" "[I" ∈ wsX8_of := by decide +kernel
set_option maxRecDepth 100000 in
theorem lkX8_of_99 : Cond.fieldLink RX8 99 "BellsBelow$Hall" "v" "[I" ∈ wsX8_of := by decide +kernel
set_option maxRecDepth 100000 in
theorem lkX8_of_102 : Cond.fieldLink RX8 102 "BellsBelow$Hall" "floor" "[I" ∈ wsX8_of := by decide +kernel
set_option maxRecDepth 100000 in
theorem lkX8_of_105 : Cond.fieldLink RX8 105 "BellsBelow$Hall" "goal" "[I" ∈ wsX8_of := by decide +kernel
set_option maxRecDepth 100000 in
theorem lkX8_of_108 : Cond.fieldLink RX8 108 "BellsBelow$Hall" "rests" "[I" ∈ wsX8_of := by decide +kernel
set_option maxRecDepth 100000 in
theorem lkX8_of_111 : Cond.fieldLink RX8 111 "BellsBelow$Hall" "gone" "[I" ∈ wsX8_of := by decide +kernel
set_option maxRecDepth 100000 in
theorem lkX8_of_114 : Cond.fieldLink RX8 114 "BellsBelow$Hall" "came" "[I" ∈ wsX8_of := by decide +kernel
set_option maxHeartbeats 4000000 in
set_option maxRecDepth 100000 in
theorem w_X8_of_0 {p : Program} {l : Launch} {e : Env} {s : State} {m : MethodId} {args : Array Value} {below : List Frame} {meth : Method} {c : Code} {E : Ev} {ℓ : Mz} {p0 : Int32} {p1 : Int32} {out : Int32 × Ms}   (C : Cx cX8_of 3 (some .int) wsX8_of RX8 E p s m args meth c)  : ∀ (σ : Ms) (H : Heap) (locs : List Loc) (h : HI E σ ℓ s H locs) (ls : Array Slot) (hl : lv_has ls 3 [(0, .ref (Ea E 0 0)), (1, .int p0), (2, .int p1)]), f_X8_of_0 p0 p1  σ = some out → W p l e rm_X8_of s m args below meth c H locs 0 0 (MQ below (Po E s.heap.size (some (.int out.1)) out.2 ℓ) args s 0 0 (AA E s.heap.size)) (F0 m 0 ls []) := by
  intro σ H locs h ls hl hf
  unfold f_X8_of_0 at hf
  have C0 := C
  obtain ⟨hx, hb, hr, hml, hown, hts, hlk, hK, hSF⟩ := C0
  refine lv_aload_n hx hb dX8_of_0 rfl (lv_at hl 0 rfl) ?_
  refine lv_iload_n hx hb dX8_of_1 rfl (lv_at hl 1 rfl) ?_
  refine lv_i2l hx hb dX8_of_2 rfl ?_
  obtain ⟨u1, hu1, hf⟩ := bd_use hf
  refine r_cv_8 (rest := []) C h (c_X8_isMaster  hu1) (rfl : Kd 0 = 8) gX8_of_X8_isMaster rfl ⟨rfl, rfl⟩ hdX8_isMaster ⟨Nat.le_of_ble_eq_true rfl, Nat.le_of_ble_eq_true rfl⟩ ⟨Nat.zero_le _, Nat.zero_le _⟩ hl.1 rfl (Nat.le_of_ble_eq_true rfl) dX8_of_3 (fun H locs h => ?_)
  refine lv_if_ne (tgt := 13) hx hb dX8_of_6 (by decide) (fun c2 => ?_) (fun c2 => ?_)
  · replace hf := it_f c2 hf
    refine lv_iload_n hx hb dX8_of_13 rfl (lv_at hl 2 rfl) ?_
    refine lv_i2l hx hb dX8_of_14 rfl ?_
    refine lv_ldc2 hx hb hown (hts _ wdX8_of_Cond_constantLong_RX8_89__10_) dX8_of_15 ?_
    refine lv_lsub hx hb dX8_of_18 ?_
    refine lv_bipush (v := (10 : Int32)) hx hb dX8_of_19 (by decide) ?_
    obtain ⟨u3, hu3, hf⟩ := bd_use hf
    refine r_cs (rest := []) C h (c_X8_within  hu3) gX8_of_X8_within rfl ⟨rfl, rfl⟩ hdX8_within ⟨Nat.le_of_ble_eq_true rfl, Nat.le_of_ble_eq_true rfl⟩ ⟨Nat.zero_le _, Nat.zero_le _⟩ hl.1 rfl (Nat.le_of_ble_eq_true rfl) dX8_of_21 (fun H locs h => ?_)
    refine lv_if_eq (tgt := 40) hx hb dX8_of_24 (by decide) (fun c4 => ?_) (fun c4 => ?_)
    · replace hf := it_t c4 hf
      refine lv_iload_n hx hb dX8_of_40 rfl (lv_at hl 2 rfl) ?_
      by_cases c5 : p1 = (0 : Int32)
      · replace hf := it_t c5 hf
        refine r_tin (v := (0 : Int32)) (off := 51) (tgt := 92) hx hb c5 dX8_of_41 (by decide) (by decide) (by decide) (by decide) ?_
        refine lv_aload_n hx hb dX8_of_92 rfl (lv_at hl 0 rfl) ?_
        refine gf_8_0 C h (rfl : Kd 0 = 8) rfl inX8_of_8 lkX8_of_17 dX8_of_93 ?_
        refine gf_1_2 C h (rfl : Kd 1 = 1) rfl inX8_of_1 lkX8_of_95 dX8_of_96 ?_
        refine lv_iload_n hx hb dX8_of_99 rfl (lv_at hl 1 rfl) ?_
        obtain ⟨g6, hf⟩ := gd_use hf
        refine ld_1_1 C h (rfl : Kd 1 = 1) rfl (inB_in g6) dX8_of_100 ?_
        replace hf := Option.some.inj hf
        subst hf
        exact r_ire C h dX8_of_101
      replace hf := it_f c5 hf
      by_cases c7 : p1 = (1 : Int32)
      · replace hf := it_t c7 hf
        refine r_tin (v := (1 : Int32)) (off := 61) (tgt := 102) hx hb c7 dX8_of_41 (by decide) (by decide) (by decide) (by decide) ?_
        refine lv_aload_n hx hb dX8_of_102 rfl (lv_at hl 0 rfl) ?_
        refine gf_8_0 C h (rfl : Kd 0 = 8) rfl inX8_of_8 lkX8_of_17 dX8_of_103 ?_
        refine gf_1_3 C h (rfl : Kd 1 = 1) rfl inX8_of_1 lkX8_of_99 dX8_of_106 ?_
        refine lv_iload_n hx hb dX8_of_109 rfl (lv_at hl 1 rfl) ?_
        obtain ⟨g8, hf⟩ := gd_use hf
        refine ld_1_2 C h (rfl : Kd 1 = 1) rfl (inB_in g8) dX8_of_110 ?_
        replace hf := Option.some.inj hf
        subst hf
        exact r_ire C h dX8_of_111
      replace hf := it_f c7 hf
      by_cases c9 : p1 = (2 : Int32)
      · replace hf := it_t c9 hf
        refine r_tin (v := (2 : Int32)) (off := 71) (tgt := 112) hx hb c9 dX8_of_41 (by decide) (by decide) (by decide) (by decide) ?_
        refine lv_aload_n hx hb dX8_of_112 rfl (lv_at hl 0 rfl) ?_
        refine gf_8_0 C h (rfl : Kd 0 = 8) rfl inX8_of_8 lkX8_of_17 dX8_of_113 ?_
        refine gf_1_4 C h (rfl : Kd 1 = 1) rfl inX8_of_1 lkX8_of_102 dX8_of_116 ?_
        refine lv_iload_n hx hb dX8_of_119 rfl (lv_at hl 1 rfl) ?_
        obtain ⟨g10, hf⟩ := gd_use hf
        refine ld_1_3 C h (rfl : Kd 1 = 1) rfl (inB_in g10) dX8_of_120 ?_
        replace hf := Option.some.inj hf
        subst hf
        exact r_ire C h dX8_of_121
      replace hf := it_f c9 hf
      by_cases c11 : p1 = (3 : Int32)
      · replace hf := it_t c11 hf
        refine r_tin (v := (3 : Int32)) (off := 81) (tgt := 122) hx hb c11 dX8_of_41 (by decide) (by decide) (by decide) (by decide) ?_
        refine lv_aload_n hx hb dX8_of_122 rfl (lv_at hl 0 rfl) ?_
        refine gf_8_0 C h (rfl : Kd 0 = 8) rfl inX8_of_8 lkX8_of_17 dX8_of_123 ?_
        refine gf_1_5 C h (rfl : Kd 1 = 1) rfl inX8_of_1 lkX8_of_105 dX8_of_126 ?_
        refine lv_iload_n hx hb dX8_of_129 rfl (lv_at hl 1 rfl) ?_
        obtain ⟨g12, hf⟩ := gd_use hf
        refine ld_1_4 C h (rfl : Kd 1 = 1) rfl (inB_in g12) dX8_of_130 ?_
        replace hf := Option.some.inj hf
        subst hf
        exact r_ire C h dX8_of_131
      replace hf := it_f c11 hf
      by_cases c13 : p1 = (4 : Int32)
      · replace hf := it_t c13 hf
        refine r_tin (v := (4 : Int32)) (off := 91) (tgt := 132) hx hb c13 dX8_of_41 (by decide) (by decide) (by decide) (by decide) ?_
        refine lv_aload_n hx hb dX8_of_132 rfl (lv_at hl 0 rfl) ?_
        refine gf_8_0 C h (rfl : Kd 0 = 8) rfl inX8_of_8 lkX8_of_17 dX8_of_133 ?_
        refine gf_1_6 C h (rfl : Kd 1 = 1) rfl inX8_of_1 lkX8_of_108 dX8_of_136 ?_
        refine lv_iload_n hx hb dX8_of_139 rfl (lv_at hl 1 rfl) ?_
        obtain ⟨g14, hf⟩ := gd_use hf
        refine ld_1_5 C h (rfl : Kd 1 = 1) rfl (inB_in g14) dX8_of_140 ?_
        replace hf := Option.some.inj hf
        subst hf
        exact r_ire C h dX8_of_141
      replace hf := it_f c13 hf
      by_cases c15 : p1 = (5 : Int32)
      · replace hf := it_t c15 hf
        refine r_tin (v := (5 : Int32)) (off := 101) (tgt := 142) hx hb c15 dX8_of_41 (by decide) (by decide) (by decide) (by decide) ?_
        refine lv_aload_n hx hb dX8_of_142 rfl (lv_at hl 0 rfl) ?_
        refine gf_8_0 C h (rfl : Kd 0 = 8) rfl inX8_of_8 lkX8_of_17 dX8_of_143 ?_
        refine gf_1_7 C h (rfl : Kd 1 = 1) rfl inX8_of_1 lkX8_of_111 dX8_of_146 ?_
        refine lv_iload_n hx hb dX8_of_149 rfl (lv_at hl 1 rfl) ?_
        obtain ⟨g16, hf⟩ := gd_use hf
        refine ld_1_6 C h (rfl : Kd 1 = 1) rfl (inB_in g16) dX8_of_150 ?_
        replace hf := Option.some.inj hf
        subst hf
        exact r_ire C h dX8_of_151
      replace hf := it_f c15 hf
      by_cases c17 : p1 = (6 : Int32)
      · replace hf := it_t c17 hf
        refine r_tin (v := (6 : Int32)) (off := 111) (tgt := 152) hx hb c17 dX8_of_41 (by decide) (by decide) (by decide) (by decide) ?_
        refine lv_aload_n hx hb dX8_of_152 rfl (lv_at hl 0 rfl) ?_
        refine gf_8_0 C h (rfl : Kd 0 = 8) rfl inX8_of_8 lkX8_of_17 dX8_of_153 ?_
        refine gf_1_8 C h (rfl : Kd 1 = 1) rfl inX8_of_1 lkX8_of_114 dX8_of_156 ?_
        refine lv_iload_n hx hb dX8_of_159 rfl (lv_at hl 1 rfl) ?_
        obtain ⟨g18, hf⟩ := gd_use hf
        refine ld_1_7 C h (rfl : Kd 1 = 1) rfl (inB_in g18) dX8_of_160 ?_
        replace hf := Option.some.inj hf
        subst hf
        exact r_ire C h dX8_of_161
      replace hf := it_f c17 hf
      by_cases c19 : p1 = (7 : Int32)
      · replace hf := it_t c19 hf
        refine r_tin (v := (7 : Int32)) (off := 121) (tgt := 162) hx hb c19 dX8_of_41 (by decide) (by decide) (by decide) (by decide) ?_
        refine lv_aload_n hx hb dX8_of_162 rfl (lv_at hl 0 rfl) ?_
        refine gf_8_0 C h (rfl : Kd 0 = 8) rfl inX8_of_8 lkX8_of_17 dX8_of_163 ?_
        refine lv_iload_n hx hb dX8_of_166 rfl (lv_at hl 1 rfl) ?_
        obtain ⟨u20, hu20, hf⟩ := bd_use hf
        refine r_cv_1 (rest := []) C h (c_X1_isFree (rfl : Kd 1 = 1) rfl hu20) (rfl : Kd 1 = 1) gX8_of_X1_isFree rfl ⟨rfl, rfl⟩ hdX1_isFree ⟨Nat.le_of_ble_eq_true rfl, Nat.le_of_ble_eq_true rfl⟩ ⟨Nat.zero_le _, Nat.zero_le _⟩ hl.1 rfl (Nat.le_of_ble_eq_true rfl) dX8_of_167 (fun H locs h => ?_)
        refine lv_if_eq (tgt := 177) hx hb dX8_of_170 (by decide) (fun c21 => ?_) (fun c21 => ?_)
        · replace hf := it_t c21 hf
          refine lv_iconst (v := (0 : Int32)) hx hb dX8_of_177 (by decide) ?_
          replace hf := Option.some.inj hf
          subst hf
          exact r_ire C h dX8_of_178
        replace hf := it_f c21 hf
        refine lv_iconst (v := (1 : Int32)) hx hb dX8_of_173 (by decide) ?_
        refine lv_goto (tgt := 178) hx hb dX8_of_174 (by decide) ?_
        replace hf := Option.some.inj hf
        subst hf
        exact r_ire C h dX8_of_178
      replace hf := it_f c19 hf
      by_cases c22 : p1 = (8 : Int32)
      · replace hf := it_t c22 hf
        refine r_tin (v := (8 : Int32)) (off := 138) (tgt := 179) hx hb c22 dX8_of_41 (by decide) (by decide) (by decide) (by decide) ?_
        refine lv_aload_n hx hb dX8_of_179 rfl (lv_at hl 0 rfl) ?_
        refine lv_iload_n hx hb dX8_of_180 rfl (lv_at hl 1 rfl) ?_
        obtain ⟨u23, hu23, hf⟩ := bd_use hf
        refine r_cv_8 (rest := []) C h (c_X8_standsBest  hu23) (rfl : Kd 0 = 8) gX8_of_X8_standsBest rfl ⟨rfl, rfl⟩ hdX8_standsBest ⟨Nat.le_of_ble_eq_true rfl, Nat.le_of_ble_eq_true rfl⟩ ⟨Nat.zero_le _, Nat.zero_le _⟩ hl.1 rfl (Nat.le_of_ble_eq_true rfl) dX8_of_181 (fun H locs h => ?_)
        replace hf := Option.some.inj hf
        subst hf
        exact r_ire C h dX8_of_184
      replace hf := it_f c22 hf
      refine lv_tableOut (tgt := 185) hx hb dX8_of_41 (tsw_out [0, 1, 2, 3, 4, 5, 6, 7, 8] (List.forall_mem_cons.mpr ⟨c5, (List.forall_mem_cons.mpr ⟨c7, (List.forall_mem_cons.mpr ⟨c9, (List.forall_mem_cons.mpr ⟨c11, (List.forall_mem_cons.mpr ⟨c13, (List.forall_mem_cons.mpr ⟨c15, (List.forall_mem_cons.mpr ⟨c17, (List.forall_mem_cons.mpr ⟨c19, (List.forall_mem_cons.mpr ⟨c22, (fun _ h => absurd h List.not_mem_nil)⟩)⟩)⟩)⟩)⟩)⟩)⟩)⟩)⟩) rfl) (by decide) ?_
      refine lv_sipush (v := (-10001 : Int32)) hx hb dX8_of_185 (by decide) ?_
      replace hf := Option.some.inj hf
      subst hf
      exact r_ire C h dX8_of_188
    replace hf := it_f c4 hf
    refine lv_aload_n hx hb dX8_of_27 rfl (lv_at hl 0 rfl) ?_
    refine gf_8_0 C h (rfl : Kd 0 = 8) rfl inX8_of_8 lkX8_of_17 dX8_of_28 ?_
    refine lv_iload_n hx hb dX8_of_31 rfl (lv_at hl 1 rfl) ?_
    refine lv_iload_n hx hb dX8_of_32 rfl (lv_at hl 2 rfl) ?_
    refine lv_bipush (v := (10 : Int32)) hx hb dX8_of_33 (by decide) ?_
    refine lv_isub hx hb dX8_of_35 ?_
    obtain ⟨u24, hu24, hf⟩ := bd_use hf
    refine r_cv_1 (rest := []) C h (k_X1_cost (rfl : Kd 1 = 1) rfl (fun _ _ => rfl) hu24) (rfl : Kd 1 = 1) gX8_of_X1_cost rfl ⟨rfl, rfl⟩ hdX1_cost ⟨Nat.le_of_ble_eq_true rfl, Nat.le_of_ble_eq_true rfl⟩ ⟨Nat.zero_le _, Nat.zero_le _⟩ hl.1 rfl (Nat.le_of_ble_eq_true rfl) dX8_of_36 (fun H locs h => ?_)
    obtain ⟨σ25, eσ25⟩ : ∃ z, z = va_up σ 1 u24.2 := ⟨_, rfl⟩
    replace hf := lt_use eσ25 hf
    rw [← eσ25] at h
    clear eσ25
    replace hf := Option.some.inj hf
    subst hf
    exact r_ire C h dX8_of_39
  replace hf := it_t c2 hf
  refine lv_sipush (v := (-10001 : Int32)) hx hb dX8_of_9 (by decide) ?_
  replace hf := Option.some.inj hf
  subst hf
  exact r_ire C h dX8_of_12
theorem c_X8_of {l : Launch} {E : Ev} {σ : Ms} {ℓ : Mz} {p0 : Int32} {p1 : Int32} {out : Int32 × Ms} (hf : f_X8_of σ p0 p1 = some out) : Ct l yX8_of wsX8_of rm_X8_of [.ref (Ea E 0 0), .int p0, .int p1] E σ ℓ (some (.int out.1)) out.2 ℓ := by
  refine Ct_mk (cc := cX8_of) (mL := 3) (ret := (some .int)) (own := RX8) (by decide +kernel) rfl rfl (Nat.le_of_ble_eq_true rfl) (fun p e s m below meth c C h ls hl => ?_)
  exact w_X8_of_0  C σ _ _ h ls (lv_sub hl [0, 1, 2] rfl) hf
theorem hdX8_swapIn : yX8_swapIn.cls ≠ "java/lang/invoke/MethodHandle" ∧ yX8_swapIn.cls ≠ "java/lang/invoke/VarHandle" ∧ (parseMethodDescriptor yX8_swapIn.desc).map (fun d => d.parameters.length) = some 3 := by decide +kernel
def rm_X8_swapIn_3 : Room := { frames := 0, cells := 0, slots := 0, locals := 0 }
set_option maxHeartbeats 4000000 in
set_option maxRecDepth 100000 in
theorem w_X8_swapIn_3_0 {p : Program} {l : Launch} {e : Env} {s : State} {m : MethodId} {args : Array Value} {below : List Frame} {meth : Method} {c : Code} {E : Ev} {σ : Ms} {ℓ : Mz} {p1 : Int32} {p2 : Int32} {out : Int32 × Mm}   (C : Cx cX8_swapIn 4 (some .int) wsX8_swapIn RX8 E p s m args meth c)  : ∀ (τ : Mm) (H : Heap) (locs : List Loc) (h : HI E (va_up σ 1 τ) ℓ s H locs) (ls : Array Slot) (hl : lv_has ls 4 [(0, .ref (Ea E 1 3)), (1, .int p1), (2, .int p2)]), f_X8_swapIn_3_0 p1 p2  τ = some out → W p l e rm_X8_swapIn_3 s m args below meth c H locs 0 0 (MQ below (Po E s.heap.size (some (.int out.1)) (va_up σ 1 out.2) ℓ) args s 0 0 (AA E s.heap.size)) (F0 m 0 ls []) := by
  intro τ H locs h ls hl hf
  unfold f_X8_swapIn_3_0 at hf
  have C0 := C
  obtain ⟨hx, hb, hr, hml, hown, hts, hlk, hK, hSF⟩ := C0
  refine lv_aload_n hx hb dX8_swapIn_0 rfl (lv_at hl 0 rfl) ?_
  refine lv_iload_n hx hb dX8_swapIn_1 rfl (lv_at hl 1 rfl) ?_
  obtain ⟨g1, hf⟩ := gd_use hf
  refine ld_1_3 C h (rfl : Kd 1 = 1) up_eq (inB_in g1) dX8_swapIn_2 ?_
  refine lv_topi (fun x2 ex2 => ?_)
  replace hf := lt_use ex2 hf
  clear ex2
  refine lv_istore_n (lv' := [(3, .int x2), (0, .ref (Ea E 1 3)), (1, .int p1), (2, .int p2)]) hx hb dX8_swapIn_3 rfl hl (by decide) rfl (fun ls hl => ?_)
  refine lv_aload_n hx hb dX8_swapIn_4 rfl (lv_at hl 1 rfl) ?_
  refine lv_iload_n hx hb dX8_swapIn_5 rfl (lv_at hl 2 rfl) ?_
  refine lv_iload_n hx hb dX8_swapIn_6 rfl (lv_at hl 3 rfl) ?_
  obtain ⟨g3, hf⟩ := gd_use hf
  refine sa_1_3 C h (rfl : Kd 1 = 1) up_eq (F := fun t => va_up σ 1 t) (fun _ => up_up) (inB_in g3) dX8_swapIn_7 (fun τ4 eτ4 H locs h => ?_)
  replace hf := lt_use eτ4 hf
  clear eτ4
  refine lv_iload_n hx hb dX8_swapIn_8 rfl (lv_at hl 0 rfl) ?_
  replace hf := Option.some.inj hf
  subst hf
  exact r_ire C h dX8_swapIn_9
theorem c_X8_swapIn_3 {l : Launch} {E : Ev} {σ : Ms} {ℓ : Mz} {τ : Mm} {p1 : Int32} {p2 : Int32} {out : Int32 × Mm} (hf : f_X8_swapIn_3 τ p1 p2 = some out) : Ct l yX8_swapIn wsX8_swapIn rm_X8_swapIn_3 [.ref (Ea E 1 3), .int p1, .int p2] E (va_up σ 1 τ) ℓ (some (.int out.1)) (va_up σ 1 out.2) ℓ := by
  refine Ct_mk (cc := cX8_swapIn) (mL := 4) (ret := (some .int)) (own := RX8) (by decide +kernel) rfl rfl (Nat.le_of_ble_eq_true rfl) (fun p e s m below meth c C h ls hl => ?_)
  exact w_X8_swapIn_3_0  C τ _ _ h ls (lv_sub hl [0, 1, 2] rfl) hf
theorem k_X8_swapIn_3 {l : Launch} {E : Ev} {σ : Ms} {ℓ : Mz} {τ : Mm} {p1 : Int32} {p2 : Int32} (hτ : σ 1 = τ) {out : Int32 × Mm} (hf : f_X8_swapIn_3 τ p1 p2 = some out) : Ct l yX8_swapIn wsX8_swapIn rm_X8_swapIn_3 [.ref (Ea E 1 3), .int p1, .int p2] E σ ℓ (some (.int out.1)) (va_up σ 1 out.2) ℓ := by
  subst hτ
  have h := c_X8_swapIn_3 (l := l) (E := E) (σ := σ) (ℓ := ℓ)  hf
  rw [up_id σ 1] at h
  exact h
def rm_X8_swapIn_5 : Room := { frames := 0, cells := 0, slots := 0, locals := 0 }
set_option maxHeartbeats 4000000 in
set_option maxRecDepth 100000 in
theorem w_X8_swapIn_5_0 {p : Program} {l : Launch} {e : Env} {s : State} {m : MethodId} {args : Array Value} {below : List Frame} {meth : Method} {c : Code} {E : Ev} {σ : Ms} {ℓ : Mz} {p1 : Int32} {p2 : Int32} {out : Int32 × Mm}   (C : Cx cX8_swapIn 4 (some .int) wsX8_swapIn RX8 E p s m args meth c)  : ∀ (τ : Mm) (H : Heap) (locs : List Loc) (h : HI E (va_up σ 1 τ) ℓ s H locs) (ls : Array Slot) (hl : lv_has ls 4 [(0, .ref (Ea E 1 5)), (1, .int p1), (2, .int p2)]), f_X8_swapIn_5_0 p1 p2  τ = some out → W p l e rm_X8_swapIn_5 s m args below meth c H locs 0 0 (MQ below (Po E s.heap.size (some (.int out.1)) (va_up σ 1 out.2) ℓ) args s 0 0 (AA E s.heap.size)) (F0 m 0 ls []) := by
  intro τ H locs h ls hl hf
  unfold f_X8_swapIn_5_0 at hf
  have C0 := C
  obtain ⟨hx, hb, hr, hml, hown, hts, hlk, hK, hSF⟩ := C0
  refine lv_aload_n hx hb dX8_swapIn_0 rfl (lv_at hl 0 rfl) ?_
  refine lv_iload_n hx hb dX8_swapIn_1 rfl (lv_at hl 1 rfl) ?_
  obtain ⟨g1, hf⟩ := gd_use hf
  refine ld_1_5 C h (rfl : Kd 1 = 1) up_eq (inB_in g1) dX8_swapIn_2 ?_
  refine lv_topi (fun x2 ex2 => ?_)
  replace hf := lt_use ex2 hf
  clear ex2
  refine lv_istore_n (lv' := [(3, .int x2), (0, .ref (Ea E 1 5)), (1, .int p1), (2, .int p2)]) hx hb dX8_swapIn_3 rfl hl (by decide) rfl (fun ls hl => ?_)
  refine lv_aload_n hx hb dX8_swapIn_4 rfl (lv_at hl 1 rfl) ?_
  refine lv_iload_n hx hb dX8_swapIn_5 rfl (lv_at hl 2 rfl) ?_
  refine lv_iload_n hx hb dX8_swapIn_6 rfl (lv_at hl 3 rfl) ?_
  obtain ⟨g3, hf⟩ := gd_use hf
  refine sa_1_5 C h (rfl : Kd 1 = 1) up_eq (F := fun t => va_up σ 1 t) (fun _ => up_up) (inB_in g3) dX8_swapIn_7 (fun τ4 eτ4 H locs h => ?_)
  replace hf := lt_use eτ4 hf
  clear eτ4
  refine lv_iload_n hx hb dX8_swapIn_8 rfl (lv_at hl 0 rfl) ?_
  replace hf := Option.some.inj hf
  subst hf
  exact r_ire C h dX8_swapIn_9
theorem c_X8_swapIn_5 {l : Launch} {E : Ev} {σ : Ms} {ℓ : Mz} {τ : Mm} {p1 : Int32} {p2 : Int32} {out : Int32 × Mm} (hf : f_X8_swapIn_5 τ p1 p2 = some out) : Ct l yX8_swapIn wsX8_swapIn rm_X8_swapIn_5 [.ref (Ea E 1 5), .int p1, .int p2] E (va_up σ 1 τ) ℓ (some (.int out.1)) (va_up σ 1 out.2) ℓ := by
  refine Ct_mk (cc := cX8_swapIn) (mL := 4) (ret := (some .int)) (own := RX8) (by decide +kernel) rfl rfl (Nat.le_of_ble_eq_true rfl) (fun p e s m below meth c C h ls hl => ?_)
  exact w_X8_swapIn_5_0  C τ _ _ h ls (lv_sub hl [0, 1, 2] rfl) hf
theorem k_X8_swapIn_5 {l : Launch} {E : Ev} {σ : Ms} {ℓ : Mz} {τ : Mm} {p1 : Int32} {p2 : Int32} (hτ : σ 1 = τ) {out : Int32 × Mm} (hf : f_X8_swapIn_5 τ p1 p2 = some out) : Ct l yX8_swapIn wsX8_swapIn rm_X8_swapIn_5 [.ref (Ea E 1 5), .int p1, .int p2] E σ ℓ (some (.int out.1)) (va_up σ 1 out.2) ℓ := by
  subst hτ
  have h := c_X8_swapIn_5 (l := l) (E := E) (σ := σ) (ℓ := ℓ)  hf
  rw [up_id σ 1] at h
  exact h
def rm_X8_swapIn_6 : Room := { frames := 0, cells := 0, slots := 0, locals := 0 }
set_option maxHeartbeats 4000000 in
set_option maxRecDepth 100000 in
theorem w_X8_swapIn_6_0 {p : Program} {l : Launch} {e : Env} {s : State} {m : MethodId} {args : Array Value} {below : List Frame} {meth : Method} {c : Code} {E : Ev} {σ : Ms} {ℓ : Mz} {p1 : Int32} {p2 : Int32} {out : Int32 × Mm}   (C : Cx cX8_swapIn 4 (some .int) wsX8_swapIn RX8 E p s m args meth c)  : ∀ (τ : Mm) (H : Heap) (locs : List Loc) (h : HI E (va_up σ 1 τ) ℓ s H locs) (ls : Array Slot) (hl : lv_has ls 4 [(0, .ref (Ea E 1 6)), (1, .int p1), (2, .int p2)]), f_X8_swapIn_6_0 p1 p2  τ = some out → W p l e rm_X8_swapIn_6 s m args below meth c H locs 0 0 (MQ below (Po E s.heap.size (some (.int out.1)) (va_up σ 1 out.2) ℓ) args s 0 0 (AA E s.heap.size)) (F0 m 0 ls []) := by
  intro τ H locs h ls hl hf
  unfold f_X8_swapIn_6_0 at hf
  have C0 := C
  obtain ⟨hx, hb, hr, hml, hown, hts, hlk, hK, hSF⟩ := C0
  refine lv_aload_n hx hb dX8_swapIn_0 rfl (lv_at hl 0 rfl) ?_
  refine lv_iload_n hx hb dX8_swapIn_1 rfl (lv_at hl 1 rfl) ?_
  obtain ⟨g1, hf⟩ := gd_use hf
  refine ld_1_6 C h (rfl : Kd 1 = 1) up_eq (inB_in g1) dX8_swapIn_2 ?_
  refine lv_topi (fun x2 ex2 => ?_)
  replace hf := lt_use ex2 hf
  clear ex2
  refine lv_istore_n (lv' := [(3, .int x2), (0, .ref (Ea E 1 6)), (1, .int p1), (2, .int p2)]) hx hb dX8_swapIn_3 rfl hl (by decide) rfl (fun ls hl => ?_)
  refine lv_aload_n hx hb dX8_swapIn_4 rfl (lv_at hl 1 rfl) ?_
  refine lv_iload_n hx hb dX8_swapIn_5 rfl (lv_at hl 2 rfl) ?_
  refine lv_iload_n hx hb dX8_swapIn_6 rfl (lv_at hl 3 rfl) ?_
  obtain ⟨g3, hf⟩ := gd_use hf
  refine sa_1_6 C h (rfl : Kd 1 = 1) up_eq (F := fun t => va_up σ 1 t) (fun _ => up_up) (inB_in g3) dX8_swapIn_7 (fun τ4 eτ4 H locs h => ?_)
  replace hf := lt_use eτ4 hf
  clear eτ4
  refine lv_iload_n hx hb dX8_swapIn_8 rfl (lv_at hl 0 rfl) ?_
  replace hf := Option.some.inj hf
  subst hf
  exact r_ire C h dX8_swapIn_9
theorem c_X8_swapIn_6 {l : Launch} {E : Ev} {σ : Ms} {ℓ : Mz} {τ : Mm} {p1 : Int32} {p2 : Int32} {out : Int32 × Mm} (hf : f_X8_swapIn_6 τ p1 p2 = some out) : Ct l yX8_swapIn wsX8_swapIn rm_X8_swapIn_6 [.ref (Ea E 1 6), .int p1, .int p2] E (va_up σ 1 τ) ℓ (some (.int out.1)) (va_up σ 1 out.2) ℓ := by
  refine Ct_mk (cc := cX8_swapIn) (mL := 4) (ret := (some .int)) (own := RX8) (by decide +kernel) rfl rfl (Nat.le_of_ble_eq_true rfl) (fun p e s m below meth c C h ls hl => ?_)
  exact w_X8_swapIn_6_0  C τ _ _ h ls (lv_sub hl [0, 1, 2] rfl) hf
theorem k_X8_swapIn_6 {l : Launch} {E : Ev} {σ : Ms} {ℓ : Mz} {τ : Mm} {p1 : Int32} {p2 : Int32} (hτ : σ 1 = τ) {out : Int32 × Mm} (hf : f_X8_swapIn_6 τ p1 p2 = some out) : Ct l yX8_swapIn wsX8_swapIn rm_X8_swapIn_6 [.ref (Ea E 1 6), .int p1, .int p2] E σ ℓ (some (.int out.1)) (va_up σ 1 out.2) ℓ := by
  subst hτ
  have h := c_X8_swapIn_6 (l := l) (E := E) (σ := σ) (ℓ := ℓ)  hf
  rw [up_id σ 1] at h
  exact h
def rm_X8_swapIn_8 : Room := { frames := 0, cells := 0, slots := 0, locals := 0 }
set_option maxHeartbeats 4000000 in
set_option maxRecDepth 100000 in
theorem w_X8_swapIn_8_0 {p : Program} {l : Launch} {e : Env} {s : State} {m : MethodId} {args : Array Value} {below : List Frame} {meth : Method} {c : Code} {E : Ev} {σ : Ms} {ℓ : Mz} {p1 : Int32} {p2 : Int32} {out : Int32 × Mm}   (C : Cx cX8_swapIn 4 (some .int) wsX8_swapIn RX8 E p s m args meth c)  : ∀ (τ : Mm) (H : Heap) (locs : List Loc) (h : HI E (va_up σ 1 τ) ℓ s H locs) (ls : Array Slot) (hl : lv_has ls 4 [(0, .ref (Ea E 1 8)), (1, .int p1), (2, .int p2)]), f_X8_swapIn_8_0 p1 p2  τ = some out → W p l e rm_X8_swapIn_8 s m args below meth c H locs 0 0 (MQ below (Po E s.heap.size (some (.int out.1)) (va_up σ 1 out.2) ℓ) args s 0 0 (AA E s.heap.size)) (F0 m 0 ls []) := by
  intro τ H locs h ls hl hf
  unfold f_X8_swapIn_8_0 at hf
  have C0 := C
  obtain ⟨hx, hb, hr, hml, hown, hts, hlk, hK, hSF⟩ := C0
  refine lv_aload_n hx hb dX8_swapIn_0 rfl (lv_at hl 0 rfl) ?_
  refine lv_iload_n hx hb dX8_swapIn_1 rfl (lv_at hl 1 rfl) ?_
  obtain ⟨g1, hf⟩ := gd_use hf
  refine ld_1_8 C h (rfl : Kd 1 = 1) up_eq (inB_in g1) dX8_swapIn_2 ?_
  refine lv_topi (fun x2 ex2 => ?_)
  replace hf := lt_use ex2 hf
  clear ex2
  refine lv_istore_n (lv' := [(3, .int x2), (0, .ref (Ea E 1 8)), (1, .int p1), (2, .int p2)]) hx hb dX8_swapIn_3 rfl hl (by decide) rfl (fun ls hl => ?_)
  refine lv_aload_n hx hb dX8_swapIn_4 rfl (lv_at hl 1 rfl) ?_
  refine lv_iload_n hx hb dX8_swapIn_5 rfl (lv_at hl 2 rfl) ?_
  refine lv_iload_n hx hb dX8_swapIn_6 rfl (lv_at hl 3 rfl) ?_
  obtain ⟨g3, hf⟩ := gd_use hf
  refine sa_1_8 C h (rfl : Kd 1 = 1) up_eq (F := fun t => va_up σ 1 t) (fun _ => up_up) (inB_in g3) dX8_swapIn_7 (fun τ4 eτ4 H locs h => ?_)
  replace hf := lt_use eτ4 hf
  clear eτ4
  refine lv_iload_n hx hb dX8_swapIn_8 rfl (lv_at hl 0 rfl) ?_
  replace hf := Option.some.inj hf
  subst hf
  exact r_ire C h dX8_swapIn_9
theorem c_X8_swapIn_8 {l : Launch} {E : Ev} {σ : Ms} {ℓ : Mz} {τ : Mm} {p1 : Int32} {p2 : Int32} {out : Int32 × Mm} (hf : f_X8_swapIn_8 τ p1 p2 = some out) : Ct l yX8_swapIn wsX8_swapIn rm_X8_swapIn_8 [.ref (Ea E 1 8), .int p1, .int p2] E (va_up σ 1 τ) ℓ (some (.int out.1)) (va_up σ 1 out.2) ℓ := by
  refine Ct_mk (cc := cX8_swapIn) (mL := 4) (ret := (some .int)) (own := RX8) (by decide +kernel) rfl rfl (Nat.le_of_ble_eq_true rfl) (fun p e s m below meth c C h ls hl => ?_)
  exact w_X8_swapIn_8_0  C τ _ _ h ls (lv_sub hl [0, 1, 2] rfl) hf
theorem k_X8_swapIn_8 {l : Launch} {E : Ev} {σ : Ms} {ℓ : Mz} {τ : Mm} {p1 : Int32} {p2 : Int32} (hτ : σ 1 = τ) {out : Int32 × Mm} (hf : f_X8_swapIn_8 τ p1 p2 = some out) : Ct l yX8_swapIn wsX8_swapIn rm_X8_swapIn_8 [.ref (Ea E 1 8), .int p1, .int p2] E σ ℓ (some (.int out.1)) (va_up σ 1 out.2) ℓ := by
  subst hτ
  have h := c_X8_swapIn_8 (l := l) (E := E) (σ := σ) (ℓ := ℓ)  hf
  rw [up_id σ 1] at h
  exact h
def rm_X8_swapIn_9 : Room := { frames := 0, cells := 0, slots := 0, locals := 0 }
set_option maxHeartbeats 4000000 in
set_option maxRecDepth 100000 in
theorem w_X8_swapIn_9_0 {p : Program} {l : Launch} {e : Env} {s : State} {m : MethodId} {args : Array Value} {below : List Frame} {meth : Method} {c : Code} {E : Ev} {σ : Ms} {ℓ : Mz} {p1 : Int32} {p2 : Int32} {out : Int32 × Mm}   (C : Cx cX8_swapIn 4 (some .int) wsX8_swapIn RX8 E p s m args meth c)  : ∀ (τ : Mm) (H : Heap) (locs : List Loc) (h : HI E (va_up σ 1 τ) ℓ s H locs) (ls : Array Slot) (hl : lv_has ls 4 [(0, .ref (Ea E 1 9)), (1, .int p1), (2, .int p2)]), f_X8_swapIn_9_0 p1 p2  τ = some out → W p l e rm_X8_swapIn_9 s m args below meth c H locs 0 0 (MQ below (Po E s.heap.size (some (.int out.1)) (va_up σ 1 out.2) ℓ) args s 0 0 (AA E s.heap.size)) (F0 m 0 ls []) := by
  intro τ H locs h ls hl hf
  unfold f_X8_swapIn_9_0 at hf
  have C0 := C
  obtain ⟨hx, hb, hr, hml, hown, hts, hlk, hK, hSF⟩ := C0
  refine lv_aload_n hx hb dX8_swapIn_0 rfl (lv_at hl 0 rfl) ?_
  refine lv_iload_n hx hb dX8_swapIn_1 rfl (lv_at hl 1 rfl) ?_
  obtain ⟨g1, hf⟩ := gd_use hf
  refine ld_1_9 C h (rfl : Kd 1 = 1) up_eq (inB_in g1) dX8_swapIn_2 ?_
  refine lv_topi (fun x2 ex2 => ?_)
  replace hf := lt_use ex2 hf
  clear ex2
  refine lv_istore_n (lv' := [(3, .int x2), (0, .ref (Ea E 1 9)), (1, .int p1), (2, .int p2)]) hx hb dX8_swapIn_3 rfl hl (by decide) rfl (fun ls hl => ?_)
  refine lv_aload_n hx hb dX8_swapIn_4 rfl (lv_at hl 1 rfl) ?_
  refine lv_iload_n hx hb dX8_swapIn_5 rfl (lv_at hl 2 rfl) ?_
  refine lv_iload_n hx hb dX8_swapIn_6 rfl (lv_at hl 3 rfl) ?_
  obtain ⟨g3, hf⟩ := gd_use hf
  refine sa_1_9 C h (rfl : Kd 1 = 1) up_eq (F := fun t => va_up σ 1 t) (fun _ => up_up) (inB_in g3) dX8_swapIn_7 (fun τ4 eτ4 H locs h => ?_)
  replace hf := lt_use eτ4 hf
  clear eτ4
  refine lv_iload_n hx hb dX8_swapIn_8 rfl (lv_at hl 0 rfl) ?_
  replace hf := Option.some.inj hf
  subst hf
  exact r_ire C h dX8_swapIn_9
theorem c_X8_swapIn_9 {l : Launch} {E : Ev} {σ : Ms} {ℓ : Mz} {τ : Mm} {p1 : Int32} {p2 : Int32} {out : Int32 × Mm} (hf : f_X8_swapIn_9 τ p1 p2 = some out) : Ct l yX8_swapIn wsX8_swapIn rm_X8_swapIn_9 [.ref (Ea E 1 9), .int p1, .int p2] E (va_up σ 1 τ) ℓ (some (.int out.1)) (va_up σ 1 out.2) ℓ := by
  refine Ct_mk (cc := cX8_swapIn) (mL := 4) (ret := (some .int)) (own := RX8) (by decide +kernel) rfl rfl (Nat.le_of_ble_eq_true rfl) (fun p e s m below meth c C h ls hl => ?_)
  exact w_X8_swapIn_9_0  C τ _ _ h ls (lv_sub hl [0, 1, 2] rfl) hf
theorem k_X8_swapIn_9 {l : Launch} {E : Ev} {σ : Ms} {ℓ : Mz} {τ : Mm} {p1 : Int32} {p2 : Int32} (hτ : σ 1 = τ) {out : Int32 × Mm} (hf : f_X8_swapIn_9 τ p1 p2 = some out) : Ct l yX8_swapIn wsX8_swapIn rm_X8_swapIn_9 [.ref (Ea E 1 9), .int p1, .int p2] E σ ℓ (some (.int out.1)) (va_up σ 1 out.2) ℓ := by
  subst hτ
  have h := c_X8_swapIn_9 (l := l) (E := E) (σ := σ) (ℓ := ℓ)  hf
  rw [up_id σ 1] at h
  exact h
theorem hdX8_set : yX8_set.cls = RX8 ∧ yX8_set.cls ≠ "java/lang/invoke/MethodHandle" ∧ yX8_set.cls ≠ "java/lang/invoke/VarHandle" ∧ (parseMethodDescriptor yX8_set.desc).map (fun d => d.parameters.length) = some 3 := by decide +kernel
def rm_X8_set : Room := { frames := 2, cells := 0, slots := 0, locals := 44 }
set_option maxRecDepth 100000 in
theorem inX8_set_8 : ∀ w ∈ wsX80, w ∈ wsX8_set := fun _ h => List.mem_cons_of_mem _ (List.mem_append_left _ (List.mem_append_right _ h))
set_option maxRecDepth 100000 in
theorem lkX8_set_17 : Cond.fieldLink RX8 17 "BellsBelow" "now" "LBellsBelow$Hall;" ∈ wsX8_set := by decide +kernel
set_option maxRecDepth 100000 in
theorem inX8_set_1 : ∀ w ∈ wsX10, w ∈ wsX8_set := fun _ h => List.mem_cons_of_mem _ (List.mem_append_right _ h)
set_option maxRecDepth 100000 in
theorem lkX8_set_108 : Cond.fieldLink RX8 108 "BellsBelow$Hall" "rests" "[I" ∈ wsX8_set := by decide +kernel
set_option maxRecDepth 100000 in
theorem lkX8_set_102 : Cond.fieldLink RX8 102 "BellsBelow$Hall" "floor" "[I" ∈ wsX8_set := by decide +kernel
set_option maxHeartbeats 4000000 in
set_option maxRecDepth 100000 in
theorem w_X8_set_33 {p : Program} {l : Launch} {e : Env} {s : State} {m : MethodId} {args : Array Value} {below : List Frame} {meth : Method} {c : Code} {E : Ev} {ℓ : Mz} {p0 : Int32} {p1 : Int32} {p2 : Int32} {out : Int32 × Ms}   (C : Cx cX8_set 4 (some .int) wsX8_set RX8 E p s m args meth c)  : ∀ (σ : Ms) (w0 : Int64) (w1 : Int32) (H : Heap) (locs : List Loc) (h : HI E σ ℓ s H locs) (ls : Array Slot) (hl : lv_has ls 4 [(0, .ref (Ea E 0 0)), (1, .int p0), (2, .int p1), (3, .int p2)]), f_X8_set_33 p0 p1 p2  σ w0 w1 = some out → W p l e rm_X8_set s m args below meth c H locs 0 0 (MQ below (Po E s.heap.size (some (.int out.1)) out.2 ℓ) args s 0 0 (AA E s.heap.size)) (F0 m 33 ls [.int w1, .long w0]) := by
  intro σ w0 w1 H locs h ls hl hf
  unfold f_X8_set_33 at hf
  have C0 := C
  obtain ⟨hx, hb, hr, hml, hown, hts, hlk, hK, hSF⟩ := C0
  obtain ⟨u6, hu6, hf⟩ := bd_use hf
  refine r_cs (rest := []) C h (c_X8_within  hu6) gX8_set_X8_within rfl ⟨rfl, rfl⟩ hdX8_within ⟨Nat.le_of_ble_eq_true rfl, Nat.le_of_ble_eq_true rfl⟩ ⟨Nat.zero_le _, Nat.zero_le _⟩ hl.1 rfl (Nat.le_of_ble_eq_true rfl) dX8_set_33 (fun H locs h => ?_)
  refine lv_if_ne (tgt := 42) hx hb dX8_set_36 (by decide) (fun c7 => ?_) (fun c7 => ?_)
  · replace hf := it_f c7 hf
    refine lv_iload_n hx hb dX8_set_42 rfl (lv_at hl 2 rfl) ?_
    refine lv_if_ne (tgt := 56) hx hb dX8_set_43 (by decide) (fun c8 => ?_) (fun c8 => ?_)
    · replace hf := it_f c8 hf
      refine lv_aload_n hx hb dX8_set_56 rfl (lv_at hl 0 rfl) ?_
      refine gf_8_0 C h (rfl : Kd 0 = 8) rfl inX8_set_8 lkX8_set_17 dX8_set_57 ?_
      refine gf_1_6 C h (rfl : Kd 1 = 1) rfl inX8_set_1 lkX8_set_108 dX8_set_60 ?_
      refine lv_iload_n hx hb dX8_set_63 rfl (lv_at hl 1 rfl) ?_
      refine lv_iload_n hx hb dX8_set_64 rfl (lv_at hl 3 rfl) ?_
      obtain ⟨u9, hu9, hf⟩ := bd_use hf
      refine r_cs (rest := []) C h (k_X8_swapIn_5 rfl hu9) gX8_set_X8_swapIn rfl ⟨rfl, rfl⟩ hdX8_swapIn ⟨Nat.le_of_ble_eq_true rfl, Nat.le_of_ble_eq_true rfl⟩ ⟨Nat.zero_le _, Nat.zero_le _⟩ hl.1 rfl (Nat.le_of_ble_eq_true rfl) dX8_set_65 (fun H locs h => ?_)
      obtain ⟨σ10, eσ10⟩ : ∃ z, z = va_up σ 1 u9.2 := ⟨_, rfl⟩
      replace hf := lt_use eσ10 hf
      rw [← eσ10] at h
      clear eσ10
      replace hf := Option.some.inj hf
      subst hf
      exact r_ire C h dX8_set_68
    replace hf := it_t c8 hf
    refine lv_aload_n hx hb dX8_set_46 rfl (lv_at hl 0 rfl) ?_
    refine gf_8_0 C h (rfl : Kd 0 = 8) rfl inX8_set_8 lkX8_set_17 dX8_set_47 ?_
    refine gf_1_4 C h (rfl : Kd 1 = 1) rfl inX8_set_1 lkX8_set_102 dX8_set_50 ?_
    refine lv_goto (tgt := 63) hx hb dX8_set_53 (by decide) ?_
    refine lv_iload_n hx hb dX8_set_63 rfl (lv_at hl 1 rfl) ?_
    refine lv_iload_n hx hb dX8_set_64 rfl (lv_at hl 3 rfl) ?_
    obtain ⟨u11, hu11, hf⟩ := bd_use hf
    refine r_cs (rest := []) C h (k_X8_swapIn_3 rfl hu11) gX8_set_X8_swapIn rfl ⟨rfl, rfl⟩ hdX8_swapIn ⟨Nat.le_of_ble_eq_true rfl, Nat.le_of_ble_eq_true rfl⟩ ⟨Nat.zero_le _, Nat.zero_le _⟩ hl.1 rfl (Nat.le_of_ble_eq_true rfl) dX8_set_65 (fun H locs h => ?_)
    obtain ⟨σ12, eσ12⟩ : ∃ z, z = va_up σ 1 u11.2 := ⟨_, rfl⟩
    replace hf := lt_use eσ12 hf
    rw [← eσ12] at h
    clear eσ12
    replace hf := Option.some.inj hf
    subst hf
    exact r_ire C h dX8_set_68
  replace hf := it_t c7 hf
  refine lv_bipush (v := (-2 : Int32)) hx hb dX8_set_39 (by decide) ?_
  replace hf := Option.some.inj hf
  subst hf
  exact r_ire C h dX8_set_41
set_option maxHeartbeats 4000000 in
set_option maxRecDepth 100000 in
theorem w_X8_set_0 {p : Program} {l : Launch} {e : Env} {s : State} {m : MethodId} {args : Array Value} {below : List Frame} {meth : Method} {c : Code} {E : Ev} {ℓ : Mz} {p0 : Int32} {p1 : Int32} {p2 : Int32} {out : Int32 × Ms}   (C : Cx cX8_set 4 (some .int) wsX8_set RX8 E p s m args meth c)  : ∀ (σ : Ms) (H : Heap) (locs : List Loc) (h : HI E σ ℓ s H locs) (ls : Array Slot) (hl : lv_has ls 4 [(0, .ref (Ea E 0 0)), (1, .int p0), (2, .int p1), (3, .int p2)]), f_X8_set_0 p0 p1 p2  σ = some out → W p l e rm_X8_set s m args below meth c H locs 0 0 (MQ below (Po E s.heap.size (some (.int out.1)) out.2 ℓ) args s 0 0 (AA E s.heap.size)) (F0 m 0 ls []) := by
  intro σ H locs h ls hl hf
  unfold f_X8_set_0 at hf
  have C0 := C
  obtain ⟨hx, hb, hr, hml, hown, hts, hlk, hK, hSF⟩ := C0
  refine lv_aload_n hx hb dX8_set_0 rfl (lv_at hl 0 rfl) ?_
  refine lv_iload_n hx hb dX8_set_1 rfl (lv_at hl 1 rfl) ?_
  refine lv_i2l hx hb dX8_set_2 rfl ?_
  obtain ⟨u1, hu1, hf⟩ := bd_use hf
  refine r_cv_8 (rest := []) C h (c_X8_isMaster  hu1) (rfl : Kd 0 = 8) gX8_set_X8_isMaster rfl ⟨rfl, rfl⟩ hdX8_isMaster ⟨Nat.le_of_ble_eq_true rfl, Nat.le_of_ble_eq_true rfl⟩ ⟨Nat.zero_le _, Nat.zero_le _⟩ hl.1 rfl (Nat.le_of_ble_eq_true rfl) dX8_set_3 (fun H locs h => ?_)
  refine lv_if_eq (tgt := 18) hx hb dX8_set_6 (by decide) (fun c2 => ?_) (fun c2 => ?_)
  · replace hf := it_t c2 hf
    refine lv_iconst (v := (-1 : Int32)) hx hb dX8_set_18 (by decide) ?_
    replace hf := Option.some.inj hf
    subst hf
    exact r_ire C h dX8_set_19
  replace hf := it_f c2 hf
  refine lv_iload_n hx hb dX8_set_9 rfl (lv_at hl 2 rfl) ?_
  refine lv_i2l hx hb dX8_set_10 rfl ?_
  refine lv_iconst (v := (2 : Int32)) hx hb dX8_set_11 (by decide) ?_
  obtain ⟨u3, hu3, hf⟩ := bd_use hf
  refine r_cs (rest := []) C h (c_X8_within  hu3) gX8_set_X8_within rfl ⟨rfl, rfl⟩ hdX8_within ⟨Nat.le_of_ble_eq_true rfl, Nat.le_of_ble_eq_true rfl⟩ ⟨Nat.zero_le _, Nat.zero_le _⟩ hl.1 rfl (Nat.le_of_ble_eq_true rfl) dX8_set_12 (fun H locs h => ?_)
  refine lv_if_ne (tgt := 20) hx hb dX8_set_15 (by decide) (fun c4 => ?_) (fun c4 => ?_)
  · replace hf := it_f c4 hf
    refine lv_iload_n hx hb dX8_set_20 rfl (lv_at hl 3 rfl) ?_
    refine lv_i2l hx hb dX8_set_21 rfl ?_
    refine lv_iload_n hx hb dX8_set_22 rfl (lv_at hl 2 rfl) ?_
    refine lv_if_ne (tgt := 31) hx hb dX8_set_23 (by decide) (fun c5 => ?_) (fun c5 => ?_)
    · replace hf := it_f c5 hf
      refine lv_bipush (v := (100 : Int32)) hx hb dX8_set_31 (by decide) ?_
      exact w_X8_set_33    C  _ _ _ _ _ h ls (lv_sub hl [0, 1, 2, 3] rfl) hf
    replace hf := it_t c5 hf
    refine lv_bipush (v := (10 : Int32)) hx hb dX8_set_26 (by decide) ?_
    refine lv_goto (tgt := 33) hx hb dX8_set_28 (by decide) ?_
    exact w_X8_set_33    C  _ _ _ _ _ h ls (lv_sub hl [0, 1, 2, 3] rfl) hf
  replace hf := it_t c4 hf
  refine lv_iconst (v := (-1 : Int32)) hx hb dX8_set_18 (by decide) ?_
  replace hf := Option.some.inj hf
  subst hf
  exact r_ire C h dX8_set_19
theorem c_X8_set {l : Launch} {E : Ev} {σ : Ms} {ℓ : Mz} {p0 : Int32} {p1 : Int32} {p2 : Int32} {out : Int32 × Ms} (hf : f_X8_set σ p0 p1 p2 = some out) : Ct l yX8_set wsX8_set rm_X8_set [.ref (Ea E 0 0), .int p0, .int p1, .int p2] E σ ℓ (some (.int out.1)) out.2 ℓ := by
  refine Ct_mk (cc := cX8_set) (mL := 4) (ret := (some .int)) (own := RX8) (by decide +kernel) rfl rfl (Nat.le_of_ble_eq_true rfl) (fun p e s m below meth c C h ls hl => ?_)
  exact w_X8_set_0  C σ _ _ h ls (lv_sub hl [0, 1, 2, 3] rfl) hf
theorem hdX8_away : yX8_away.cls = RX8 ∧ yX8_away.cls ≠ "java/lang/invoke/MethodHandle" ∧ yX8_away.cls ≠ "java/lang/invoke/VarHandle" ∧ (parseMethodDescriptor yX8_away.desc).map (fun d => d.parameters.length) = some 2 := by decide +kernel
def rm_X8_away : Room := { frames := 2, cells := 0, slots := 0, locals := 44 }
set_option maxRecDepth 100000 in
theorem inX8_away_8 : ∀ w ∈ wsX80, w ∈ wsX8_away := fun _ h => List.mem_cons_of_mem _ (List.mem_append_left _ (List.mem_append_right _ h))
set_option maxRecDepth 100000 in
theorem lkX8_away_17 : Cond.fieldLink RX8 17 "BellsBelow" "now" "LBellsBelow$Hall;" ∈ wsX8_away := by decide +kernel
set_option maxRecDepth 100000 in
theorem inX8_away_1 : ∀ w ∈ wsX10, w ∈ wsX8_away := fun _ h => List.mem_cons_of_mem _ (List.mem_append_right _ h)
set_option maxRecDepth 100000 in
theorem lkX8_away_111 : Cond.fieldLink RX8 111 "BellsBelow$Hall" "gone" "[I" ∈ wsX8_away := by decide +kernel
set_option maxHeartbeats 4000000 in
set_option maxRecDepth 100000 in
theorem w_X8_away_26 {p : Program} {l : Launch} {e : Env} {s : State} {m : MethodId} {args : Array Value} {below : List Frame} {meth : Method} {c : Code} {E : Ev} {ℓ : Mz} {p0 : Int32} {p1 : Int32} {out : Int32 × Ms}   (C : Cx cX8_away 3 (some .int) wsX8_away RX8 E p s m args meth c)  : ∀ (σ : Ms) (w1 : Int32) (w2 : Int32) (H : Heap) (locs : List Loc) (h : HI E σ ℓ s H locs) (ls : Array Slot) (hl : lv_has ls 3 []), f_X8_away_26 p0 p1  σ w1 w2 = some out → W p l e rm_X8_away s m args below meth c H locs 0 0 (MQ below (Po E s.heap.size (some (.int out.1)) out.2 ℓ) args s 0 0 (AA E s.heap.size)) (F0 m 26 ls [.int w2, .int w1, .ref (Ea E 1 6)]) := by
  intro σ w1 w2 H locs h ls hl hf
  unfold f_X8_away_26 at hf
  have C0 := C
  obtain ⟨hx, hb, hr, hml, hown, hts, hlk, hK, hSF⟩ := C0
  obtain ⟨u4, hu4, hf⟩ := bd_use hf
  refine r_cs (rest := []) C h (k_X8_swapIn_6 rfl hu4) gX8_away_X8_swapIn rfl ⟨rfl, rfl⟩ hdX8_swapIn ⟨Nat.le_of_ble_eq_true rfl, Nat.le_of_ble_eq_true rfl⟩ ⟨Nat.zero_le _, Nat.zero_le _⟩ hl.1 rfl (Nat.le_of_ble_eq_true rfl) dX8_away_26 (fun H locs h => ?_)
  obtain ⟨σ5, eσ5⟩ : ∃ z, z = va_up σ 1 u4.2 := ⟨_, rfl⟩
  replace hf := lt_use eσ5 hf
  rw [← eσ5] at h
  clear eσ5
  refine lv_goto (tgt := 33) hx hb dX8_away_29 (by decide) ?_
  replace hf := Option.some.inj hf
  subst hf
  exact r_ire C h dX8_away_33
set_option maxHeartbeats 4000000 in
set_option maxRecDepth 100000 in
theorem w_X8_away_0 {p : Program} {l : Launch} {e : Env} {s : State} {m : MethodId} {args : Array Value} {below : List Frame} {meth : Method} {c : Code} {E : Ev} {ℓ : Mz} {p0 : Int32} {p1 : Int32} {out : Int32 × Ms}   (C : Cx cX8_away 3 (some .int) wsX8_away RX8 E p s m args meth c)  : ∀ (σ : Ms) (H : Heap) (locs : List Loc) (h : HI E σ ℓ s H locs) (ls : Array Slot) (hl : lv_has ls 3 [(0, .ref (Ea E 0 0)), (1, .int p0), (2, .int p1)]), f_X8_away_0 p0 p1  σ = some out → W p l e rm_X8_away s m args below meth c H locs 0 0 (MQ below (Po E s.heap.size (some (.int out.1)) out.2 ℓ) args s 0 0 (AA E s.heap.size)) (F0 m 0 ls []) := by
  intro σ H locs h ls hl hf
  unfold f_X8_away_0 at hf
  have C0 := C
  obtain ⟨hx, hb, hr, hml, hown, hts, hlk, hK, hSF⟩ := C0
  refine lv_aload_n hx hb dX8_away_0 rfl (lv_at hl 0 rfl) ?_
  refine lv_iload_n hx hb dX8_away_1 rfl (lv_at hl 1 rfl) ?_
  refine lv_i2l hx hb dX8_away_2 rfl ?_
  obtain ⟨u1, hu1, hf⟩ := bd_use hf
  refine r_cv_8 (rest := []) C h (c_X8_isMaster  hu1) (rfl : Kd 0 = 8) gX8_away_X8_isMaster rfl ⟨rfl, rfl⟩ hdX8_isMaster ⟨Nat.le_of_ble_eq_true rfl, Nat.le_of_ble_eq_true rfl⟩ ⟨Nat.zero_le _, Nat.zero_le _⟩ hl.1 rfl (Nat.le_of_ble_eq_true rfl) dX8_away_3 (fun H locs h => ?_)
  refine lv_if_eq (tgt := 32) hx hb dX8_away_6 (by decide) (fun c2 => ?_) (fun c2 => ?_)
  · replace hf := it_t c2 hf
    refine lv_iconst (v := (-1 : Int32)) hx hb dX8_away_32 (by decide) ?_
    replace hf := Option.some.inj hf
    subst hf
    exact r_ire C h dX8_away_33
  replace hf := it_f c2 hf
  refine lv_aload_n hx hb dX8_away_9 rfl (lv_at hl 0 rfl) ?_
  refine gf_8_0 C h (rfl : Kd 0 = 8) rfl inX8_away_8 lkX8_away_17 dX8_away_10 ?_
  refine gf_1_7 C h (rfl : Kd 1 = 1) rfl inX8_away_1 lkX8_away_111 dX8_away_13 ?_
  refine lv_iload_n hx hb dX8_away_16 rfl (lv_at hl 1 rfl) ?_
  refine lv_iload_n hx hb dX8_away_17 rfl (lv_at hl 2 rfl) ?_
  refine lv_if_eq (tgt := 25) hx hb dX8_away_18 (by decide) (fun c3 => ?_) (fun c3 => ?_)
  · replace hf := it_t c3 hf
    refine lv_iconst (v := (0 : Int32)) hx hb dX8_away_25 (by decide) ?_
    exact w_X8_away_26    C  _ _ _ _ _ h ls (lv_sub hl [] rfl) hf
  replace hf := it_f c3 hf
  refine lv_iconst (v := (1 : Int32)) hx hb dX8_away_21 (by decide) ?_
  refine lv_goto (tgt := 26) hx hb dX8_away_22 (by decide) ?_
  exact w_X8_away_26    C  _ _ _ _ _ h ls (lv_sub hl [] rfl) hf
theorem c_X8_away {l : Launch} {E : Ev} {σ : Ms} {ℓ : Mz} {p0 : Int32} {p1 : Int32} {out : Int32 × Ms} (hf : f_X8_away σ p0 p1 = some out) : Ct l yX8_away wsX8_away rm_X8_away [.ref (Ea E 0 0), .int p0, .int p1] E σ ℓ (some (.int out.1)) out.2 ℓ := by
  refine Ct_mk (cc := cX8_away) (mL := 3) (ret := (some .int)) (own := RX8) (by decide +kernel) rfl rfl (Nat.le_of_ble_eq_true rfl) (fun p e s m below meth c C h ls hl => ?_)
  exact w_X8_away_0  C σ _ _ h ls (lv_sub hl [0, 1, 2] rfl) hf
theorem hdX8_ring : yX8_ring.cls = RX8 ∧ yX8_ring.cls ≠ "java/lang/invoke/MethodHandle" ∧ yX8_ring.cls ≠ "java/lang/invoke/VarHandle" ∧ (parseMethodDescriptor yX8_ring.desc).map (fun d => d.parameters.length) = some 1 := by decide +kernel
def rm_X8_ring : Room := { frames := 1, cells := 0, slots := 0, locals := 22 }
set_option maxRecDepth 100000 in
theorem inX8_ring_8 : ∀ w ∈ wsX80, w ∈ wsX8_ring := fun _ h => List.mem_cons_of_mem _ (List.mem_append_left _ (List.mem_append_right _ h))
set_option maxRecDepth 100000 in
theorem lkX8_ring_17 : Cond.fieldLink RX8 17 "BellsBelow" "now" "LBellsBelow$Hall;" ∈ wsX8_ring := by decide +kernel
set_option maxHeartbeats 4000000 in
set_option maxRecDepth 100000 in
theorem w_X8_ring_0 {p : Program} {l : Launch} {e : Env} {s : State} {m : MethodId} {args : Array Value} {below : List Frame} {meth : Method} {c : Code} {E : Ev} {ℓ : Mz} {p0 : Int32} {out : Int32 × Ms}   (C : Cx cX8_ring 2 (some .int) wsX8_ring RX8 E p s m args meth c)  : ∀ (σ : Ms) (H : Heap) (locs : List Loc) (h : HI E σ ℓ s H locs) (ls : Array Slot) (hl : lv_has ls 2 [(0, .ref (Ea E 0 0)), (1, .int p0)]), f_X8_ring_0 p0  σ = some out → W p l e rm_X8_ring s m args below meth c H locs 0 0 (MQ below (Po E s.heap.size (some (.int out.1)) out.2 ℓ) args s 0 0 (AA E s.heap.size)) (F0 m 0 ls []) := by
  intro σ H locs h ls hl hf
  unfold f_X8_ring_0 at hf
  have C0 := C
  obtain ⟨hx, hb, hr, hml, hown, hts, hlk, hK, hSF⟩ := C0
  refine lv_iload_n hx hb dX8_ring_0 rfl (lv_at hl 1 rfl) ?_
  refine lv_i2l hx hb dX8_ring_1 rfl ?_
  refine lv_bipush (v := (10 : Int32)) hx hb dX8_ring_2 (by decide) ?_
  obtain ⟨u1, hu1, hf⟩ := bd_use hf
  refine r_cs (rest := []) C h (c_X8_within  hu1) gX8_ring_X8_within rfl ⟨rfl, rfl⟩ hdX8_within ⟨Nat.le_of_ble_eq_true rfl, Nat.le_of_ble_eq_true rfl⟩ ⟨Nat.zero_le _, Nat.zero_le _⟩ hl.1 rfl (Nat.le_of_ble_eq_true rfl) dX8_ring_4 (fun H locs h => ?_)
  refine lv_if_eq (tgt := 21) hx hb dX8_ring_7 (by decide) (fun c2 => ?_) (fun c2 => ?_)
  · replace hf := it_t c2 hf
    refine lv_iconst (v := (-1 : Int32)) hx hb dX8_ring_21 (by decide) ?_
    replace hf := Option.some.inj hf
    subst hf
    exact r_ire C h dX8_ring_22
  replace hf := it_f c2 hf
  refine lv_aload_n hx hb dX8_ring_10 rfl (lv_at hl 0 rfl) ?_
  refine gf_8_0 C h (rfl : Kd 0 = 8) rfl inX8_ring_8 lkX8_ring_17 dX8_ring_11 ?_
  refine lv_iload_n hx hb dX8_ring_14 rfl (lv_at hl 1 rfl) ?_
  obtain ⟨u3, hu3, hf⟩ := bd_use hf
  refine r_cv_1 (rest := []) C h (k_X1_rings (rfl : Kd 1 = 1) rfl hu3) (rfl : Kd 1 = 1) gX8_ring_X1_rings rfl ⟨rfl, rfl⟩ hdX1_rings ⟨Nat.le_of_ble_eq_true rfl, Nat.le_of_ble_eq_true rfl⟩ ⟨Nat.zero_le _, Nat.zero_le _⟩ hl.1 rfl (Nat.le_of_ble_eq_true rfl) dX8_ring_15 (fun H locs h => ?_)
  obtain ⟨σ4, eσ4⟩ : ∃ z, z = va_up σ 1 u3.2 := ⟨_, rfl⟩
  replace hf := lt_use eσ4 hf
  rw [← eσ4] at h
  clear eσ4
  refine lv_goto (tgt := 22) hx hb dX8_ring_18 (by decide) ?_
  replace hf := Option.some.inj hf
  subst hf
  exact r_ire C h dX8_ring_22
theorem c_X8_ring {l : Launch} {E : Ev} {σ : Ms} {ℓ : Mz} {p0 : Int32} {out : Int32 × Ms} (hf : f_X8_ring σ p0 = some out) : Ct l yX8_ring wsX8_ring rm_X8_ring [.ref (Ea E 0 0), .int p0] E σ ℓ (some (.int out.1)) out.2 ℓ := by
  refine Ct_mk (cc := cX8_ring) (mL := 2) (ret := (some .int)) (own := RX8) (by decide +kernel) rfl rfl (Nat.le_of_ble_eq_true rfl) (fun p e s m below meth c C h ls hl => ?_)
  exact w_X8_ring_0  C σ _ _ h ls (lv_sub hl [0, 1] rfl) hf
theorem hdX8_cross : yX8_cross.cls = RX8 ∧ yX8_cross.cls ≠ "java/lang/invoke/MethodHandle" ∧ yX8_cross.cls ≠ "java/lang/invoke/VarHandle" ∧ (parseMethodDescriptor yX8_cross.desc).map (fun d => d.parameters.length) = some 2 := by decide +kernel
def rm_X8_cross : Room := { frames := 1, cells := 0, slots := 0, locals := 23 }
set_option maxRecDepth 100000 in
theorem inX8_cross_8 : ∀ w ∈ wsX80, w ∈ wsX8_cross := fun _ h => List.mem_cons_of_mem _ (List.mem_append_left _ (List.mem_append_right _ h))
set_option maxRecDepth 100000 in
theorem lkX8_cross_17 : Cond.fieldLink RX8 17 "BellsBelow" "now" "LBellsBelow$Hall;" ∈ wsX8_cross := by decide +kernel
set_option maxRecDepth 100000 in
theorem inX8_cross_1 : ∀ w ∈ wsX10, w ∈ wsX8_cross := fun _ h => List.mem_cons_of_mem _ (List.mem_append_right _ h)
set_option maxRecDepth 100000 in
theorem lkX8_cross_132 : Cond.fieldLink RX8 132 "BellsBelow$Hall" "wires" "[I" ∈ wsX8_cross := by decide +kernel
set_option maxHeartbeats 4000000 in
set_option maxRecDepth 100000 in
theorem w_X8_cross_0 {p : Program} {l : Launch} {e : Env} {s : State} {m : MethodId} {args : Array Value} {below : List Frame} {meth : Method} {c : Code} {E : Ev} {ℓ : Mz} {p0 : Int32} {p1 : Int32} {out : Int32 × Ms}   (C : Cx cX8_cross 3 (some .int) wsX8_cross RX8 E p s m args meth c)  : ∀ (σ : Ms) (H : Heap) (locs : List Loc) (h : HI E σ ℓ s H locs) (ls : Array Slot) (hl : lv_has ls 3 [(0, .ref (Ea E 0 0)), (1, .int p0), (2, .int p1)]), f_X8_cross_0 p0 p1  σ = some out → W p l e rm_X8_cross s m args below meth c H locs 0 0 (MQ below (Po E s.heap.size (some (.int out.1)) out.2 ℓ) args s 0 0 (AA E s.heap.size)) (F0 m 0 ls []) := by
  intro σ H locs h ls hl hf
  unfold f_X8_cross_0 at hf
  have C0 := C
  obtain ⟨hx, hb, hr, hml, hown, hts, hlk, hK, hSF⟩ := C0
  refine lv_iload_n hx hb dX8_cross_0 rfl (lv_at hl 1 rfl) ?_
  refine lv_i2l hx hb dX8_cross_1 rfl ?_
  refine lv_bipush (v := (10 : Int32)) hx hb dX8_cross_2 (by decide) ?_
  obtain ⟨u1, hu1, hf⟩ := bd_use hf
  refine r_cs (rest := []) C h (c_X8_within  hu1) gX8_cross_X8_within rfl ⟨rfl, rfl⟩ hdX8_within ⟨Nat.le_of_ble_eq_true rfl, Nat.le_of_ble_eq_true rfl⟩ ⟨Nat.zero_le _, Nat.zero_le _⟩ hl.1 rfl (Nat.le_of_ble_eq_true rfl) dX8_cross_4 (fun H locs h => ?_)
  refine lv_if_eq (tgt := 20) hx hb dX8_cross_7 (by decide) (fun c2 => ?_) (fun c2 => ?_)
  · replace hf := it_t c2 hf
    refine lv_iconst (v := (-1 : Int32)) hx hb dX8_cross_20 (by decide) ?_
    replace hf := Option.some.inj hf
    subst hf
    exact r_ire C h dX8_cross_21
  replace hf := it_f c2 hf
  refine lv_iload_n hx hb dX8_cross_10 rfl (lv_at hl 2 rfl) ?_
  refine lv_i2l hx hb dX8_cross_11 rfl ?_
  refine lv_bipush (v := (10 : Int32)) hx hb dX8_cross_12 (by decide) ?_
  obtain ⟨u3, hu3, hf⟩ := bd_use hf
  refine r_cs (rest := []) C h (c_X8_within  hu3) gX8_cross_X8_within rfl ⟨rfl, rfl⟩ hdX8_within ⟨Nat.le_of_ble_eq_true rfl, Nat.le_of_ble_eq_true rfl⟩ ⟨Nat.zero_le _, Nat.zero_le _⟩ hl.1 rfl (Nat.le_of_ble_eq_true rfl) dX8_cross_14 (fun H locs h => ?_)
  refine lv_if_ne (tgt := 22) hx hb dX8_cross_17 (by decide) (fun c4 => ?_) (fun c4 => ?_)
  · replace hf := it_f c4 hf
    refine lv_iload_n hx hb dX8_cross_22 rfl (lv_at hl 1 rfl) ?_
    refine lv_iload_n hx hb dX8_cross_23 rfl (lv_at hl 2 rfl) ?_
    refine lv_icmp_ne (tgt := 30) hx hb dX8_cross_24 (by decide) (fun c5 => ?_) (fun c5 => ?_)
    · replace hf := it_f c5 hf
      refine lv_aload_n hx hb dX8_cross_30 rfl (lv_at hl 0 rfl) ?_
      refine gf_8_0 C h (rfl : Kd 0 = 8) rfl inX8_cross_8 lkX8_cross_17 dX8_cross_31 ?_
      refine gf_1_10 C h (rfl : Kd 1 = 1) rfl inX8_cross_1 lkX8_cross_132 dX8_cross_34 ?_
      refine lv_iload_n hx hb dX8_cross_37 rfl (lv_at hl 2 rfl) ?_
      refine lv_aload_n hx hb dX8_cross_38 rfl (lv_at hl 0 rfl) ?_
      refine gf_8_0 C h (rfl : Kd 0 = 8) rfl inX8_cross_8 lkX8_cross_17 dX8_cross_39 ?_
      refine gf_1_10 C h (rfl : Kd 1 = 1) rfl inX8_cross_1 lkX8_cross_132 dX8_cross_42 ?_
      refine lv_iload_n hx hb dX8_cross_45 rfl (lv_at hl 1 rfl) ?_
      refine lv_aload_n hx hb dX8_cross_46 rfl (lv_at hl 0 rfl) ?_
      refine gf_8_0 C h (rfl : Kd 0 = 8) rfl inX8_cross_8 lkX8_cross_17 dX8_cross_47 ?_
      refine gf_1_10 C h (rfl : Kd 1 = 1) rfl inX8_cross_1 lkX8_cross_132 dX8_cross_50 ?_
      refine lv_iload_n hx hb dX8_cross_53 rfl (lv_at hl 2 rfl) ?_
      obtain ⟨g6, hf⟩ := gd_use hf
      refine ld_1_9 C h (rfl : Kd 1 = 1) rfl (inB_in g6) dX8_cross_54 ?_
      obtain ⟨u7, hu7, hf⟩ := bd_use hf
      refine r_cs (rest := [.int p1, .ref (Ea E 1 9)]) C h (k_X8_swapIn_9 rfl hu7) gX8_cross_X8_swapIn rfl ⟨rfl, rfl⟩ hdX8_swapIn ⟨Nat.le_of_ble_eq_true rfl, Nat.le_of_ble_eq_true rfl⟩ ⟨Nat.zero_le _, Nat.zero_le _⟩ hl.1 rfl (Nat.le_of_ble_eq_true rfl) dX8_cross_55 (fun H locs h => ?_)
      obtain ⟨σ8, eσ8⟩ : ∃ z, z = va_up σ 1 u7.2 := ⟨_, rfl⟩
      replace hf := lt_use eσ8 hf
      rw [← eσ8] at h
      clear eσ8
      obtain ⟨g9, hf⟩ := gd_use hf
      refine sa_1_9 C h (rfl : Kd 1 = 1) rfl (F := fun t => va_up σ8 1 t) (fun _ => rfl) (inB_in g9) dX8_cross_58 (fun τ10 eτ10 H locs h => ?_)
      replace hf := lt_use eτ10 hf
      clear eτ10
      obtain ⟨σ11, eσ11⟩ : ∃ z, z = va_up σ8 1 τ10 := ⟨_, rfl⟩
      replace hf := lt_use eσ11 hf
      replace h : HI E (va_up σ8 1 τ10) ℓ s H locs := h
      rw [← eσ11] at h
      clear eσ11
      refine lv_aload_n hx hb dX8_cross_59 rfl (lv_at hl 0 rfl) ?_
      refine gf_8_0 C h (rfl : Kd 0 = 8) rfl inX8_cross_8 lkX8_cross_17 dX8_cross_60 ?_
      refine gf_1_10 C h (rfl : Kd 1 = 1) rfl inX8_cross_1 lkX8_cross_132 dX8_cross_63 ?_
      refine lv_iload_n hx hb dX8_cross_66 rfl (lv_at hl 1 rfl) ?_
      obtain ⟨g12, hf⟩ := gd_use hf
      refine ld_1_9 C h (rfl : Kd 1 = 1) rfl (inB_in g12) dX8_cross_67 ?_
      replace hf := Option.some.inj hf
      subst hf
      exact r_ire C h dX8_cross_68
    replace hf := it_t c5 hf
    refine lv_bipush (v := (-2 : Int32)) hx hb dX8_cross_27 (by decide) ?_
    replace hf := Option.some.inj hf
    subst hf
    exact r_ire C h dX8_cross_29
  replace hf := it_t c4 hf
  refine lv_iconst (v := (-1 : Int32)) hx hb dX8_cross_20 (by decide) ?_
  replace hf := Option.some.inj hf
  subst hf
  exact r_ire C h dX8_cross_21
theorem c_X8_cross {l : Launch} {E : Ev} {σ : Ms} {ℓ : Mz} {p0 : Int32} {p1 : Int32} {out : Int32 × Ms} (hf : f_X8_cross σ p0 p1 = some out) : Ct l yX8_cross wsX8_cross rm_X8_cross [.ref (Ea E 0 0), .int p0, .int p1] E σ ℓ (some (.int out.1)) out.2 ℓ := by
  refine Ct_mk (cc := cX8_cross) (mL := 3) (ret := (some .int)) (own := RX8) (by decide +kernel) rfl rfl (Nat.le_of_ble_eq_true rfl) (fun p e s m below meth c C h ls hl => ?_)
  exact w_X8_cross_0  C σ _ _ h ls (lv_sub hl [0, 1, 2] rfl) hf
theorem hdX8_row : yX8_row.cls = RX8 ∧ yX8_row.cls ≠ "java/lang/invoke/MethodHandle" ∧ yX8_row.cls ≠ "java/lang/invoke/VarHandle" ∧ (parseMethodDescriptor yX8_row.desc).map (fun d => d.parameters.length) = some 3 := by decide +kernel
def rm_X8_row : Room := { frames := 2, cells := 0, slots := 0, locals := 44 }
set_option maxRecDepth 100000 in
theorem inX8_row_8 : ∀ w ∈ wsX80, w ∈ wsX8_row := fun _ h => List.mem_cons_of_mem _ (List.mem_append_left _ (List.mem_append_right _ h))
set_option maxRecDepth 100000 in
theorem lkX8_row_17 : Cond.fieldLink RX8 17 "BellsBelow" "now" "LBellsBelow$Hall;" ∈ wsX8_row := by decide +kernel
set_option maxRecDepth 100000 in
theorem inX8_row_1 : ∀ w ∈ wsX10, w ∈ wsX8_row := fun _ h => List.mem_cons_of_mem _ (List.mem_append_right _ h)
set_option maxRecDepth 100000 in
theorem lkX8_row_95 : Cond.fieldLink RX8 95 "BellsBelow$Hall" "kind" "[I" ∈ wsX8_row := by decide +kernel
set_option maxRecDepth 100000 in
theorem lkX8_row_135 : Cond.fieldLink RX8 135 "BellsBelow$Hall" "rows" "[I" ∈ wsX8_row := by decide +kernel
set_option maxHeartbeats 4000000 in
set_option maxRecDepth 100000 in
theorem w_X8_row_0 {p : Program} {l : Launch} {e : Env} {s : State} {m : MethodId} {args : Array Value} {below : List Frame} {meth : Method} {c : Code} {E : Ev} {ℓ : Mz} {p0 : Int32} {p1 : Int32} {p2 : Int32} {out : Int32 × Ms}   (C : Cx cX8_row 4 (some .int) wsX8_row RX8 E p s m args meth c)  : ∀ (σ : Ms) (H : Heap) (locs : List Loc) (h : HI E σ ℓ s H locs) (ls : Array Slot) (hl : lv_has ls 4 [(0, .ref (Ea E 0 0)), (1, .int p0), (2, .int p1), (3, .int p2)]), f_X8_row_0 p0 p1 p2  σ = some out → W p l e rm_X8_row s m args below meth c H locs 0 0 (MQ below (Po E s.heap.size (some (.int out.1)) out.2 ℓ) args s 0 0 (AA E s.heap.size)) (F0 m 0 ls []) := by
  intro σ H locs h ls hl hf
  unfold f_X8_row_0 at hf
  have C0 := C
  obtain ⟨hx, hb, hr, hml, hown, hts, hlk, hK, hSF⟩ := C0
  refine lv_aload_n hx hb dX8_row_0 rfl (lv_at hl 0 rfl) ?_
  refine lv_iload_n hx hb dX8_row_1 rfl (lv_at hl 1 rfl) ?_
  refine lv_i2l hx hb dX8_row_2 rfl ?_
  obtain ⟨u1, hu1, hf⟩ := bd_use hf
  refine r_cv_8 (rest := []) C h (c_X8_isMaster  hu1) (rfl : Kd 0 = 8) gX8_row_X8_isMaster rfl ⟨rfl, rfl⟩ hdX8_isMaster ⟨Nat.le_of_ble_eq_true rfl, Nat.le_of_ble_eq_true rfl⟩ ⟨Nat.zero_le _, Nat.zero_le _⟩ hl.1 rfl (Nat.le_of_ble_eq_true rfl) dX8_row_3 (fun H locs h => ?_)
  refine lv_if_eq (tgt := 18) hx hb dX8_row_6 (by decide) (fun c2 => ?_) (fun c2 => ?_)
  · replace hf := it_t c2 hf
    refine lv_iconst (v := (-1 : Int32)) hx hb dX8_row_18 (by decide) ?_
    replace hf := Option.some.inj hf
    subst hf
    exact r_ire C h dX8_row_19
  replace hf := it_f c2 hf
  refine lv_iload_n hx hb dX8_row_9 rfl (lv_at hl 2 rfl) ?_
  refine lv_i2l hx hb dX8_row_10 rfl ?_
  refine lv_iconst (v := (4 : Int32)) hx hb dX8_row_11 (by decide) ?_
  obtain ⟨u3, hu3, hf⟩ := bd_use hf
  refine r_cs (rest := []) C h (c_X8_within  hu3) gX8_row_X8_within rfl ⟨rfl, rfl⟩ hdX8_within ⟨Nat.le_of_ble_eq_true rfl, Nat.le_of_ble_eq_true rfl⟩ ⟨Nat.zero_le _, Nat.zero_le _⟩ hl.1 rfl (Nat.le_of_ble_eq_true rfl) dX8_row_12 (fun H locs h => ?_)
  refine lv_if_ne (tgt := 20) hx hb dX8_row_15 (by decide) (fun c4 => ?_) (fun c4 => ?_)
  · replace hf := it_f c4 hf
    refine lv_iload_n hx hb dX8_row_20 rfl (lv_at hl 3 rfl) ?_
    refine lv_i2l hx hb dX8_row_21 rfl ?_
    refine lv_bipush (v := (10 : Int32)) hx hb dX8_row_22 (by decide) ?_
    obtain ⟨u5, hu5, hf⟩ := bd_use hf
    refine r_cs (rest := []) C h (c_X8_within  hu5) gX8_row_X8_within rfl ⟨rfl, rfl⟩ hdX8_within ⟨Nat.le_of_ble_eq_true rfl, Nat.le_of_ble_eq_true rfl⟩ ⟨Nat.zero_le _, Nat.zero_le _⟩ hl.1 rfl (Nat.le_of_ble_eq_true rfl) dX8_row_24 (fun H locs h => ?_)
    refine lv_if_ne (tgt := 33) hx hb dX8_row_27 (by decide) (fun c6 => ?_) (fun c6 => ?_)
    · replace hf := it_f c6 hf
      refine lv_aload_n hx hb dX8_row_33 rfl (lv_at hl 0 rfl) ?_
      refine gf_8_0 C h (rfl : Kd 0 = 8) rfl inX8_row_8 lkX8_row_17 dX8_row_34 ?_
      refine gf_1_2 C h (rfl : Kd 1 = 1) rfl inX8_row_1 lkX8_row_95 dX8_row_37 ?_
      refine lv_iload_n hx hb dX8_row_40 rfl (lv_at hl 1 rfl) ?_
      obtain ⟨g7, hf⟩ := gd_use hf
      refine ld_1_1 C h (rfl : Kd 1 = 1) rfl (inB_in g7) dX8_row_41 ?_
      refine lv_bipush (v := (6 : Int32)) hx hb dX8_row_42 (by decide) ?_
      refine lv_icmp_eq (tgt := 50) hx hb dX8_row_44 (by decide) (fun c8 => ?_) (fun c8 => ?_)
      · replace hf := it_t c8 hf
        refine lv_aload_n hx hb dX8_row_50 rfl (lv_at hl 0 rfl) ?_
        refine gf_8_0 C h (rfl : Kd 0 = 8) rfl inX8_row_8 lkX8_row_17 dX8_row_51 ?_
        refine gf_1_9 C h (rfl : Kd 1 = 1) rfl inX8_row_1 lkX8_row_135 dX8_row_54 ?_
        refine lv_iload_n hx hb dX8_row_57 rfl (lv_at hl 1 rfl) ?_
        refine lv_iconst (v := (4 : Int32)) hx hb dX8_row_58 (by decide) ?_
        refine lv_imul hx hb dX8_row_59 ?_
        refine lv_iload_n hx hb dX8_row_60 rfl (lv_at hl 2 rfl) ?_
        refine lv_iadd hx hb dX8_row_61 ?_
        refine lv_iload_n hx hb dX8_row_62 rfl (lv_at hl 3 rfl) ?_
        obtain ⟨u9, hu9, hf⟩ := bd_use hf
        refine r_cs (rest := []) C h (k_X8_swapIn_8 rfl hu9) gX8_row_X8_swapIn rfl ⟨rfl, rfl⟩ hdX8_swapIn ⟨Nat.le_of_ble_eq_true rfl, Nat.le_of_ble_eq_true rfl⟩ ⟨Nat.zero_le _, Nat.zero_le _⟩ hl.1 rfl (Nat.le_of_ble_eq_true rfl) dX8_row_63 (fun H locs h => ?_)
        obtain ⟨σ10, eσ10⟩ : ∃ z, z = va_up σ 1 u9.2 := ⟨_, rfl⟩
        replace hf := lt_use eσ10 hf
        rw [← eσ10] at h
        clear eσ10
        replace hf := Option.some.inj hf
        subst hf
        exact r_ire C h dX8_row_66
      replace hf := it_f c8 hf
      refine lv_bipush (v := (-3 : Int32)) hx hb dX8_row_47 (by decide) ?_
      replace hf := Option.some.inj hf
      subst hf
      exact r_ire C h dX8_row_49
    replace hf := it_t c6 hf
    refine lv_bipush (v := (-2 : Int32)) hx hb dX8_row_30 (by decide) ?_
    replace hf := Option.some.inj hf
    subst hf
    exact r_ire C h dX8_row_32
  replace hf := it_t c4 hf
  refine lv_iconst (v := (-1 : Int32)) hx hb dX8_row_18 (by decide) ?_
  replace hf := Option.some.inj hf
  subst hf
  exact r_ire C h dX8_row_19
theorem c_X8_row {l : Launch} {E : Ev} {σ : Ms} {ℓ : Mz} {p0 : Int32} {p1 : Int32} {p2 : Int32} {out : Int32 × Ms} (hf : f_X8_row σ p0 p1 p2 = some out) : Ct l yX8_row wsX8_row rm_X8_row [.ref (Ea E 0 0), .int p0, .int p1, .int p2] E σ ℓ (some (.int out.1)) out.2 ℓ := by
  refine Ct_mk (cc := cX8_row) (mL := 4) (ret := (some .int)) (own := RX8) (by decide +kernel) rfl rfl (Nat.le_of_ble_eq_true rfl) (fun p e s m below meth c C h ls hl => ?_)
  exact w_X8_row_0  C σ _ _ h ls (lv_sub hl [0, 1, 2, 3] rfl) hf
theorem hdX8_feed : yX8_feed.cls = RX8 ∧ yX8_feed.cls ≠ "java/lang/invoke/MethodHandle" ∧ yX8_feed.cls ≠ "java/lang/invoke/VarHandle" ∧ (parseMethodDescriptor yX8_feed.desc).map (fun d => d.parameters.length) = some 1 := by decide +kernel
def rm_X8_feed : Room := { frames := 1, cells := 0, slots := 0, locals := 22 }
set_option maxRecDepth 100000 in
theorem inX8_feed_8 : ∀ w ∈ wsX80, w ∈ wsX8_feed := fun _ h => List.mem_cons_of_mem _ (List.mem_append_left _ (List.mem_append_right _ h))
set_option maxRecDepth 100000 in
theorem lkX8_feed_41 : Cond.fieldLink RX8 41 "BellsBelow" "text" "LBellsBelow$Text;" ∈ wsX8_feed := by decide +kernel
set_option maxRecDepth 100000 in
theorem inX8_feed_7 : ∀ w ∈ wsX70, w ∈ wsX8_feed := fun _ h => List.mem_cons_of_mem _ (List.mem_append_right _ h)
set_option maxRecDepth 100000 in
theorem lkX8_feed_138 : Cond.fieldLink RX8 138 "BellsBelow$Text" "length" "I" ∈ wsX8_feed := by decide +kernel
set_option maxHeartbeats 4000000 in
set_option maxRecDepth 100000 in
theorem w_X8_feed_0 {p : Program} {l : Launch} {e : Env} {s : State} {m : MethodId} {args : Array Value} {below : List Frame} {meth : Method} {c : Code} {E : Ev} {ℓ : Mz} {p0 : Int32} {out : Int32 × Ms}   (C : Cx cX8_feed 2 (some .int) wsX8_feed RX8 E p s m args meth c)  : ∀ (σ : Ms) (H : Heap) (locs : List Loc) (h : HI E σ ℓ s H locs) (ls : Array Slot) (hl : lv_has ls 2 [(0, .ref (Ea E 0 0)), (1, .int p0)]), f_X8_feed_0 p0  σ = some out → W p l e rm_X8_feed s m args below meth c H locs 0 0 (MQ below (Po E s.heap.size (some (.int out.1)) out.2 ℓ) args s 0 0 (AA E s.heap.size)) (F0 m 0 ls []) := by
  intro σ H locs h ls hl hf
  unfold f_X8_feed_0 at hf
  have C0 := C
  obtain ⟨hx, hb, hr, hml, hown, hts, hlk, hK, hSF⟩ := C0
  refine lv_iload_n hx hb dX8_feed_0 rfl (lv_at hl 1 rfl) ?_
  refine lv_i2l hx hb dX8_feed_1 rfl ?_
  refine lv_sipush (v := (128 : Int32)) hx hb dX8_feed_2 (by decide) ?_
  obtain ⟨u1, hu1, hf⟩ := bd_use hf
  refine r_cs (rest := []) C h (c_X8_within  hu1) gX8_feed_X8_within rfl ⟨rfl, rfl⟩ hdX8_within ⟨Nat.le_of_ble_eq_true rfl, Nat.le_of_ble_eq_true rfl⟩ ⟨Nat.zero_le _, Nat.zero_le _⟩ hl.1 rfl (Nat.le_of_ble_eq_true rfl) dX8_feed_5 (fun H locs h => ?_)
  refine lv_if_ne (tgt := 14) hx hb dX8_feed_8 (by decide) (fun c2 => ?_) (fun c2 => ?_)
  · replace hf := it_f c2 hf
    refine lv_aload_n hx hb dX8_feed_14 rfl (lv_at hl 0 rfl) ?_
    refine gf_8_6 C h (rfl : Kd 0 = 8) rfl inX8_feed_8 lkX8_feed_41 dX8_feed_15 ?_
    refine gf_7_1 C h (rfl : Kd 12 = 7) rfl inX8_feed_7 lkX8_feed_138 dX8_feed_18 ?_
    refine lv_bipush (v := (100 : Int32)) hx hb dX8_feed_21 (by decide) ?_
    refine lv_icmp_lt (tgt := 31) hx hb dX8_feed_23 (by decide) (fun c3 => ?_) (fun c3 => ?_)
    · replace hf := it_t c3 hf
      refine lv_aload_n hx hb dX8_feed_31 rfl (lv_at hl 0 rfl) ?_
      refine gf_8_6 C h (rfl : Kd 0 = 8) rfl inX8_feed_8 lkX8_feed_41 dX8_feed_32 ?_
      refine lv_iload_n hx hb dX8_feed_35 rfl (lv_at hl 1 rfl) ?_
      obtain ⟨u4, hu4, hf⟩ := bd_use hf
      refine r_cv_7 (rest := []) C h (k_X7_adds rfl hu4) (rfl : Kd 12 = 7) gX8_feed_X7_adds rfl ⟨rfl, rfl⟩ hdX7_adds ⟨Nat.le_of_ble_eq_true rfl, Nat.le_of_ble_eq_true rfl⟩ ⟨Nat.zero_le _, Nat.zero_le _⟩ hl.1 rfl (Nat.le_of_ble_eq_true rfl) dX8_feed_36 (fun H locs h => ?_)
      obtain ⟨σ5, eσ5⟩ : ∃ z, z = va_up σ 12 u4.2 := ⟨_, rfl⟩
      replace hf := lt_use eσ5 hf
      rw [← eσ5] at h
      clear eσ5
      replace hf := Option.some.inj hf
      subst hf
      exact r_ire C h dX8_feed_39
    replace hf := it_f c3 hf
    refine lv_bipush (v := (-4 : Int32)) hx hb dX8_feed_26 (by decide) ?_
    refine lv_goto (tgt := 39) hx hb dX8_feed_28 (by decide) ?_
    replace hf := Option.some.inj hf
    subst hf
    exact r_ire C h dX8_feed_39
  replace hf := it_t c2 hf
  refine lv_bipush (v := (-2 : Int32)) hx hb dX8_feed_11 (by decide) ?_
  replace hf := Option.some.inj hf
  subst hf
  exact r_ire C h dX8_feed_13
theorem c_X8_feed {l : Launch} {E : Ev} {σ : Ms} {ℓ : Mz} {p0 : Int32} {out : Int32 × Ms} (hf : f_X8_feed σ p0 = some out) : Ct l yX8_feed wsX8_feed rm_X8_feed [.ref (Ea E 0 0), .int p0] E σ ℓ (some (.int out.1)) out.2 ℓ := by
  refine Ct_mk (cc := cX8_feed) (mL := 2) (ret := (some .int)) (own := RX8) (by decide +kernel) rfl rfl (Nat.le_of_ble_eq_true rfl) (fun p e s m below meth c C h ls hl => ?_)
  exact w_X8_feed_0  C σ _ _ h ls (lv_sub hl [0, 1] rfl) hf
theorem hdX8_house : yX8_house.cls = RX8 ∧ yX8_house.cls ≠ "java/lang/invoke/MethodHandle" ∧ yX8_house.cls ≠ "java/lang/invoke/VarHandle" ∧ (parseMethodDescriptor yX8_house.desc).map (fun d => d.parameters.length) = some 0 := by decide +kernel
def rm_X8_house : Room := { frames := 60, cells := 0, slots := 0, locals := 2426 }
set_option maxRecDepth 100000 in
theorem inX8_house_8 : ∀ w ∈ wsX80, w ∈ wsX8_house := fun _ h => List.mem_cons_of_mem _ (List.mem_append_left _ (List.mem_append_left _ (List.mem_append_left _ (List.mem_append_right _ h))))
set_option maxRecDepth 100000 in
theorem lkX8_house_144 : Cond.fieldLink RX8 144 "BellsBelow" "houseCount" "I" ∈ wsX8_house := by decide +kernel
set_option maxRecDepth 100000 in
theorem lkX8_house_47 : Cond.fieldLink RX8 47 "BellsBelow" "houses" "[LBellsBelow$House;" ∈ wsX8_house := by decide +kernel
set_option maxRecDepth 100000 in
theorem lkX8_house_41 : Cond.fieldLink RX8 41 "BellsBelow" "text" "LBellsBelow$Text;" ∈ wsX8_house := by decide +kernel
set_option maxRecDepth 100000 in
theorem lkX8_house_17 : Cond.fieldLink RX8 17 "BellsBelow" "now" "LBellsBelow$Hall;" ∈ wsX8_house := by decide +kernel
set_option maxRecDepth 100000 in
theorem inX8_house_1 : ∀ w ∈ wsX10, w ∈ wsX8_house := fun _ h => List.mem_cons_of_mem _ (List.mem_append_left _ (List.mem_append_right _ h))
set_option maxRecDepth 100000 in
theorem lkX8_house_154 : Cond.fieldLink RX8 154 "BellsBelow$Hall" "holding" "LBellsBelow$House;" ∈ wsX8_house := by decide +kernel
set_option maxRecDepth 100000 in
theorem inX8_house_7 : ∀ w ∈ wsX70, w ∈ wsX8_house := fun _ h => List.mem_cons_of_mem _ (List.mem_append_left _ (List.mem_append_left _ (List.mem_append_right _ h)))
set_option maxRecDepth 100000 in
theorem lkX8_house_151 : Cond.fieldLink RX8 151 "BellsBelow$Text" "place" "I" ∈ wsX8_house := by decide +kernel
set_option maxHeartbeats 4000000 in
set_option maxRecDepth 100000 in
theorem w_X8_house_0 {p : Program} {l : Launch} {e : Env} {s : State} {m : MethodId} {args : Array Value} {below : List Frame} {meth : Method} {c : Code} {E : Ev} {ℓ : Mz} {out : Int32 × Ms}   (C : Cx cX8_house 2 (some .int) wsX8_house RX8 E p s m args meth c)  : ∀ (σ : Ms) (H : Heap) (locs : List Loc) (h : HI E σ ℓ s H locs) (ls : Array Slot) (hl : lv_has ls 2 [(0, .ref (Ea E 0 0))]), f_X8_house_0   σ = some out → W p l e rm_X8_house s m args below meth c H locs 0 0 (MQ below (Po E s.heap.size (some (.int out.1)) out.2 ℓ) args s 0 0 (AA E s.heap.size)) (F0 m 0 ls []) := by
  intro σ H locs h ls hl hf
  unfold f_X8_house_0 at hf
  have C0 := C
  obtain ⟨hx, hb, hr, hml, hown, hts, hlk, hK, hSF⟩ := C0
  refine lv_aload_n hx hb dX8_house_0 rfl (lv_at hl 0 rfl) ?_
  refine gf_8_8 C h (rfl : Kd 0 = 8) rfl inX8_house_8 lkX8_house_144 dX8_house_1 ?_
  refine lv_bipush (v := (6 : Int32)) hx hb dX8_house_4 (by decide) ?_
  refine lv_icmp_lt (tgt := 12) hx hb dX8_house_6 (by decide) (fun c1 => ?_) (fun c1 => ?_)
  · replace hf := it_t c1 hf
    refine lv_aload_n hx hb dX8_house_12 rfl (lv_at hl 0 rfl) ?_
    refine gf_8_7 C h (rfl : Kd 0 = 8) rfl inX8_house_8 lkX8_house_47 dX8_house_13 ?_
    refine lv_aload_n hx hb dX8_house_16 rfl (lv_at hl 0 rfl) ?_
    refine gf_8_8 C h (rfl : Kd 0 = 8) rfl inX8_house_8 lkX8_house_144 dX8_house_17 ?_
    refine lv_topi (fun x2 ex2 => ?_)
    replace hf := lt_use ex2 hf
    clear ex2
    obtain ⟨g3, hf⟩ := gd_use hf
    refine ld_10_0 C h (rfl : Kd 13 = 10) (inB_in g3) dX8_house_20 ?_
    refine lv_astore_n (lv' := [(1, .ref (Ea E (14 + x2.toNatClampNeg) 0)), (0, .ref (Ea E 0 0))]) hx hb dX8_house_21 rfl hl (by decide) rfl (fun ls hl => ?_)
    refine lv_aload_n hx hb dX8_house_22 rfl (lv_at hl 1 rfl) ?_
    refine gf_8_6 C h (rfl : Kd 0 = 8) rfl inX8_house_8 lkX8_house_41 dX8_house_23 ?_
    refine lv_aload_n hx hb dX8_house_26 rfl (lv_at hl 0 rfl) ?_
    obtain ⟨u4, hu4, hf⟩ := bd_use hf
    refine r_cv_7 (rest := []) C h (k_X7_makes (kd_house (inB_lt g3)) hu4) (rfl : Kd 12 = 7) gX8_house_X7_makes rfl ⟨rfl, rfl⟩ hdX7_makes ⟨Nat.le_of_ble_eq_true rfl, Nat.le_of_ble_eq_true rfl⟩ ⟨Nat.zero_le _, Nat.zero_le _⟩ hl.1 rfl (Nat.le_of_ble_eq_true rfl) dX8_house_27 (fun H locs h => ?_)
    obtain ⟨σ5, eσ5⟩ : ∃ z, z = va_up u4.2.2 12 u4.2.1 := ⟨_, rfl⟩
    replace hf := lt_use eσ5 hf
    rw [← eσ5] at h
    clear eσ5
    refine lv_if_ne (tgt := 44) hx hb dX8_house_30 (by decide) (fun c6 => ?_) (fun c6 => ?_)
    · replace hf := it_f c6 hf
      refine lv_aload_n hx hb dX8_house_44 rfl (lv_at hl 1 rfl) ?_
      refine gf_8_0 C h (rfl : Kd 0 = 8) rfl inX8_house_8 lkX8_house_17 dX8_house_45 ?_
      refine lv_aload_n hx hb dX8_house_48 rfl (lv_at hl 0 rfl) ?_
      refine r_top (hr_h (kd_house (inB_lt g3))) ?_
      refine pf_1_16 C h (rfl : Kd 1 = 1) rfl (F := fun t => va_up σ5 1 t) (fun _ => rfl) inX8_house_1 lkX8_house_154 dX8_house_49 (fun τ7 eτ7 H locs h => ?_)
      replace hf := lt_use eτ7 hf
      clear eτ7
      obtain ⟨σ8, eσ8⟩ : ∃ z, z = va_up σ5 1 τ7 := ⟨_, rfl⟩
      replace hf := lt_use eσ8 hf
      replace h : HI E (va_up σ5 1 τ7) ℓ s H locs := h
      rw [← eσ8] at h
      clear eσ8
      refine lv_aload_n hx hb dX8_house_52 rfl (lv_at hl 1 rfl) ?_
      refine lv_dup hx hb dX8_house_53 rfl ?_
      refine gf_8_8 C h (rfl : Kd 0 = 8) rfl inX8_house_8 lkX8_house_144 dX8_house_54 ?_
      refine lv_iconst (v := (1 : Int32)) hx hb dX8_house_57 (by decide) ?_
      refine lv_iadd hx hb dX8_house_58 ?_
      refine pf_8_8 C h (rfl : Kd 0 = 8) rfl (F := fun t => va_up σ8 0 t) (fun _ => rfl) inX8_house_8 lkX8_house_144 dX8_house_59 (fun τ9 eτ9 H locs h => ?_)
      replace hf := lt_use eτ9 hf
      clear eτ9
      obtain ⟨σ10, eσ10⟩ : ∃ z, z = va_up σ8 0 τ9 := ⟨_, rfl⟩
      replace hf := lt_use eσ10 hf
      replace h : HI E (va_up σ8 0 τ9) ℓ s H locs := h
      rw [← eσ10] at h
      clear eσ10
      refine lv_aload_n hx hb dX8_house_62 rfl (lv_at hl 1 rfl) ?_
      refine gf_8_8 C h (rfl : Kd 0 = 8) rfl inX8_house_8 lkX8_house_144 dX8_house_63 ?_
      refine lv_iconst (v := (1 : Int32)) hx hb dX8_house_66 (by decide) ?_
      refine lv_isub hx hb dX8_house_67 ?_
      replace hf := Option.some.inj hf
      subst hf
      exact r_ire C h dX8_house_68
    replace hf := it_t c6 hf
    refine lv_bipush (v := (-10 : Int32)) hx hb dX8_house_33 (by decide) ?_
    refine lv_aload_n hx hb dX8_house_35 rfl (lv_at hl 1 rfl) ?_
    refine gf_8_6 C h (rfl : Kd 0 = 8) rfl inX8_house_8 lkX8_house_41 dX8_house_36 ?_
    refine gf_7_2 C h (rfl : Kd 12 = 7) rfl inX8_house_7 lkX8_house_151 dX8_house_39 ?_
    refine lv_isub hx hb dX8_house_42 ?_
    replace hf := Option.some.inj hf
    subst hf
    exact r_ire C h dX8_house_43
  replace hf := it_f c1 hf
  refine lv_bipush (v := (-4 : Int32)) hx hb dX8_house_9 (by decide) ?_
  replace hf := Option.some.inj hf
  subst hf
  exact r_ire C h dX8_house_11
theorem c_X8_house {l : Launch} {E : Ev} {σ : Ms} {ℓ : Mz}  {out : Int32 × Ms} (hf : f_X8_house σ = some out) : Ct l yX8_house wsX8_house rm_X8_house [.ref (Ea E 0 0)] E σ ℓ (some (.int out.1)) out.2 ℓ := by
  refine Ct_mk (cc := cX8_house) (mL := 2) (ret := (some .int)) (own := RX8) (by decide +kernel) rfl rfl (Nat.le_of_ble_eq_true rfl) (fun p e s m below meth c C h ls hl => ?_)
  exact w_X8_house_0  C σ _ _ h ls (lv_sub hl [0] rfl) hf
theorem hdX8_quiet : yX8_quiet.cls = RX8 ∧ yX8_quiet.cls ≠ "java/lang/invoke/MethodHandle" ∧ yX8_quiet.cls ≠ "java/lang/invoke/VarHandle" ∧ (parseMethodDescriptor yX8_quiet.desc).map (fun d => d.parameters.length) = some 0 := by decide +kernel
def rm_X8_quiet : Room := { frames := 6, cells := 0, slots := 0, locals := 177 }
set_option maxRecDepth 100000 in
theorem inX8_quiet_8 : ∀ w ∈ wsX80, w ∈ wsX8_quiet := fun _ h => List.mem_cons_of_mem _ (List.mem_append_left _ (List.mem_append_left _ (List.mem_append_right _ h)))
set_option maxRecDepth 100000 in
theorem lkX8_quiet_22 : Cond.fieldLink RX8 22 "BellsBelow" "trial" "LBellsBelow$Hall;" ∈ wsX8_quiet := by decide +kernel
set_option maxRecDepth 100000 in
theorem lkX8_quiet_17 : Cond.fieldLink RX8 17 "BellsBelow" "now" "LBellsBelow$Hall;" ∈ wsX8_quiet := by decide +kernel
set_option maxRecDepth 100000 in
theorem inX8_quiet_1 : ∀ w ∈ wsX10, w ∈ wsX8_quiet := fun _ h => List.mem_cons_of_mem _ (List.mem_append_left _ (List.mem_append_right _ h))
set_option maxRecDepth 100000 in
theorem lkX8_quiet_169 : Cond.fieldLink RX8 169 "BellsBelow$Hall" "rung" "I" ∈ wsX8_quiet := by decide +kernel
set_option maxHeartbeats 4000000 in
set_option maxRecDepth 100000 in
theorem w_X8_quiet_13 {p : Program} {l : Launch} {e : Env} {s : State} {m : MethodId} {args : Array Value} {below : List Frame} {meth : Method} {c : Code} {E : Ev} {ℓ : Mz} {out : Int32 × Ms}   (C : Cx cX8_quiet 2 (some .int) wsX8_quiet RX8 E p s m args meth c) {k13 : Ms → Int32 → Option (Int32 × Ms)} (hk13 : ∀ (σ : Ms) (v1 : Int32) (H : Heap) (locs : List Loc), HI E σ ℓ s H locs → ∀ ls : Array Slot, lv_has ls 2 [(0, .ref (Ea E 0 0)), (1, .int v1)] → k13 σ v1 = some out → W p l e rm_X8_quiet s m args below meth c H locs 0 0 (MQ below (Po E s.heap.size (some (.int out.1)) out.2 ℓ) args s 0 0 (AA E s.heap.size)) (F0 m 13 ls [])) : ∀ (σ : Ms) (v1 : Int32) (H : Heap) (locs : List Loc) (h : HI E σ ℓ s H locs) (ls : Array Slot) (hl : lv_has ls 2 [(0, .ref (Ea E 0 0)), (1, .int v1)]), f_X8_quiet_13  k13 σ v1 = some out → W p l e rm_X8_quiet s m args below meth c H locs 0 0 (MQ below (Po E s.heap.size (some (.int out.1)) out.2 ℓ) args s 0 0 (AA E s.heap.size)) (F0 m 13 ls []) := by
  intro σ v1 H locs h ls hl hf
  unfold f_X8_quiet_13 at hf
  have C0 := C
  obtain ⟨hx, hb, hr, hml, hown, hts, hlk, hK, hSF⟩ := C0
  refine lv_iload_n hx hb dX8_quiet_13 rfl (lv_at hl 1 rfl) ?_
  refine lv_bipush (v := (60 : Int32)) hx hb dX8_quiet_14 (by decide) ?_
  refine lv_icmp_gt (tgt := 45) hx hb dX8_quiet_16 (by decide) (fun c3 => ?_) (fun c3 => ?_)
  · replace hf := it_t c3 hf
    refine lv_bipush (v := (-5 : Int32)) hx hb dX8_quiet_45 (by decide) ?_
    replace hf := Option.some.inj hf
    subst hf
    exact r_ire C h dX8_quiet_47
  replace hf := it_f c3 hf
  refine lv_aload_n hx hb dX8_quiet_19 rfl (lv_at hl 0 rfl) ?_
  refine gf_8_1 C h (rfl : Kd 0 = 8) rfl inX8_quiet_8 lkX8_quiet_22 dX8_quiet_20 ?_
  refine gf_1_13 C h (rfl : Kd 2 = 1) rfl inX8_quiet_1 lkX8_quiet_169 dX8_quiet_23 ?_
  refine lv_if_ne (tgt := 31) hx hb dX8_quiet_26 (by decide) (fun c4 => ?_) (fun c4 => ?_)
  · replace hf := it_f c4 hf
    refine lv_aload_n hx hb dX8_quiet_31 rfl (lv_at hl 0 rfl) ?_
    refine gf_8_1 C h (rfl : Kd 0 = 8) rfl inX8_quiet_8 lkX8_quiet_22 dX8_quiet_32 ?_
    refine lv_iconst (v := (1 : Int32)) hx hb dX8_quiet_35 (by decide) ?_
    obtain ⟨u5, hu5, hf⟩ := bd_use hf
    refine r_cv_1 (rest := []) C h (k_X1_goes (rfl : Kd 2 = 1) rfl (fun _ _ => rfl) hu5) (rfl : Kd 2 = 1) gX8_quiet_X1_goes rfl ⟨rfl, rfl⟩ hdX1_goes ⟨Nat.le_of_ble_eq_true rfl, Nat.le_of_ble_eq_true rfl⟩ ⟨Nat.zero_le _, Nat.zero_le _⟩ hl.1 rfl (Nat.le_of_ble_eq_true rfl) dX8_quiet_36 (fun H locs h => ?_)
    obtain ⟨σ6, eσ6⟩ : ∃ z, z = va_up σ 2 u5 := ⟨_, rfl⟩
    replace hf := lt_use eσ6 hf
    rw [← eσ6] at h
    clear eσ6
    obtain ⟨x7, ex7⟩ : ∃ y : Int32, y = (v1 + (1 : Int32)) := ⟨_, rfl⟩
    refine lv_iinc (v := x7) (lv' := [(1, .int x7), (0, .ref (Ea E 0 0))]) hx hb dX8_quiet_39 hl (k := 1) rfl (by rw [ex7]; rfl) (by decide) rfl (fun ls hl => ?_)
    replace hf := lt_use ex7 hf
    clear ex7
    refine lv_goto (tgt := 13) hx hb dX8_quiet_42 (by decide) ?_
    exact hk13 _ _ _ _ h ls (lv_sub hl [1, 0] rfl) hf
  replace hf := it_t c4 hf
  refine lv_iload_n hx hb dX8_quiet_29 rfl (lv_at hl 1 rfl) ?_
  replace hf := Option.some.inj hf
  subst hf
  exact r_ire C h dX8_quiet_30
set_option maxHeartbeats 4000000 in
set_option maxRecDepth 100000 in
theorem w_X8_quiet_13L {p : Program} {l : Launch} {e : Env} {s : State} {m : MethodId} {args : Array Value} {below : List Frame} {meth : Method} {c : Code} {E : Ev} {ℓ : Mz} {out : Int32 × Ms}   (C : Cx cX8_quiet 2 (some .int) wsX8_quiet RX8 E p s m args meth c)  : ∀ (n9 : Nat) (σ : Ms) (v1 : Int32) (H : Heap) (locs : List Loc) (h : HI E σ ℓ s H locs) (ls : Array Slot) (hl : lv_has ls 2 [(0, .ref (Ea E 0 0)), (1, .int v1)]), f_X8_quiet_13L   n9 σ v1 = some out → W p l e rm_X8_quiet s m args below meth c H locs 0 0 (MQ below (Po E s.heap.size (some (.int out.1)) out.2 ℓ) args s 0 0 (AA E s.heap.size)) (F0 m 13 ls []) := by
  intro n9
  induction n9 with
  | zero =>
    intro σ v1 H locs h ls hl hf
    cases (show (none : Option (Int32 × Ms)) = some out from hf)
  | succ n9 ih =>
    intro σ v1 H locs h ls hl hf
    exact w_X8_quiet_13   C  ih σ v1 H locs h ls hl hf
set_option maxHeartbeats 4000000 in
set_option maxRecDepth 100000 in
theorem w_X8_quiet_0 {p : Program} {l : Launch} {e : Env} {s : State} {m : MethodId} {args : Array Value} {below : List Frame} {meth : Method} {c : Code} {E : Ev} {ℓ : Mz} {out : Int32 × Ms}   (C : Cx cX8_quiet 2 (some .int) wsX8_quiet RX8 E p s m args meth c)  : ∀ (σ : Ms) (H : Heap) (locs : List Loc) (h : HI E σ ℓ s H locs) (ls : Array Slot) (hl : lv_has ls 2 [(0, .ref (Ea E 0 0))]), f_X8_quiet_0   σ = some out → W p l e rm_X8_quiet s m args below meth c H locs 0 0 (MQ below (Po E s.heap.size (some (.int out.1)) out.2 ℓ) args s 0 0 (AA E s.heap.size)) (F0 m 0 ls []) := by
  intro σ H locs h ls hl hf
  unfold f_X8_quiet_0 at hf
  have C0 := C
  obtain ⟨hx, hb, hr, hml, hown, hts, hlk, hK, hSF⟩ := C0
  refine lv_aload_n hx hb dX8_quiet_0 rfl (lv_at hl 0 rfl) ?_
  refine gf_8_1 C h (rfl : Kd 0 = 8) rfl inX8_quiet_8 lkX8_quiet_22 dX8_quiet_1 ?_
  refine lv_aload_n hx hb dX8_quiet_4 rfl (lv_at hl 0 rfl) ?_
  refine gf_8_0 C h (rfl : Kd 0 = 8) rfl inX8_quiet_8 lkX8_quiet_17 dX8_quiet_5 ?_
  obtain ⟨u1, hu1, hf⟩ := bd_use hf
  refine r_cv_1 (rest := []) C h (k_X1_copies (rfl : Kd 2 = 1) (rfl : Kd 1 = 1) (by decide) rfl rfl hu1) (rfl : Kd 2 = 1) gX8_quiet_X1_copies rfl ⟨rfl, rfl⟩ hdX1_copies ⟨Nat.le_of_ble_eq_true rfl, Nat.le_of_ble_eq_true rfl⟩ ⟨Nat.zero_le _, Nat.zero_le _⟩ hl.1 rfl (Nat.le_of_ble_eq_true rfl) dX8_quiet_8 (fun H locs h => ?_)
  obtain ⟨σ2, eσ2⟩ : ∃ z, z = va_up σ 2 u1 := ⟨_, rfl⟩
  replace hf := lt_use eσ2 hf
  rw [← eσ2] at h
  clear eσ2
  refine lv_iconst (v := (0 : Int32)) hx hb dX8_quiet_11 (by decide) ?_
  refine lv_istore_n (lv' := [(1, .int (0 : Int32)), (0, .ref (Ea E 0 0))]) hx hb dX8_quiet_12 rfl hl (by decide) rfl (fun ls hl => ?_)
  exact w_X8_quiet_13L    C  _ _ _ _ _ h ls (lv_sub hl [1, 0] rfl) hf
theorem c_X8_quiet {l : Launch} {E : Ev} {σ : Ms} {ℓ : Mz}  {out : Int32 × Ms} (hf : f_X8_quiet σ = some out) : Ct l yX8_quiet wsX8_quiet rm_X8_quiet [.ref (Ea E 0 0)] E σ ℓ (some (.int out.1)) out.2 ℓ := by
  refine Ct_mk (cc := cX8_quiet) (mL := 2) (ret := (some .int)) (own := RX8) (by decide +kernel) rfl rfl (Nat.le_of_ble_eq_true rfl) (fun p e s m below meth c C h ls hl => ?_)
  exact w_X8_quiet_0  C σ _ _ h ls (lv_sub hl [0] rfl) hf
theorem hdX8_told : yX8_told.cls = RX8 ∧ yX8_told.cls ≠ "java/lang/invoke/MethodHandle" ∧ yX8_told.cls ≠ "java/lang/invoke/VarHandle" ∧ (parseMethodDescriptor yX8_told.desc).map (fun d => d.parameters.length) = some 1 := by decide +kernel
def rm_X8_told : Room := { frames := 7, cells := 0, slots := 0, locals := 198 }
set_option maxRecDepth 100000 in
theorem wdX8_told_Cond_constantLong_RX8_89__10_ : Cond.constantLong RX8 89 (10) ∈ wsX8_told := by decide +kernel
set_option maxRecDepth 100000 in
theorem wdX8_told_Cond_constantLong_RX8_158__20_ : Cond.constantLong RX8 158 (20) ∈ wsX8_told := by decide +kernel
set_option maxRecDepth 100000 in
theorem inX8_told_8 : ∀ w ∈ wsX80, w ∈ wsX8_told := fun _ h => List.mem_cons_of_mem _ (List.mem_append_left _ (List.mem_append_left _ (List.mem_append_right _ h)))
set_option maxRecDepth 100000 in
theorem lkX8_told_17 : Cond.fieldLink RX8 17 "BellsBelow" "now" "LBellsBelow$Hall;" ∈ wsX8_told := by decide +kernel
set_option maxRecDepth 100000 in
theorem inX8_told_1 : ∀ w ∈ wsX10, w ∈ wsX8_told := fun _ h => List.mem_cons_of_mem _ (List.mem_append_left _ (List.mem_append_right _ h))
set_option maxRecDepth 100000 in
theorem lkX8_told_163 : Cond.fieldLink RX8 163 "BellsBelow$Hall" "minute" "I" ∈ wsX8_told := by decide +kernel
set_option maxRecDepth 100000 in
theorem lkX8_told_154 : Cond.fieldLink RX8 154 "BellsBelow$Hall" "holding" "LBellsBelow$House;" ∈ wsX8_told := by decide +kernel
set_option maxRecDepth 100000 in
theorem inX8_told_2 : ∀ w ∈ wsX20, w ∈ wsX8_told := fun _ h => List.mem_cons_of_mem _ (List.mem_append_right _ h)
set_option maxRecDepth 100000 in
theorem lkX8_told_166 : Cond.fieldLink RX8 166 "BellsBelow$House" "rest" "I" ∈ wsX8_told := by decide +kernel
set_option maxRecDepth 100000 in
theorem lkX8_told_169 : Cond.fieldLink RX8 169 "BellsBelow$Hall" "rung" "I" ∈ wsX8_told := by decide +kernel
set_option maxRecDepth 100000 in
theorem lkX8_told_172 : Cond.fieldLink RX8 172 "BellsBelow$Hall" "waited" "I" ∈ wsX8_told := by decide +kernel
set_option maxRecDepth 100000 in
theorem lkX8_told_132 : Cond.fieldLink RX8 132 "BellsBelow$Hall" "wires" "[I" ∈ wsX8_told := by decide +kernel
set_option maxHeartbeats 4000000 in
set_option maxRecDepth 100000 in
theorem w_X8_told_0 {p : Program} {l : Launch} {e : Env} {s : State} {m : MethodId} {args : Array Value} {below : List Frame} {meth : Method} {c : Code} {E : Ev} {ℓ : Mz} {p0 : Int32} {out : Int32 × Ms}   (C : Cx cX8_told 2 (some .int) wsX8_told RX8 E p s m args meth c)  : ∀ (σ : Ms) (H : Heap) (locs : List Loc) (h : HI E σ ℓ s H locs) (ls : Array Slot) (hl : lv_has ls 2 [(0, .ref (Ea E 0 0)), (1, .int p0)]), f_X8_told_0 p0  σ = some out → W p l e rm_X8_told s m args below meth c H locs 0 0 (MQ below (Po E s.heap.size (some (.int out.1)) out.2 ℓ) args s 0 0 (AA E s.heap.size)) (F0 m 0 ls []) := by
  intro σ H locs h ls hl hf
  unfold f_X8_told_0 at hf
  have C0 := C
  obtain ⟨hx, hb, hr, hml, hown, hts, hlk, hK, hSF⟩ := C0
  refine lv_iload_n hx hb dX8_told_0 rfl (lv_at hl 1 rfl) ?_
  refine lv_i2l hx hb dX8_told_1 rfl ?_
  refine lv_ldc2 hx hb hown (hts _ wdX8_told_Cond_constantLong_RX8_89__10_) dX8_told_2 ?_
  refine lv_lsub hx hb dX8_told_5 ?_
  refine lv_bipush (v := (10 : Int32)) hx hb dX8_told_6 (by decide) ?_
  obtain ⟨u1, hu1, hf⟩ := bd_use hf
  refine r_cs (rest := []) C h (c_X8_within  hu1) gX8_told_X8_within rfl ⟨rfl, rfl⟩ hdX8_within ⟨Nat.le_of_ble_eq_true rfl, Nat.le_of_ble_eq_true rfl⟩ ⟨Nat.zero_le _, Nat.zero_le _⟩ hl.1 rfl (Nat.le_of_ble_eq_true rfl) dX8_told_8 (fun H locs h => ?_)
  refine lv_if_eq (tgt := 27) hx hb dX8_told_11 (by decide) (fun c2 => ?_) (fun c2 => ?_)
  · replace hf := it_t c2 hf
    refine lv_iload_n hx hb dX8_told_27 rfl (lv_at hl 1 rfl) ?_
    refine lv_i2l hx hb dX8_told_28 rfl ?_
    refine lv_ldc2 hx hb hown (hts _ wdX8_told_Cond_constantLong_RX8_158__20_) dX8_told_29 ?_
    refine lv_lsub hx hb dX8_told_32 ?_
    refine lv_bipush (v := (10 : Int32)) hx hb dX8_told_33 (by decide) ?_
    obtain ⟨u3, hu3, hf⟩ := bd_use hf
    refine r_cs (rest := []) C h (c_X8_within  hu3) gX8_told_X8_within rfl ⟨rfl, rfl⟩ hdX8_within ⟨Nat.le_of_ble_eq_true rfl, Nat.le_of_ble_eq_true rfl⟩ ⟨Nat.zero_le _, Nat.zero_le _⟩ hl.1 rfl (Nat.le_of_ble_eq_true rfl) dX8_told_35 (fun H locs h => ?_)
    refine lv_if_eq (tgt := 53) hx hb dX8_told_38 (by decide) (fun c4 => ?_) (fun c4 => ?_)
    · replace hf := it_t c4 hf
      refine lv_iload_n hx hb dX8_told_53 rfl (lv_at hl 1 rfl) ?_
      by_cases c5 : p0 = (0 : Int32)
      · replace hf := it_t c5 hf
        refine r_tin (v := (0 : Int32)) (off := 42) (tgt := 96) hx hb c5 dX8_told_54 (by decide) (by decide) (by decide) (by decide) ?_
        refine lv_aload_n hx hb dX8_told_96 rfl (lv_at hl 0 rfl) ?_
        refine gf_8_0 C h (rfl : Kd 0 = 8) rfl inX8_told_8 lkX8_told_17 dX8_told_97 ?_
        refine gf_1_15 C h (rfl : Kd 1 = 1) rfl inX8_told_1 lkX8_told_163 dX8_told_100 ?_
        replace hf := Option.some.inj hf
        subst hf
        exact r_ire C h dX8_told_103
      replace hf := it_f c5 hf
      by_cases c6 : p0 = (1 : Int32)
      · replace hf := it_t c6 hf
        refine r_tin (v := (1 : Int32)) (off := 50) (tgt := 104) hx hb c6 dX8_told_54 (by decide) (by decide) (by decide) (by decide) ?_
        refine lv_aload_n hx hb dX8_told_104 rfl (lv_at hl 0 rfl) ?_
        refine gf_8_0 C h (rfl : Kd 0 = 8) rfl inX8_told_8 lkX8_told_17 dX8_told_105 ?_
        refine gf_1_16 C h (rfl : Kd 1 = 1) rfl inX8_told_1 lkX8_told_154 dX8_told_108 ?_
        by_cases c7 : ((σ 1) 16 0) = 0
        · replace hf := it_t c7 hf
          refine r_top (hr_0 c7) ?_
          refine lv_ifnonnullN hx hb dX8_told_111 ?_
          refine lv_iconst (v := (2 : Int32)) hx hb dX8_told_114 (by decide) ?_
          refine lv_goto (tgt := 128) hx hb dX8_told_115 (by decide) ?_
          replace hf := Option.some.inj hf
          subst hf
          exact r_ire C h dX8_told_128
        replace hf := it_f c7 hf
        obtain ⟨g8, hf⟩ := gd_use hf
        refine r_top (hr_nn g8) ?_
        refine lv_ifnonnull (tgt := 118) hx hb dX8_told_111 (by decide) ?_
        refine lv_aload_n hx hb dX8_told_118 rfl (lv_at hl 0 rfl) ?_
        refine gf_8_0 C h (rfl : Kd 0 = 8) rfl inX8_told_8 lkX8_told_17 dX8_told_119 ?_
        refine gf_1_16 C h (rfl : Kd 1 = 1) rfl inX8_told_1 lkX8_told_154 dX8_told_122 ?_
        obtain ⟨g9, hf⟩ := gd_use hf
        refine r_top (hr_nn g9) ?_
        refine gf_2_2 C h (inH_k g9) rfl inX8_told_2 lkX8_told_166 dX8_told_125 ?_
        replace hf := Option.some.inj hf
        subst hf
        exact r_ire C h dX8_told_128
      replace hf := it_f c6 hf
      by_cases c10 : p0 = (2 : Int32)
      · replace hf := it_t c10 hf
        refine r_tin (v := (2 : Int32)) (off := 75) (tgt := 129) hx hb c10 dX8_told_54 (by decide) (by decide) (by decide) (by decide) ?_
        refine lv_aload_n hx hb dX8_told_129 rfl (lv_at hl 0 rfl) ?_
        refine gf_8_0 C h (rfl : Kd 0 = 8) rfl inX8_told_8 lkX8_told_17 dX8_told_130 ?_
        refine gf_1_13 C h (rfl : Kd 1 = 1) rfl inX8_told_1 lkX8_told_169 dX8_told_133 ?_
        replace hf := Option.some.inj hf
        subst hf
        exact r_ire C h dX8_told_136
      replace hf := it_f c10 hf
      by_cases c11 : p0 = (3 : Int32)
      · replace hf := it_t c11 hf
        refine r_tin (v := (3 : Int32)) (off := 83) (tgt := 137) hx hb c11 dX8_told_54 (by decide) (by decide) (by decide) (by decide) ?_
        refine lv_aload_n hx hb dX8_told_137 rfl (lv_at hl 0 rfl) ?_
        refine gf_8_0 C h (rfl : Kd 0 = 8) rfl inX8_told_8 lkX8_told_17 dX8_told_138 ?_
        refine gf_1_14 C h (rfl : Kd 1 = 1) rfl inX8_told_1 lkX8_told_172 dX8_told_141 ?_
        replace hf := Option.some.inj hf
        subst hf
        exact r_ire C h dX8_told_144
      replace hf := it_f c11 hf
      by_cases c12 : p0 = (4 : Int32)
      · replace hf := it_t c12 hf
        refine r_tin (v := (4 : Int32)) (off := 91) (tgt := 145) hx hb c12 dX8_told_54 (by decide) (by decide) (by decide) (by decide) ?_
        refine lv_aload_n hx hb dX8_told_145 rfl (lv_at hl 0 rfl) ?_
        obtain ⟨u13, hu13, hf⟩ := bd_use hf
        refine r_cv_8 (rest := []) C h (c_X8_quiet  hu13) (rfl : Kd 0 = 8) gX8_told_X8_quiet rfl ⟨rfl, rfl⟩ hdX8_quiet ⟨Nat.le_of_ble_eq_true rfl, Nat.le_of_ble_eq_true rfl⟩ ⟨Nat.zero_le _, Nat.zero_le _⟩ hl.1 rfl (Nat.le_of_ble_eq_true rfl) dX8_told_146 (fun H locs h => ?_)
        replace hf := Option.some.inj hf
        subst hf
        exact r_ire C h dX8_told_149
      replace hf := it_f c12 hf
      by_cases c14 : p0 = (5 : Int32)
      · replace hf := it_t c14 hf
        refine r_tin (v := (5 : Int32)) (off := 96) (tgt := 150) hx hb c14 dX8_told_54 (by decide) (by decide) (by decide) (by decide) ?_
        refine lv_aload_n hx hb dX8_told_150 rfl (lv_at hl 0 rfl) ?_
        refine gf_8_0 C h (rfl : Kd 0 = 8) rfl inX8_told_8 lkX8_told_17 dX8_told_151 ?_
        obtain ⟨u15, hu15, hf⟩ := bd_use hf
        refine r_cv_1 (rest := []) C h (c_X1_crossings (rfl : Kd 1 = 1) rfl hu15) (rfl : Kd 1 = 1) gX8_told_X1_crossings rfl ⟨rfl, rfl⟩ hdX1_crossings ⟨Nat.le_of_ble_eq_true rfl, Nat.le_of_ble_eq_true rfl⟩ ⟨Nat.zero_le _, Nat.zero_le _⟩ hl.1 rfl (Nat.le_of_ble_eq_true rfl) dX8_told_154 (fun H locs h => ?_)
        replace hf := Option.some.inj hf
        subst hf
        exact r_ire C h dX8_told_157
      replace hf := it_f c14 hf
      by_cases c16 : p0 = (6 : Int32)
      · replace hf := it_t c16 hf
        refine r_tin (v := (6 : Int32)) (off := 104) (tgt := 158) hx hb c16 dX8_told_54 (by decide) (by decide) (by decide) (by decide) ?_
        refine lv_aload_n hx hb dX8_told_158 rfl (lv_at hl 0 rfl) ?_
        refine gf_8_0 C h (rfl : Kd 0 = 8) rfl inX8_told_8 lkX8_told_17 dX8_told_159 ?_
        obtain ⟨u17, hu17, hf⟩ := bd_use hf
        refine r_cv_1 (rest := []) C h (c_X1_firstCrossed (rfl : Kd 1 = 1) rfl hu17) (rfl : Kd 1 = 1) gX8_told_X1_firstCrossed rfl ⟨rfl, rfl⟩ hdX1_firstCrossed ⟨Nat.le_of_ble_eq_true rfl, Nat.le_of_ble_eq_true rfl⟩ ⟨Nat.zero_le _, Nat.zero_le _⟩ hl.1 rfl (Nat.le_of_ble_eq_true rfl) dX8_told_162 (fun H locs h => ?_)
        replace hf := Option.some.inj hf
        subst hf
        exact r_ire C h dX8_told_165
      replace hf := it_f c16 hf
      refine lv_tableOut (tgt := 166) hx hb dX8_told_54 (tsw_out [0, 1, 2, 3, 4, 5, 6] (List.forall_mem_cons.mpr ⟨c5, (List.forall_mem_cons.mpr ⟨c6, (List.forall_mem_cons.mpr ⟨c10, (List.forall_mem_cons.mpr ⟨c11, (List.forall_mem_cons.mpr ⟨c12, (List.forall_mem_cons.mpr ⟨c14, (List.forall_mem_cons.mpr ⟨c16, (fun _ h => absurd h List.not_mem_nil)⟩)⟩)⟩)⟩)⟩)⟩)⟩) rfl) (by decide) ?_
      refine lv_iconst (v := (-1 : Int32)) hx hb dX8_told_166 (by decide) ?_
      replace hf := Option.some.inj hf
      subst hf
      exact r_ire C h dX8_told_167
    replace hf := it_f c4 hf
    refine lv_aload_n hx hb dX8_told_41 rfl (lv_at hl 0 rfl) ?_
    refine gf_8_0 C h (rfl : Kd 0 = 8) rfl inX8_told_8 lkX8_told_17 dX8_told_42 ?_
    refine lv_iload_n hx hb dX8_told_45 rfl (lv_at hl 1 rfl) ?_
    refine lv_bipush (v := (20 : Int32)) hx hb dX8_told_46 (by decide) ?_
    refine lv_isub hx hb dX8_told_48 ?_
    obtain ⟨u18, hu18, hf⟩ := bd_use hf
    refine r_cv_1 (rest := []) C h (c_X1_loop (rfl : Kd 1 = 1) rfl hu18) (rfl : Kd 1 = 1) gX8_told_X1_loop rfl ⟨rfl, rfl⟩ hdX1_loop ⟨Nat.le_of_ble_eq_true rfl, Nat.le_of_ble_eq_true rfl⟩ ⟨Nat.zero_le _, Nat.zero_le _⟩ hl.1 rfl (Nat.le_of_ble_eq_true rfl) dX8_told_49 (fun H locs h => ?_)
    replace hf := Option.some.inj hf
    subst hf
    exact r_ire C h dX8_told_52
  replace hf := it_f c2 hf
  refine lv_aload_n hx hb dX8_told_14 rfl (lv_at hl 0 rfl) ?_
  refine gf_8_0 C h (rfl : Kd 0 = 8) rfl inX8_told_8 lkX8_told_17 dX8_told_15 ?_
  refine gf_1_10 C h (rfl : Kd 1 = 1) rfl inX8_told_1 lkX8_told_132 dX8_told_18 ?_
  refine lv_iload_n hx hb dX8_told_21 rfl (lv_at hl 1 rfl) ?_
  refine lv_bipush (v := (10 : Int32)) hx hb dX8_told_22 (by decide) ?_
  refine lv_isub hx hb dX8_told_24 ?_
  obtain ⟨g19, hf⟩ := gd_use hf
  refine ld_1_9 C h (rfl : Kd 1 = 1) rfl (inB_in g19) dX8_told_25 ?_
  replace hf := Option.some.inj hf
  subst hf
  exact r_ire C h dX8_told_26
theorem c_X8_told {l : Launch} {E : Ev} {σ : Ms} {ℓ : Mz} {p0 : Int32} {out : Int32 × Ms} (hf : f_X8_told σ p0 = some out) : Ct l yX8_told wsX8_told rm_X8_told [.ref (Ea E 0 0), .int p0] E σ ℓ (some (.int out.1)) out.2 ℓ := by
  refine Ct_mk (cc := cX8_told) (mL := 2) (ret := (some .int)) (own := RX8) (by decide +kernel) rfl rfl (Nat.le_of_ble_eq_true rfl) (fun p e s m below meth c C h ls hl => ?_)
  exact w_X8_told_0  C σ _ _ h ls (lv_sub hl [0, 1] rfl) hf
theorem hdX8_pass : yX8_pass.cls = RX8 ∧ yX8_pass.cls ≠ "java/lang/invoke/MethodHandle" ∧ yX8_pass.cls ≠ "java/lang/invoke/VarHandle" ∧ (parseMethodDescriptor yX8_pass.desc).map (fun d => d.parameters.length) = some 1 := by decide +kernel
def rm_X8_pass : Room := { frames := 6, cells := 0, slots := 0, locals := 177 }
set_option maxRecDepth 100000 in
theorem inX8_pass_8 : ∀ w ∈ wsX80, w ∈ wsX8_pass := fun _ h => List.mem_cons_of_mem _ (List.mem_append_left _ (List.mem_append_left _ (List.mem_append_right _ h)))
set_option maxRecDepth 100000 in
theorem lkX8_pass_17 : Cond.fieldLink RX8 17 "BellsBelow" "now" "LBellsBelow$Hall;" ∈ wsX8_pass := by decide +kernel
set_option maxRecDepth 100000 in
theorem inX8_pass_1 : ∀ w ∈ wsX10, w ∈ wsX8_pass := fun _ h => List.mem_cons_of_mem _ (List.mem_append_left _ (List.mem_append_right _ h))
set_option maxRecDepth 100000 in
theorem lkX8_pass_163 : Cond.fieldLink RX8 163 "BellsBelow$Hall" "minute" "I" ∈ wsX8_pass := by decide +kernel
set_option maxHeartbeats 4000000 in
set_option maxRecDepth 100000 in
theorem w_X8_pass_0 {p : Program} {l : Launch} {e : Env} {s : State} {m : MethodId} {args : Array Value} {below : List Frame} {meth : Method} {c : Code} {E : Ev} {ℓ : Mz} {p0 : Int32} {out : Int32 × Ms}   (C : Cx cX8_pass 2 (some .int) wsX8_pass RX8 E p s m args meth c)  : ∀ (σ : Ms) (H : Heap) (locs : List Loc) (h : HI E σ ℓ s H locs) (ls : Array Slot) (hl : lv_has ls 2 [(0, .ref (Ea E 0 0)), (1, .int p0)]), f_X8_pass_0 p0  σ = some out → W p l e rm_X8_pass s m args below meth c H locs 0 0 (MQ below (Po E s.heap.size (some (.int out.1)) out.2 ℓ) args s 0 0 (AA E s.heap.size)) (F0 m 0 ls []) := by
  intro σ H locs h ls hl hf
  unfold f_X8_pass_0 at hf
  have C0 := C
  obtain ⟨hx, hb, hr, hml, hown, hts, hlk, hK, hSF⟩ := C0
  refine lv_iload_n hx hb dX8_pass_0 rfl (lv_at hl 1 rfl) ?_
  refine lv_i2l hx hb dX8_pass_1 rfl ?_
  refine lv_bipush (v := (61 : Int32)) hx hb dX8_pass_2 (by decide) ?_
  obtain ⟨u1, hu1, hf⟩ := bd_use hf
  refine r_cs (rest := []) C h (c_X8_within  hu1) gX8_pass_X8_within rfl ⟨rfl, rfl⟩ hdX8_within ⟨Nat.le_of_ble_eq_true rfl, Nat.le_of_ble_eq_true rfl⟩ ⟨Nat.zero_le _, Nat.zero_le _⟩ hl.1 rfl (Nat.le_of_ble_eq_true rfl) dX8_pass_4 (fun H locs h => ?_)
  refine lv_if_ne (tgt := 13) hx hb dX8_pass_7 (by decide) (fun c2 => ?_) (fun c2 => ?_)
  · replace hf := it_f c2 hf
    refine lv_aload_n hx hb dX8_pass_13 rfl (lv_at hl 0 rfl) ?_
    refine gf_8_0 C h (rfl : Kd 0 = 8) rfl inX8_pass_8 lkX8_pass_17 dX8_pass_14 ?_
    refine gf_1_15 C h (rfl : Kd 1 = 1) rfl inX8_pass_1 lkX8_pass_163 dX8_pass_17 ?_
    refine lv_iload_n hx hb dX8_pass_20 rfl (lv_at hl 1 rfl) ?_
    refine lv_iadd hx hb dX8_pass_21 ?_
    refine lv_sipush (v := (9999 : Int32)) hx hb dX8_pass_22 (by decide) ?_
    refine lv_icmp_le (tgt := 31) hx hb dX8_pass_25 (by decide) (fun c3 => ?_) (fun c3 => ?_)
    · replace hf := it_t c3 hf
      refine lv_aload_n hx hb dX8_pass_31 rfl (lv_at hl 0 rfl) ?_
      refine gf_8_0 C h (rfl : Kd 0 = 8) rfl inX8_pass_8 lkX8_pass_17 dX8_pass_32 ?_
      refine lv_iload_n hx hb dX8_pass_35 rfl (lv_at hl 1 rfl) ?_
      obtain ⟨u4, hu4, hf⟩ := bd_use hf
      refine r_cv_1 (rest := []) C h (k_X1_goes (rfl : Kd 1 = 1) rfl (fun _ _ => rfl) hu4) (rfl : Kd 1 = 1) gX8_pass_X1_goes rfl ⟨rfl, rfl⟩ hdX1_goes ⟨Nat.le_of_ble_eq_true rfl, Nat.le_of_ble_eq_true rfl⟩ ⟨Nat.zero_le _, Nat.zero_le _⟩ hl.1 rfl (Nat.le_of_ble_eq_true rfl) dX8_pass_36 (fun H locs h => ?_)
      obtain ⟨σ5, eσ5⟩ : ∃ z, z = va_up σ 1 u4 := ⟨_, rfl⟩
      replace hf := lt_use eσ5 hf
      rw [← eσ5] at h
      clear eσ5
      refine lv_aload_n hx hb dX8_pass_39 rfl (lv_at hl 0 rfl) ?_
      refine gf_8_0 C h (rfl : Kd 0 = 8) rfl inX8_pass_8 lkX8_pass_17 dX8_pass_40 ?_
      refine gf_1_15 C h (rfl : Kd 1 = 1) rfl inX8_pass_1 lkX8_pass_163 dX8_pass_43 ?_
      replace hf := Option.some.inj hf
      subst hf
      exact r_ire C h dX8_pass_46
    replace hf := it_f c3 hf
    refine lv_bipush (v := (-3 : Int32)) hx hb dX8_pass_28 (by decide) ?_
    replace hf := Option.some.inj hf
    subst hf
    exact r_ire C h dX8_pass_30
  replace hf := it_t c2 hf
  refine lv_bipush (v := (-2 : Int32)) hx hb dX8_pass_10 (by decide) ?_
  replace hf := Option.some.inj hf
  subst hf
  exact r_ire C h dX8_pass_12
theorem c_X8_pass {l : Launch} {E : Ev} {σ : Ms} {ℓ : Mz} {p0 : Int32} {out : Int32 × Ms} (hf : f_X8_pass σ p0 = some out) : Ct l yX8_pass wsX8_pass rm_X8_pass [.ref (Ea E 0 0), .int p0] E σ ℓ (some (.int out.1)) out.2 ℓ := by
  refine Ct_mk (cc := cX8_pass) (mL := 2) (ret := (some .int)) (own := RX8) (by decide +kernel) rfl rfl (Nat.le_of_ble_eq_true rfl) (fun p e s m below meth c C h ls hl => ?_)
  exact w_X8_pass_0  C σ _ _ h ls (lv_sub hl [0, 1] rfl) hf
theorem hdX8_on : yX8_on.cls = RX8 ∧ yX8_on.cls ≠ "java/lang/invoke/MethodHandle" ∧ yX8_on.cls ≠ "java/lang/invoke/VarHandle" ∧ (parseMethodDescriptor yX8_on.desc).map (fun d => d.parameters.length) = some 2 := by decide +kernel
def rm_X8_on : Room := { frames := 6, cells := 0, slots := 0, locals := 177 }
set_option maxRecDepth 100000 in
theorem wdX8_on_Cond_constantLong_RX8_89__10_ : Cond.constantLong RX8 89 (10) ∈ wsX8_on := by decide +kernel
set_option maxRecDepth 100000 in
theorem wdX8_on_Cond_constantLong_RX8_158__20_ : Cond.constantLong RX8 158 (20) ∈ wsX8_on := by decide +kernel
set_option maxRecDepth 100000 in
theorem inX8_on_8 : ∀ w ∈ wsX80, w ∈ wsX8_on := fun _ h => List.mem_cons_of_mem _ (List.mem_append_left _ (List.mem_append_left _ (List.mem_append_right _ h)))
set_option maxRecDepth 100000 in
theorem lkX8_on_22 : Cond.fieldLink RX8 22 "BellsBelow" "trial" "LBellsBelow$Hall;" ∈ wsX8_on := by decide +kernel
set_option maxRecDepth 100000 in
theorem lkX8_on_17 : Cond.fieldLink RX8 17 "BellsBelow" "now" "LBellsBelow$Hall;" ∈ wsX8_on := by decide +kernel
set_option maxRecDepth 100000 in
theorem inX8_on_1 : ∀ w ∈ wsX10, w ∈ wsX8_on := fun _ h => List.mem_cons_of_mem _ (List.mem_append_left _ (List.mem_append_right _ h))
set_option maxRecDepth 100000 in
theorem lkX8_on_172 : Cond.fieldLink RX8 172 "BellsBelow$Hall" "waited" "I" ∈ wsX8_on := by decide +kernel
set_option maxRecDepth 100000 in
theorem lkX8_on_169 : Cond.fieldLink RX8 169 "BellsBelow$Hall" "rung" "I" ∈ wsX8_on := by decide +kernel
set_option maxRecDepth 100000 in
theorem lkX8_on_105 : Cond.fieldLink RX8 105 "BellsBelow$Hall" "goal" "[I" ∈ wsX8_on := by decide +kernel
set_option maxRecDepth 100000 in
theorem lkX8_on_102 : Cond.fieldLink RX8 102 "BellsBelow$Hall" "floor" "[I" ∈ wsX8_on := by decide +kernel
set_option maxHeartbeats 4000000 in
set_option maxRecDepth 100000 in
theorem w_X8_on_43 {p : Program} {l : Launch} {e : Env} {s : State} {m : MethodId} {args : Array Value} {below : List Frame} {meth : Method} {c : Code} {E : Ev} {ℓ : Mz} {p0 : Int32} {p1 : Int32} {out : Int32 × Ms}   (C : Cx cX8_on 5 (some .int) wsX8_on RX8 E p s m args meth c)  : ∀ (σ : Ms) (v3 : Int32) (v4 : Int32) (H : Heap) (locs : List Loc) (h : HI E σ ℓ s H locs) (ls : Array Slot) (hl : lv_has ls 5 [(0, .ref (Ea E 0 0)), (1, .int p0), (2, .int p1), (3, .int v3), (4, .int v4)]), f_X8_on_43 p0 p1  σ v3 v4 = some out → W p l e rm_X8_on s m args below meth c H locs 0 0 (MQ below (Po E s.heap.size (some (.int out.1)) out.2 ℓ) args s 0 0 (AA E s.heap.size)) (F0 m 43 ls []) := by
  intro σ v3 v4 H locs h ls hl hf
  unfold f_X8_on_43 at hf
  have C0 := C
  obtain ⟨hx, hb, hr, hml, hown, hts, hlk, hK, hSF⟩ := C0
  refine lv_iload_n hx hb dX8_on_43 rfl (lv_at hl 1 rfl) ?_
  refine lv_i2l hx hb dX8_on_44 rfl ?_
  refine lv_bipush (v := (61 : Int32)) hx hb dX8_on_45 (by decide) ?_
  obtain ⟨u5, hu5, hf⟩ := bd_use hf
  refine r_cs (rest := []) C h (c_X8_within  hu5) gX8_on_X8_within rfl ⟨rfl, rfl⟩ hdX8_within ⟨Nat.le_of_ble_eq_true rfl, Nat.le_of_ble_eq_true rfl⟩ ⟨Nat.zero_le _, Nat.zero_le _⟩ hl.1 rfl (Nat.le_of_ble_eq_true rfl) dX8_on_47 (fun H locs h => ?_)
  refine lv_if_ne (tgt := 56) hx hb dX8_on_50 (by decide) (fun c6 => ?_) (fun c6 => ?_)
  · replace hf := it_f c6 hf
    refine lv_aload_n hx hb dX8_on_56 rfl (lv_at hl 0 rfl) ?_
    refine gf_8_1 C h (rfl : Kd 0 = 8) rfl inX8_on_8 lkX8_on_22 dX8_on_57 ?_
    refine lv_aload_n hx hb dX8_on_60 rfl (lv_at hl 0 rfl) ?_
    refine gf_8_0 C h (rfl : Kd 0 = 8) rfl inX8_on_8 lkX8_on_17 dX8_on_61 ?_
    obtain ⟨u7, hu7, hf⟩ := bd_use hf
    refine r_cv_1 (rest := []) C h (k_X1_copies (rfl : Kd 2 = 1) (rfl : Kd 1 = 1) (by decide) rfl rfl hu7) (rfl : Kd 2 = 1) gX8_on_X1_copies rfl ⟨rfl, rfl⟩ hdX1_copies ⟨Nat.le_of_ble_eq_true rfl, Nat.le_of_ble_eq_true rfl⟩ ⟨Nat.zero_le _, Nat.zero_le _⟩ hl.1 rfl (Nat.le_of_ble_eq_true rfl) dX8_on_64 (fun H locs h => ?_)
    obtain ⟨σ8, eσ8⟩ : ∃ z, z = va_up σ 2 u7 := ⟨_, rfl⟩
    replace hf := lt_use eσ8 hf
    rw [← eσ8] at h
    clear eσ8
    refine lv_aload_n hx hb dX8_on_67 rfl (lv_at hl 0 rfl) ?_
    refine gf_8_1 C h (rfl : Kd 0 = 8) rfl inX8_on_8 lkX8_on_22 dX8_on_68 ?_
    refine lv_iload_n hx hb dX8_on_71 rfl (lv_at hl 1 rfl) ?_
    obtain ⟨u9, hu9, hf⟩ := bd_use hf
    refine r_cv_1 (rest := []) C h (k_X1_goes (rfl : Kd 2 = 1) rfl (fun _ _ => rfl) hu9) (rfl : Kd 2 = 1) gX8_on_X1_goes rfl ⟨rfl, rfl⟩ hdX1_goes ⟨Nat.le_of_ble_eq_true rfl, Nat.le_of_ble_eq_true rfl⟩ ⟨Nat.zero_le _, Nat.zero_le _⟩ hl.1 rfl (Nat.le_of_ble_eq_true rfl) dX8_on_72 (fun H locs h => ?_)
    obtain ⟨σ10, eσ10⟩ : ∃ z, z = va_up σ8 2 u9 := ⟨_, rfl⟩
    replace hf := lt_use eσ10 hf
    rw [← eσ10] at h
    clear eσ10
    refine lv_iload_n hx hb dX8_on_75 rfl (lv_at hl 3 rfl) ?_
    refine lv_if_eq (tgt := 92) hx hb dX8_on_76 (by decide) (fun c11 => ?_) (fun c11 => ?_)
    · replace hf := it_t c11 hf
      refine lv_iload hx hb dX8_on_92 (lv_at hl 4 rfl) ?_
      refine lv_if_eq (tgt := 110) hx hb dX8_on_94 (by decide) (fun c12 => ?_) (fun c12 => ?_)
      · replace hf := it_t c12 hf
        refine lv_iload_n hx hb dX8_on_110 rfl (lv_at hl 2 rfl) ?_
        refine lv_if_ne (tgt := 124) hx hb dX8_on_111 (by decide) (fun c13 => ?_) (fun c13 => ?_)
        · replace hf := it_f c13 hf
          refine lv_aload_n hx hb dX8_on_124 rfl (lv_at hl 0 rfl) ?_
          refine gf_8_1 C h (rfl : Kd 0 = 8) rfl inX8_on_8 lkX8_on_22 dX8_on_125 ?_
          refine gf_1_14 C h (rfl : Kd 2 = 1) rfl inX8_on_1 lkX8_on_172 dX8_on_128 ?_
          replace hf := Option.some.inj hf
          subst hf
          exact r_ire C h dX8_on_131
        replace hf := it_t c13 hf
        refine lv_aload_n hx hb dX8_on_114 rfl (lv_at hl 0 rfl) ?_
        refine gf_8_1 C h (rfl : Kd 0 = 8) rfl inX8_on_8 lkX8_on_22 dX8_on_115 ?_
        refine gf_1_13 C h (rfl : Kd 2 = 1) rfl inX8_on_1 lkX8_on_169 dX8_on_118 ?_
        refine lv_goto (tgt := 131) hx hb dX8_on_121 (by decide) ?_
        replace hf := Option.some.inj hf
        subst hf
        exact r_ire C h dX8_on_131
      replace hf := it_f c12 hf
      refine lv_aload_n hx hb dX8_on_97 rfl (lv_at hl 0 rfl) ?_
      refine gf_8_1 C h (rfl : Kd 0 = 8) rfl inX8_on_8 lkX8_on_22 dX8_on_98 ?_
      refine gf_1_5 C h (rfl : Kd 2 = 1) rfl inX8_on_1 lkX8_on_105 dX8_on_101 ?_
      refine lv_iload_n hx hb dX8_on_104 rfl (lv_at hl 2 rfl) ?_
      refine lv_bipush (v := (20 : Int32)) hx hb dX8_on_105 (by decide) ?_
      refine lv_isub hx hb dX8_on_107 ?_
      obtain ⟨g14, hf⟩ := gd_use hf
      refine ld_1_4 C h (rfl : Kd 2 = 1) rfl (inB_in g14) dX8_on_108 ?_
      replace hf := Option.some.inj hf
      subst hf
      exact r_ire C h dX8_on_109
    replace hf := it_f c11 hf
    refine lv_aload_n hx hb dX8_on_79 rfl (lv_at hl 0 rfl) ?_
    refine gf_8_1 C h (rfl : Kd 0 = 8) rfl inX8_on_8 lkX8_on_22 dX8_on_80 ?_
    refine gf_1_4 C h (rfl : Kd 2 = 1) rfl inX8_on_1 lkX8_on_102 dX8_on_83 ?_
    refine lv_iload_n hx hb dX8_on_86 rfl (lv_at hl 2 rfl) ?_
    refine lv_bipush (v := (10 : Int32)) hx hb dX8_on_87 (by decide) ?_
    refine lv_isub hx hb dX8_on_89 ?_
    obtain ⟨g15, hf⟩ := gd_use hf
    refine ld_1_3 C h (rfl : Kd 2 = 1) rfl (inB_in g15) dX8_on_90 ?_
    replace hf := Option.some.inj hf
    subst hf
    exact r_ire C h dX8_on_91
  replace hf := it_t c6 hf
  refine lv_bipush (v := (-2 : Int32)) hx hb dX8_on_53 (by decide) ?_
  replace hf := Option.some.inj hf
  subst hf
  exact r_ire C h dX8_on_55
set_option maxHeartbeats 4000000 in
set_option maxRecDepth 100000 in
theorem w_X8_on_0 {p : Program} {l : Launch} {e : Env} {s : State} {m : MethodId} {args : Array Value} {below : List Frame} {meth : Method} {c : Code} {E : Ev} {ℓ : Mz} {p0 : Int32} {p1 : Int32} {out : Int32 × Ms}   (C : Cx cX8_on 5 (some .int) wsX8_on RX8 E p s m args meth c)  : ∀ (σ : Ms) (H : Heap) (locs : List Loc) (h : HI E σ ℓ s H locs) (ls : Array Slot) (hl : lv_has ls 5 [(0, .ref (Ea E 0 0)), (1, .int p0), (2, .int p1)]), f_X8_on_0 p0 p1  σ = some out → W p l e rm_X8_on s m args below meth c H locs 0 0 (MQ below (Po E s.heap.size (some (.int out.1)) out.2 ℓ) args s 0 0 (AA E s.heap.size)) (F0 m 0 ls []) := by
  intro σ H locs h ls hl hf
  unfold f_X8_on_0 at hf
  have C0 := C
  obtain ⟨hx, hb, hr, hml, hown, hts, hlk, hK, hSF⟩ := C0
  refine lv_aload_n hx hb dX8_on_0 rfl (lv_at hl 0 rfl) ?_
  refine lv_iload_n hx hb dX8_on_1 rfl (lv_at hl 2 rfl) ?_
  refine lv_i2l hx hb dX8_on_2 rfl ?_
  refine lv_ldc2 hx hb hown (hts _ wdX8_on_Cond_constantLong_RX8_89__10_) dX8_on_3 ?_
  refine lv_lsub hx hb dX8_on_6 ?_
  obtain ⟨u1, hu1, hf⟩ := bd_use hf
  refine r_cv_8 (rest := []) C h (c_X8_isMaster  hu1) (rfl : Kd 0 = 8) gX8_on_X8_isMaster rfl ⟨rfl, rfl⟩ hdX8_isMaster ⟨Nat.le_of_ble_eq_true rfl, Nat.le_of_ble_eq_true rfl⟩ ⟨Nat.zero_le _, Nat.zero_le _⟩ hl.1 rfl (Nat.le_of_ble_eq_true rfl) dX8_on_7 (fun H locs h => ?_)
  refine lv_istore_n (lv' := [(3, .int u1), (0, .ref (Ea E 0 0)), (1, .int p0), (2, .int p1)]) hx hb dX8_on_10 rfl hl (by decide) rfl (fun ls hl => ?_)
  refine lv_aload_n hx hb dX8_on_11 rfl (lv_at hl 1 rfl) ?_
  refine lv_iload_n hx hb dX8_on_12 rfl (lv_at hl 3 rfl) ?_
  refine lv_i2l hx hb dX8_on_13 rfl ?_
  refine lv_ldc2 hx hb hown (hts _ wdX8_on_Cond_constantLong_RX8_158__20_) dX8_on_14 ?_
  refine lv_lsub hx hb dX8_on_17 ?_
  obtain ⟨u2, hu2, hf⟩ := bd_use hf
  refine r_cv_8 (rest := []) C h (c_X8_isMaster  hu2) (rfl : Kd 0 = 8) gX8_on_X8_isMaster rfl ⟨rfl, rfl⟩ hdX8_isMaster ⟨Nat.le_of_ble_eq_true rfl, Nat.le_of_ble_eq_true rfl⟩ ⟨Nat.zero_le _, Nat.zero_le _⟩ hl.1 rfl (Nat.le_of_ble_eq_true rfl) dX8_on_18 (fun H locs h => ?_)
  refine lv_istore (lv' := [(4, .int u2), (3, .int u1), (0, .ref (Ea E 0 0)), (1, .int p0), (2, .int p1)]) hx hb dX8_on_21 hl (by decide) rfl (fun ls hl => ?_)
  refine lv_iload_n hx hb dX8_on_23 rfl (lv_at hl 4 rfl) ?_
  refine lv_i2l hx hb dX8_on_24 rfl ?_
  refine lv_iconst (v := (2 : Int32)) hx hb dX8_on_25 (by decide) ?_
  obtain ⟨u3, hu3, hf⟩ := bd_use hf
  refine r_cs (rest := []) C h (c_X8_within  hu3) gX8_on_X8_within rfl ⟨rfl, rfl⟩ hdX8_within ⟨Nat.le_of_ble_eq_true rfl, Nat.le_of_ble_eq_true rfl⟩ ⟨Nat.zero_le _, Nat.zero_le _⟩ hl.1 rfl (Nat.le_of_ble_eq_true rfl) dX8_on_26 (fun H locs h => ?_)
  refine lv_if_ne (tgt := 43) hx hb dX8_on_29 (by decide) (fun c4 => ?_) (fun c4 => ?_)
  · replace hf := it_f c4 hf
    exact w_X8_on_43    C  _ _ _ _ _ h ls (lv_sub hl [2, 3, 4, 1, 0] rfl) hf
  replace hf := it_t c4 hf
  refine lv_iload_n hx hb dX8_on_32 rfl (lv_at hl 1 rfl) ?_
  refine lv_if_ne (tgt := 43) hx hb dX8_on_33 (by decide) (fun c16 => ?_) (fun c16 => ?_)
  · replace hf := it_f c16 hf
    exact w_X8_on_43    C  _ _ _ _ _ h ls (lv_sub hl [2, 3, 4, 1, 0] rfl) hf
  replace hf := it_t c16 hf
  refine lv_iload hx hb dX8_on_36 (lv_at hl 0 rfl) ?_
  refine lv_if_ne (tgt := 43) hx hb dX8_on_38 (by decide) (fun c17 => ?_) (fun c17 => ?_)
  · replace hf := it_f c17 hf
    exact w_X8_on_43    C  _ _ _ _ _ h ls (lv_sub hl [2, 3, 4, 1, 0] rfl) hf
  replace hf := it_t c17 hf
  refine lv_iconst (v := (-1 : Int32)) hx hb dX8_on_41 (by decide) ?_
  replace hf := Option.some.inj hf
  subst hf
  exact r_ire C h dX8_on_42
theorem c_X8_on {l : Launch} {E : Ev} {σ : Ms} {ℓ : Mz} {p0 : Int32} {p1 : Int32} {out : Int32 × Ms} (hf : f_X8_on σ p0 p1 = some out) : Ct l yX8_on wsX8_on rm_X8_on [.ref (Ea E 0 0), .int p0, .int p1] E σ ℓ (some (.int out.1)) out.2 ℓ := by
  refine Ct_mk (cc := cX8_on) (mL := 5) (ret := (some .int)) (own := RX8) (by decide +kernel) rfl rfl (Nat.le_of_ble_eq_true rfl) (fun p e s m below meth c C h ls hl => ?_)
  exact w_X8_on_0  C σ _ _ h ls (lv_sub hl [0, 1, 2] rfl) hf
theorem hdX8_minutesTo : yX8_minutesTo.cls = RX8 ∧ yX8_minutesTo.cls ≠ "java/lang/invoke/MethodHandle" ∧ yX8_minutesTo.cls ≠ "java/lang/invoke/VarHandle" ∧ (parseMethodDescriptor yX8_minutesTo.desc).map (fun d => d.parameters.length) = some 1 := by decide +kernel
def rm_X8_minutesTo : Room := { frames := 6, cells := 0, slots := 0, locals := 177 }
set_option maxRecDepth 100000 in
theorem inX8_minutesTo_8 : ∀ w ∈ wsX80, w ∈ wsX8_minutesTo := fun _ h => List.mem_cons_of_mem _ (List.mem_append_left _ (List.mem_append_left _ (List.mem_append_right _ h)))
set_option maxRecDepth 100000 in
theorem lkX8_minutesTo_22 : Cond.fieldLink RX8 22 "BellsBelow" "trial" "LBellsBelow$Hall;" ∈ wsX8_minutesTo := by decide +kernel
set_option maxHeartbeats 4000000 in
set_option maxRecDepth 100000 in
theorem w_X8_minutesTo_2 {p : Program} {l : Launch} {e : Env} {s : State} {m : MethodId} {args : Array Value} {below : List Frame} {meth : Method} {c : Code} {E : Ev} {ℓ : Mz} {p0 : Int32} {out : Int32 × Ms}   (C : Cx cX8_minutesTo 3 (some .int) wsX8_minutesTo RX8 E p s m args meth c) {k2 : Ms → Int32 → Option (Int32 × Ms)} (hk2 : ∀ (σ : Ms) (v2 : Int32) (H : Heap) (locs : List Loc), HI E σ ℓ s H locs → ∀ ls : Array Slot, lv_has ls 3 [(0, .ref (Ea E 0 0)), (1, .int p0), (2, .int v2)] → k2 σ v2 = some out → W p l e rm_X8_minutesTo s m args below meth c H locs 0 0 (MQ below (Po E s.heap.size (some (.int out.1)) out.2 ℓ) args s 0 0 (AA E s.heap.size)) (F0 m 2 ls [])) : ∀ (σ : Ms) (v2 : Int32) (H : Heap) (locs : List Loc) (h : HI E σ ℓ s H locs) (ls : Array Slot) (hl : lv_has ls 3 [(0, .ref (Ea E 0 0)), (1, .int p0), (2, .int v2)]), f_X8_minutesTo_2 p0 k2 σ v2 = some out → W p l e rm_X8_minutesTo s m args below meth c H locs 0 0 (MQ below (Po E s.heap.size (some (.int out.1)) out.2 ℓ) args s 0 0 (AA E s.heap.size)) (F0 m 2 ls []) := by
  intro σ v2 H locs h ls hl hf
  unfold f_X8_minutesTo_2 at hf
  have C0 := C
  obtain ⟨hx, hb, hr, hml, hown, hts, hlk, hK, hSF⟩ := C0
  refine lv_iload_n hx hb dX8_minutesTo_2 rfl (lv_at hl 2 rfl) ?_
  refine lv_bipush (v := (60 : Int32)) hx hb dX8_minutesTo_3 (by decide) ?_
  refine lv_icmp_gt (tgt := 35) hx hb dX8_minutesTo_5 (by decide) (fun c1 => ?_) (fun c1 => ?_)
  · replace hf := it_t c1 hf
    refine lv_bipush (v := (-5 : Int32)) hx hb dX8_minutesTo_35 (by decide) ?_
    replace hf := Option.some.inj hf
    subst hf
    exact r_ire C h dX8_minutesTo_37
  replace hf := it_f c1 hf
  refine lv_aload_n hx hb dX8_minutesTo_8 rfl (lv_at hl 0 rfl) ?_
  refine gf_8_1 C h (rfl : Kd 0 = 8) rfl inX8_minutesTo_8 lkX8_minutesTo_22 dX8_minutesTo_9 ?_
  refine lv_iconst (v := (1 : Int32)) hx hb dX8_minutesTo_12 (by decide) ?_
  obtain ⟨u2, hu2, hf⟩ := bd_use hf
  refine r_cv_1 (rest := []) C h (k_X1_goes (rfl : Kd 2 = 1) rfl (fun _ _ => rfl) hu2) (rfl : Kd 2 = 1) gX8_minutesTo_X1_goes rfl ⟨rfl, rfl⟩ hdX1_goes ⟨Nat.le_of_ble_eq_true rfl, Nat.le_of_ble_eq_true rfl⟩ ⟨Nat.zero_le _, Nat.zero_le _⟩ hl.1 rfl (Nat.le_of_ble_eq_true rfl) dX8_minutesTo_13 (fun H locs h => ?_)
  obtain ⟨σ3, eσ3⟩ : ∃ z, z = va_up σ 2 u2 := ⟨_, rfl⟩
  replace hf := lt_use eσ3 hf
  rw [← eσ3] at h
  clear eσ3
  refine lv_aload_n hx hb dX8_minutesTo_16 rfl (lv_at hl 0 rfl) ?_
  refine gf_8_1 C h (rfl : Kd 0 = 8) rfl inX8_minutesTo_8 lkX8_minutesTo_22 dX8_minutesTo_17 ?_
  refine lv_iload_n hx hb dX8_minutesTo_20 rfl (lv_at hl 1 rfl) ?_
  obtain ⟨u4, hu4, hf⟩ := bd_use hf
  refine r_cv_1 (rest := []) C h (c_X1_isRung (rfl : Kd 2 = 1) rfl hu4) (rfl : Kd 2 = 1) gX8_minutesTo_X1_isRung rfl ⟨rfl, rfl⟩ hdX1_isRung ⟨Nat.le_of_ble_eq_true rfl, Nat.le_of_ble_eq_true rfl⟩ ⟨Nat.zero_le _, Nat.zero_le _⟩ hl.1 rfl (Nat.le_of_ble_eq_true rfl) dX8_minutesTo_21 (fun H locs h => ?_)
  refine lv_if_ne (tgt := 29) hx hb dX8_minutesTo_24 (by decide) (fun c5 => ?_) (fun c5 => ?_)
  · replace hf := it_f c5 hf
    obtain ⟨x6, ex6⟩ : ∃ y : Int32, y = (v2 + (1 : Int32)) := ⟨_, rfl⟩
    refine lv_iinc (v := x6) (lv' := [(2, .int x6), (0, .ref (Ea E 0 0)), (1, .int p0)]) hx hb dX8_minutesTo_29 hl (k := 2) rfl (by rw [ex6]; rfl) (by decide) rfl (fun ls hl => ?_)
    replace hf := lt_use ex6 hf
    clear ex6
    refine lv_goto (tgt := 2) hx hb dX8_minutesTo_32 (by decide) ?_
    exact hk2 _ _ _ _ h ls (lv_sub hl [1, 2, 0] rfl) hf
  replace hf := it_t c5 hf
  refine lv_iload_n hx hb dX8_minutesTo_27 rfl (lv_at hl 2 rfl) ?_
  replace hf := Option.some.inj hf
  subst hf
  exact r_ire C h dX8_minutesTo_28
set_option maxHeartbeats 4000000 in
set_option maxRecDepth 100000 in
theorem w_X8_minutesTo_2L {p : Program} {l : Launch} {e : Env} {s : State} {m : MethodId} {args : Array Value} {below : List Frame} {meth : Method} {c : Code} {E : Ev} {ℓ : Mz} {p0 : Int32} {out : Int32 × Ms}   (C : Cx cX8_minutesTo 3 (some .int) wsX8_minutesTo RX8 E p s m args meth c)  : ∀ (n9 : Nat) (σ : Ms) (v2 : Int32) (H : Heap) (locs : List Loc) (h : HI E σ ℓ s H locs) (ls : Array Slot) (hl : lv_has ls 3 [(0, .ref (Ea E 0 0)), (1, .int p0), (2, .int v2)]), f_X8_minutesTo_2L p0  n9 σ v2 = some out → W p l e rm_X8_minutesTo s m args below meth c H locs 0 0 (MQ below (Po E s.heap.size (some (.int out.1)) out.2 ℓ) args s 0 0 (AA E s.heap.size)) (F0 m 2 ls []) := by
  intro n9
  induction n9 with
  | zero =>
    intro σ v2 H locs h ls hl hf
    cases (show (none : Option (Int32 × Ms)) = some out from hf)
  | succ n9 ih =>
    intro σ v2 H locs h ls hl hf
    exact w_X8_minutesTo_2   C  ih σ v2 H locs h ls hl hf
set_option maxHeartbeats 4000000 in
set_option maxRecDepth 100000 in
theorem w_X8_minutesTo_0 {p : Program} {l : Launch} {e : Env} {s : State} {m : MethodId} {args : Array Value} {below : List Frame} {meth : Method} {c : Code} {E : Ev} {ℓ : Mz} {p0 : Int32} {out : Int32 × Ms}   (C : Cx cX8_minutesTo 3 (some .int) wsX8_minutesTo RX8 E p s m args meth c)  : ∀ (σ : Ms) (H : Heap) (locs : List Loc) (h : HI E σ ℓ s H locs) (ls : Array Slot) (hl : lv_has ls 3 [(0, .ref (Ea E 0 0)), (1, .int p0)]), f_X8_minutesTo_0 p0  σ = some out → W p l e rm_X8_minutesTo s m args below meth c H locs 0 0 (MQ below (Po E s.heap.size (some (.int out.1)) out.2 ℓ) args s 0 0 (AA E s.heap.size)) (F0 m 0 ls []) := by
  intro σ H locs h ls hl hf
  unfold f_X8_minutesTo_0 at hf
  have C0 := C
  obtain ⟨hx, hb, hr, hml, hown, hts, hlk, hK, hSF⟩ := C0
  refine lv_iconst (v := (1 : Int32)) hx hb dX8_minutesTo_0 (by decide) ?_
  refine lv_istore_n (lv' := [(2, .int (1 : Int32)), (0, .ref (Ea E 0 0)), (1, .int p0)]) hx hb dX8_minutesTo_1 rfl hl (by decide) rfl (fun ls hl => ?_)
  exact w_X8_minutesTo_2L    C  _ _ _ _ _ h ls (lv_sub hl [1, 2, 0] rfl) hf
theorem c_X8_minutesTo {l : Launch} {E : Ev} {σ : Ms} {ℓ : Mz} {p0 : Int32} {out : Int32 × Ms} (hf : f_X8_minutesTo σ p0 = some out) : Ct l yX8_minutesTo wsX8_minutesTo rm_X8_minutesTo [.ref (Ea E 0 0), .int p0] E σ ℓ (some (.int out.1)) out.2 ℓ := by
  refine Ct_mk (cc := cX8_minutesTo) (mL := 3) (ret := (some .int)) (own := RX8) (by decide +kernel) rfl rfl (Nat.le_of_ble_eq_true rfl) (fun p e s m below meth c C h ls hl => ?_)
  exact w_X8_minutesTo_0  C σ _ _ h ls (lv_sub hl [0, 1] rfl) hf
theorem hdX8_whoGoesTo : yX8_whoGoesTo.cls = RX8 ∧ yX8_whoGoesTo.cls ≠ "java/lang/invoke/MethodHandle" ∧ yX8_whoGoesTo.cls ≠ "java/lang/invoke/VarHandle" ∧ (parseMethodDescriptor yX8_whoGoesTo.desc).map (fun d => d.parameters.length) = some 1 := by decide +kernel
def rm_X8_whoGoesTo : Room := { frames := 5, cells := 0, slots := 0, locals := 154 }
set_option maxRecDepth 100000 in
theorem inX8_whoGoesTo_8 : ∀ w ∈ wsX80, w ∈ wsX8_whoGoesTo := fun _ h => List.mem_cons_of_mem _ (List.mem_append_left _ (List.mem_append_left _ (List.mem_append_right _ h)))
set_option maxRecDepth 100000 in
theorem lkX8_whoGoesTo_22 : Cond.fieldLink RX8 22 "BellsBelow" "trial" "LBellsBelow$Hall;" ∈ wsX8_whoGoesTo := by decide +kernel
set_option maxHeartbeats 4000000 in
set_option maxRecDepth 100000 in
theorem w_X8_whoGoesTo_0 {p : Program} {l : Launch} {e : Env} {s : State} {m : MethodId} {args : Array Value} {below : List Frame} {meth : Method} {c : Code} {E : Ev} {ℓ : Mz} {p0 : Int32} {out : Int32 × Ms}   (C : Cx cX8_whoGoesTo 2 (some .int) wsX8_whoGoesTo RX8 E p s m args meth c)  : ∀ (σ : Ms) (H : Heap) (locs : List Loc) (h : HI E σ ℓ s H locs) (ls : Array Slot) (hl : lv_has ls 2 [(0, .ref (Ea E 0 0)), (1, .int p0)]), f_X8_whoGoesTo_0 p0  σ = some out → W p l e rm_X8_whoGoesTo s m args below meth c H locs 0 0 (MQ below (Po E s.heap.size (some (.int out.1)) out.2 ℓ) args s 0 0 (AA E s.heap.size)) (F0 m 0 ls []) := by
  intro σ H locs h ls hl hf
  unfold f_X8_whoGoesTo_0 at hf
  have C0 := C
  obtain ⟨hx, hb, hr, hml, hown, hts, hlk, hK, hSF⟩ := C0
  refine lv_aload_n hx hb dX8_whoGoesTo_0 rfl (lv_at hl 0 rfl) ?_
  refine gf_8_1 C h (rfl : Kd 0 = 8) rfl inX8_whoGoesTo_8 lkX8_whoGoesTo_22 dX8_whoGoesTo_1 ?_
  obtain ⟨u1, hu1, hf⟩ := bd_use hf
  refine r_cv_1 (rest := []) C h (k_X1_gives (rfl : Kd 2 = 1) rfl (fun _ _ => rfl) hu1) (rfl : Kd 2 = 1) gX8_whoGoesTo_X1_gives rfl ⟨rfl, rfl⟩ hdX1_gives ⟨Nat.le_of_ble_eq_true rfl, Nat.le_of_ble_eq_true rfl⟩ ⟨Nat.zero_le _, Nat.zero_le _⟩ hl.1 rfl (Nat.le_of_ble_eq_true rfl) dX8_whoGoesTo_4 (fun H locs h => ?_)
  obtain ⟨σ2, eσ2⟩ : ∃ z, z = va_up σ 2 u1 := ⟨_, rfl⟩
  replace hf := lt_use eσ2 hf
  rw [← eσ2] at h
  clear eσ2
  refine lv_aload_n hx hb dX8_whoGoesTo_7 rfl (lv_at hl 0 rfl) ?_
  refine gf_8_1 C h (rfl : Kd 0 = 8) rfl inX8_whoGoesTo_8 lkX8_whoGoesTo_22 dX8_whoGoesTo_8 ?_
  refine lv_iload_n hx hb dX8_whoGoesTo_11 rfl (lv_at hl 1 rfl) ?_
  obtain ⟨u3, hu3, hf⟩ := bd_use hf
  refine r_cv_1 (rest := []) C h (c_X1_whoseGoal (rfl : Kd 2 = 1) rfl hu3) (rfl : Kd 2 = 1) gX8_whoGoesTo_X1_whoseGoal rfl ⟨rfl, rfl⟩ hdX1_whoseGoal ⟨Nat.le_of_ble_eq_true rfl, Nat.le_of_ble_eq_true rfl⟩ ⟨Nat.zero_le _, Nat.zero_le _⟩ hl.1 rfl (Nat.le_of_ble_eq_true rfl) dX8_whoGoesTo_12 (fun H locs h => ?_)
  replace hf := Option.some.inj hf
  subst hf
  exact r_ire C h dX8_whoGoesTo_15
theorem c_X8_whoGoesTo {l : Launch} {E : Ev} {σ : Ms} {ℓ : Mz} {p0 : Int32} {out : Int32 × Ms} (hf : f_X8_whoGoesTo σ p0 = some out) : Ct l yX8_whoGoesTo wsX8_whoGoesTo rm_X8_whoGoesTo [.ref (Ea E 0 0), .int p0] E σ ℓ (some (.int out.1)) out.2 ℓ := by
  refine Ct_mk (cc := cX8_whoGoesTo) (mL := 2) (ret := (some .int)) (own := RX8) (by decide +kernel) rfl rfl (Nat.le_of_ble_eq_true rfl) (fun p e s m below meth c C h ls hl => ?_)
  exact w_X8_whoGoesTo_0  C σ _ _ h ls (lv_sub hl [0, 1] rfl) hf
theorem hdX8_bell : yX8_bell.cls = RX8 ∧ yX8_bell.cls ≠ "java/lang/invoke/MethodHandle" ∧ yX8_bell.cls ≠ "java/lang/invoke/VarHandle" ∧ (parseMethodDescriptor yX8_bell.desc).map (fun d => d.parameters.length) = some 2 := by decide +kernel
def rm_X8_bell : Room := { frames := 7, cells := 0, slots := 0, locals := 199 }
set_option maxRecDepth 100000 in
theorem inX8_bell_8 : ∀ w ∈ wsX80, w ∈ wsX8_bell := fun _ h => List.mem_cons_of_mem _ (List.mem_append_left _ (List.mem_append_left _ (List.mem_append_right _ h)))
set_option maxRecDepth 100000 in
theorem lkX8_bell_22 : Cond.fieldLink RX8 22 "BellsBelow" "trial" "LBellsBelow$Hall;" ∈ wsX8_bell := by decide +kernel
set_option maxRecDepth 100000 in
theorem lkX8_bell_17 : Cond.fieldLink RX8 17 "BellsBelow" "now" "LBellsBelow$Hall;" ∈ wsX8_bell := by decide +kernel
set_option maxHeartbeats 4000000 in
set_option maxRecDepth 100000 in
theorem w_X8_bell_0 {p : Program} {l : Launch} {e : Env} {s : State} {m : MethodId} {args : Array Value} {below : List Frame} {meth : Method} {c : Code} {E : Ev} {ℓ : Mz} {p0 : Int32} {p1 : Int32} {out : Int32 × Ms}   (C : Cx cX8_bell 4 (some .int) wsX8_bell RX8 E p s m args meth c)  : ∀ (σ : Ms) (H : Heap) (locs : List Loc) (h : HI E σ ℓ s H locs) (ls : Array Slot) (hl : lv_has ls 4 [(0, .ref (Ea E 0 0)), (1, .int p0), (2, .int p1)]), f_X8_bell_0 p0 p1  σ = some out → W p l e rm_X8_bell s m args below meth c H locs 0 0 (MQ below (Po E s.heap.size (some (.int out.1)) out.2 ℓ) args s 0 0 (AA E s.heap.size)) (F0 m 0 ls []) := by
  intro σ H locs h ls hl hf
  unfold f_X8_bell_0 at hf
  have C0 := C
  obtain ⟨hx, hb, hr, hml, hown, hts, hlk, hK, hSF⟩ := C0
  refine lv_iload_n hx hb dX8_bell_0 rfl (lv_at hl 1 rfl) ?_
  refine lv_i2l hx hb dX8_bell_1 rfl ?_
  refine lv_bipush (v := (10 : Int32)) hx hb dX8_bell_2 (by decide) ?_
  obtain ⟨u1, hu1, hf⟩ := bd_use hf
  refine r_cs (rest := []) C h (c_X8_within  hu1) gX8_bell_X8_within rfl ⟨rfl, rfl⟩ hdX8_within ⟨Nat.le_of_ble_eq_true rfl, Nat.le_of_ble_eq_true rfl⟩ ⟨Nat.zero_le _, Nat.zero_le _⟩ hl.1 rfl (Nat.le_of_ble_eq_true rfl) dX8_bell_4 (fun H locs h => ?_)
  refine lv_if_eq (tgt := 19) hx hb dX8_bell_7 (by decide) (fun c2 => ?_) (fun c2 => ?_)
  · replace hf := it_t c2 hf
    refine lv_iconst (v := (-1 : Int32)) hx hb dX8_bell_19 (by decide) ?_
    replace hf := Option.some.inj hf
    subst hf
    exact r_ire C h dX8_bell_20
  replace hf := it_f c2 hf
  refine lv_iload_n hx hb dX8_bell_10 rfl (lv_at hl 2 rfl) ?_
  refine lv_i2l hx hb dX8_bell_11 rfl ?_
  refine lv_iconst (v := (2 : Int32)) hx hb dX8_bell_12 (by decide) ?_
  obtain ⟨u3, hu3, hf⟩ := bd_use hf
  refine r_cs (rest := []) C h (c_X8_within  hu3) gX8_bell_X8_within rfl ⟨rfl, rfl⟩ hdX8_within ⟨Nat.le_of_ble_eq_true rfl, Nat.le_of_ble_eq_true rfl⟩ ⟨Nat.zero_le _, Nat.zero_le _⟩ hl.1 rfl (Nat.le_of_ble_eq_true rfl) dX8_bell_13 (fun H locs h => ?_)
  refine lv_if_ne (tgt := 21) hx hb dX8_bell_16 (by decide) (fun c4 => ?_) (fun c4 => ?_)
  · replace hf := it_f c4 hf
    refine lv_aload_n hx hb dX8_bell_21 rfl (lv_at hl 0 rfl) ?_
    refine gf_8_1 C h (rfl : Kd 0 = 8) rfl inX8_bell_8 lkX8_bell_22 dX8_bell_22 ?_
    refine lv_aload_n hx hb dX8_bell_25 rfl (lv_at hl 0 rfl) ?_
    refine gf_8_0 C h (rfl : Kd 0 = 8) rfl inX8_bell_8 lkX8_bell_17 dX8_bell_26 ?_
    obtain ⟨u5, hu5, hf⟩ := bd_use hf
    refine r_cv_1 (rest := []) C h (k_X1_copies (rfl : Kd 2 = 1) (rfl : Kd 1 = 1) (by decide) rfl rfl hu5) (rfl : Kd 2 = 1) gX8_bell_X1_copies rfl ⟨rfl, rfl⟩ hdX1_copies ⟨Nat.le_of_ble_eq_true rfl, Nat.le_of_ble_eq_true rfl⟩ ⟨Nat.zero_le _, Nat.zero_le _⟩ hl.1 rfl (Nat.le_of_ble_eq_true rfl) dX8_bell_29 (fun H locs h => ?_)
    obtain ⟨σ6, eσ6⟩ : ∃ z, z = va_up σ 2 u5 := ⟨_, rfl⟩
    replace hf := lt_use eσ6 hf
    rw [← eσ6] at h
    clear eσ6
    refine lv_aload_n hx hb dX8_bell_32 rfl (lv_at hl 0 rfl) ?_
    refine gf_8_1 C h (rfl : Kd 0 = 8) rfl inX8_bell_8 lkX8_bell_22 dX8_bell_33 ?_
    refine lv_iload_n hx hb dX8_bell_36 rfl (lv_at hl 1 rfl) ?_
    obtain ⟨u7, hu7, hf⟩ := bd_use hf
    refine r_cv_1 (rest := []) C h (k_X1_rings (rfl : Kd 2 = 1) rfl hu7) (rfl : Kd 2 = 1) gX8_bell_X1_rings rfl ⟨rfl, rfl⟩ hdX1_rings ⟨Nat.le_of_ble_eq_true rfl, Nat.le_of_ble_eq_true rfl⟩ ⟨Nat.zero_le _, Nat.zero_le _⟩ hl.1 rfl (Nat.le_of_ble_eq_true rfl) dX8_bell_37 (fun H locs h => ?_)
    obtain ⟨σ8, eσ8⟩ : ∃ z, z = va_up σ6 2 u7.2 := ⟨_, rfl⟩
    replace hf := lt_use eσ8 hf
    rw [← eσ8] at h
    clear eσ8
    refine lv_istore_n (lv' := [(3, .int u7.1), (0, .ref (Ea E 0 0)), (1, .int p0), (2, .int p1)]) hx hb dX8_bell_40 rfl hl (by decide) rfl (fun ls hl => ?_)
    refine lv_iload_n hx hb dX8_bell_41 rfl (lv_at hl 3 rfl) ?_
    refine lv_if_ne (tgt := 53) hx hb dX8_bell_42 (by decide) (fun c9 => ?_) (fun c9 => ?_)
    · replace hf := it_f c9 hf
      refine lv_aload_n hx hb dX8_bell_53 rfl (lv_at hl 1 rfl) ?_
      refine lv_iload_n hx hb dX8_bell_54 rfl (lv_at hl 0 rfl) ?_
      obtain ⟨u10, hu10, hf⟩ := bd_use hf
      refine r_cv_8 (rest := []) C h (c_X8_whoGoesTo  hu10) (rfl : Kd 0 = 8) gX8_bell_X8_whoGoesTo rfl ⟨rfl, rfl⟩ hdX8_whoGoesTo ⟨Nat.le_of_ble_eq_true rfl, Nat.le_of_ble_eq_true rfl⟩ ⟨Nat.zero_le _, Nat.zero_le _⟩ hl.1 rfl (Nat.le_of_ble_eq_true rfl) dX8_bell_55 (fun H locs h => ?_)
      replace hf := Option.some.inj hf
      subst hf
      exact r_ire C h dX8_bell_58
    replace hf := it_t c9 hf
    refine lv_aload_n hx hb dX8_bell_45 rfl (lv_at hl 1 rfl) ?_
    refine lv_iload_n hx hb dX8_bell_46 rfl (lv_at hl 0 rfl) ?_
    obtain ⟨u11, hu11, hf⟩ := bd_use hf
    refine r_cv_8 (rest := []) C h (c_X8_minutesTo  hu11) (rfl : Kd 0 = 8) gX8_bell_X8_minutesTo rfl ⟨rfl, rfl⟩ hdX8_minutesTo ⟨Nat.le_of_ble_eq_true rfl, Nat.le_of_ble_eq_true rfl⟩ ⟨Nat.zero_le _, Nat.zero_le _⟩ hl.1 rfl (Nat.le_of_ble_eq_true rfl) dX8_bell_47 (fun H locs h => ?_)
    refine lv_goto (tgt := 58) hx hb dX8_bell_50 (by decide) ?_
    replace hf := Option.some.inj hf
    subst hf
    exact r_ire C h dX8_bell_58
  replace hf := it_t c4 hf
  refine lv_iconst (v := (-1 : Int32)) hx hb dX8_bell_19 (by decide) ?_
  replace hf := Option.some.inj hf
  subst hf
  exact r_ire C h dX8_bell_20
theorem c_X8_bell {l : Launch} {E : Ev} {σ : Ms} {ℓ : Mz} {p0 : Int32} {p1 : Int32} {out : Int32 × Ms} (hf : f_X8_bell σ p0 p1 = some out) : Ct l yX8_bell wsX8_bell rm_X8_bell [.ref (Ea E 0 0), .int p0, .int p1] E σ ℓ (some (.int out.1)) out.2 ℓ := by
  refine Ct_mk (cc := cX8_bell) (mL := 4) (ret := (some .int)) (own := RX8) (by decide +kernel) rfl rfl (Nat.le_of_ble_eq_true rfl) (fun p e s m below meth c C h ls hl => ?_)
  exact w_X8_bell_0  C σ _ _ h ls (lv_sub hl [0, 1, 2] rfl) hf
theorem hdX8_shared : yX8_shared.cls = RX8 ∧ yX8_shared.cls ≠ "java/lang/invoke/MethodHandle" ∧ yX8_shared.cls ≠ "java/lang/invoke/VarHandle" ∧ (parseMethodDescriptor yX8_shared.desc).map (fun d => d.parameters.length) = some 1 := by decide +kernel
def rm_X8_shared : Room := { frames := 5, cells := 0, slots := 0, locals := 154 }
set_option maxRecDepth 100000 in
theorem wdX8_shared_Cond_constantLong_RX8_89__10_ : Cond.constantLong RX8 89 (10) ∈ wsX8_shared := by decide +kernel
set_option maxRecDepth 100000 in
theorem inX8_shared_8 : ∀ w ∈ wsX80, w ∈ wsX8_shared := fun _ h => List.mem_cons_of_mem _ (List.mem_append_left _ (List.mem_append_left _ (List.mem_append_left _ (List.mem_append_right _ h))))
set_option maxRecDepth 100000 in
theorem lkX8_shared_54 : Cond.fieldLink RX8 54 "BellsBelow" "sharing" "LBellsBelow$Sharing;" ∈ wsX8_shared := by decide +kernel
set_option maxRecDepth 100000 in
theorem lkX8_shared_17 : Cond.fieldLink RX8 17 "BellsBelow" "now" "LBellsBelow$Hall;" ∈ wsX8_shared := by decide +kernel
set_option maxRecDepth 100000 in
theorem inX8_shared_5 : ∀ w ∈ wsX50, w ∈ wsX8_shared := fun _ h => List.mem_cons_of_mem _ (List.mem_append_left _ (List.mem_append_left _ (List.mem_append_right _ h)))
set_option maxRecDepth 100000 in
theorem lkX8_shared_208 : Cond.fieldLink RX8 208 "BellsBelow$Sharing" "cost" "I" ∈ wsX8_shared := by decide +kernel
set_option maxRecDepth 100000 in
theorem lkX8_shared_205 : Cond.fieldLink RX8 205 "BellsBelow$Sharing" "given" "I" ∈ wsX8_shared := by decide +kernel
set_option maxRecDepth 100000 in
theorem lkX8_shared_202 : Cond.fieldLink RX8 202 "BellsBelow$Sharing" "who" "[I" ∈ wsX8_shared := by decide +kernel
set_option maxHeartbeats 4000000 in
set_option maxRecDepth 100000 in
theorem w_X8_shared_29 {p : Program} {l : Launch} {e : Env} {s : State} {m : MethodId} {args : Array Value} {below : List Frame} {meth : Method} {c : Code} {E : Ev} {ℓ : Mz} {p0 : Int32} {out : Int32 × Ms}   (C : Cx cX8_shared 3 (some .int) wsX8_shared RX8 E p s m args meth c)  : ∀ (σ : Ms) (v2 : Int32) (H : Heap) (locs : List Loc) (h : HI E σ ℓ s H locs) (ls : Array Slot) (hl : lv_has ls 3 [(0, .ref (Ea E 0 0)), (1, .int p0), (2, .int v2)]), f_X8_shared_29 p0  σ v2 = some out → W p l e rm_X8_shared s m args below meth c H locs 0 0 (MQ below (Po E s.heap.size (some (.int out.1)) out.2 ℓ) args s 0 0 (AA E s.heap.size)) (F0 m 29 ls []) := by
  intro σ v2 H locs h ls hl hf
  unfold f_X8_shared_29 at hf
  have C0 := C
  obtain ⟨hx, hb, hr, hml, hown, hts, hlk, hK, hSF⟩ := C0
  refine lv_aload_n hx hb dX8_shared_29 rfl (lv_at hl 0 rfl) ?_
  refine gf_8_9 C h (rfl : Kd 0 = 8) rfl inX8_shared_8 lkX8_shared_54 dX8_shared_30 ?_
  refine lv_aload_n hx hb dX8_shared_33 rfl (lv_at hl 0 rfl) ?_
  refine gf_8_0 C h (rfl : Kd 0 = 8) rfl inX8_shared_8 lkX8_shared_17 dX8_shared_34 ?_
  obtain ⟨u4, hu4, hf⟩ := bd_use hf
  refine r_cv_5 (rest := []) C h (k_X5_finds (fun _ _ => rfl) hu4) (rfl : Kd 20 = 5) gX8_shared_X5_finds rfl ⟨rfl, rfl⟩ hdX5_finds ⟨Nat.le_of_ble_eq_true rfl, Nat.le_of_ble_eq_true rfl⟩ ⟨Nat.zero_le _, Nat.zero_le _⟩ hl.1 rfl (Nat.le_of_ble_eq_true rfl) dX8_shared_37 (fun H locs h => ?_)
  obtain ⟨σ5, eσ5⟩ : ∃ z, z = va_up (va_up σ 20 u4.1) 1 u4.2 := ⟨_, rfl⟩
  replace hf := lt_use eσ5 hf
  rw [← eσ5] at h
  clear eσ5
  refine lv_iload_n hx hb dX8_shared_40 rfl (lv_at hl 2 rfl) ?_
  refine lv_if_eq (tgt := 57) hx hb dX8_shared_41 (by decide) (fun c6 => ?_) (fun c6 => ?_)
  · replace hf := it_t c6 hf
    refine lv_iload_n hx hb dX8_shared_57 rfl (lv_at hl 1 rfl) ?_
    refine lv_if_ne (tgt := 71) hx hb dX8_shared_58 (by decide) (fun c7 => ?_) (fun c7 => ?_)
    · replace hf := it_f c7 hf
      refine lv_aload_n hx hb dX8_shared_71 rfl (lv_at hl 0 rfl) ?_
      refine gf_8_9 C h (rfl : Kd 0 = 8) rfl inX8_shared_8 lkX8_shared_54 dX8_shared_72 ?_
      refine gf_5_2 C h (rfl : Kd 20 = 5) rfl inX8_shared_5 lkX8_shared_208 dX8_shared_75 ?_
      replace hf := Option.some.inj hf
      subst hf
      exact r_ire C h dX8_shared_78
    replace hf := it_t c7 hf
    refine lv_aload_n hx hb dX8_shared_61 rfl (lv_at hl 0 rfl) ?_
    refine gf_8_9 C h (rfl : Kd 0 = 8) rfl inX8_shared_8 lkX8_shared_54 dX8_shared_62 ?_
    refine gf_5_1 C h (rfl : Kd 20 = 5) rfl inX8_shared_5 lkX8_shared_205 dX8_shared_65 ?_
    refine lv_goto (tgt := 78) hx hb dX8_shared_68 (by decide) ?_
    replace hf := Option.some.inj hf
    subst hf
    exact r_ire C h dX8_shared_78
  replace hf := it_f c6 hf
  refine lv_aload_n hx hb dX8_shared_44 rfl (lv_at hl 0 rfl) ?_
  refine gf_8_9 C h (rfl : Kd 0 = 8) rfl inX8_shared_8 lkX8_shared_54 dX8_shared_45 ?_
  refine gf_5_0 C h (rfl : Kd 20 = 5) rfl inX8_shared_5 lkX8_shared_202 dX8_shared_48 ?_
  refine lv_iload_n hx hb dX8_shared_51 rfl (lv_at hl 1 rfl) ?_
  refine lv_bipush (v := (10 : Int32)) hx hb dX8_shared_52 (by decide) ?_
  refine lv_isub hx hb dX8_shared_54 ?_
  obtain ⟨g8, hf⟩ := gd_use hf
  refine ld_5_1 C h (rfl : Kd 20 = 5) rfl (inB_in g8) dX8_shared_55 ?_
  replace hf := Option.some.inj hf
  subst hf
  exact r_ire C h dX8_shared_56
set_option maxHeartbeats 4000000 in
set_option maxRecDepth 100000 in
theorem w_X8_shared_0 {p : Program} {l : Launch} {e : Env} {s : State} {m : MethodId} {args : Array Value} {below : List Frame} {meth : Method} {c : Code} {E : Ev} {ℓ : Mz} {p0 : Int32} {out : Int32 × Ms}   (C : Cx cX8_shared 3 (some .int) wsX8_shared RX8 E p s m args meth c)  : ∀ (σ : Ms) (H : Heap) (locs : List Loc) (h : HI E σ ℓ s H locs) (ls : Array Slot) (hl : lv_has ls 3 [(0, .ref (Ea E 0 0)), (1, .int p0)]), f_X8_shared_0 p0  σ = some out → W p l e rm_X8_shared s m args below meth c H locs 0 0 (MQ below (Po E s.heap.size (some (.int out.1)) out.2 ℓ) args s 0 0 (AA E s.heap.size)) (F0 m 0 ls []) := by
  intro σ H locs h ls hl hf
  unfold f_X8_shared_0 at hf
  have C0 := C
  obtain ⟨hx, hb, hr, hml, hown, hts, hlk, hK, hSF⟩ := C0
  refine lv_iload_n hx hb dX8_shared_0 rfl (lv_at hl 1 rfl) ?_
  refine lv_i2l hx hb dX8_shared_1 rfl ?_
  refine lv_ldc2 hx hb hown (hts _ wdX8_shared_Cond_constantLong_RX8_89__10_) dX8_shared_2 ?_
  refine lv_lsub hx hb dX8_shared_5 ?_
  refine lv_bipush (v := (10 : Int32)) hx hb dX8_shared_6 (by decide) ?_
  obtain ⟨u1, hu1, hf⟩ := bd_use hf
  refine r_cs (rest := []) C h (c_X8_within  hu1) gX8_shared_X8_within rfl ⟨rfl, rfl⟩ hdX8_within ⟨Nat.le_of_ble_eq_true rfl, Nat.le_of_ble_eq_true rfl⟩ ⟨Nat.zero_le _, Nat.zero_le _⟩ hl.1 rfl (Nat.le_of_ble_eq_true rfl) dX8_shared_8 (fun H locs h => ?_)
  refine lv_istore_n (lv' := [(2, .int u1), (0, .ref (Ea E 0 0)), (1, .int p0)]) hx hb dX8_shared_11 rfl hl (by decide) rfl (fun ls hl => ?_)
  refine lv_iload_n hx hb dX8_shared_12 rfl (lv_at hl 2 rfl) ?_
  refine lv_i2l hx hb dX8_shared_13 rfl ?_
  refine lv_iconst (v := (2 : Int32)) hx hb dX8_shared_14 (by decide) ?_
  obtain ⟨u2, hu2, hf⟩ := bd_use hf
  refine r_cs (rest := []) C h (c_X8_within  hu2) gX8_shared_X8_within rfl ⟨rfl, rfl⟩ hdX8_within ⟨Nat.le_of_ble_eq_true rfl, Nat.le_of_ble_eq_true rfl⟩ ⟨Nat.zero_le _, Nat.zero_le _⟩ hl.1 rfl (Nat.le_of_ble_eq_true rfl) dX8_shared_15 (fun H locs h => ?_)
  refine lv_if_ne (tgt := 29) hx hb dX8_shared_18 (by decide) (fun c3 => ?_) (fun c3 => ?_)
  · replace hf := it_f c3 hf
    exact w_X8_shared_29    C  _ _ _ _ h ls (lv_sub hl [1, 2, 0] rfl) hf
  replace hf := it_t c3 hf
  refine lv_iload_n hx hb dX8_shared_21 rfl (lv_at hl 0 rfl) ?_
  refine lv_if_ne (tgt := 29) hx hb dX8_shared_22 (by decide) (fun c9 => ?_) (fun c9 => ?_)
  · replace hf := it_f c9 hf
    exact w_X8_shared_29    C  _ _ _ _ h ls (lv_sub hl [1, 2, 0] rfl) hf
  replace hf := it_t c9 hf
  refine lv_sipush (v := (-10001 : Int32)) hx hb dX8_shared_25 (by decide) ?_
  replace hf := Option.some.inj hf
  subst hf
  exact r_ire C h dX8_shared_28
theorem c_X8_shared {l : Launch} {E : Ev} {σ : Ms} {ℓ : Mz} {p0 : Int32} {out : Int32 × Ms} (hf : f_X8_shared σ p0 = some out) : Ct l yX8_shared wsX8_shared rm_X8_shared [.ref (Ea E 0 0), .int p0] E σ ℓ (some (.int out.1)) out.2 ℓ := by
  refine Ct_mk (cc := cX8_shared) (mL := 3) (ret := (some .int)) (own := RX8) (by decide +kernel) rfl rfl (Nat.le_of_ble_eq_true rfl) (fun p e s m below meth c C h ls hl => ?_)
  exact w_X8_shared_0  C σ _ _ h ls (lv_sub hl [0, 1] rfl) hf
theorem hdX8_see : yX8_see.cls = RX8 ∧ yX8_see.cls ≠ "java/lang/invoke/MethodHandle" ∧ yX8_see.cls ≠ "java/lang/invoke/VarHandle" ∧ (parseMethodDescriptor yX8_see.desc).map (fun d => d.parameters.length) = some 3 := by decide +kernel
def rm_X8_see : Room := { frames := 2, cells := 0, slots := 0, locals := 44 }
set_option maxRecDepth 100000 in
theorem inX8_see_8 : ∀ w ∈ wsX80, w ∈ wsX8_see := fun _ h => List.mem_cons_of_mem _ (List.mem_append_left _ (List.mem_append_left _ (List.mem_append_left _ (List.mem_append_right _ h))))
set_option maxRecDepth 100000 in
theorem lkX8_see_31 : Cond.fieldLink RX8 31 "BellsBelow" "notes" "LBellsBelow$Notes;" ∈ wsX8_see := by decide +kernel
set_option maxRecDepth 100000 in
theorem inX8_see_3 : ∀ w ∈ wsX30, w ∈ wsX8_see := fun _ h => List.mem_cons_of_mem _ (List.mem_append_left _ (List.mem_append_left _ (List.mem_append_right _ h)))
set_option maxRecDepth 100000 in
theorem lkX8_see_210 : Cond.fieldLink RX8 210 "BellsBelow$Notes" "seen" "LBellsBelow$Rows;" ∈ wsX8_see := by decide +kernel
set_option maxHeartbeats 4000000 in
set_option maxRecDepth 100000 in
theorem w_X8_see_0 {p : Program} {l : Launch} {e : Env} {s : State} {m : MethodId} {args : Array Value} {below : List Frame} {meth : Method} {c : Code} {E : Ev} {ℓ : Mz} {p0 : Int32} {p1 : Int32} {p2 : Int32} {out : Int32 × Ms}   (C : Cx cX8_see 4 (some .int) wsX8_see RX8 E p s m args meth c)  : ∀ (σ : Ms) (H : Heap) (locs : List Loc) (h : HI E σ ℓ s H locs) (ls : Array Slot) (hl : lv_has ls 4 [(0, .ref (Ea E 0 0)), (1, .int p0), (2, .int p1), (3, .int p2)]), f_X8_see_0 p0 p1 p2  σ = some out → W p l e rm_X8_see s m args below meth c H locs 0 0 (MQ below (Po E s.heap.size (some (.int out.1)) out.2 ℓ) args s 0 0 (AA E s.heap.size)) (F0 m 0 ls []) := by
  intro σ H locs h ls hl hf
  unfold f_X8_see_0 at hf
  have C0 := C
  obtain ⟨hx, hb, hr, hml, hown, hts, hlk, hK, hSF⟩ := C0
  refine lv_iload_n hx hb dX8_see_0 rfl (lv_at hl 1 rfl) ?_
  refine lv_iconst (v := (-1 : Int32)) hx hb dX8_see_1 (by decide) ?_
  refine lv_icmp_ne (tgt := 16) hx hb dX8_see_2 (by decide) (fun c1 => ?_) (fun c1 => ?_)
  · replace hf := it_f c1 hf
    refine lv_aload_n hx hb dX8_see_16 rfl (lv_at hl 0 rfl) ?_
    refine lv_iload_n hx hb dX8_see_17 rfl (lv_at hl 1 rfl) ?_
    refine lv_i2l hx hb dX8_see_18 rfl ?_
    obtain ⟨u2, hu2, hf⟩ := bd_use hf
    refine r_cv_8 (rest := []) C h (c_X8_isMaster  hu2) (rfl : Kd 0 = 8) gX8_see_X8_isMaster rfl ⟨rfl, rfl⟩ hdX8_isMaster ⟨Nat.le_of_ble_eq_true rfl, Nat.le_of_ble_eq_true rfl⟩ ⟨Nat.zero_le _, Nat.zero_le _⟩ hl.1 rfl (Nat.le_of_ble_eq_true rfl) dX8_see_19 (fun H locs h => ?_)
    refine lv_if_eq (tgt := 35) hx hb dX8_see_22 (by decide) (fun c3 => ?_) (fun c3 => ?_)
    · replace hf := it_t c3 hf
      refine lv_iconst (v := (-1 : Int32)) hx hb dX8_see_35 (by decide) ?_
      replace hf := Option.some.inj hf
      subst hf
      exact r_ire C h dX8_see_36
    replace hf := it_f c3 hf
    refine lv_iload_n hx hb dX8_see_25 rfl (lv_at hl 3 rfl) ?_
    refine lv_i2l hx hb dX8_see_26 rfl ?_
    refine lv_bipush (v := (10 : Int32)) hx hb dX8_see_27 (by decide) ?_
    obtain ⟨u4, hu4, hf⟩ := bd_use hf
    refine r_cs (rest := []) C h (c_X8_within  hu4) gX8_see_X8_within rfl ⟨rfl, rfl⟩ hdX8_within ⟨Nat.le_of_ble_eq_true rfl, Nat.le_of_ble_eq_true rfl⟩ ⟨Nat.zero_le _, Nat.zero_le _⟩ hl.1 rfl (Nat.le_of_ble_eq_true rfl) dX8_see_29 (fun H locs h => ?_)
    refine lv_if_ne (tgt := 37) hx hb dX8_see_32 (by decide) (fun c5 => ?_) (fun c5 => ?_)
    · replace hf := it_f c5 hf
      refine lv_iload_n hx hb dX8_see_37 rfl (lv_at hl 2 rfl) ?_
      refine lv_i2l hx hb dX8_see_38 rfl ?_
      refine lv_bipush (v := (21 : Int32)) hx hb dX8_see_39 (by decide) ?_
      obtain ⟨u6, hu6, hf⟩ := bd_use hf
      refine r_cs (rest := []) C h (c_X8_within  hu6) gX8_see_X8_within rfl ⟨rfl, rfl⟩ hdX8_within ⟨Nat.le_of_ble_eq_true rfl, Nat.le_of_ble_eq_true rfl⟩ ⟨Nat.zero_le _, Nat.zero_le _⟩ hl.1 rfl (Nat.le_of_ble_eq_true rfl) dX8_see_41 (fun H locs h => ?_)
      refine lv_if_ne (tgt := 50) hx hb dX8_see_44 (by decide) (fun c7 => ?_) (fun c7 => ?_)
      · replace hf := it_f c7 hf
        refine lv_aload_n hx hb dX8_see_50 rfl (lv_at hl 0 rfl) ?_
        refine gf_8_3 C h (rfl : Kd 0 = 8) rfl inX8_see_8 lkX8_see_31 dX8_see_51 ?_
        refine gf_31_0 C h (rfl : Kd 4 = 31) rfl inX8_see_3 lkX8_see_210 dX8_see_54 ?_
        obtain ⟨u8, hu8, hf⟩ := bd_use hf
        refine r_cv_4 (rest := []) C h (c_X4_isFull (rfl : Kd 6 = 4) rfl rfl hu8) (rfl : Kd 6 = 4) gX8_see_X4_isFull rfl ⟨rfl, rfl⟩ hdX4_isFull ⟨Nat.le_of_ble_eq_true rfl, Nat.le_of_ble_eq_true rfl⟩ ⟨Nat.zero_le _, Nat.zero_le _⟩ hl.1 rfl (Nat.le_of_ble_eq_true rfl) dX8_see_57 (fun H locs h => ?_)
        refine lv_if_eq (tgt := 68) hx hb dX8_see_60 (by decide) (fun c9 => ?_) (fun c9 => ?_)
        · replace hf := it_t c9 hf
          refine lv_aload_n hx hb dX8_see_68 rfl (lv_at hl 0 rfl) ?_
          refine gf_8_3 C h (rfl : Kd 0 = 8) rfl inX8_see_8 lkX8_see_31 dX8_see_69 ?_
          refine gf_31_0 C h (rfl : Kd 4 = 31) rfl inX8_see_3 lkX8_see_210 dX8_see_72 ?_
          refine lv_iload_n hx hb dX8_see_75 rfl (lv_at hl 1 rfl) ?_
          refine lv_iload_n hx hb dX8_see_76 rfl (lv_at hl 3 rfl) ?_
          refine lv_iload_n hx hb dX8_see_77 rfl (lv_at hl 2 rfl) ?_
          obtain ⟨u10, hu10, hf⟩ := bd_use hf
          refine r_cv_4 (rest := []) C h (k_X4_adds (rfl : Kd 6 = 4) rfl rfl hu10) (rfl : Kd 6 = 4) gX8_see_X4_adds rfl ⟨rfl, rfl⟩ hdX4_adds ⟨Nat.le_of_ble_eq_true rfl, Nat.le_of_ble_eq_true rfl⟩ ⟨Nat.zero_le _, Nat.zero_le _⟩ hl.1 rfl (Nat.le_of_ble_eq_true rfl) dX8_see_78 (fun H locs h => ?_)
          obtain ⟨σ11, eσ11⟩ : ∃ z, z = va_up σ 6 u10.2 := ⟨_, rfl⟩
          replace hf := lt_use eσ11 hf
          rw [← eσ11] at h
          clear eσ11
          replace hf := Option.some.inj hf
          subst hf
          exact r_ire C h dX8_see_81
        replace hf := it_f c9 hf
        refine lv_bipush (v := (-4 : Int32)) hx hb dX8_see_63 (by decide) ?_
        refine lv_goto (tgt := 81) hx hb dX8_see_65 (by decide) ?_
        replace hf := Option.some.inj hf
        subst hf
        exact r_ire C h dX8_see_81
      replace hf := it_t c7 hf
      refine lv_bipush (v := (-2 : Int32)) hx hb dX8_see_47 (by decide) ?_
      replace hf := Option.some.inj hf
      subst hf
      exact r_ire C h dX8_see_49
    replace hf := it_t c5 hf
    refine lv_iconst (v := (-1 : Int32)) hx hb dX8_see_35 (by decide) ?_
    replace hf := Option.some.inj hf
    subst hf
    exact r_ire C h dX8_see_36
  replace hf := it_t c1 hf
  refine lv_aload_n hx hb dX8_see_5 rfl (lv_at hl 0 rfl) ?_
  refine gf_8_3 C h (rfl : Kd 0 = 8) rfl inX8_see_8 lkX8_see_31 dX8_see_6 ?_
  refine gf_31_0 C h (rfl : Kd 4 = 31) rfl inX8_see_3 lkX8_see_210 dX8_see_9 ?_
  obtain ⟨u12, hu12, hf⟩ := bd_use hf
  refine r_cv_4 (rest := []) C h (k_X4_empties (rfl : Kd 6 = 4) rfl hu12) (rfl : Kd 6 = 4) gX8_see_X4_empties rfl ⟨rfl, rfl⟩ hdX4_empties ⟨Nat.le_of_ble_eq_true rfl, Nat.le_of_ble_eq_true rfl⟩ ⟨Nat.zero_le _, Nat.zero_le _⟩ hl.1 rfl (Nat.le_of_ble_eq_true rfl) dX8_see_12 (fun H locs h => ?_)
  obtain ⟨σ13, eσ13⟩ : ∃ z, z = va_up σ 6 u12.2 := ⟨_, rfl⟩
  replace hf := lt_use eσ13 hf
  rw [← eσ13] at h
  clear eσ13
  replace hf := Option.some.inj hf
  subst hf
  exact r_ire C h dX8_see_15
theorem c_X8_see {l : Launch} {E : Ev} {σ : Ms} {ℓ : Mz} {p0 : Int32} {p1 : Int32} {p2 : Int32} {out : Int32 × Ms} (hf : f_X8_see σ p0 p1 p2 = some out) : Ct l yX8_see wsX8_see rm_X8_see [.ref (Ea E 0 0), .int p0, .int p1, .int p2] E σ ℓ (some (.int out.1)) out.2 ℓ := by
  refine Ct_mk (cc := cX8_see) (mL := 4) (ret := (some .int)) (own := RX8) (by decide +kernel) rfl rfl (Nat.le_of_ble_eq_true rfl) (fun p e s m below meth c C h ls hl => ?_)
  exact w_X8_see_0  C σ _ _ h ls (lv_sub hl [0, 1, 2, 3] rfl) hf
theorem hdX8_isSeenAfter : yX8_isSeenAfter.cls = RX8 ∧ yX8_isSeenAfter.cls ≠ "java/lang/invoke/MethodHandle" ∧ yX8_isSeenAfter.cls ≠ "java/lang/invoke/VarHandle" ∧ (parseMethodDescriptor yX8_isSeenAfter.desc).map (fun d => d.parameters.length) = some 1 := by decide +kernel
def rm_X8_isSeenAfter : Room := { frames := 0, cells := 0, slots := 0, locals := 0 }
set_option maxRecDepth 100000 in
theorem inX8_isSeenAfter_8 : ∀ w ∈ wsX80, w ∈ wsX8_isSeenAfter := fun _ h => List.mem_cons_of_mem _ (List.mem_append_left _ (List.mem_append_left _ (List.mem_append_left _ (List.mem_append_right _ h))))
set_option maxRecDepth 100000 in
theorem lkX8_isSeenAfter_31 : Cond.fieldLink RX8 31 "BellsBelow" "notes" "LBellsBelow$Notes;" ∈ wsX8_isSeenAfter := by decide +kernel
set_option maxRecDepth 100000 in
theorem inX8_isSeenAfter_3 : ∀ w ∈ wsX30, w ∈ wsX8_isSeenAfter := fun _ h => List.mem_cons_of_mem _ (List.mem_append_left _ (List.mem_append_left _ (List.mem_append_right _ h)))
set_option maxRecDepth 100000 in
theorem lkX8_isSeenAfter_210 : Cond.fieldLink RX8 210 "BellsBelow$Notes" "seen" "LBellsBelow$Rows;" ∈ wsX8_isSeenAfter := by decide +kernel
set_option maxRecDepth 100000 in
theorem inX8_isSeenAfter_4 : ∀ w ∈ wsX40, w ∈ wsX8_isSeenAfter := fun _ h => List.mem_cons_of_mem _ (List.mem_append_left _ (List.mem_append_right _ h))
set_option maxRecDepth 100000 in
theorem lkX8_isSeenAfter_244 : Cond.fieldLink RX8 244 "BellsBelow$Rows" "many" "I" ∈ wsX8_isSeenAfter := by decide +kernel
set_option maxRecDepth 100000 in
theorem lkX8_isSeenAfter_320 : Cond.fieldLink RX8 320 "BellsBelow$Rows" "third" "[I" ∈ wsX8_isSeenAfter := by decide +kernel
set_option maxRecDepth 100000 in
theorem lkX8_isSeenAfter_22 : Cond.fieldLink RX8 22 "BellsBelow" "trial" "LBellsBelow$Hall;" ∈ wsX8_isSeenAfter := by decide +kernel
set_option maxRecDepth 100000 in
theorem inX8_isSeenAfter_1 : ∀ w ∈ wsX10, w ∈ wsX8_isSeenAfter := fun _ h => List.mem_cons_of_mem _ (List.mem_append_right _ h)
set_option maxRecDepth 100000 in
theorem lkX8_isSeenAfter_102 : Cond.fieldLink RX8 102 "BellsBelow$Hall" "floor" "[I" ∈ wsX8_isSeenAfter := by decide +kernel
set_option maxRecDepth 100000 in
theorem lkX8_isSeenAfter_245 : Cond.fieldLink RX8 245 "BellsBelow$Rows" "first" "[I" ∈ wsX8_isSeenAfter := by decide +kernel
set_option maxRecDepth 100000 in
theorem lkX8_isSeenAfter_248 : Cond.fieldLink RX8 248 "BellsBelow$Rows" "second" "[I" ∈ wsX8_isSeenAfter := by decide +kernel
set_option maxHeartbeats 4000000 in
set_option maxRecDepth 100000 in
theorem w_X8_isSeenAfter_53 {p : Program} {l : Launch} {e : Env} {s : State} {m : MethodId} {args : Array Value} {below : List Frame} {meth : Method} {c : Code} {E : Ev} {ℓ : Mz} {σ : Ms} {p0 : Int32} {out : Int32}   (C : Cx cX8_isSeenAfter 4 (some .boolean) wsX8_isSeenAfter RX8 E p s m args meth c) {k10 : Int32 → Option (Int32)} (hk10 : ∀ (v3 : Int32) (H : Heap) (locs : List Loc), HI E σ ℓ s H locs → ∀ ls : Array Slot, lv_has ls 4 [(0, .ref (Ea E 0 0)), (1, .int p0), (2, .ref (Ea E 6 0)), (3, .int v3)] → k10 v3 = some out → W p l e rm_X8_isSeenAfter s m args below meth c H locs 0 0 (MQ below (Po E s.heap.size (some (.int out)) σ ℓ) args s 0 0 (AA E s.heap.size)) (F0 m 10 ls [])) : ∀ (v3 : Int32) (H : Heap) (locs : List Loc) (h : HI E σ ℓ s H locs) (ls : Array Slot) (hl : lv_has ls 4 [(0, .ref (Ea E 0 0)), (1, .int p0), (2, .ref (Ea E 6 0)), (3, .int v3)]), f_X8_isSeenAfter_53 σ p0 k10 v3 = some out → W p l e rm_X8_isSeenAfter s m args below meth c H locs 0 0 (MQ below (Po E s.heap.size (some (.int out)) σ ℓ) args s 0 0 (AA E s.heap.size)) (F0 m 53 ls []) := by
  intro v3 H locs h ls hl hf
  unfold f_X8_isSeenAfter_53 at hf
  have C0 := C
  obtain ⟨hx, hb, hr, hml, hown, hts, hlk, hK, hSF⟩ := C0
  obtain ⟨x4, ex4⟩ : ∃ y : Int32, y = (v3 + (1 : Int32)) := ⟨_, rfl⟩
  refine lv_iinc (v := x4) (lv' := [(3, .int x4), (0, .ref (Ea E 0 0)), (1, .int p0), (2, .ref (Ea E 6 0))]) hx hb dX8_isSeenAfter_53 hl (k := 3) rfl (by rw [ex4]; rfl) (by decide) rfl (fun ls hl => ?_)
  replace hf := lt_use ex4 hf
  clear ex4
  refine lv_goto (tgt := 10) hx hb dX8_isSeenAfter_56 (by decide) ?_
  exact hk10 _ _ _ h ls (lv_sub hl [1, 2, 3, 0] rfl) hf
set_option maxHeartbeats 4000000 in
set_option maxRecDepth 100000 in
theorem w_X8_isSeenAfter_10 {p : Program} {l : Launch} {e : Env} {s : State} {m : MethodId} {args : Array Value} {below : List Frame} {meth : Method} {c : Code} {E : Ev} {ℓ : Mz} {σ : Ms} {p0 : Int32} {out : Int32}   (C : Cx cX8_isSeenAfter 4 (some .boolean) wsX8_isSeenAfter RX8 E p s m args meth c) {k10 : Int32 → Option (Int32)} (hk10 : ∀ (v3 : Int32) (H : Heap) (locs : List Loc), HI E σ ℓ s H locs → ∀ ls : Array Slot, lv_has ls 4 [(0, .ref (Ea E 0 0)), (1, .int p0), (2, .ref (Ea E 6 0)), (3, .int v3)] → k10 v3 = some out → W p l e rm_X8_isSeenAfter s m args below meth c H locs 0 0 (MQ below (Po E s.heap.size (some (.int out)) σ ℓ) args s 0 0 (AA E s.heap.size)) (F0 m 10 ls [])) : ∀ (v3 : Int32) (H : Heap) (locs : List Loc) (h : HI E σ ℓ s H locs) (ls : Array Slot) (hl : lv_has ls 4 [(0, .ref (Ea E 0 0)), (1, .int p0), (2, .ref (Ea E 6 0)), (3, .int v3)]), f_X8_isSeenAfter_10 σ p0 k10 v3 = some out → W p l e rm_X8_isSeenAfter s m args below meth c H locs 0 0 (MQ below (Po E s.heap.size (some (.int out)) σ ℓ) args s 0 0 (AA E s.heap.size)) (F0 m 10 ls []) := by
  intro v3 H locs h ls hl hf
  unfold f_X8_isSeenAfter_10 at hf
  have C0 := C
  obtain ⟨hx, hb, hr, hml, hown, hts, hlk, hK, hSF⟩ := C0
  refine lv_iload_n hx hb dX8_isSeenAfter_10 rfl (lv_at hl 3 rfl) ?_
  refine lv_aload_n hx hb dX8_isSeenAfter_11 rfl (lv_at hl 2 rfl) ?_
  refine gf_4_3 C h (rfl : Kd 6 = 4) rfl inX8_isSeenAfter_4 lkX8_isSeenAfter_244 dX8_isSeenAfter_12 ?_
  refine lv_icmp_ge (tgt := 59) hx hb dX8_isSeenAfter_15 (by decide) (fun c1 => ?_) (fun c1 => ?_)
  · replace hf := it_t c1 hf
    refine lv_iconst (v := (1 : Int32)) hx hb dX8_isSeenAfter_59 (by decide) ?_
    replace hf := Option.some.inj hf
    subst hf
    exact r_zre (v := (1 : Int32)) C h rfl dX8_isSeenAfter_60
  replace hf := it_f c1 hf
  refine lv_aload_n hx hb dX8_isSeenAfter_18 rfl (lv_at hl 2 rfl) ?_
  refine gf_4_2 C h (rfl : Kd 6 = 4) rfl inX8_isSeenAfter_4 lkX8_isSeenAfter_320 dX8_isSeenAfter_19 ?_
  refine lv_iload_n hx hb dX8_isSeenAfter_22 rfl (lv_at hl 3 rfl) ?_
  obtain ⟨g2, hf⟩ := gd_use hf
  refine ld_4_3 C h (rfl : Kd 6 = 4) rfl (inB_in g2) dX8_isSeenAfter_23 ?_
  refine lv_iload_n hx hb dX8_isSeenAfter_24 rfl (lv_at hl 1 rfl) ?_
  refine lv_icmp_ne (tgt := 53) hx hb dX8_isSeenAfter_25 (by decide) (fun c3 => ?_) (fun c3 => ?_)
  · replace hf := it_f c3 hf
    exact w_X8_isSeenAfter_53    C hk10 _ _ _ h ls (lv_sub hl [0, 1, 2, 3] rfl) hf
  replace hf := it_t c3 hf
  refine lv_aload_n hx hb dX8_isSeenAfter_28 rfl (lv_at hl 0 rfl) ?_
  refine gf_8_1 C h (rfl : Kd 0 = 8) rfl inX8_isSeenAfter_8 lkX8_isSeenAfter_22 dX8_isSeenAfter_29 ?_
  refine gf_1_4 C h (rfl : Kd 2 = 1) rfl inX8_isSeenAfter_1 lkX8_isSeenAfter_102 dX8_isSeenAfter_32 ?_
  refine lv_aload_n hx hb dX8_isSeenAfter_35 rfl (lv_at hl 2 rfl) ?_
  refine gf_4_0 C h (rfl : Kd 6 = 4) rfl inX8_isSeenAfter_4 lkX8_isSeenAfter_245 dX8_isSeenAfter_36 ?_
  refine lv_iload_n hx hb dX8_isSeenAfter_39 rfl (lv_at hl 3 rfl) ?_
  obtain ⟨g5, hf⟩ := gd_use hf
  refine ld_4_1 C h (rfl : Kd 6 = 4) rfl (inB_in g5) dX8_isSeenAfter_40 ?_
  obtain ⟨g6, hf⟩ := gd_use hf
  refine ld_1_3 C h (rfl : Kd 2 = 1) rfl (inB_in g6) dX8_isSeenAfter_41 ?_
  refine lv_aload_n hx hb dX8_isSeenAfter_42 rfl (lv_at hl 2 rfl) ?_
  refine gf_4_1 C h (rfl : Kd 6 = 4) rfl inX8_isSeenAfter_4 lkX8_isSeenAfter_248 dX8_isSeenAfter_43 ?_
  refine lv_iload_n hx hb dX8_isSeenAfter_46 rfl (lv_at hl 3 rfl) ?_
  obtain ⟨g7, hf⟩ := gd_use hf
  refine ld_4_2 C h (rfl : Kd 6 = 4) rfl (inB_in g7) dX8_isSeenAfter_47 ?_
  refine lv_icmp_eq (tgt := 53) hx hb dX8_isSeenAfter_48 (by decide) (fun c8 => ?_) (fun c8 => ?_)
  · replace hf := it_t c8 hf
    exact w_X8_isSeenAfter_53    C hk10 _ _ _ h ls (lv_sub hl [0, 1, 2, 3] rfl) hf
  replace hf := it_f c8 hf
  refine lv_iconst (v := (0 : Int32)) hx hb dX8_isSeenAfter_51 (by decide) ?_
  replace hf := Option.some.inj hf
  subst hf
  exact r_zre (v := (0 : Int32)) C h rfl dX8_isSeenAfter_52
set_option maxHeartbeats 4000000 in
set_option maxRecDepth 100000 in
theorem w_X8_isSeenAfter_10L {p : Program} {l : Launch} {e : Env} {s : State} {m : MethodId} {args : Array Value} {below : List Frame} {meth : Method} {c : Code} {E : Ev} {ℓ : Mz} {σ : Ms} {p0 : Int32} {out : Int32}   (C : Cx cX8_isSeenAfter 4 (some .boolean) wsX8_isSeenAfter RX8 E p s m args meth c)  : ∀ (n9 : Nat) (v3 : Int32) (H : Heap) (locs : List Loc) (h : HI E σ ℓ s H locs) (ls : Array Slot) (hl : lv_has ls 4 [(0, .ref (Ea E 0 0)), (1, .int p0), (2, .ref (Ea E 6 0)), (3, .int v3)]), f_X8_isSeenAfter_10L σ p0  n9 v3 = some out → W p l e rm_X8_isSeenAfter s m args below meth c H locs 0 0 (MQ below (Po E s.heap.size (some (.int out)) σ ℓ) args s 0 0 (AA E s.heap.size)) (F0 m 10 ls []) := by
  intro n9
  induction n9 with
  | zero =>
    intro v3 H locs h ls hl hf
    cases (show (none : Option (Int32)) = some out from hf)
  | succ n9 ih =>
    intro v3 H locs h ls hl hf
    exact w_X8_isSeenAfter_10   C  ih v3 H locs h ls hl hf
set_option maxHeartbeats 4000000 in
set_option maxRecDepth 100000 in
theorem w_X8_isSeenAfter_0 {p : Program} {l : Launch} {e : Env} {s : State} {m : MethodId} {args : Array Value} {below : List Frame} {meth : Method} {c : Code} {E : Ev} {ℓ : Mz} {σ : Ms} {p0 : Int32} {out : Int32}   (C : Cx cX8_isSeenAfter 4 (some .boolean) wsX8_isSeenAfter RX8 E p s m args meth c)  : ∀  (H : Heap) (locs : List Loc) (h : HI E σ ℓ s H locs) (ls : Array Slot) (hl : lv_has ls 4 [(0, .ref (Ea E 0 0)), (1, .int p0)]), f_X8_isSeenAfter_0 σ p0   = some out → W p l e rm_X8_isSeenAfter s m args below meth c H locs 0 0 (MQ below (Po E s.heap.size (some (.int out)) σ ℓ) args s 0 0 (AA E s.heap.size)) (F0 m 0 ls []) := by
  intro  H locs h ls hl hf
  unfold f_X8_isSeenAfter_0 at hf
  have C0 := C
  obtain ⟨hx, hb, hr, hml, hown, hts, hlk, hK, hSF⟩ := C0
  refine lv_aload_n hx hb dX8_isSeenAfter_0 rfl (lv_at hl 0 rfl) ?_
  refine gf_8_3 C h (rfl : Kd 0 = 8) rfl inX8_isSeenAfter_8 lkX8_isSeenAfter_31 dX8_isSeenAfter_1 ?_
  refine gf_31_0 C h (rfl : Kd 4 = 31) rfl inX8_isSeenAfter_3 lkX8_isSeenAfter_210 dX8_isSeenAfter_4 ?_
  refine lv_astore_n (lv' := [(2, .ref (Ea E 6 0)), (0, .ref (Ea E 0 0)), (1, .int p0)]) hx hb dX8_isSeenAfter_7 rfl hl (by decide) rfl (fun ls hl => ?_)
  refine lv_iconst (v := (0 : Int32)) hx hb dX8_isSeenAfter_8 (by decide) ?_
  refine lv_istore_n (lv' := [(3, .int (0 : Int32)), (2, .ref (Ea E 6 0)), (0, .ref (Ea E 0 0)), (1, .int p0)]) hx hb dX8_isSeenAfter_9 rfl hl (by decide) rfl (fun ls hl => ?_)
  exact w_X8_isSeenAfter_10L    C  _ _ _ _ h ls (lv_sub hl [2, 3, 1, 0] rfl) hf
theorem c_X8_isSeenAfter {l : Launch} {E : Ev} {σ : Ms} {ℓ : Mz} {p0 : Int32} {out : Int32} (hf : f_X8_isSeenAfter σ p0 = some out) : Ct l yX8_isSeenAfter wsX8_isSeenAfter rm_X8_isSeenAfter [.ref (Ea E 0 0), .int p0] E σ ℓ (some (.int out)) σ ℓ := by
  refine Ct_mk (cc := cX8_isSeenAfter) (mL := 4) (ret := (some .boolean)) (own := RX8) (by decide +kernel) rfl rfl (Nat.le_of_ble_eq_true rfl) (fun p e s m below meth c C h ls hl => ?_)
  exact w_X8_isSeenAfter_0  C  _ _ h ls (lv_sub hl [0, 1] rfl) hf
theorem hdX8_allIsSeen : yX8_allIsSeen.cls = RX8 ∧ yX8_allIsSeen.cls ≠ "java/lang/invoke/MethodHandle" ∧ yX8_allIsSeen.cls ≠ "java/lang/invoke/VarHandle" ∧ (parseMethodDescriptor yX8_allIsSeen.desc).map (fun d => d.parameters.length) = some 0 := by decide +kernel
def rm_X8_allIsSeen : Room := { frames := 6, cells := 0, slots := 0, locals := 177 }
set_option maxRecDepth 100000 in
theorem inX8_allIsSeen_8 : ∀ w ∈ wsX80, w ∈ wsX8_allIsSeen := fun _ h => List.mem_cons_of_mem _ (List.mem_append_left _ (List.mem_append_left _ (List.mem_append_left _ (List.mem_append_left _ (List.mem_append_right _ h)))))
set_option maxRecDepth 100000 in
theorem lkX8_allIsSeen_22 : Cond.fieldLink RX8 22 "BellsBelow" "trial" "LBellsBelow$Hall;" ∈ wsX8_allIsSeen := by decide +kernel
set_option maxHeartbeats 4000000 in
set_option maxRecDepth 100000 in
theorem w_X8_allIsSeen_2 {p : Program} {l : Launch} {e : Env} {s : State} {m : MethodId} {args : Array Value} {below : List Frame} {meth : Method} {c : Code} {E : Ev} {ℓ : Mz} {out : Int32 × Ms}   (C : Cx cX8_allIsSeen 2 (some .boolean) wsX8_allIsSeen RX8 E p s m args meth c) {k2 : Ms → Int32 → Option (Int32 × Ms)} (hk2 : ∀ (σ : Ms) (v1 : Int32) (H : Heap) (locs : List Loc), HI E σ ℓ s H locs → ∀ ls : Array Slot, lv_has ls 2 [(0, .ref (Ea E 0 0)), (1, .int v1)] → k2 σ v1 = some out → W p l e rm_X8_allIsSeen s m args below meth c H locs 0 0 (MQ below (Po E s.heap.size (some (.int out.1)) out.2 ℓ) args s 0 0 (AA E s.heap.size)) (F0 m 2 ls [])) : ∀ (σ : Ms) (v1 : Int32) (H : Heap) (locs : List Loc) (h : HI E σ ℓ s H locs) (ls : Array Slot) (hl : lv_has ls 2 [(0, .ref (Ea E 0 0)), (1, .int v1)]), f_X8_allIsSeen_2  k2 σ v1 = some out → W p l e rm_X8_allIsSeen s m args below meth c H locs 0 0 (MQ below (Po E s.heap.size (some (.int out.1)) out.2 ℓ) args s 0 0 (AA E s.heap.size)) (F0 m 2 ls []) := by
  intro σ v1 H locs h ls hl hf
  unfold f_X8_allIsSeen_2 at hf
  have C0 := C
  obtain ⟨hx, hb, hr, hml, hown, hts, hlk, hK, hSF⟩ := C0
  refine lv_iload_n hx hb dX8_allIsSeen_2 rfl (lv_at hl 1 rfl) ?_
  refine lv_bipush (v := (20 : Int32)) hx hb dX8_allIsSeen_3 (by decide) ?_
  refine lv_icmp_gt (tgt := 32) hx hb dX8_allIsSeen_5 (by decide) (fun c1 => ?_) (fun c1 => ?_)
  · replace hf := it_t c1 hf
    refine lv_iconst (v := (1 : Int32)) hx hb dX8_allIsSeen_32 (by decide) ?_
    replace hf := Option.some.inj hf
    subst hf
    exact r_zre (v := (1 : Int32)) C h rfl dX8_allIsSeen_33
  replace hf := it_f c1 hf
  refine lv_aload_n hx hb dX8_allIsSeen_8 rfl (lv_at hl 0 rfl) ?_
  refine lv_iload_n hx hb dX8_allIsSeen_9 rfl (lv_at hl 1 rfl) ?_
  obtain ⟨u2, hu2, hf⟩ := bd_use hf
  refine r_cv_8 (rest := []) C h (c_X8_isSeenAfter  hu2) (rfl : Kd 0 = 8) gX8_allIsSeen_X8_isSeenAfter rfl ⟨rfl, rfl⟩ hdX8_isSeenAfter ⟨Nat.le_of_ble_eq_true rfl, Nat.le_of_ble_eq_true rfl⟩ ⟨Nat.zero_le _, Nat.zero_le _⟩ hl.1 rfl (Nat.le_of_ble_eq_true rfl) dX8_allIsSeen_10 (fun H locs h => ?_)
  refine lv_if_ne (tgt := 18) hx hb dX8_allIsSeen_13 (by decide) (fun c3 => ?_) (fun c3 => ?_)
  · replace hf := it_f c3 hf
    refine lv_aload_n hx hb dX8_allIsSeen_18 rfl (lv_at hl 0 rfl) ?_
    refine gf_8_1 C h (rfl : Kd 0 = 8) rfl inX8_allIsSeen_8 lkX8_allIsSeen_22 dX8_allIsSeen_19 ?_
    refine lv_iconst (v := (1 : Int32)) hx hb dX8_allIsSeen_22 (by decide) ?_
    obtain ⟨u4, hu4, hf⟩ := bd_use hf
    refine r_cv_1 (rest := []) C h (k_X1_goes (rfl : Kd 2 = 1) rfl (fun _ _ => rfl) hu4) (rfl : Kd 2 = 1) gX8_allIsSeen_X1_goes rfl ⟨rfl, rfl⟩ hdX1_goes ⟨Nat.le_of_ble_eq_true rfl, Nat.le_of_ble_eq_true rfl⟩ ⟨Nat.zero_le _, Nat.zero_le _⟩ hl.1 rfl (Nat.le_of_ble_eq_true rfl) dX8_allIsSeen_23 (fun H locs h => ?_)
    obtain ⟨σ5, eσ5⟩ : ∃ z, z = va_up σ 2 u4 := ⟨_, rfl⟩
    replace hf := lt_use eσ5 hf
    rw [← eσ5] at h
    clear eσ5
    obtain ⟨x6, ex6⟩ : ∃ y : Int32, y = (v1 + (1 : Int32)) := ⟨_, rfl⟩
    refine lv_iinc (v := x6) (lv' := [(1, .int x6), (0, .ref (Ea E 0 0))]) hx hb dX8_allIsSeen_26 hl (k := 1) rfl (by rw [ex6]; rfl) (by decide) rfl (fun ls hl => ?_)
    replace hf := lt_use ex6 hf
    clear ex6
    refine lv_goto (tgt := 2) hx hb dX8_allIsSeen_29 (by decide) ?_
    exact hk2 _ _ _ _ h ls (lv_sub hl [1, 0] rfl) hf
  replace hf := it_t c3 hf
  refine lv_iconst (v := (0 : Int32)) hx hb dX8_allIsSeen_16 (by decide) ?_
  replace hf := Option.some.inj hf
  subst hf
  exact r_zre (v := (0 : Int32)) C h rfl dX8_allIsSeen_17
set_option maxHeartbeats 4000000 in
set_option maxRecDepth 100000 in
theorem w_X8_allIsSeen_2L {p : Program} {l : Launch} {e : Env} {s : State} {m : MethodId} {args : Array Value} {below : List Frame} {meth : Method} {c : Code} {E : Ev} {ℓ : Mz} {out : Int32 × Ms}   (C : Cx cX8_allIsSeen 2 (some .boolean) wsX8_allIsSeen RX8 E p s m args meth c)  : ∀ (n9 : Nat) (σ : Ms) (v1 : Int32) (H : Heap) (locs : List Loc) (h : HI E σ ℓ s H locs) (ls : Array Slot) (hl : lv_has ls 2 [(0, .ref (Ea E 0 0)), (1, .int v1)]), f_X8_allIsSeen_2L   n9 σ v1 = some out → W p l e rm_X8_allIsSeen s m args below meth c H locs 0 0 (MQ below (Po E s.heap.size (some (.int out.1)) out.2 ℓ) args s 0 0 (AA E s.heap.size)) (F0 m 2 ls []) := by
  intro n9
  induction n9 with
  | zero =>
    intro σ v1 H locs h ls hl hf
    cases (show (none : Option (Int32 × Ms)) = some out from hf)
  | succ n9 ih =>
    intro σ v1 H locs h ls hl hf
    exact w_X8_allIsSeen_2   C  ih σ v1 H locs h ls hl hf
set_option maxHeartbeats 4000000 in
set_option maxRecDepth 100000 in
theorem w_X8_allIsSeen_0 {p : Program} {l : Launch} {e : Env} {s : State} {m : MethodId} {args : Array Value} {below : List Frame} {meth : Method} {c : Code} {E : Ev} {ℓ : Mz} {out : Int32 × Ms}   (C : Cx cX8_allIsSeen 2 (some .boolean) wsX8_allIsSeen RX8 E p s m args meth c)  : ∀ (σ : Ms) (H : Heap) (locs : List Loc) (h : HI E σ ℓ s H locs) (ls : Array Slot) (hl : lv_has ls 2 [(0, .ref (Ea E 0 0))]), f_X8_allIsSeen_0   σ = some out → W p l e rm_X8_allIsSeen s m args below meth c H locs 0 0 (MQ below (Po E s.heap.size (some (.int out.1)) out.2 ℓ) args s 0 0 (AA E s.heap.size)) (F0 m 0 ls []) := by
  intro σ H locs h ls hl hf
  unfold f_X8_allIsSeen_0 at hf
  have C0 := C
  obtain ⟨hx, hb, hr, hml, hown, hts, hlk, hK, hSF⟩ := C0
  refine lv_iconst (v := (0 : Int32)) hx hb dX8_allIsSeen_0 (by decide) ?_
  refine lv_istore_n (lv' := [(1, .int (0 : Int32)), (0, .ref (Ea E 0 0))]) hx hb dX8_allIsSeen_1 rfl hl (by decide) rfl (fun ls hl => ?_)
  exact w_X8_allIsSeen_2L    C  _ _ _ _ _ h ls (lv_sub hl [1, 0] rfl) hf
theorem c_X8_allIsSeen {l : Launch} {E : Ev} {σ : Ms} {ℓ : Mz}  {out : Int32 × Ms} (hf : f_X8_allIsSeen σ = some out) : Ct l yX8_allIsSeen wsX8_allIsSeen rm_X8_allIsSeen [.ref (Ea E 0 0)] E σ ℓ (some (.int out.1)) out.2 ℓ := by
  refine Ct_mk (cc := cX8_allIsSeen) (mL := 2) (ret := (some .boolean)) (own := RX8) (by decide +kernel) rfl rfl (Nat.le_of_ble_eq_true rfl) (fun p e s m below meth c C h ls hl => ?_)
  exact w_X8_allIsSeen_0  C σ _ _ h ls (lv_sub hl [0] rfl) hf
theorem hdX8_from : yX8_from.cls = RX8 ∧ yX8_from.cls ≠ "java/lang/invoke/MethodHandle" ∧ yX8_from.cls ≠ "java/lang/invoke/VarHandle" ∧ (parseMethodDescriptor yX8_from.desc).map (fun d => d.parameters.length) = some 1 := by decide +kernel
def rm_X8_from : Room := { frames := 7, cells := 0, slots := 0, locals := 198 }
set_option maxRecDepth 100000 in
theorem inX8_from_8 : ∀ w ∈ wsX80, w ∈ wsX8_from := fun _ h => List.mem_cons_of_mem _ (List.mem_append_left _ (List.mem_append_left _ (List.mem_append_left _ (List.mem_append_left _ (List.mem_append_right _ h)))))
set_option maxRecDepth 100000 in
theorem lkX8_from_22 : Cond.fieldLink RX8 22 "BellsBelow" "trial" "LBellsBelow$Hall;" ∈ wsX8_from := by decide +kernel
set_option maxRecDepth 100000 in
theorem lkX8_from_17 : Cond.fieldLink RX8 17 "BellsBelow" "now" "LBellsBelow$Hall;" ∈ wsX8_from := by decide +kernel
set_option maxRecDepth 100000 in
theorem inX8_from_1 : ∀ w ∈ wsX10, w ∈ wsX8_from := fun _ h => List.mem_cons_of_mem _ (List.mem_append_left _ (List.mem_append_left _ (List.mem_append_left _ (List.mem_append_right _ h))))
set_option maxRecDepth 100000 in
theorem lkX8_from_102 : Cond.fieldLink RX8 102 "BellsBelow$Hall" "floor" "[I" ∈ wsX8_from := by decide +kernel
set_option maxHeartbeats 4000000 in
set_option maxRecDepth 100000 in
theorem w_X8_from_55 {p : Program} {l : Launch} {e : Env} {s : State} {m : MethodId} {args : Array Value} {below : List Frame} {meth : Method} {c : Code} {E : Ev} {ℓ : Mz} {p0 : Int32} {out : Int32 × Ms}   (C : Cx cX8_from 4 (some .int) wsX8_from RX8 E p s m args meth c) {k15 : Ms → Int32 → Int32 → Option (Int32 × Ms)} (hk15 : ∀ (σ : Ms) (v2 : Int32) (v3 : Int32) (H : Heap) (locs : List Loc), HI E σ ℓ s H locs → ∀ ls : Array Slot, lv_has ls 4 [(0, .ref (Ea E 0 0)), (1, .int p0), (2, .int v2), (3, .int v3)] → k15 σ v2 v3 = some out → W p l e rm_X8_from s m args below meth c H locs 0 0 (MQ below (Po E s.heap.size (some (.int out.1)) out.2 ℓ) args s 0 0 (AA E s.heap.size)) (F0 m 15 ls [])) : ∀ (σ : Ms) (v2 : Int32) (v3 : Int32) (H : Heap) (locs : List Loc) (h : HI E σ ℓ s H locs) (ls : Array Slot) (hl : lv_has ls 4 [(0, .ref (Ea E 0 0)), (1, .int p0), (2, .int v2), (3, .int v3)]), f_X8_from_55 p0 k15 σ v2 v3 = some out → W p l e rm_X8_from s m args below meth c H locs 0 0 (MQ below (Po E s.heap.size (some (.int out.1)) out.2 ℓ) args s 0 0 (AA E s.heap.size)) (F0 m 55 ls []) := by
  intro σ v2 v3 H locs h ls hl hf
  unfold f_X8_from_55 at hf
  have C0 := C
  obtain ⟨hx, hb, hr, hml, hown, hts, hlk, hK, hSF⟩ := C0
  obtain ⟨x11, ex11⟩ : ∃ y : Int32, y = (v3 + (1 : Int32)) := ⟨_, rfl⟩
  refine lv_iinc (v := x11) (lv' := [(3, .int x11), (0, .ref (Ea E 0 0)), (1, .int p0), (2, .int v2)]) hx hb dX8_from_55 hl (k := 3) rfl (by rw [ex11]; rfl) (by decide) rfl (fun ls hl => ?_)
  replace hf := lt_use ex11 hf
  clear ex11
  refine lv_goto (tgt := 15) hx hb dX8_from_58 (by decide) ?_
  exact hk15 _ _ _ _ _ h ls (lv_sub hl [1, 2, 3, 0] rfl) hf
set_option maxHeartbeats 4000000 in
set_option maxRecDepth 100000 in
theorem w_X8_from_15 {p : Program} {l : Launch} {e : Env} {s : State} {m : MethodId} {args : Array Value} {below : List Frame} {meth : Method} {c : Code} {E : Ev} {ℓ : Mz} {p0 : Int32} {out : Int32 × Ms}   (C : Cx cX8_from 4 (some .int) wsX8_from RX8 E p s m args meth c) {k15 : Ms → Int32 → Int32 → Option (Int32 × Ms)} (hk15 : ∀ (σ : Ms) (v2 : Int32) (v3 : Int32) (H : Heap) (locs : List Loc), HI E σ ℓ s H locs → ∀ ls : Array Slot, lv_has ls 4 [(0, .ref (Ea E 0 0)), (1, .int p0), (2, .int v2), (3, .int v3)] → k15 σ v2 v3 = some out → W p l e rm_X8_from s m args below meth c H locs 0 0 (MQ below (Po E s.heap.size (some (.int out.1)) out.2 ℓ) args s 0 0 (AA E s.heap.size)) (F0 m 15 ls [])) : ∀ (σ : Ms) (v2 : Int32) (v3 : Int32) (H : Heap) (locs : List Loc) (h : HI E σ ℓ s H locs) (ls : Array Slot) (hl : lv_has ls 4 [(0, .ref (Ea E 0 0)), (1, .int p0), (2, .int v2), (3, .int v3)]), f_X8_from_15 p0 k15 σ v2 v3 = some out → W p l e rm_X8_from s m args below meth c H locs 0 0 (MQ below (Po E s.heap.size (some (.int out.1)) out.2 ℓ) args s 0 0 (AA E s.heap.size)) (F0 m 15 ls []) := by
  intro σ v2 v3 H locs h ls hl hf
  unfold f_X8_from_15 at hf
  have C0 := C
  obtain ⟨hx, hb, hr, hml, hown, hts, hlk, hK, hSF⟩ := C0
  refine lv_iload_n hx hb dX8_from_15 rfl (lv_at hl 3 rfl) ?_
  refine lv_bipush (v := (10 : Int32)) hx hb dX8_from_16 (by decide) ?_
  refine lv_icmp_ge (tgt := 61) hx hb dX8_from_18 (by decide) (fun c3 => ?_) (fun c3 => ?_)
  · replace hf := it_t c3 hf
    refine lv_iload_n hx hb dX8_from_61 rfl (lv_at hl 2 rfl) ?_
    replace hf := Option.some.inj hf
    subst hf
    exact r_ire C h dX8_from_62
  replace hf := it_f c3 hf
  refine lv_aload_n hx hb dX8_from_21 rfl (lv_at hl 0 rfl) ?_
  refine gf_8_1 C h (rfl : Kd 0 = 8) rfl inX8_from_8 lkX8_from_22 dX8_from_22 ?_
  refine lv_aload_n hx hb dX8_from_25 rfl (lv_at hl 0 rfl) ?_
  refine gf_8_0 C h (rfl : Kd 0 = 8) rfl inX8_from_8 lkX8_from_17 dX8_from_26 ?_
  obtain ⟨u4, hu4, hf⟩ := bd_use hf
  refine r_cv_1 (rest := []) C h (k_X1_copies (rfl : Kd 2 = 1) (rfl : Kd 1 = 1) (by decide) rfl rfl hu4) (rfl : Kd 2 = 1) gX8_from_X1_copies rfl ⟨rfl, rfl⟩ hdX1_copies ⟨Nat.le_of_ble_eq_true rfl, Nat.le_of_ble_eq_true rfl⟩ ⟨Nat.zero_le _, Nat.zero_le _⟩ hl.1 rfl (Nat.le_of_ble_eq_true rfl) dX8_from_29 (fun H locs h => ?_)
  obtain ⟨σ5, eσ5⟩ : ∃ z, z = va_up σ 2 u4 := ⟨_, rfl⟩
  replace hf := lt_use eσ5 hf
  rw [← eσ5] at h
  clear eσ5
  refine lv_aload_n hx hb dX8_from_32 rfl (lv_at hl 0 rfl) ?_
  refine gf_8_1 C h (rfl : Kd 0 = 8) rfl inX8_from_8 lkX8_from_22 dX8_from_33 ?_
  refine gf_1_4 C h (rfl : Kd 2 = 1) rfl inX8_from_1 lkX8_from_102 dX8_from_36 ?_
  refine lv_iload_n hx hb dX8_from_39 rfl (lv_at hl 1 rfl) ?_
  refine lv_iload_n hx hb dX8_from_40 rfl (lv_at hl 3 rfl) ?_
  obtain ⟨g6, hf⟩ := gd_use hf
  refine sa_1_3 C h (rfl : Kd 2 = 1) rfl (F := fun t => va_up σ5 2 t) (fun _ => rfl) (inB_in g6) dX8_from_41 (fun τ7 eτ7 H locs h => ?_)
  replace hf := lt_use eτ7 hf
  clear eτ7
  obtain ⟨σ8, eσ8⟩ : ∃ z, z = va_up σ5 2 τ7 := ⟨_, rfl⟩
  replace hf := lt_use eσ8 hf
  replace h : HI E (va_up σ5 2 τ7) ℓ s H locs := h
  rw [← eσ8] at h
  clear eσ8
  refine lv_aload_n hx hb dX8_from_42 rfl (lv_at hl 0 rfl) ?_
  obtain ⟨u9, hu9, hf⟩ := bd_use hf
  refine r_cv_8 (rest := []) C h (c_X8_allIsSeen  hu9) (rfl : Kd 0 = 8) gX8_from_X8_allIsSeen rfl ⟨rfl, rfl⟩ hdX8_allIsSeen ⟨Nat.le_of_ble_eq_true rfl, Nat.le_of_ble_eq_true rfl⟩ ⟨Nat.zero_le _, Nat.zero_le _⟩ hl.1 rfl (Nat.le_of_ble_eq_true rfl) dX8_from_43 (fun H locs h => ?_)
  refine lv_if_eq (tgt := 55) hx hb dX8_from_46 (by decide) (fun c10 => ?_) (fun c10 => ?_)
  · replace hf := it_t c10 hf
    exact w_X8_from_55    C hk15 _ _ _ _ _ h ls (lv_sub hl [0, 1, 2, 3] rfl) hf
  replace hf := it_f c10 hf
  refine lv_iload_n hx hb dX8_from_49 rfl (lv_at hl 2 rfl) ?_
  refine lv_iconst (v := (1 : Int32)) hx hb dX8_from_50 (by decide) ?_
  refine lv_iload_n hx hb dX8_from_51 rfl (lv_at hl 3 rfl) ?_
  refine lv_ishl hx hb dX8_from_52 ?_
  refine lv_ior hx hb dX8_from_53 ?_
  refine lv_topi (fun x12 ex12 => ?_)
  replace hf := lt_use ex12 hf
  clear ex12
  refine lv_istore_n (lv' := [(2, .int x12), (0, .ref (Ea E 0 0)), (1, .int p0), (3, .int v3)]) hx hb dX8_from_54 rfl hl (by decide) rfl (fun ls hl => ?_)
  exact w_X8_from_55    C hk15 _ _ _ _ _ h ls (lv_sub hl [1, 2, 0, 3] rfl) hf
set_option maxHeartbeats 4000000 in
set_option maxRecDepth 100000 in
theorem w_X8_from_15L {p : Program} {l : Launch} {e : Env} {s : State} {m : MethodId} {args : Array Value} {below : List Frame} {meth : Method} {c : Code} {E : Ev} {ℓ : Mz} {p0 : Int32} {out : Int32 × Ms}   (C : Cx cX8_from 4 (some .int) wsX8_from RX8 E p s m args meth c)  : ∀ (n9 : Nat) (σ : Ms) (v2 : Int32) (v3 : Int32) (H : Heap) (locs : List Loc) (h : HI E σ ℓ s H locs) (ls : Array Slot) (hl : lv_has ls 4 [(0, .ref (Ea E 0 0)), (1, .int p0), (2, .int v2), (3, .int v3)]), f_X8_from_15L p0  n9 σ v2 v3 = some out → W p l e rm_X8_from s m args below meth c H locs 0 0 (MQ below (Po E s.heap.size (some (.int out.1)) out.2 ℓ) args s 0 0 (AA E s.heap.size)) (F0 m 15 ls []) := by
  intro n9
  induction n9 with
  | zero =>
    intro σ v2 v3 H locs h ls hl hf
    cases (show (none : Option (Int32 × Ms)) = some out from hf)
  | succ n9 ih =>
    intro σ v2 v3 H locs h ls hl hf
    exact w_X8_from_15   C  ih σ v2 v3 H locs h ls hl hf
set_option maxHeartbeats 4000000 in
set_option maxRecDepth 100000 in
theorem w_X8_from_0 {p : Program} {l : Launch} {e : Env} {s : State} {m : MethodId} {args : Array Value} {below : List Frame} {meth : Method} {c : Code} {E : Ev} {ℓ : Mz} {p0 : Int32} {out : Int32 × Ms}   (C : Cx cX8_from 4 (some .int) wsX8_from RX8 E p s m args meth c)  : ∀ (σ : Ms) (H : Heap) (locs : List Loc) (h : HI E σ ℓ s H locs) (ls : Array Slot) (hl : lv_has ls 4 [(0, .ref (Ea E 0 0)), (1, .int p0)]), f_X8_from_0 p0  σ = some out → W p l e rm_X8_from s m args below meth c H locs 0 0 (MQ below (Po E s.heap.size (some (.int out.1)) out.2 ℓ) args s 0 0 (AA E s.heap.size)) (F0 m 0 ls []) := by
  intro σ H locs h ls hl hf
  unfold f_X8_from_0 at hf
  have C0 := C
  obtain ⟨hx, hb, hr, hml, hown, hts, hlk, hK, hSF⟩ := C0
  refine lv_aload_n hx hb dX8_from_0 rfl (lv_at hl 0 rfl) ?_
  refine lv_iload_n hx hb dX8_from_1 rfl (lv_at hl 1 rfl) ?_
  refine lv_i2l hx hb dX8_from_2 rfl ?_
  obtain ⟨u1, hu1, hf⟩ := bd_use hf
  refine r_cv_8 (rest := []) C h (c_X8_isMaster  hu1) (rfl : Kd 0 = 8) gX8_from_X8_isMaster rfl ⟨rfl, rfl⟩ hdX8_isMaster ⟨Nat.le_of_ble_eq_true rfl, Nat.le_of_ble_eq_true rfl⟩ ⟨Nat.zero_le _, Nat.zero_le _⟩ hl.1 rfl (Nat.le_of_ble_eq_true rfl) dX8_from_3 (fun H locs h => ?_)
  refine lv_if_ne (tgt := 11) hx hb dX8_from_6 (by decide) (fun c2 => ?_) (fun c2 => ?_)
  · replace hf := it_f c2 hf
    refine lv_iconst (v := (0 : Int32)) hx hb dX8_from_11 (by decide) ?_
    refine lv_istore_n (lv' := [(2, .int (0 : Int32)), (0, .ref (Ea E 0 0)), (1, .int p0)]) hx hb dX8_from_12 rfl hl (by decide) rfl (fun ls hl => ?_)
    refine lv_iconst (v := (0 : Int32)) hx hb dX8_from_13 (by decide) ?_
    refine lv_istore_n (lv' := [(3, .int (0 : Int32)), (2, .int (0 : Int32)), (0, .ref (Ea E 0 0)), (1, .int p0)]) hx hb dX8_from_14 rfl hl (by decide) rfl (fun ls hl => ?_)
    exact w_X8_from_15L    C  _ _ _ _ _ _ h ls (lv_sub hl [2, 3, 1, 0] rfl) hf
  replace hf := it_t c2 hf
  refine lv_iconst (v := (-1 : Int32)) hx hb dX8_from_9 (by decide) ?_
  replace hf := Option.some.inj hf
  subst hf
  exact r_ire C h dX8_from_10
theorem c_X8_from {l : Launch} {E : Ev} {σ : Ms} {ℓ : Mz} {p0 : Int32} {out : Int32 × Ms} (hf : f_X8_from σ p0 = some out) : Ct l yX8_from wsX8_from rm_X8_from [.ref (Ea E 0 0), .int p0] E σ ℓ (some (.int out.1)) out.2 ℓ := by
  refine Ct_mk (cc := cX8_from) (mL := 4) (ret := (some .int)) (own := RX8) (by decide +kernel) rfl rfl (Nat.le_of_ble_eq_true rfl) (fun p e s m below meth c C h ls hl => ?_)
  exact w_X8_from_0  C σ _ _ h ls (lv_sub hl [0, 1] rfl) hf
theorem hdX8_can : yX8_can.cls = RX8 ∧ yX8_can.cls ≠ "java/lang/invoke/MethodHandle" ∧ yX8_can.cls ≠ "java/lang/invoke/VarHandle" ∧ (parseMethodDescriptor yX8_can.desc).map (fun d => d.parameters.length) = some 2 := by decide +kernel
def rm_X8_can : Room := { frames := 7, cells := 0, slots := 0, locals := 198 }
set_option maxRecDepth 100000 in
theorem inX8_can_8 : ∀ w ∈ wsX80, w ∈ wsX8_can := fun _ h => List.mem_cons_of_mem _ (List.mem_append_left _ (List.mem_append_left _ (List.mem_append_left _ (List.mem_append_left _ (List.mem_append_right _ h)))))
set_option maxRecDepth 100000 in
theorem lkX8_can_22 : Cond.fieldLink RX8 22 "BellsBelow" "trial" "LBellsBelow$Hall;" ∈ wsX8_can := by decide +kernel
set_option maxRecDepth 100000 in
theorem lkX8_can_17 : Cond.fieldLink RX8 17 "BellsBelow" "now" "LBellsBelow$Hall;" ∈ wsX8_can := by decide +kernel
set_option maxRecDepth 100000 in
theorem inX8_can_1 : ∀ w ∈ wsX10, w ∈ wsX8_can := fun _ h => List.mem_cons_of_mem _ (List.mem_append_left _ (List.mem_append_left _ (List.mem_append_left _ (List.mem_append_right _ h))))
set_option maxRecDepth 100000 in
theorem lkX8_can_99 : Cond.fieldLink RX8 99 "BellsBelow$Hall" "v" "[I" ∈ wsX8_can := by decide +kernel
set_option maxHeartbeats 4000000 in
set_option maxRecDepth 100000 in
theorem w_X8_can_71 {p : Program} {l : Launch} {e : Env} {s : State} {m : MethodId} {args : Array Value} {below : List Frame} {meth : Method} {c : Code} {E : Ev} {ℓ : Mz} {p0 : Int32} {p1 : Int32} {out : Int32 × Ms}   (C : Cx cX8_can 6 (some .int) wsX8_can RX8 E p s m args meth c) {k30 : Ms → Int32 → Int32 → Int32 → Option (Int32 × Ms)} (hk30 : ∀ (σ : Ms) (v3 : Int32) (v4 : Int32) (v5 : Int32) (H : Heap) (locs : List Loc), HI E σ ℓ s H locs → ∀ ls : Array Slot, lv_has ls 6 [(0, .ref (Ea E 0 0)), (1, .int p0), (2, .int p1), (3, .int v3), (4, .int v4), (5, .int v5)] → k30 σ v3 v4 v5 = some out → W p l e rm_X8_can s m args below meth c H locs 0 0 (MQ below (Po E s.heap.size (some (.int out.1)) out.2 ℓ) args s 0 0 (AA E s.heap.size)) (F0 m 30 ls [])) : ∀ (σ : Ms) (v3 : Int32) (v4 : Int32) (v5 : Int32) (H : Heap) (locs : List Loc) (h : HI E σ ℓ s H locs) (ls : Array Slot) (hl : lv_has ls 6 [(0, .ref (Ea E 0 0)), (1, .int p0), (2, .int p1), (3, .int v3), (4, .int v4), (5, .int v5)]), f_X8_can_71 p0 p1 k30 σ v3 v4 v5 = some out → W p l e rm_X8_can s m args below meth c H locs 0 0 (MQ below (Po E s.heap.size (some (.int out.1)) out.2 ℓ) args s 0 0 (AA E s.heap.size)) (F0 m 71 ls []) := by
  intro σ v3 v4 v5 H locs h ls hl hf
  unfold f_X8_can_71 at hf
  have C0 := C
  obtain ⟨hx, hb, hr, hml, hown, hts, hlk, hK, hSF⟩ := C0
  obtain ⟨x14, ex14⟩ : ∃ y : Int32, y = (v5 + (-1 : Int32)) := ⟨_, rfl⟩
  refine lv_iinc (v := x14) (lv' := [(5, .int x14), (0, .ref (Ea E 0 0)), (1, .int p0), (2, .int p1), (3, .int v3), (4, .int v4)]) hx hb dX8_can_71 hl (k := 5) rfl (by rw [ex14]; rfl) (by decide) rfl (fun ls hl => ?_)
  replace hf := lt_use ex14 hf
  clear ex14
  refine lv_goto (tgt := 30) hx hb dX8_can_74 (by decide) ?_
  exact hk30 _ _ _ _ _ _ h ls (lv_sub hl [1, 2, 3, 4, 5, 0] rfl) hf
set_option maxHeartbeats 4000000 in
set_option maxRecDepth 100000 in
theorem w_X8_can_30 {p : Program} {l : Launch} {e : Env} {s : State} {m : MethodId} {args : Array Value} {below : List Frame} {meth : Method} {c : Code} {E : Ev} {ℓ : Mz} {p0 : Int32} {p1 : Int32} {out : Int32 × Ms}   (C : Cx cX8_can 6 (some .int) wsX8_can RX8 E p s m args meth c) {k30 : Ms → Int32 → Int32 → Int32 → Option (Int32 × Ms)} (hk30 : ∀ (σ : Ms) (v3 : Int32) (v4 : Int32) (v5 : Int32) (H : Heap) (locs : List Loc), HI E σ ℓ s H locs → ∀ ls : Array Slot, lv_has ls 6 [(0, .ref (Ea E 0 0)), (1, .int p0), (2, .int p1), (3, .int v3), (4, .int v4), (5, .int v5)] → k30 σ v3 v4 v5 = some out → W p l e rm_X8_can s m args below meth c H locs 0 0 (MQ below (Po E s.heap.size (some (.int out.1)) out.2 ℓ) args s 0 0 (AA E s.heap.size)) (F0 m 30 ls [])) : ∀ (σ : Ms) (v3 : Int32) (v4 : Int32) (v5 : Int32) (H : Heap) (locs : List Loc) (h : HI E σ ℓ s H locs) (ls : Array Slot) (hl : lv_has ls 6 [(0, .ref (Ea E 0 0)), (1, .int p0), (2, .int p1), (3, .int v3), (4, .int v4), (5, .int v5)]), f_X8_can_30 p0 p1 k30 σ v3 v4 v5 = some out → W p l e rm_X8_can s m args below meth c H locs 0 0 (MQ below (Po E s.heap.size (some (.int out.1)) out.2 ℓ) args s 0 0 (AA E s.heap.size)) (F0 m 30 ls []) := by
  intro σ v3 v4 v5 H locs h ls hl hf
  unfold f_X8_can_30 at hf
  have C0 := C
  obtain ⟨hx, hb, hr, hml, hown, hts, hlk, hK, hSF⟩ := C0
  refine lv_iload hx hb dX8_can_30 (lv_at hl 5 rfl) ?_
  refine lv_if_lt (tgt := 77) hx hb dX8_can_32 (by decide) (fun c5 => ?_) (fun c5 => ?_)
  · replace hf := it_t c5 hf
    refine lv_iload_n hx hb dX8_can_77 rfl (lv_at hl 2 rfl) ?_
    refine lv_if_ne (tgt := 85) hx hb dX8_can_78 (by decide) (fun c6 => ?_) (fun c6 => ?_)
    · replace hf := it_f c6 hf
      refine lv_iload hx hb dX8_can_85 (lv_at hl 4 rfl) ?_
      replace hf := Option.some.inj hf
      subst hf
      exact r_ire C h dX8_can_87
    replace hf := it_t c6 hf
    refine lv_iload_n hx hb dX8_can_81 rfl (lv_at hl 3 rfl) ?_
    refine lv_goto (tgt := 87) hx hb dX8_can_82 (by decide) ?_
    replace hf := Option.some.inj hf
    subst hf
    exact r_ire C h dX8_can_87
  replace hf := it_f c5 hf
  refine lv_aload_n hx hb dX8_can_35 rfl (lv_at hl 0 rfl) ?_
  refine gf_8_1 C h (rfl : Kd 0 = 8) rfl inX8_can_8 lkX8_can_22 dX8_can_36 ?_
  refine lv_aload_n hx hb dX8_can_39 rfl (lv_at hl 0 rfl) ?_
  refine gf_8_0 C h (rfl : Kd 0 = 8) rfl inX8_can_8 lkX8_can_17 dX8_can_40 ?_
  obtain ⟨u7, hu7, hf⟩ := bd_use hf
  refine r_cv_1 (rest := []) C h (k_X1_copies (rfl : Kd 2 = 1) (rfl : Kd 1 = 1) (by decide) rfl rfl hu7) (rfl : Kd 2 = 1) gX8_can_X1_copies rfl ⟨rfl, rfl⟩ hdX1_copies ⟨Nat.le_of_ble_eq_true rfl, Nat.le_of_ble_eq_true rfl⟩ ⟨Nat.zero_le _, Nat.zero_le _⟩ hl.1 rfl (Nat.le_of_ble_eq_true rfl) dX8_can_43 (fun H locs h => ?_)
  obtain ⟨σ8, eσ8⟩ : ∃ z, z = va_up σ 2 u7 := ⟨_, rfl⟩
  replace hf := lt_use eσ8 hf
  rw [← eσ8] at h
  clear eσ8
  refine lv_aload_n hx hb dX8_can_46 rfl (lv_at hl 0 rfl) ?_
  refine gf_8_1 C h (rfl : Kd 0 = 8) rfl inX8_can_8 lkX8_can_22 dX8_can_47 ?_
  refine gf_1_3 C h (rfl : Kd 2 = 1) rfl inX8_can_1 lkX8_can_99 dX8_can_50 ?_
  refine lv_iload_n hx hb dX8_can_53 rfl (lv_at hl 1 rfl) ?_
  refine lv_iload hx hb dX8_can_54 (lv_at hl 5 rfl) ?_
  obtain ⟨g9, hf⟩ := gd_use hf
  refine sa_1_2 C h (rfl : Kd 2 = 1) rfl (F := fun t => va_up σ8 2 t) (fun _ => rfl) (inB_in g9) dX8_can_56 (fun τ10 eτ10 H locs h => ?_)
  replace hf := lt_use eτ10 hf
  clear eτ10
  obtain ⟨σ11, eσ11⟩ : ∃ z, z = va_up σ8 2 τ10 := ⟨_, rfl⟩
  replace hf := lt_use eσ11 hf
  replace h : HI E (va_up σ8 2 τ10) ℓ s H locs := h
  rw [← eσ11] at h
  clear eσ11
  refine lv_aload_n hx hb dX8_can_57 rfl (lv_at hl 0 rfl) ?_
  obtain ⟨u12, hu12, hf⟩ := bd_use hf
  refine r_cv_8 (rest := []) C h (c_X8_allIsSeen  hu12) (rfl : Kd 0 = 8) gX8_can_X8_allIsSeen rfl ⟨rfl, rfl⟩ hdX8_allIsSeen ⟨Nat.le_of_ble_eq_true rfl, Nat.le_of_ble_eq_true rfl⟩ ⟨Nat.zero_le _, Nat.zero_le _⟩ hl.1 rfl (Nat.le_of_ble_eq_true rfl) dX8_can_58 (fun H locs h => ?_)
  refine lv_if_eq (tgt := 71) hx hb dX8_can_61 (by decide) (fun c13 => ?_) (fun c13 => ?_)
  · replace hf := it_t c13 hf
    exact w_X8_can_71    C hk30 _ _ _ _ _ _ h ls (lv_sub hl [0, 1, 2, 3, 4, 5] rfl) hf
  replace hf := it_f c13 hf
  obtain ⟨x15, ex15⟩ : ∃ y : Int32, y = (v3 + (1 : Int32)) := ⟨_, rfl⟩
  refine lv_iinc (v := x15) (lv' := [(3, .int x15), (0, .ref (Ea E 0 0)), (1, .int p0), (2, .int p1), (4, .int v4), (5, .int v5)]) hx hb dX8_can_64 hl (k := 3) rfl (by rw [ex15]; rfl) (by decide) rfl (fun ls hl => ?_)
  replace hf := lt_use ex15 hf
  clear ex15
  refine lv_iload hx hb dX8_can_67 (lv_at hl 5 rfl) ?_
  refine lv_istore (lv' := [(4, .int v5), (3, .int x15), (0, .ref (Ea E 0 0)), (1, .int p0), (2, .int p1), (5, .int v5)]) hx hb dX8_can_69 hl (by decide) rfl (fun ls hl => ?_)
  exact w_X8_can_71    C hk30 _ _ _ _ _ _ h ls (lv_sub hl [2, 3, 4, 1, 0, 5] rfl) hf
set_option maxHeartbeats 4000000 in
set_option maxRecDepth 100000 in
theorem w_X8_can_30L {p : Program} {l : Launch} {e : Env} {s : State} {m : MethodId} {args : Array Value} {below : List Frame} {meth : Method} {c : Code} {E : Ev} {ℓ : Mz} {p0 : Int32} {p1 : Int32} {out : Int32 × Ms}   (C : Cx cX8_can 6 (some .int) wsX8_can RX8 E p s m args meth c)  : ∀ (n9 : Nat) (σ : Ms) (v3 : Int32) (v4 : Int32) (v5 : Int32) (H : Heap) (locs : List Loc) (h : HI E σ ℓ s H locs) (ls : Array Slot) (hl : lv_has ls 6 [(0, .ref (Ea E 0 0)), (1, .int p0), (2, .int p1), (3, .int v3), (4, .int v4), (5, .int v5)]), f_X8_can_30L p0 p1  n9 σ v3 v4 v5 = some out → W p l e rm_X8_can s m args below meth c H locs 0 0 (MQ below (Po E s.heap.size (some (.int out.1)) out.2 ℓ) args s 0 0 (AA E s.heap.size)) (F0 m 30 ls []) := by
  intro n9
  induction n9 with
  | zero =>
    intro σ v3 v4 v5 H locs h ls hl hf
    cases (show (none : Option (Int32 × Ms)) = some out from hf)
  | succ n9 ih =>
    intro σ v3 v4 v5 H locs h ls hl hf
    exact w_X8_can_30   C  ih σ v3 v4 v5 H locs h ls hl hf
set_option maxHeartbeats 4000000 in
set_option maxRecDepth 100000 in
theorem w_X8_can_0 {p : Program} {l : Launch} {e : Env} {s : State} {m : MethodId} {args : Array Value} {below : List Frame} {meth : Method} {c : Code} {E : Ev} {ℓ : Mz} {p0 : Int32} {p1 : Int32} {out : Int32 × Ms}   (C : Cx cX8_can 6 (some .int) wsX8_can RX8 E p s m args meth c)  : ∀ (σ : Ms) (H : Heap) (locs : List Loc) (h : HI E σ ℓ s H locs) (ls : Array Slot) (hl : lv_has ls 6 [(0, .ref (Ea E 0 0)), (1, .int p0), (2, .int p1)]), f_X8_can_0 p0 p1  σ = some out → W p l e rm_X8_can s m args below meth c H locs 0 0 (MQ below (Po E s.heap.size (some (.int out.1)) out.2 ℓ) args s 0 0 (AA E s.heap.size)) (F0 m 0 ls []) := by
  intro σ H locs h ls hl hf
  unfold f_X8_can_0 at hf
  have C0 := C
  obtain ⟨hx, hb, hr, hml, hown, hts, hlk, hK, hSF⟩ := C0
  refine lv_aload_n hx hb dX8_can_0 rfl (lv_at hl 0 rfl) ?_
  refine lv_iload_n hx hb dX8_can_1 rfl (lv_at hl 1 rfl) ?_
  refine lv_i2l hx hb dX8_can_2 rfl ?_
  obtain ⟨u1, hu1, hf⟩ := bd_use hf
  refine r_cv_8 (rest := []) C h (c_X8_isMaster  hu1) (rfl : Kd 0 = 8) gX8_can_X8_isMaster rfl ⟨rfl, rfl⟩ hdX8_isMaster ⟨Nat.le_of_ble_eq_true rfl, Nat.le_of_ble_eq_true rfl⟩ ⟨Nat.zero_le _, Nat.zero_le _⟩ hl.1 rfl (Nat.le_of_ble_eq_true rfl) dX8_can_3 (fun H locs h => ?_)
  refine lv_if_eq (tgt := 18) hx hb dX8_can_6 (by decide) (fun c2 => ?_) (fun c2 => ?_)
  · replace hf := it_t c2 hf
    refine lv_iconst (v := (-1 : Int32)) hx hb dX8_can_18 (by decide) ?_
    replace hf := Option.some.inj hf
    subst hf
    exact r_ire C h dX8_can_19
  replace hf := it_f c2 hf
  refine lv_iload_n hx hb dX8_can_9 rfl (lv_at hl 2 rfl) ?_
  refine lv_i2l hx hb dX8_can_10 rfl ?_
  refine lv_iconst (v := (2 : Int32)) hx hb dX8_can_11 (by decide) ?_
  obtain ⟨u3, hu3, hf⟩ := bd_use hf
  refine r_cs (rest := []) C h (c_X8_within  hu3) gX8_can_X8_within rfl ⟨rfl, rfl⟩ hdX8_within ⟨Nat.le_of_ble_eq_true rfl, Nat.le_of_ble_eq_true rfl⟩ ⟨Nat.zero_le _, Nat.zero_le _⟩ hl.1 rfl (Nat.le_of_ble_eq_true rfl) dX8_can_12 (fun H locs h => ?_)
  refine lv_if_ne (tgt := 20) hx hb dX8_can_15 (by decide) (fun c4 => ?_) (fun c4 => ?_)
  · replace hf := it_f c4 hf
    refine lv_iconst (v := (0 : Int32)) hx hb dX8_can_20 (by decide) ?_
    refine lv_istore_n (lv' := [(3, .int (0 : Int32)), (0, .ref (Ea E 0 0)), (1, .int p0), (2, .int p1)]) hx hb dX8_can_21 rfl hl (by decide) rfl (fun ls hl => ?_)
    refine lv_bipush (v := (-5 : Int32)) hx hb dX8_can_22 (by decide) ?_
    refine lv_istore (lv' := [(4, .int (-5 : Int32)), (3, .int (0 : Int32)), (0, .ref (Ea E 0 0)), (1, .int p0), (2, .int p1)]) hx hb dX8_can_24 hl (by decide) rfl (fun ls hl => ?_)
    refine lv_bipush (v := (9 : Int32)) hx hb dX8_can_26 (by decide) ?_
    refine lv_istore (lv' := [(5, .int (9 : Int32)), (4, .int (-5 : Int32)), (3, .int (0 : Int32)), (0, .ref (Ea E 0 0)), (1, .int p0), (2, .int p1)]) hx hb dX8_can_28 hl (by decide) rfl (fun ls hl => ?_)
    exact w_X8_can_30L    C  _ _ _ _ _ _ _ h ls (lv_sub hl [3, 4, 5, 2, 1, 0] rfl) hf
  replace hf := it_t c4 hf
  refine lv_iconst (v := (-1 : Int32)) hx hb dX8_can_18 (by decide) ?_
  replace hf := Option.some.inj hf
  subst hf
  exact r_ire C h dX8_can_19
theorem c_X8_can {l : Launch} {E : Ev} {σ : Ms} {ℓ : Mz} {p0 : Int32} {p1 : Int32} {out : Int32 × Ms} (hf : f_X8_can σ p0 p1 = some out) : Ct l yX8_can wsX8_can rm_X8_can [.ref (Ea E 0 0), .int p0, .int p1] E σ ℓ (some (.int out.1)) out.2 ℓ := by
  refine Ct_mk (cc := cX8_can) (mL := 6) (ret := (some .int)) (own := RX8) (by decide +kernel) rfl rfl (Nat.le_of_ble_eq_true rfl) (fun p e s m below meth c C h ls hl => ?_)
  exact w_X8_can_0  C σ _ _ h ls (lv_sub hl [0, 1, 2] rfl) hf
theorem hdX8_lowest : yX8_lowest.cls ≠ "java/lang/invoke/MethodHandle" ∧ yX8_lowest.cls ≠ "java/lang/invoke/VarHandle" ∧ (parseMethodDescriptor yX8_lowest.desc).map (fun d => d.parameters.length) = some 3 := by decide +kernel
def rm_X8_lowest : Room := { frames := 0, cells := 0, slots := 0, locals := 0 }
set_option maxHeartbeats 4000000 in
set_option maxRecDepth 100000 in
theorem w_X8_lowest_48 {p : Program} {l : Launch} {e : Env} {s : State} {m : MethodId} {args : Array Value} {below : List Frame} {meth : Method} {c : Code} {E : Ev} {ℓ : Mz} {σ : Ms} {p0 : Int32} {p1 : Int32} {p2 : Int32} {out : Int64}   (C : Cx cX8_lowest 7 (some .long) wsX8_lowest RX8 E p s m args meth c)  : ∀ (v3 : Int32) (w0 : Int32) (H : Heap) (locs : List Loc) (h : HI E σ ℓ s H locs) (ls : Array Slot) (hl : lv_has ls 7 [(3, .int v3)]), f_X8_lowest_48 p0 p1 p2  v3 w0 = some out → W p l e rm_X8_lowest s m args below meth c H locs 0 0 (MQ below (Po E s.heap.size (some (.long out)) σ ℓ) args s 0 0 (AA E s.heap.size)) (F0 m 48 ls [.int w0]) := by
  intro v3 w0 H locs h ls hl hf
  unfold f_X8_lowest_48 at hf
  have C0 := C
  obtain ⟨hx, hb, hr, hml, hown, hts, hlk, hK, hSF⟩ := C0
  refine lv_istore (lv' := [(5, .int w0), (3, .int v3)]) hx hb dX8_lowest_48 hl (by decide) rfl (fun ls hl => ?_)
  refine lv_iload_n hx hb dX8_lowest_50 rfl (lv_at hl 1 rfl) ?_
  refine lv_if_ne (tgt := 60) hx hb dX8_lowest_51 (by decide) (fun c3 => ?_) (fun c3 => ?_)
  · replace hf := it_f c3 hf
    refine lv_iload hx hb dX8_lowest_60 (lv_at hl 0 rfl) ?_
    refine lv_iload_n hx hb dX8_lowest_62 rfl (lv_at hl 1 rfl) ?_
    obtain ⟨g4, hf⟩ := gd_use hf
    refine lv_idiv hx hb dX8_lowest_63 (nz_use g4) ?_
    refine lv_i2l hx hb dX8_lowest_64 rfl ?_
    replace hf := Option.some.inj hf
    subst hf
    exact r_lre C h dX8_lowest_65
  replace hf := it_t c3 hf
  refine lv_iload hx hb dX8_lowest_54 (lv_at hl 0 rfl) ?_
  refine lv_i2l hx hb dX8_lowest_56 rfl ?_
  refine lv_goto (tgt := 65) hx hb dX8_lowest_57 (by decide) ?_
  replace hf := Option.some.inj hf
  subst hf
  exact r_lre C h dX8_lowest_65
set_option maxHeartbeats 4000000 in
set_option maxRecDepth 100000 in
theorem w_X8_lowest_39 {p : Program} {l : Launch} {e : Env} {s : State} {m : MethodId} {args : Array Value} {below : List Frame} {meth : Method} {c : Code} {E : Ev} {ℓ : Mz} {σ : Ms} {p0 : Int32} {p1 : Int32} {p2 : Int32} {out : Int64}   (C : Cx cX8_lowest 7 (some .long) wsX8_lowest RX8 E p s m args meth c)  : ∀ (v3 : Int32) (H : Heap) (locs : List Loc) (h : HI E σ ℓ s H locs) (ls : Array Slot) (hl : lv_has ls 7 [(0, .int p0), (1, .int p1), (2, .int p2), (3, .int v3)]), f_X8_lowest_39 p0 p1 p2  v3 = some out → W p l e rm_X8_lowest s m args below meth c H locs 0 0 (MQ below (Po E s.heap.size (some (.long out)) σ ℓ) args s 0 0 (AA E s.heap.size)) (F0 m 39 ls []) := by
  intro v3 H locs h ls hl hf
  unfold f_X8_lowest_39 at hf
  have C0 := C
  obtain ⟨hx, hb, hr, hml, hown, hts, hlk, hK, hSF⟩ := C0
  refine lv_iload_n hx hb dX8_lowest_39 rfl (lv_at hl 2 rfl) ?_
  refine lv_if_ne (tgt := 47) hx hb dX8_lowest_40 (by decide) (fun c2 => ?_) (fun c2 => ?_)
  · replace hf := it_f c2 hf
    refine lv_iload_n hx hb dX8_lowest_47 rfl (lv_at hl 1 rfl) ?_
    exact w_X8_lowest_48    C  _ _ _ _ h ls (lv_sub hl [3] rfl) hf
  replace hf := it_t c2 hf
  refine lv_iload_n hx hb dX8_lowest_43 rfl (lv_at hl 0 rfl) ?_
  refine lv_goto (tgt := 48) hx hb dX8_lowest_44 (by decide) ?_
  exact w_X8_lowest_48    C  _ _ _ _ h ls (lv_sub hl [3] rfl) hf
set_option maxHeartbeats 4000000 in
set_option maxRecDepth 100000 in
theorem w_X8_lowest_8 {p : Program} {l : Launch} {e : Env} {s : State} {m : MethodId} {args : Array Value} {below : List Frame} {meth : Method} {c : Code} {E : Ev} {ℓ : Mz} {σ : Ms} {p0 : Int32} {p1 : Int32} {p2 : Int32} {out : Int64}   (C : Cx cX8_lowest 7 (some .long) wsX8_lowest RX8 E p s m args meth c) {k8 : Int32 → Int32 → Int32 → Option (Int64)} (hk8 : ∀ (v3 : Int32) (v4 : Int32) (v5 : Int32) (H : Heap) (locs : List Loc), HI E σ ℓ s H locs → ∀ ls : Array Slot, lv_has ls 7 [(0, .int p0), (1, .int p1), (2, .int p2), (3, .int v3), (4, .int v4), (5, .int v5)] → k8 v3 v4 v5 = some out → W p l e rm_X8_lowest s m args below meth c H locs 0 0 (MQ below (Po E s.heap.size (some (.long out)) σ ℓ) args s 0 0 (AA E s.heap.size)) (F0 m 8 ls [])) : ∀ (v3 : Int32) (v4 : Int32) (v5 : Int32) (H : Heap) (locs : List Loc) (h : HI E σ ℓ s H locs) (ls : Array Slot) (hl : lv_has ls 7 [(0, .int p0), (1, .int p1), (2, .int p2), (3, .int v3), (4, .int v4), (5, .int v5)]), f_X8_lowest_8 p0 p1 p2 k8 v3 v4 v5 = some out → W p l e rm_X8_lowest s m args below meth c H locs 0 0 (MQ below (Po E s.heap.size (some (.long out)) σ ℓ) args s 0 0 (AA E s.heap.size)) (F0 m 8 ls []) := by
  intro v3 v4 v5 H locs h ls hl hf
  unfold f_X8_lowest_8 at hf
  have C0 := C
  obtain ⟨hx, hb, hr, hml, hown, hts, hlk, hK, hSF⟩ := C0
  refine lv_iload hx hb dX8_lowest_8 (lv_at hl 5 rfl) ?_
  refine lv_bipush (v := (100 : Int32)) hx hb dX8_lowest_10 (by decide) ?_
  refine lv_icmp_ge (tgt := 39) hx hb dX8_lowest_12 (by decide) (fun c1 => ?_) (fun c1 => ?_)
  · replace hf := it_t c1 hf
    exact w_X8_lowest_39    C  _ _ _ h ls (lv_sub hl [0, 1, 2, 3] rfl) hf
  replace hf := it_f c1 hf
  refine lv_iload hx hb dX8_lowest_15 (lv_at hl 4 rfl) ?_
  refine lv_if_eq (tgt := 39) hx hb dX8_lowest_17 (by decide) (fun c5 => ?_) (fun c5 => ?_)
  · replace hf := it_t c5 hf
    exact w_X8_lowest_39    C  _ _ _ h ls (lv_sub hl [0, 1, 2, 3] rfl) hf
  replace hf := it_f c5 hf
  refine lv_iload_n hx hb dX8_lowest_20 rfl (lv_at hl 3 rfl) ?_
  refine lv_iload hx hb dX8_lowest_21 (lv_at hl 4 rfl) ?_
  obtain ⟨g6, hf⟩ := gd_use hf
  refine lv_irem hx hb dX8_lowest_23 (nz_use g6) ?_
  refine lv_topi (fun x7 ex7 => ?_)
  replace hf := lt_use ex7 hf
  clear ex7
  refine lv_istore (lv' := [(6, .int x7), (0, .int p0), (1, .int p1), (2, .int p2), (3, .int v3), (4, .int v4), (5, .int v5)]) hx hb dX8_lowest_24 hl (by decide) rfl (fun ls hl => ?_)
  refine lv_iload hx hb dX8_lowest_26 (lv_at hl 5 rfl) ?_
  refine lv_istore_n (lv' := [(3, .int v4), (6, .int x7), (0, .int p0), (1, .int p1), (2, .int p2), (4, .int v4), (5, .int v5)]) hx hb dX8_lowest_28 rfl hl (by decide) rfl (fun ls hl => ?_)
  refine lv_iload hx hb dX8_lowest_29 (lv_at hl 1 rfl) ?_
  refine lv_istore (lv' := [(4, .int x7), (3, .int v4), (6, .int x7), (0, .int p0), (1, .int p1), (2, .int p2), (5, .int v5)]) hx hb dX8_lowest_31 hl (by decide) rfl (fun ls hl => ?_)
  obtain ⟨x8, ex8⟩ : ∃ y : Int32, y = (v5 + (1 : Int32)) := ⟨_, rfl⟩
  refine lv_iinc (v := x8) (lv' := [(5, .int x8), (4, .int x7), (3, .int v4), (6, .int x7), (0, .int p0), (1, .int p1), (2, .int p2)]) hx hb dX8_lowest_33 hl (k := 6) rfl (by rw [ex8]; rfl) (by decide) rfl (fun ls hl => ?_)
  replace hf := lt_use ex8 hf
  clear ex8
  refine lv_goto (tgt := 8) hx hb dX8_lowest_36 (by decide) ?_
  exact hk8 _ _ _ _ _ h ls (lv_sub hl [4, 5, 6, 2, 1, 0] rfl) hf
set_option maxHeartbeats 4000000 in
set_option maxRecDepth 100000 in
theorem w_X8_lowest_8L {p : Program} {l : Launch} {e : Env} {s : State} {m : MethodId} {args : Array Value} {below : List Frame} {meth : Method} {c : Code} {E : Ev} {ℓ : Mz} {σ : Ms} {p0 : Int32} {p1 : Int32} {p2 : Int32} {out : Int64}   (C : Cx cX8_lowest 7 (some .long) wsX8_lowest RX8 E p s m args meth c)  : ∀ (n9 : Nat) (v3 : Int32) (v4 : Int32) (v5 : Int32) (H : Heap) (locs : List Loc) (h : HI E σ ℓ s H locs) (ls : Array Slot) (hl : lv_has ls 7 [(0, .int p0), (1, .int p1), (2, .int p2), (3, .int v3), (4, .int v4), (5, .int v5)]), f_X8_lowest_8L p0 p1 p2  n9 v3 v4 v5 = some out → W p l e rm_X8_lowest s m args below meth c H locs 0 0 (MQ below (Po E s.heap.size (some (.long out)) σ ℓ) args s 0 0 (AA E s.heap.size)) (F0 m 8 ls []) := by
  intro n9
  induction n9 with
  | zero =>
    intro v3 v4 v5 H locs h ls hl hf
    cases (show (none : Option (Int64)) = some out from hf)
  | succ n9 ih =>
    intro v3 v4 v5 H locs h ls hl hf
    exact w_X8_lowest_8   C  ih v3 v4 v5 H locs h ls hl hf
set_option maxHeartbeats 4000000 in
set_option maxRecDepth 100000 in
theorem w_X8_lowest_0 {p : Program} {l : Launch} {e : Env} {s : State} {m : MethodId} {args : Array Value} {below : List Frame} {meth : Method} {c : Code} {E : Ev} {ℓ : Mz} {σ : Ms} {p0 : Int32} {p1 : Int32} {p2 : Int32} {out : Int64}   (C : Cx cX8_lowest 7 (some .long) wsX8_lowest RX8 E p s m args meth c)  : ∀  (H : Heap) (locs : List Loc) (h : HI E σ ℓ s H locs) (ls : Array Slot) (hl : lv_has ls 7 [(0, .int p0), (1, .int p1), (2, .int p2)]), f_X8_lowest_0 p0 p1 p2   = some out → W p l e rm_X8_lowest s m args below meth c H locs 0 0 (MQ below (Po E s.heap.size (some (.long out)) σ ℓ) args s 0 0 (AA E s.heap.size)) (F0 m 0 ls []) := by
  intro  H locs h ls hl hf
  unfold f_X8_lowest_0 at hf
  have C0 := C
  obtain ⟨hx, hb, hr, hml, hown, hts, hlk, hK, hSF⟩ := C0
  refine lv_iload_n hx hb dX8_lowest_0 rfl (lv_at hl 1 rfl) ?_
  refine lv_istore_n (lv' := [(3, .int p1), (0, .int p0), (1, .int p1), (2, .int p2)]) hx hb dX8_lowest_1 rfl hl (by decide) rfl (fun ls hl => ?_)
  refine lv_iload_n hx hb dX8_lowest_2 rfl (lv_at hl 1 rfl) ?_
  refine lv_istore (lv' := [(4, .int p0), (3, .int p1), (0, .int p0), (1, .int p1), (2, .int p2)]) hx hb dX8_lowest_3 hl (by decide) rfl (fun ls hl => ?_)
  refine lv_iconst (v := (0 : Int32)) hx hb dX8_lowest_5 (by decide) ?_
  refine lv_istore (lv' := [(5, .int (0 : Int32)), (4, .int p0), (3, .int p1), (0, .int p0), (1, .int p1), (2, .int p2)]) hx hb dX8_lowest_6 hl (by decide) rfl (fun ls hl => ?_)
  exact w_X8_lowest_8L    C  _ _ _ _ _ _ h ls (lv_sub hl [3, 4, 5, 2, 1, 0] rfl) hf
theorem c_X8_lowest {l : Launch} {E : Ev} {σ : Ms} {ℓ : Mz} {p0 : Int32} {p1 : Int32} {p2 : Int32} {out : Int64} (hf : f_X8_lowest p0 p1 p2 = some out) : Ct l yX8_lowest wsX8_lowest rm_X8_lowest [.int p0, .int p1, .int p2] E σ ℓ (some (.long out)) σ ℓ := by
  refine Ct_mk (cc := cX8_lowest) (mL := 7) (ret := (some .long)) (own := RX8) (by decide +kernel) rfl rfl (Nat.le_of_ble_eq_true rfl) (fun p e s m below meth c C h ls hl => ?_)
  exact w_X8_lowest_0  C  _ _ h ls (lv_sub hl [0, 1, 2] rfl) hf
theorem hdX8_odds : yX8_odds.cls = RX8 ∧ yX8_odds.cls ≠ "java/lang/invoke/MethodHandle" ∧ yX8_odds.cls ≠ "java/lang/invoke/VarHandle" ∧ (parseMethodDescriptor yX8_odds.desc).map (fun d => d.parameters.length) = some 2 := by decide +kernel
def rm_X8_odds : Room := { frames := 5, cells := 0, slots := 0, locals := 154 }
set_option maxRecDepth 100000 in
theorem wdX8_odds_Cond_constantLong_RX8_228___9223372036854775808_ : Cond.constantLong RX8 228 (-9223372036854775808) ∈ wsX8_odds := by decide +kernel
set_option maxRecDepth 100000 in
theorem inX8_odds_8 : ∀ w ∈ wsX80, w ∈ wsX8_odds := fun _ h => List.mem_cons_of_mem _ (List.mem_append_left _ (List.mem_append_left _ (List.mem_append_right _ h)))
set_option maxRecDepth 100000 in
theorem lkX8_odds_22 : Cond.fieldLink RX8 22 "BellsBelow" "trial" "LBellsBelow$Hall;" ∈ wsX8_odds := by decide +kernel
set_option maxRecDepth 100000 in
theorem lkX8_odds_17 : Cond.fieldLink RX8 17 "BellsBelow" "now" "LBellsBelow$Hall;" ∈ wsX8_odds := by decide +kernel
set_option maxRecDepth 100000 in
theorem inX8_odds_1 : ∀ w ∈ wsX10, w ∈ wsX8_odds := fun _ h => List.mem_cons_of_mem _ (List.mem_append_left _ (List.mem_append_right _ h))
set_option maxRecDepth 100000 in
theorem lkX8_odds_105 : Cond.fieldLink RX8 105 "BellsBelow$Hall" "goal" "[I" ∈ wsX8_odds := by decide +kernel
set_option maxHeartbeats 4000000 in
set_option maxRecDepth 100000 in
theorem w_X8_odds_79 {p : Program} {l : Launch} {e : Env} {s : State} {m : MethodId} {args : Array Value} {below : List Frame} {meth : Method} {c : Code} {E : Ev} {ℓ : Mz} {p0 : Int32} {p1 : Int32} {out : Int64 × Ms}   (C : Cx cX8_odds 5 (some .long) wsX8_odds RX8 E p s m args meth c) {k27 : Ms → Int32 → Int32 → Option (Int64 × Ms)} (hk27 : ∀ (σ : Ms) (v3 : Int32) (v4 : Int32) (H : Heap) (locs : List Loc), HI E σ ℓ s H locs → ∀ ls : Array Slot, lv_has ls 5 [(0, .ref (Ea E 0 0)), (1, .int p0), (2, .int p1), (3, .int v3), (4, .int v4)] → k27 σ v3 v4 = some out → W p l e rm_X8_odds s m args below meth c H locs 0 0 (MQ below (Po E s.heap.size (some (.long out.1)) out.2 ℓ) args s 0 0 (AA E s.heap.size)) (F0 m 27 ls [])) : ∀ (σ : Ms) (v3 : Int32) (v4 : Int32) (H : Heap) (locs : List Loc) (h : HI E σ ℓ s H locs) (ls : Array Slot) (hl : lv_has ls 5 [(0, .ref (Ea E 0 0)), (1, .int p0), (2, .int p1), (3, .int v3), (4, .int v4)]), f_X8_odds_79 p0 p1 k27 σ v3 v4 = some out → W p l e rm_X8_odds s m args below meth c H locs 0 0 (MQ below (Po E s.heap.size (some (.long out.1)) out.2 ℓ) args s 0 0 (AA E s.heap.size)) (F0 m 79 ls []) := by
  intro σ v3 v4 H locs h ls hl hf
  unfold f_X8_odds_79 at hf
  have C0 := C
  obtain ⟨hx, hb, hr, hml, hown, hts, hlk, hK, hSF⟩ := C0
  obtain ⟨x15, ex15⟩ : ∃ y : Int32, y = (v4 + (1 : Int32)) := ⟨_, rfl⟩
  refine lv_iinc (v := x15) (lv' := [(4, .int x15), (0, .ref (Ea E 0 0)), (1, .int p0), (2, .int p1), (3, .int v3)]) hx hb dX8_odds_79 hl (k := 4) rfl (by rw [ex15]; rfl) (by decide) rfl (fun ls hl => ?_)
  replace hf := lt_use ex15 hf
  clear ex15
  refine lv_goto (tgt := 27) hx hb dX8_odds_82 (by decide) ?_
  exact hk27 _ _ _ _ _ h ls (lv_sub hl [1, 2, 3, 4, 0] rfl) hf
set_option maxHeartbeats 4000000 in
set_option maxRecDepth 100000 in
theorem w_X8_odds_27 {p : Program} {l : Launch} {e : Env} {s : State} {m : MethodId} {args : Array Value} {below : List Frame} {meth : Method} {c : Code} {E : Ev} {ℓ : Mz} {p0 : Int32} {p1 : Int32} {out : Int64 × Ms}   (C : Cx cX8_odds 5 (some .long) wsX8_odds RX8 E p s m args meth c) {k27 : Ms → Int32 → Int32 → Option (Int64 × Ms)} (hk27 : ∀ (σ : Ms) (v3 : Int32) (v4 : Int32) (H : Heap) (locs : List Loc), HI E σ ℓ s H locs → ∀ ls : Array Slot, lv_has ls 5 [(0, .ref (Ea E 0 0)), (1, .int p0), (2, .int p1), (3, .int v3), (4, .int v4)] → k27 σ v3 v4 = some out → W p l e rm_X8_odds s m args below meth c H locs 0 0 (MQ below (Po E s.heap.size (some (.long out.1)) out.2 ℓ) args s 0 0 (AA E s.heap.size)) (F0 m 27 ls [])) : ∀ (σ : Ms) (v3 : Int32) (v4 : Int32) (H : Heap) (locs : List Loc) (h : HI E σ ℓ s H locs) (ls : Array Slot) (hl : lv_has ls 5 [(0, .ref (Ea E 0 0)), (1, .int p0), (2, .int p1), (3, .int v3), (4, .int v4)]), f_X8_odds_27 p0 p1 k27 σ v3 v4 = some out → W p l e rm_X8_odds s m args below meth c H locs 0 0 (MQ below (Po E s.heap.size (some (.long out.1)) out.2 ℓ) args s 0 0 (AA E s.heap.size)) (F0 m 27 ls []) := by
  intro σ v3 v4 H locs h ls hl hf
  unfold f_X8_odds_27 at hf
  have C0 := C
  obtain ⟨hx, hb, hr, hml, hown, hts, hlk, hK, hSF⟩ := C0
  refine lv_iload hx hb dX8_odds_27 (lv_at hl 4 rfl) ?_
  refine lv_bipush (v := (10 : Int32)) hx hb dX8_odds_29 (by decide) ?_
  refine lv_icmp_ge (tgt := 85) hx hb dX8_odds_31 (by decide) (fun c5 => ?_) (fun c5 => ?_)
  · replace hf := it_t c5 hf
    refine lv_iload_n hx hb dX8_odds_85 rfl (lv_at hl 3 rfl) ?_
    refine lv_bipush (v := (10 : Int32)) hx hb dX8_odds_86 (by decide) ?_
    refine lv_iload_n hx hb dX8_odds_88 rfl (lv_at hl 2 rfl) ?_
    obtain ⟨u6, hu6, hf⟩ := bd_use hf
    refine r_cs (rest := []) C h (c_X8_lowest  hu6) gX8_odds_X8_lowest rfl ⟨rfl, rfl⟩ hdX8_lowest ⟨Nat.le_of_ble_eq_true rfl, Nat.le_of_ble_eq_true rfl⟩ ⟨Nat.zero_le _, Nat.zero_le _⟩ hl.1 rfl (Nat.le_of_ble_eq_true rfl) dX8_odds_89 (fun H locs h => ?_)
    replace hf := Option.some.inj hf
    subst hf
    exact r_lre C h dX8_odds_92
  replace hf := it_f c5 hf
  refine lv_aload_n hx hb dX8_odds_34 rfl (lv_at hl 0 rfl) ?_
  refine gf_8_1 C h (rfl : Kd 0 = 8) rfl inX8_odds_8 lkX8_odds_22 dX8_odds_35 ?_
  refine lv_aload_n hx hb dX8_odds_38 rfl (lv_at hl 0 rfl) ?_
  refine gf_8_0 C h (rfl : Kd 0 = 8) rfl inX8_odds_8 lkX8_odds_17 dX8_odds_39 ?_
  obtain ⟨u7, hu7, hf⟩ := bd_use hf
  refine r_cv_1 (rest := []) C h (k_X1_copies (rfl : Kd 2 = 1) (rfl : Kd 1 = 1) (by decide) rfl rfl hu7) (rfl : Kd 2 = 1) gX8_odds_X1_copies rfl ⟨rfl, rfl⟩ hdX1_copies ⟨Nat.le_of_ble_eq_true rfl, Nat.le_of_ble_eq_true rfl⟩ ⟨Nat.zero_le _, Nat.zero_le _⟩ hl.1 rfl (Nat.le_of_ble_eq_true rfl) dX8_odds_42 (fun H locs h => ?_)
  obtain ⟨σ8, eσ8⟩ : ∃ z, z = va_up σ 2 u7 := ⟨_, rfl⟩
  replace hf := lt_use eσ8 hf
  rw [← eσ8] at h
  clear eσ8
  refine lv_aload_n hx hb dX8_odds_45 rfl (lv_at hl 0 rfl) ?_
  refine gf_8_1 C h (rfl : Kd 0 = 8) rfl inX8_odds_8 lkX8_odds_22 dX8_odds_46 ?_
  refine lv_iload hx hb dX8_odds_49 (lv_at hl 4 rfl) ?_
  obtain ⟨u9, hu9, hf⟩ := bd_use hf
  refine r_cv_1 (rest := []) C h (k_X1_rings (rfl : Kd 2 = 1) rfl hu9) (rfl : Kd 2 = 1) gX8_odds_X1_rings rfl ⟨rfl, rfl⟩ hdX1_rings ⟨Nat.le_of_ble_eq_true rfl, Nat.le_of_ble_eq_true rfl⟩ ⟨Nat.zero_le _, Nat.zero_le _⟩ hl.1 rfl (Nat.le_of_ble_eq_true rfl) dX8_odds_51 (fun H locs h => ?_)
  obtain ⟨σ10, eσ10⟩ : ∃ z, z = va_up σ8 2 u9.2 := ⟨_, rfl⟩
  replace hf := lt_use eσ10 hf
  rw [← eσ10] at h
  clear eσ10
  refine lv_pop hx hb dX8_odds_54 rfl ?_
  refine lv_aload_n hx hb dX8_odds_55 rfl (lv_at hl 0 rfl) ?_
  refine gf_8_1 C h (rfl : Kd 0 = 8) rfl inX8_odds_8 lkX8_odds_22 dX8_odds_56 ?_
  obtain ⟨u11, hu11, hf⟩ := bd_use hf
  refine r_cv_1 (rest := []) C h (k_X1_gives (rfl : Kd 2 = 1) rfl (fun _ _ => rfl) hu11) (rfl : Kd 2 = 1) gX8_odds_X1_gives rfl ⟨rfl, rfl⟩ hdX1_gives ⟨Nat.le_of_ble_eq_true rfl, Nat.le_of_ble_eq_true rfl⟩ ⟨Nat.zero_le _, Nat.zero_le _⟩ hl.1 rfl (Nat.le_of_ble_eq_true rfl) dX8_odds_59 (fun H locs h => ?_)
  obtain ⟨σ12, eσ12⟩ : ∃ z, z = va_up σ10 2 u11 := ⟨_, rfl⟩
  replace hf := lt_use eσ12 hf
  rw [← eσ12] at h
  clear eσ12
  refine lv_aload_n hx hb dX8_odds_62 rfl (lv_at hl 0 rfl) ?_
  refine gf_8_1 C h (rfl : Kd 0 = 8) rfl inX8_odds_8 lkX8_odds_22 dX8_odds_63 ?_
  refine gf_1_5 C h (rfl : Kd 2 = 1) rfl inX8_odds_1 lkX8_odds_105 dX8_odds_66 ?_
  refine lv_iload_n hx hb dX8_odds_69 rfl (lv_at hl 1 rfl) ?_
  obtain ⟨g13, hf⟩ := gd_use hf
  refine ld_1_4 C h (rfl : Kd 2 = 1) rfl (inB_in g13) dX8_odds_70 ?_
  refine lv_bipush (v := (-5 : Int32)) hx hb dX8_odds_71 (by decide) ?_
  refine lv_icmp_eq (tgt := 79) hx hb dX8_odds_73 (by decide) (fun c14 => ?_) (fun c14 => ?_)
  · replace hf := it_t c14 hf
    exact w_X8_odds_79    C hk27 _ _ _ _ _ h ls (lv_sub hl [0, 1, 2, 3, 4] rfl) hf
  replace hf := it_f c14 hf
  obtain ⟨x16, ex16⟩ : ∃ y : Int32, y = (v3 + (1 : Int32)) := ⟨_, rfl⟩
  refine lv_iinc (v := x16) (lv' := [(3, .int x16), (0, .ref (Ea E 0 0)), (1, .int p0), (2, .int p1), (4, .int v4)]) hx hb dX8_odds_76 hl (k := 3) rfl (by rw [ex16]; rfl) (by decide) rfl (fun ls hl => ?_)
  replace hf := lt_use ex16 hf
  clear ex16
  exact w_X8_odds_79    C hk27 _ _ _ _ _ h ls (lv_sub hl [1, 2, 3, 0, 4] rfl) hf
set_option maxHeartbeats 4000000 in
set_option maxRecDepth 100000 in
theorem w_X8_odds_27L {p : Program} {l : Launch} {e : Env} {s : State} {m : MethodId} {args : Array Value} {below : List Frame} {meth : Method} {c : Code} {E : Ev} {ℓ : Mz} {p0 : Int32} {p1 : Int32} {out : Int64 × Ms}   (C : Cx cX8_odds 5 (some .long) wsX8_odds RX8 E p s m args meth c)  : ∀ (n9 : Nat) (σ : Ms) (v3 : Int32) (v4 : Int32) (H : Heap) (locs : List Loc) (h : HI E σ ℓ s H locs) (ls : Array Slot) (hl : lv_has ls 5 [(0, .ref (Ea E 0 0)), (1, .int p0), (2, .int p1), (3, .int v3), (4, .int v4)]), f_X8_odds_27L p0 p1  n9 σ v3 v4 = some out → W p l e rm_X8_odds s m args below meth c H locs 0 0 (MQ below (Po E s.heap.size (some (.long out.1)) out.2 ℓ) args s 0 0 (AA E s.heap.size)) (F0 m 27 ls []) := by
  intro n9
  induction n9 with
  | zero =>
    intro σ v3 v4 H locs h ls hl hf
    cases (show (none : Option (Int64 × Ms)) = some out from hf)
  | succ n9 ih =>
    intro σ v3 v4 H locs h ls hl hf
    exact w_X8_odds_27   C  ih σ v3 v4 H locs h ls hl hf
set_option maxHeartbeats 4000000 in
set_option maxRecDepth 100000 in
theorem w_X8_odds_0 {p : Program} {l : Launch} {e : Env} {s : State} {m : MethodId} {args : Array Value} {below : List Frame} {meth : Method} {c : Code} {E : Ev} {ℓ : Mz} {p0 : Int32} {p1 : Int32} {out : Int64 × Ms}   (C : Cx cX8_odds 5 (some .long) wsX8_odds RX8 E p s m args meth c)  : ∀ (σ : Ms) (H : Heap) (locs : List Loc) (h : HI E σ ℓ s H locs) (ls : Array Slot) (hl : lv_has ls 5 [(0, .ref (Ea E 0 0)), (1, .int p0), (2, .int p1)]), f_X8_odds_0 p0 p1  σ = some out → W p l e rm_X8_odds s m args below meth c H locs 0 0 (MQ below (Po E s.heap.size (some (.long out.1)) out.2 ℓ) args s 0 0 (AA E s.heap.size)) (F0 m 0 ls []) := by
  intro σ H locs h ls hl hf
  unfold f_X8_odds_0 at hf
  have C0 := C
  obtain ⟨hx, hb, hr, hml, hown, hts, hlk, hK, hSF⟩ := C0
  refine lv_aload_n hx hb dX8_odds_0 rfl (lv_at hl 0 rfl) ?_
  refine lv_iload_n hx hb dX8_odds_1 rfl (lv_at hl 1 rfl) ?_
  refine lv_i2l hx hb dX8_odds_2 rfl ?_
  obtain ⟨u1, hu1, hf⟩ := bd_use hf
  refine r_cv_8 (rest := []) C h (c_X8_isMaster  hu1) (rfl : Kd 0 = 8) gX8_odds_X8_isMaster rfl ⟨rfl, rfl⟩ hdX8_isMaster ⟨Nat.le_of_ble_eq_true rfl, Nat.le_of_ble_eq_true rfl⟩ ⟨Nat.zero_le _, Nat.zero_le _⟩ hl.1 rfl (Nat.le_of_ble_eq_true rfl) dX8_odds_3 (fun H locs h => ?_)
  refine lv_if_eq (tgt := 18) hx hb dX8_odds_6 (by decide) (fun c2 => ?_) (fun c2 => ?_)
  · replace hf := it_t c2 hf
    refine lv_ldc2 hx hb hown (hts _ wdX8_odds_Cond_constantLong_RX8_228___9223372036854775808_) dX8_odds_18 ?_
    replace hf := Option.some.inj hf
    subst hf
    exact r_lre C h dX8_odds_21
  replace hf := it_f c2 hf
  refine lv_iload_n hx hb dX8_odds_9 rfl (lv_at hl 2 rfl) ?_
  refine lv_i2l hx hb dX8_odds_10 rfl ?_
  refine lv_iconst (v := (2 : Int32)) hx hb dX8_odds_11 (by decide) ?_
  obtain ⟨u3, hu3, hf⟩ := bd_use hf
  refine r_cs (rest := []) C h (c_X8_within  hu3) gX8_odds_X8_within rfl ⟨rfl, rfl⟩ hdX8_within ⟨Nat.le_of_ble_eq_true rfl, Nat.le_of_ble_eq_true rfl⟩ ⟨Nat.zero_le _, Nat.zero_le _⟩ hl.1 rfl (Nat.le_of_ble_eq_true rfl) dX8_odds_12 (fun H locs h => ?_)
  refine lv_if_ne (tgt := 22) hx hb dX8_odds_15 (by decide) (fun c4 => ?_) (fun c4 => ?_)
  · replace hf := it_f c4 hf
    refine lv_iconst (v := (0 : Int32)) hx hb dX8_odds_22 (by decide) ?_
    refine lv_istore_n (lv' := [(3, .int (0 : Int32)), (0, .ref (Ea E 0 0)), (1, .int p0), (2, .int p1)]) hx hb dX8_odds_23 rfl hl (by decide) rfl (fun ls hl => ?_)
    refine lv_iconst (v := (0 : Int32)) hx hb dX8_odds_24 (by decide) ?_
    refine lv_istore (lv' := [(4, .int (0 : Int32)), (3, .int (0 : Int32)), (0, .ref (Ea E 0 0)), (1, .int p0), (2, .int p1)]) hx hb dX8_odds_25 hl (by decide) rfl (fun ls hl => ?_)
    exact w_X8_odds_27L    C  _ _ _ _ _ _ h ls (lv_sub hl [2, 3, 4, 1, 0] rfl) hf
  replace hf := it_t c4 hf
  refine lv_ldc2 hx hb hown (hts _ wdX8_odds_Cond_constantLong_RX8_228___9223372036854775808_) dX8_odds_18 ?_
  replace hf := Option.some.inj hf
  subst hf
  exact r_lre C h dX8_odds_21
theorem c_X8_odds {l : Launch} {E : Ev} {σ : Ms} {ℓ : Mz} {p0 : Int32} {p1 : Int32} {out : Int64 × Ms} (hf : f_X8_odds σ p0 p1 = some out) : Ct l yX8_odds wsX8_odds rm_X8_odds [.ref (Ea E 0 0), .int p0, .int p1] E σ ℓ (some (.long out.1)) out.2 ℓ := by
  refine Ct_mk (cc := cX8_odds) (mL := 5) (ret := (some .long)) (own := RX8) (by decide +kernel) rfl rfl (Nat.le_of_ble_eq_true rfl) (fun p e s m below meth c C h ls hl => ?_)
  exact w_X8_odds_0  C σ _ _ h ls (lv_sub hl [0, 1, 2] rfl) hf
theorem hdX8_mean : yX8_mean.cls = RX8 ∧ yX8_mean.cls ≠ "java/lang/invoke/MethodHandle" ∧ yX8_mean.cls ≠ "java/lang/invoke/VarHandle" ∧ (parseMethodDescriptor yX8_mean.desc).map (fun d => d.parameters.length) = some 2 := by decide +kernel
def rm_X8_mean : Room := { frames := 6, cells := 0, slots := 0, locals := 177 }
set_option maxRecDepth 100000 in
theorem wdX8_mean_Cond_constantLong_RX8_228___9223372036854775808_ : Cond.constantLong RX8 228 (-9223372036854775808) ∈ wsX8_mean := by decide +kernel
set_option maxRecDepth 100000 in
theorem inX8_mean_8 : ∀ w ∈ wsX80, w ∈ wsX8_mean := fun _ h => List.mem_cons_of_mem _ (List.mem_append_left _ (List.mem_append_left _ (List.mem_append_right _ h)))
set_option maxRecDepth 100000 in
theorem lkX8_mean_17 : Cond.fieldLink RX8 17 "BellsBelow" "now" "LBellsBelow$Hall;" ∈ wsX8_mean := by decide +kernel
set_option maxRecDepth 100000 in
theorem inX8_mean_1 : ∀ w ∈ wsX10, w ∈ wsX8_mean := fun _ h => List.mem_cons_of_mem _ (List.mem_append_left _ (List.mem_append_right _ h))
set_option maxRecDepth 100000 in
theorem lkX8_mean_77 : Cond.fieldLink RX8 77 "BellsBelow$Hall" "many" "I" ∈ wsX8_mean := by decide +kernel
set_option maxRecDepth 100000 in
theorem lkX8_mean_22 : Cond.fieldLink RX8 22 "BellsBelow" "trial" "LBellsBelow$Hall;" ∈ wsX8_mean := by decide +kernel
set_option maxRecDepth 100000 in
theorem lkX8_mean_114 : Cond.fieldLink RX8 114 "BellsBelow$Hall" "came" "[I" ∈ wsX8_mean := by decide +kernel
set_option maxHeartbeats 4000000 in
set_option maxRecDepth 100000 in
theorem w_X8_mean_57 {p : Program} {l : Launch} {e : Env} {s : State} {m : MethodId} {args : Array Value} {below : List Frame} {meth : Method} {c : Code} {E : Ev} {ℓ : Mz} {p0 : Int32} {p1 : Int32} {out : Int64 × Ms}   (C : Cx cX8_mean 5 (some .long) wsX8_mean RX8 E p s m args meth c) {k57 : Ms → Int32 → Int32 → Option (Int64 × Ms)} (hk57 : ∀ (σ : Ms) (v3 : Int32) (v4 : Int32) (H : Heap) (locs : List Loc), HI E σ ℓ s H locs → ∀ ls : Array Slot, lv_has ls 5 [(0, .ref (Ea E 0 0)), (2, .int p1), (3, .int v3), (4, .int v4)] → k57 σ v3 v4 = some out → W p l e rm_X8_mean s m args below meth c H locs 0 0 (MQ below (Po E s.heap.size (some (.long out.1)) out.2 ℓ) args s 0 0 (AA E s.heap.size)) (F0 m 57 ls [])) : ∀ (σ : Ms) (v3 : Int32) (v4 : Int32) (H : Heap) (locs : List Loc) (h : HI E σ ℓ s H locs) (ls : Array Slot) (hl : lv_has ls 5 [(0, .ref (Ea E 0 0)), (2, .int p1), (3, .int v3), (4, .int v4)]), f_X8_mean_57 p0 p1 k57 σ v3 v4 = some out → W p l e rm_X8_mean s m args below meth c H locs 0 0 (MQ below (Po E s.heap.size (some (.long out.1)) out.2 ℓ) args s 0 0 (AA E s.heap.size)) (F0 m 57 ls []) := by
  intro σ v3 v4 H locs h ls hl hf
  unfold f_X8_mean_57 at hf
  have C0 := C
  obtain ⟨hx, hb, hr, hml, hown, hts, hlk, hK, hSF⟩ := C0
  refine lv_iload hx hb dX8_mean_57 (lv_at hl 3 rfl) ?_
  refine lv_aload_n hx hb dX8_mean_59 rfl (lv_at hl 0 rfl) ?_
  refine gf_8_1 C h (rfl : Kd 0 = 8) rfl inX8_mean_8 lkX8_mean_22 dX8_mean_60 ?_
  refine gf_1_12 C h (rfl : Kd 2 = 1) rfl inX8_mean_1 lkX8_mean_77 dX8_mean_63 ?_
  refine lv_icmp_ge (tgt := 88) hx hb dX8_mean_66 (by decide) (fun c10 => ?_) (fun c10 => ?_)
  · replace hf := it_t c10 hf
    refine lv_iload_n hx hb dX8_mean_88 rfl (lv_at hl 2 rfl) ?_
    refine lv_aload_n hx hb dX8_mean_89 rfl (lv_at hl 0 rfl) ?_
    refine gf_8_1 C h (rfl : Kd 0 = 8) rfl inX8_mean_8 lkX8_mean_22 dX8_mean_90 ?_
    refine gf_1_12 C h (rfl : Kd 2 = 1) rfl inX8_mean_1 lkX8_mean_77 dX8_mean_93 ?_
    refine lv_iload_n hx hb dX8_mean_96 rfl (lv_at hl 1 rfl) ?_
    obtain ⟨u11, hu11, hf⟩ := bd_use hf
    refine r_cs (rest := []) C h (c_X8_lowest  hu11) gX8_mean_X8_lowest rfl ⟨rfl, rfl⟩ hdX8_lowest ⟨Nat.le_of_ble_eq_true rfl, Nat.le_of_ble_eq_true rfl⟩ ⟨Nat.zero_le _, Nat.zero_le _⟩ hl.1 rfl (Nat.le_of_ble_eq_true rfl) dX8_mean_97 (fun H locs h => ?_)
    replace hf := Option.some.inj hf
    subst hf
    exact r_lre C h dX8_mean_100
  replace hf := it_f c10 hf
  refine lv_iload_n hx hb dX8_mean_69 rfl (lv_at hl 2 rfl) ?_
  refine lv_aload_n hx hb dX8_mean_70 rfl (lv_at hl 0 rfl) ?_
  refine gf_8_1 C h (rfl : Kd 0 = 8) rfl inX8_mean_8 lkX8_mean_22 dX8_mean_71 ?_
  refine gf_1_8 C h (rfl : Kd 2 = 1) rfl inX8_mean_1 lkX8_mean_114 dX8_mean_74 ?_
  refine lv_iload hx hb dX8_mean_77 (lv_at hl 3 rfl) ?_
  obtain ⟨g12, hf⟩ := gd_use hf
  refine ld_1_7 C h (rfl : Kd 2 = 1) rfl (inB_in g12) dX8_mean_79 ?_
  refine lv_iadd hx hb dX8_mean_80 ?_
  refine lv_topi (fun x13 ex13 => ?_)
  replace hf := lt_use ex13 hf
  clear ex13
  refine lv_istore_n (lv' := [(3, .int x13), (0, .ref (Ea E 0 0)), (2, .int p1), (4, .int v4)]) hx hb dX8_mean_81 rfl hl (by decide) rfl (fun ls hl => ?_)
  obtain ⟨x14, ex14⟩ : ∃ y : Int32, y = (v4 + (1 : Int32)) := ⟨_, rfl⟩
  refine lv_iinc (v := x14) (lv' := [(4, .int x14), (3, .int x13), (0, .ref (Ea E 0 0)), (2, .int p1)]) hx hb dX8_mean_82 hl (k := 3) rfl (by rw [ex14]; rfl) (by decide) rfl (fun ls hl => ?_)
  replace hf := lt_use ex14 hf
  clear ex14
  refine lv_goto (tgt := 57) hx hb dX8_mean_85 (by decide) ?_
  exact hk57 _ _ _ _ _ h ls (lv_sub hl [2, 3, 1, 0] rfl) hf
set_option maxHeartbeats 4000000 in
set_option maxRecDepth 100000 in
theorem w_X8_mean_57L {p : Program} {l : Launch} {e : Env} {s : State} {m : MethodId} {args : Array Value} {below : List Frame} {meth : Method} {c : Code} {E : Ev} {ℓ : Mz} {p0 : Int32} {p1 : Int32} {out : Int64 × Ms}   (C : Cx cX8_mean 5 (some .long) wsX8_mean RX8 E p s m args meth c)  : ∀ (n9 : Nat) (σ : Ms) (v3 : Int32) (v4 : Int32) (H : Heap) (locs : List Loc) (h : HI E σ ℓ s H locs) (ls : Array Slot) (hl : lv_has ls 5 [(0, .ref (Ea E 0 0)), (2, .int p1), (3, .int v3), (4, .int v4)]), f_X8_mean_57L p0 p1  n9 σ v3 v4 = some out → W p l e rm_X8_mean s m args below meth c H locs 0 0 (MQ below (Po E s.heap.size (some (.long out.1)) out.2 ℓ) args s 0 0 (AA E s.heap.size)) (F0 m 57 ls []) := by
  intro n9
  induction n9 with
  | zero =>
    intro σ v3 v4 H locs h ls hl hf
    cases (show (none : Option (Int64 × Ms)) = some out from hf)
  | succ n9 ih =>
    intro σ v3 v4 H locs h ls hl hf
    exact w_X8_mean_57   C  ih σ v3 v4 H locs h ls hl hf
set_option maxHeartbeats 4000000 in
set_option maxRecDepth 100000 in
theorem w_X8_mean_0 {p : Program} {l : Launch} {e : Env} {s : State} {m : MethodId} {args : Array Value} {below : List Frame} {meth : Method} {c : Code} {E : Ev} {ℓ : Mz} {p0 : Int32} {p1 : Int32} {out : Int64 × Ms}   (C : Cx cX8_mean 5 (some .long) wsX8_mean RX8 E p s m args meth c)  : ∀ (σ : Ms) (H : Heap) (locs : List Loc) (h : HI E σ ℓ s H locs) (ls : Array Slot) (hl : lv_has ls 5 [(0, .ref (Ea E 0 0)), (1, .int p0), (2, .int p1)]), f_X8_mean_0 p0 p1  σ = some out → W p l e rm_X8_mean s m args below meth c H locs 0 0 (MQ below (Po E s.heap.size (some (.long out.1)) out.2 ℓ) args s 0 0 (AA E s.heap.size)) (F0 m 0 ls []) := by
  intro σ H locs h ls hl hf
  unfold f_X8_mean_0 at hf
  have C0 := C
  obtain ⟨hx, hb, hr, hml, hown, hts, hlk, hK, hSF⟩ := C0
  refine lv_iload_n hx hb dX8_mean_0 rfl (lv_at hl 1 rfl) ?_
  refine lv_i2l hx hb dX8_mean_1 rfl ?_
  refine lv_bipush (v := (61 : Int32)) hx hb dX8_mean_2 (by decide) ?_
  obtain ⟨u1, hu1, hf⟩ := bd_use hf
  refine r_cs (rest := []) C h (c_X8_within  hu1) gX8_mean_X8_within rfl ⟨rfl, rfl⟩ hdX8_within ⟨Nat.le_of_ble_eq_true rfl, Nat.le_of_ble_eq_true rfl⟩ ⟨Nat.zero_le _, Nat.zero_le _⟩ hl.1 rfl (Nat.le_of_ble_eq_true rfl) dX8_mean_4 (fun H locs h => ?_)
  refine lv_if_eq (tgt := 29) hx hb dX8_mean_7 (by decide) (fun c2 => ?_) (fun c2 => ?_)
  · replace hf := it_t c2 hf
    refine lv_ldc2 hx hb hown (hts _ wdX8_mean_Cond_constantLong_RX8_228___9223372036854775808_) dX8_mean_29 ?_
    replace hf := Option.some.inj hf
    subst hf
    exact r_lre C h dX8_mean_32
  replace hf := it_f c2 hf
  refine lv_iload_n hx hb dX8_mean_10 rfl (lv_at hl 2 rfl) ?_
  refine lv_i2l hx hb dX8_mean_11 rfl ?_
  refine lv_iconst (v := (2 : Int32)) hx hb dX8_mean_12 (by decide) ?_
  obtain ⟨u3, hu3, hf⟩ := bd_use hf
  refine r_cs (rest := []) C h (c_X8_within  hu3) gX8_mean_X8_within rfl ⟨rfl, rfl⟩ hdX8_within ⟨Nat.le_of_ble_eq_true rfl, Nat.le_of_ble_eq_true rfl⟩ ⟨Nat.zero_le _, Nat.zero_le _⟩ hl.1 rfl (Nat.le_of_ble_eq_true rfl) dX8_mean_13 (fun H locs h => ?_)
  refine lv_if_eq (tgt := 29) hx hb dX8_mean_16 (by decide) (fun c4 => ?_) (fun c4 => ?_)
  · replace hf := it_t c4 hf
    refine lv_ldc2 hx hb hown (hts _ wdX8_mean_Cond_constantLong_RX8_228___9223372036854775808_) dX8_mean_29 ?_
    replace hf := Option.some.inj hf
    subst hf
    exact r_lre C h dX8_mean_32
  replace hf := it_f c4 hf
  refine lv_aload_n hx hb dX8_mean_19 rfl (lv_at hl 0 rfl) ?_
  refine gf_8_0 C h (rfl : Kd 0 = 8) rfl inX8_mean_8 lkX8_mean_17 dX8_mean_20 ?_
  refine gf_1_12 C h (rfl : Kd 1 = 1) rfl inX8_mean_1 lkX8_mean_77 dX8_mean_23 ?_
  refine lv_if_ne (tgt := 33) hx hb dX8_mean_26 (by decide) (fun c5 => ?_) (fun c5 => ?_)
  · replace hf := it_f c5 hf
    refine lv_aload_n hx hb dX8_mean_33 rfl (lv_at hl 0 rfl) ?_
    refine gf_8_1 C h (rfl : Kd 0 = 8) rfl inX8_mean_8 lkX8_mean_22 dX8_mean_34 ?_
    refine lv_aload_n hx hb dX8_mean_37 rfl (lv_at hl 0 rfl) ?_
    refine gf_8_0 C h (rfl : Kd 0 = 8) rfl inX8_mean_8 lkX8_mean_17 dX8_mean_38 ?_
    obtain ⟨u6, hu6, hf⟩ := bd_use hf
    refine r_cv_1 (rest := []) C h (k_X1_copies (rfl : Kd 2 = 1) (rfl : Kd 1 = 1) (by decide) rfl rfl hu6) (rfl : Kd 2 = 1) gX8_mean_X1_copies rfl ⟨rfl, rfl⟩ hdX1_copies ⟨Nat.le_of_ble_eq_true rfl, Nat.le_of_ble_eq_true rfl⟩ ⟨Nat.zero_le _, Nat.zero_le _⟩ hl.1 rfl (Nat.le_of_ble_eq_true rfl) dX8_mean_41 (fun H locs h => ?_)
    obtain ⟨σ7, eσ7⟩ : ∃ z, z = va_up σ 2 u6 := ⟨_, rfl⟩
    replace hf := lt_use eσ7 hf
    rw [← eσ7] at h
    clear eσ7
    refine lv_aload_n hx hb dX8_mean_44 rfl (lv_at hl 0 rfl) ?_
    refine gf_8_1 C h (rfl : Kd 0 = 8) rfl inX8_mean_8 lkX8_mean_22 dX8_mean_45 ?_
    refine lv_iload_n hx hb dX8_mean_48 rfl (lv_at hl 1 rfl) ?_
    obtain ⟨u8, hu8, hf⟩ := bd_use hf
    refine r_cv_1 (rest := []) C h (k_X1_goes (rfl : Kd 2 = 1) rfl (fun _ _ => rfl) hu8) (rfl : Kd 2 = 1) gX8_mean_X1_goes rfl ⟨rfl, rfl⟩ hdX1_goes ⟨Nat.le_of_ble_eq_true rfl, Nat.le_of_ble_eq_true rfl⟩ ⟨Nat.zero_le _, Nat.zero_le _⟩ hl.1 rfl (Nat.le_of_ble_eq_true rfl) dX8_mean_49 (fun H locs h => ?_)
    obtain ⟨σ9, eσ9⟩ : ∃ z, z = va_up σ7 2 u8 := ⟨_, rfl⟩
    replace hf := lt_use eσ9 hf
    rw [← eσ9] at h
    clear eσ9
    refine lv_iconst (v := (0 : Int32)) hx hb dX8_mean_52 (by decide) ?_
    refine lv_istore_n (lv' := [(3, .int (0 : Int32)), (0, .ref (Ea E 0 0)), (1, .int p0), (2, .int p1)]) hx hb dX8_mean_53 rfl hl (by decide) rfl (fun ls hl => ?_)
    refine lv_iconst (v := (0 : Int32)) hx hb dX8_mean_54 (by decide) ?_
    refine lv_istore (lv' := [(4, .int (0 : Int32)), (3, .int (0 : Int32)), (0, .ref (Ea E 0 0)), (1, .int p0), (2, .int p1)]) hx hb dX8_mean_55 hl (by decide) rfl (fun ls hl => ?_)
    exact w_X8_mean_57L    C  _ _ _ _ _ _ h ls (lv_sub hl [2, 4, 1, 0] rfl) hf
  replace hf := it_t c5 hf
  refine lv_ldc2 hx hb hown (hts _ wdX8_mean_Cond_constantLong_RX8_228___9223372036854775808_) dX8_mean_29 ?_
  replace hf := Option.some.inj hf
  subst hf
  exact r_lre C h dX8_mean_32
theorem c_X8_mean {l : Launch} {E : Ev} {σ : Ms} {ℓ : Mz} {p0 : Int32} {p1 : Int32} {out : Int64 × Ms} (hf : f_X8_mean σ p0 p1 = some out) : Ct l yX8_mean wsX8_mean rm_X8_mean [.ref (Ea E 0 0), .int p0, .int p1] E σ ℓ (some (.long out.1)) out.2 ℓ := by
  refine Ct_mk (cc := cX8_mean) (mL := 5) (ret := (some .long)) (own := RX8) (by decide +kernel) rfl rfl (Nat.le_of_ble_eq_true rfl) (fun p e s m below meth c C h ls hl => ?_)
  exact w_X8_mean_0  C σ _ _ h ls (lv_sub hl [0, 1, 2] rfl) hf
theorem hdX8_isPlannable : yX8_isPlannable.cls = RX8 ∧ yX8_isPlannable.cls ≠ "java/lang/invoke/MethodHandle" ∧ yX8_isPlannable.cls ≠ "java/lang/invoke/VarHandle" ∧ (parseMethodDescriptor yX8_isPlannable.desc).map (fun d => d.parameters.length) = some 2 := by decide +kernel
def rm_X8_isPlannable : Room := { frames := 2, cells := 0, slots := 0, locals := 44 }
set_option maxHeartbeats 4000000 in
set_option maxRecDepth 100000 in
theorem w_X8_isPlannable_0 {p : Program} {l : Launch} {e : Env} {s : State} {m : MethodId} {args : Array Value} {below : List Frame} {meth : Method} {c : Code} {E : Ev} {ℓ : Mz} {σ : Ms} {p0 : Int32} {p1 : Int32} {out : Int32}   (C : Cx cX8_isPlannable 3 (some .boolean) wsX8_isPlannable RX8 E p s m args meth c)  : ∀  (H : Heap) (locs : List Loc) (h : HI E σ ℓ s H locs) (ls : Array Slot) (hl : lv_has ls 3 [(0, .ref (Ea E 0 0)), (1, .int p0), (2, .int p1)]), f_X8_isPlannable_0 σ p0 p1   = some out → W p l e rm_X8_isPlannable s m args below meth c H locs 0 0 (MQ below (Po E s.heap.size (some (.int out)) σ ℓ) args s 0 0 (AA E s.heap.size)) (F0 m 0 ls []) := by
  intro  H locs h ls hl hf
  unfold f_X8_isPlannable_0 at hf
  have C0 := C
  obtain ⟨hx, hb, hr, hml, hown, hts, hlk, hK, hSF⟩ := C0
  refine lv_iload_n hx hb dX8_isPlannable_0 rfl (lv_at hl 1 rfl) ?_
  by_cases c1 : p0 = (0 : Int32)
  · replace hf := it_t c1 hf
    refine r_tin (v := (0 : Int32)) (off := 31) (tgt := 32) hx hb c1 dX8_isPlannable_1 (by decide) (by decide) (by decide) (by decide) ?_
    refine lv_iconst (v := (1 : Int32)) hx hb dX8_isPlannable_32 (by decide) ?_
    replace hf := Option.some.inj hf
    subst hf
    exact r_zre (v := (1 : Int32)) C h rfl dX8_isPlannable_33
  replace hf := it_f c1 hf
  by_cases c2 : p0 = (1 : Int32)
  · replace hf := it_t c2 hf
    refine r_tin (v := (1 : Int32)) (off := 33) (tgt := 34) hx hb c2 dX8_isPlannable_1 (by decide) (by decide) (by decide) (by decide) ?_
    refine lv_iload_n hx hb dX8_isPlannable_34 rfl (lv_at hl 2 rfl) ?_
    refine lv_i2l hx hb dX8_isPlannable_35 rfl ?_
    refine lv_bipush (v := (10 : Int32)) hx hb dX8_isPlannable_36 (by decide) ?_
    obtain ⟨u3, hu3, hf⟩ := bd_use hf
    refine r_cs (rest := []) C h (c_X8_within  hu3) gX8_isPlannable_X8_within rfl ⟨rfl, rfl⟩ hdX8_within ⟨Nat.le_of_ble_eq_true rfl, Nat.le_of_ble_eq_true rfl⟩ ⟨Nat.zero_le _, Nat.zero_le _⟩ hl.1 rfl (Nat.le_of_ble_eq_true rfl) dX8_isPlannable_38 (fun H locs h => ?_)
    obtain ⟨g4, hf⟩ := gd_use hf
    replace hf := Option.some.inj hf
    subst hf
    exact r_zre C h (isB_use g4) dX8_isPlannable_41
  replace hf := it_f c2 hf
  by_cases c5 : p0 = (2 : Int32)
  · replace hf := it_t c5 hf
    refine r_tin (v := (2 : Int32)) (off := 41) (tgt := 42) hx hb c5 dX8_isPlannable_1 (by decide) (by decide) (by decide) (by decide) ?_
    refine lv_aload_n hx hb dX8_isPlannable_42 rfl (lv_at hl 0 rfl) ?_
    refine lv_iload_n hx hb dX8_isPlannable_43 rfl (lv_at hl 2 rfl) ?_
    refine lv_i2l hx hb dX8_isPlannable_44 rfl ?_
    obtain ⟨u6, hu6, hf⟩ := bd_use hf
    refine r_cv_8 (rest := []) C h (c_X8_isMaster  hu6) (rfl : Kd 0 = 8) gX8_isPlannable_X8_isMaster rfl ⟨rfl, rfl⟩ hdX8_isMaster ⟨Nat.le_of_ble_eq_true rfl, Nat.le_of_ble_eq_true rfl⟩ ⟨Nat.zero_le _, Nat.zero_le _⟩ hl.1 rfl (Nat.le_of_ble_eq_true rfl) dX8_isPlannable_45 (fun H locs h => ?_)
    obtain ⟨g7, hf⟩ := gd_use hf
    replace hf := Option.some.inj hf
    subst hf
    exact r_zre C h (isB_use g7) dX8_isPlannable_48
  replace hf := it_f c5 hf
  by_cases c8 : p0 = (3 : Int32)
  · replace hf := it_t c8 hf
    refine r_tin (v := (3 : Int32)) (off := 48) (tgt := 49) hx hb c8 dX8_isPlannable_1 (by decide) (by decide) (by decide) (by decide) ?_
    refine lv_aload_n hx hb dX8_isPlannable_49 rfl (lv_at hl 0 rfl) ?_
    refine lv_iload_n hx hb dX8_isPlannable_50 rfl (lv_at hl 2 rfl) ?_
    refine lv_i2l hx hb dX8_isPlannable_51 rfl ?_
    obtain ⟨u9, hu9, hf⟩ := bd_use hf
    refine r_cv_8 (rest := []) C h (c_X8_isMaster  hu9) (rfl : Kd 0 = 8) gX8_isPlannable_X8_isMaster rfl ⟨rfl, rfl⟩ hdX8_isMaster ⟨Nat.le_of_ble_eq_true rfl, Nat.le_of_ble_eq_true rfl⟩ ⟨Nat.zero_le _, Nat.zero_le _⟩ hl.1 rfl (Nat.le_of_ble_eq_true rfl) dX8_isPlannable_52 (fun H locs h => ?_)
    obtain ⟨g10, hf⟩ := gd_use hf
    replace hf := Option.some.inj hf
    subst hf
    exact r_zre C h (isB_use g10) dX8_isPlannable_55
  replace hf := it_f c8 hf
  refine lv_tableOut (tgt := 56) hx hb dX8_isPlannable_1 (tsw_out [0, 1, 2, 3] (List.forall_mem_cons.mpr ⟨c1, (List.forall_mem_cons.mpr ⟨c2, (List.forall_mem_cons.mpr ⟨c5, (List.forall_mem_cons.mpr ⟨c8, (fun _ h => absurd h List.not_mem_nil)⟩)⟩)⟩)⟩) rfl) (by decide) ?_
  refine lv_iconst (v := (0 : Int32)) hx hb dX8_isPlannable_56 (by decide) ?_
  replace hf := Option.some.inj hf
  subst hf
  exact r_zre (v := (0 : Int32)) C h rfl dX8_isPlannable_57
theorem c_X8_isPlannable {l : Launch} {E : Ev} {σ : Ms} {ℓ : Mz} {p0 : Int32} {p1 : Int32} {out : Int32} (hf : f_X8_isPlannable σ p0 p1 = some out) : Ct l yX8_isPlannable wsX8_isPlannable rm_X8_isPlannable [.ref (Ea E 0 0), .int p0, .int p1] E σ ℓ (some (.int out)) σ ℓ := by
  refine Ct_mk (cc := cX8_isPlannable) (mL := 3) (ret := (some .boolean)) (own := RX8) (by decide +kernel) rfl rfl (Nat.le_of_ble_eq_true rfl) (fun p e s m below meth c C h ls hl => ?_)
  exact w_X8_isPlannable_0  C  _ _ h ls (lv_sub hl [0, 1, 2] rfl) hf
theorem hdX8_plan : yX8_plan.cls = RX8 ∧ yX8_plan.cls ≠ "java/lang/invoke/MethodHandle" ∧ yX8_plan.cls ≠ "java/lang/invoke/VarHandle" ∧ (parseMethodDescriptor yX8_plan.desc).map (fun d => d.parameters.length) = some 2 := by decide +kernel
def rm_X8_plan : Room := { frames := 3, cells := 0, slots := 0, locals := 66 }
set_option maxRecDepth 100000 in
theorem inX8_plan_8 : ∀ w ∈ wsX80, w ∈ wsX8_plan := fun _ h => List.mem_cons_of_mem _ (List.mem_append_left _ (List.mem_append_left _ (List.mem_append_left _ (List.mem_append_right _ h))))
set_option maxRecDepth 100000 in
theorem lkX8_plan_31 : Cond.fieldLink RX8 31 "BellsBelow" "notes" "LBellsBelow$Notes;" ∈ wsX8_plan := by decide +kernel
set_option maxRecDepth 100000 in
theorem inX8_plan_3 : ∀ w ∈ wsX30, w ∈ wsX8_plan := fun _ h => List.mem_cons_of_mem _ (List.mem_append_left _ (List.mem_append_left _ (List.mem_append_right _ h)))
set_option maxRecDepth 100000 in
theorem lkX8_plan_237 : Cond.fieldLink RX8 237 "BellsBelow$Notes" "plan" "LBellsBelow$Rows;" ∈ wsX8_plan := by decide +kernel
set_option maxHeartbeats 4000000 in
set_option maxRecDepth 100000 in
theorem w_X8_plan_0 {p : Program} {l : Launch} {e : Env} {s : State} {m : MethodId} {args : Array Value} {below : List Frame} {meth : Method} {c : Code} {E : Ev} {ℓ : Mz} {p0 : Int32} {p1 : Int32} {out : Int32 × Ms}   (C : Cx cX8_plan 3 (some .int) wsX8_plan RX8 E p s m args meth c)  : ∀ (σ : Ms) (H : Heap) (locs : List Loc) (h : HI E σ ℓ s H locs) (ls : Array Slot) (hl : lv_has ls 3 [(0, .ref (Ea E 0 0)), (1, .int p0), (2, .int p1)]), f_X8_plan_0 p0 p1  σ = some out → W p l e rm_X8_plan s m args below meth c H locs 0 0 (MQ below (Po E s.heap.size (some (.int out.1)) out.2 ℓ) args s 0 0 (AA E s.heap.size)) (F0 m 0 ls []) := by
  intro σ H locs h ls hl hf
  unfold f_X8_plan_0 at hf
  have C0 := C
  obtain ⟨hx, hb, hr, hml, hown, hts, hlk, hK, hSF⟩ := C0
  refine lv_iload_n hx hb dX8_plan_0 rfl (lv_at hl 1 rfl) ?_
  refine lv_iconst (v := (-1 : Int32)) hx hb dX8_plan_1 (by decide) ?_
  refine lv_icmp_ne (tgt := 16) hx hb dX8_plan_2 (by decide) (fun c1 => ?_) (fun c1 => ?_)
  · replace hf := it_f c1 hf
    refine lv_aload_n hx hb dX8_plan_16 rfl (lv_at hl 0 rfl) ?_
    refine lv_iload_n hx hb dX8_plan_17 rfl (lv_at hl 1 rfl) ?_
    refine lv_iload_n hx hb dX8_plan_18 rfl (lv_at hl 2 rfl) ?_
    obtain ⟨u2, hu2, hf⟩ := bd_use hf
    refine r_cv_8 (rest := []) C h (c_X8_isPlannable  hu2) (rfl : Kd 0 = 8) gX8_plan_X8_isPlannable rfl ⟨rfl, rfl⟩ hdX8_isPlannable ⟨Nat.le_of_ble_eq_true rfl, Nat.le_of_ble_eq_true rfl⟩ ⟨Nat.zero_le _, Nat.zero_le _⟩ hl.1 rfl (Nat.le_of_ble_eq_true rfl) dX8_plan_19 (fun H locs h => ?_)
    refine lv_if_ne (tgt := 27) hx hb dX8_plan_22 (by decide) (fun c3 => ?_) (fun c3 => ?_)
    · replace hf := it_f c3 hf
      refine lv_aload_n hx hb dX8_plan_27 rfl (lv_at hl 0 rfl) ?_
      refine gf_8_3 C h (rfl : Kd 0 = 8) rfl inX8_plan_8 lkX8_plan_31 dX8_plan_28 ?_
      refine gf_31_1 C h (rfl : Kd 4 = 31) rfl inX8_plan_3 lkX8_plan_237 dX8_plan_31 ?_
      obtain ⟨u4, hu4, hf⟩ := bd_use hf
      refine r_cv_4 (rest := []) C h (c_X4_isFull (rfl : Kd 7 = 4) rfl rfl hu4) (rfl : Kd 7 = 4) gX8_plan_X4_isFull rfl ⟨rfl, rfl⟩ hdX4_isFull ⟨Nat.le_of_ble_eq_true rfl, Nat.le_of_ble_eq_true rfl⟩ ⟨Nat.zero_le _, Nat.zero_le _⟩ hl.1 rfl (Nat.le_of_ble_eq_true rfl) dX8_plan_34 (fun H locs h => ?_)
      refine lv_if_eq (tgt := 45) hx hb dX8_plan_37 (by decide) (fun c5 => ?_) (fun c5 => ?_)
      · replace hf := it_t c5 hf
        refine lv_aload_n hx hb dX8_plan_45 rfl (lv_at hl 0 rfl) ?_
        refine gf_8_3 C h (rfl : Kd 0 = 8) rfl inX8_plan_8 lkX8_plan_31 dX8_plan_46 ?_
        refine gf_31_1 C h (rfl : Kd 4 = 31) rfl inX8_plan_3 lkX8_plan_237 dX8_plan_49 ?_
        refine lv_iload_n hx hb dX8_plan_52 rfl (lv_at hl 1 rfl) ?_
        refine lv_iload_n hx hb dX8_plan_53 rfl (lv_at hl 2 rfl) ?_
        refine lv_iconst (v := (0 : Int32)) hx hb dX8_plan_54 (by decide) ?_
        obtain ⟨u6, hu6, hf⟩ := bd_use hf
        refine r_cv_4 (rest := []) C h (k_X4_adds (rfl : Kd 7 = 4) rfl rfl hu6) (rfl : Kd 7 = 4) gX8_plan_X4_adds rfl ⟨rfl, rfl⟩ hdX4_adds ⟨Nat.le_of_ble_eq_true rfl, Nat.le_of_ble_eq_true rfl⟩ ⟨Nat.zero_le _, Nat.zero_le _⟩ hl.1 rfl (Nat.le_of_ble_eq_true rfl) dX8_plan_55 (fun H locs h => ?_)
        obtain ⟨σ7, eσ7⟩ : ∃ z, z = va_up σ 7 u6.2 := ⟨_, rfl⟩
        replace hf := lt_use eσ7 hf
        rw [← eσ7] at h
        clear eσ7
        replace hf := Option.some.inj hf
        subst hf
        exact r_ire C h dX8_plan_58
      replace hf := it_f c5 hf
      refine lv_bipush (v := (-4 : Int32)) hx hb dX8_plan_40 (by decide) ?_
      refine lv_goto (tgt := 58) hx hb dX8_plan_42 (by decide) ?_
      replace hf := Option.some.inj hf
      subst hf
      exact r_ire C h dX8_plan_58
    replace hf := it_t c3 hf
    refine lv_iconst (v := (-1 : Int32)) hx hb dX8_plan_25 (by decide) ?_
    replace hf := Option.some.inj hf
    subst hf
    exact r_ire C h dX8_plan_26
  replace hf := it_t c1 hf
  refine lv_aload_n hx hb dX8_plan_5 rfl (lv_at hl 0 rfl) ?_
  refine gf_8_3 C h (rfl : Kd 0 = 8) rfl inX8_plan_8 lkX8_plan_31 dX8_plan_6 ?_
  refine gf_31_1 C h (rfl : Kd 4 = 31) rfl inX8_plan_3 lkX8_plan_237 dX8_plan_9 ?_
  obtain ⟨u8, hu8, hf⟩ := bd_use hf
  refine r_cv_4 (rest := []) C h (k_X4_empties (rfl : Kd 7 = 4) rfl hu8) (rfl : Kd 7 = 4) gX8_plan_X4_empties rfl ⟨rfl, rfl⟩ hdX4_empties ⟨Nat.le_of_ble_eq_true rfl, Nat.le_of_ble_eq_true rfl⟩ ⟨Nat.zero_le _, Nat.zero_le _⟩ hl.1 rfl (Nat.le_of_ble_eq_true rfl) dX8_plan_12 (fun H locs h => ?_)
  obtain ⟨σ9, eσ9⟩ : ∃ z, z = va_up σ 7 u8.2 := ⟨_, rfl⟩
  replace hf := lt_use eσ9 hf
  rw [← eσ9] at h
  clear eσ9
  replace hf := Option.some.inj hf
  subst hf
  exact r_ire C h dX8_plan_15
theorem c_X8_plan {l : Launch} {E : Ev} {σ : Ms} {ℓ : Mz} {p0 : Int32} {p1 : Int32} {out : Int32 × Ms} (hf : f_X8_plan σ p0 p1 = some out) : Ct l yX8_plan wsX8_plan rm_X8_plan [.ref (Ea E 0 0), .int p0, .int p1] E σ ℓ (some (.int out.1)) out.2 ℓ := by
  refine Ct_mk (cc := cX8_plan) (mL := 3) (ret := (some .int)) (own := RX8) (by decide +kernel) rfl rfl (Nat.le_of_ble_eq_true rfl) (fun p e s m below meth c C h ls hl => ?_)
  exact w_X8_plan_0  C σ _ _ h ls (lv_sub hl [0, 1, 2] rfl) hf
theorem hdX8_carriesOut : yX8_carriesOut.cls = RX8 ∧ yX8_carriesOut.cls ≠ "java/lang/invoke/MethodHandle" ∧ yX8_carriesOut.cls ≠ "java/lang/invoke/VarHandle" ∧ (parseMethodDescriptor yX8_carriesOut.desc).map (fun d => d.parameters.length) = some 2 := by decide +kernel
def rm_X8_carriesOut : Room := { frames := 6, cells := 0, slots := 0, locals := 177 }
set_option maxRecDepth 100000 in
theorem inX8_carriesOut_8 : ∀ w ∈ wsX80, w ∈ wsX8_carriesOut := fun _ h => List.mem_cons_of_mem _ (List.mem_append_left _ (List.mem_append_left _ (List.mem_append_right _ h)))
set_option maxRecDepth 100000 in
theorem lkX8_carriesOut_22 : Cond.fieldLink RX8 22 "BellsBelow" "trial" "LBellsBelow$Hall;" ∈ wsX8_carriesOut := by decide +kernel
set_option maxRecDepth 100000 in
theorem inX8_carriesOut_1 : ∀ w ∈ wsX10, w ∈ wsX8_carriesOut := fun _ h => List.mem_cons_of_mem _ (List.mem_append_left _ (List.mem_append_right _ h))
set_option maxRecDepth 100000 in
theorem lkX8_carriesOut_111 : Cond.fieldLink RX8 111 "BellsBelow$Hall" "gone" "[I" ∈ wsX8_carriesOut := by decide +kernel
set_option maxHeartbeats 4000000 in
set_option maxRecDepth 100000 in
theorem w_X8_carriesOut_69 {p : Program} {l : Launch} {e : Env} {s : State} {m : MethodId} {args : Array Value} {below : List Frame} {meth : Method} {c : Code} {E : Ev} {ℓ : Mz} {p0 : Int32} {p1 : Int32} {out : Ms}   (C : Cx cX8_carriesOut 3 none wsX8_carriesOut RX8 E p s m args meth c)  : ∀ (σ : Ms) (w1 : Int32) (w2 : Int32) (H : Heap) (locs : List Loc) (h : HI E σ ℓ s H locs) (ls : Array Slot) (hl : lv_has ls 3 []), f_X8_carriesOut_69 p0 p1  σ w1 w2 = some out → W p l e rm_X8_carriesOut s m args below meth c H locs 0 0 (MQ below (Po E s.heap.size none out ℓ) args s 0 0 (AA E s.heap.size)) (F0 m 69 ls [.int w2, .int w1, .ref (Ea E 2 6)]) := by
  intro σ w1 w2 H locs h ls hl hf
  unfold f_X8_carriesOut_69 at hf
  have C0 := C
  obtain ⟨hx, hb, hr, hml, hown, hts, hlk, hK, hSF⟩ := C0
  obtain ⟨g8, hf⟩ := gd_use hf
  refine sa_1_6 C h (rfl : Kd 2 = 1) rfl (F := fun t => va_up σ 2 t) (fun _ => rfl) (inB_in g8) dX8_carriesOut_69 (fun τ9 eτ9 H locs h => ?_)
  replace hf := lt_use eτ9 hf
  clear eτ9
  obtain ⟨σ10, eσ10⟩ : ∃ z, z = va_up σ 2 τ9 := ⟨_, rfl⟩
  replace hf := lt_use eσ10 hf
  replace h : HI E (va_up σ 2 τ9) ℓ s H locs := h
  rw [← eσ10] at h
  clear eσ10
  replace hf := Option.some.inj hf
  subst hf
  exact r_vre C h dX8_carriesOut_70
set_option maxHeartbeats 4000000 in
set_option maxRecDepth 100000 in
theorem w_X8_carriesOut_0 {p : Program} {l : Launch} {e : Env} {s : State} {m : MethodId} {args : Array Value} {below : List Frame} {meth : Method} {c : Code} {E : Ev} {ℓ : Mz} {p0 : Int32} {p1 : Int32} {out : Ms}   (C : Cx cX8_carriesOut 3 none wsX8_carriesOut RX8 E p s m args meth c)  : ∀ (σ : Ms) (H : Heap) (locs : List Loc) (h : HI E σ ℓ s H locs) (ls : Array Slot) (hl : lv_has ls 3 [(0, .ref (Ea E 0 0)), (1, .int p0), (2, .int p1)]), f_X8_carriesOut_0 p0 p1  σ = some out → W p l e rm_X8_carriesOut s m args below meth c H locs 0 0 (MQ below (Po E s.heap.size none out ℓ) args s 0 0 (AA E s.heap.size)) (F0 m 0 ls []) := by
  intro σ H locs h ls hl hf
  unfold f_X8_carriesOut_0 at hf
  have C0 := C
  obtain ⟨hx, hb, hr, hml, hown, hts, hlk, hK, hSF⟩ := C0
  refine lv_iload_n hx hb dX8_carriesOut_0 rfl (lv_at hl 1 rfl) ?_
  by_cases c1 : p0 = (0 : Int32)
  · replace hf := it_t c1 hf
    refine r_lin (v := (0 : Int32)) (off := 27) (tgt := 28) hx hb c1 dX8_carriesOut_1 (by decide) (by decide) (by decide) ?_
    refine lv_aload_n hx hb dX8_carriesOut_28 rfl (lv_at hl 0 rfl) ?_
    refine gf_8_1 C h (rfl : Kd 0 = 8) rfl inX8_carriesOut_8 lkX8_carriesOut_22 dX8_carriesOut_29 ?_
    refine lv_iconst (v := (1 : Int32)) hx hb dX8_carriesOut_32 (by decide) ?_
    obtain ⟨u2, hu2, hf⟩ := bd_use hf
    refine r_cv_1 (rest := []) C h (k_X1_goes (rfl : Kd 2 = 1) rfl (fun _ _ => rfl) hu2) (rfl : Kd 2 = 1) gX8_carriesOut_X1_goes rfl ⟨rfl, rfl⟩ hdX1_goes ⟨Nat.le_of_ble_eq_true rfl, Nat.le_of_ble_eq_true rfl⟩ ⟨Nat.zero_le _, Nat.zero_le _⟩ hl.1 rfl (Nat.le_of_ble_eq_true rfl) dX8_carriesOut_33 (fun H locs h => ?_)
    obtain ⟨σ3, eσ3⟩ : ∃ z, z = va_up σ 2 u2 := ⟨_, rfl⟩
    replace hf := lt_use eσ3 hf
    rw [← eσ3] at h
    clear eσ3
    refine lv_goto (tgt := 70) hx hb dX8_carriesOut_36 (by decide) ?_
    replace hf := Option.some.inj hf
    subst hf
    exact r_vre C h dX8_carriesOut_70
  replace hf := it_f c1 hf
  by_cases c4 : p0 = (1 : Int32)
  · replace hf := it_t c4 hf
    refine r_lin (v := (1 : Int32)) (off := 38) (tgt := 39) hx hb c4 dX8_carriesOut_1 (by decide) (by decide) (by decide) ?_
    refine lv_aload_n hx hb dX8_carriesOut_39 rfl (lv_at hl 0 rfl) ?_
    refine gf_8_1 C h (rfl : Kd 0 = 8) rfl inX8_carriesOut_8 lkX8_carriesOut_22 dX8_carriesOut_40 ?_
    refine lv_iload_n hx hb dX8_carriesOut_43 rfl (lv_at hl 2 rfl) ?_
    obtain ⟨u5, hu5, hf⟩ := bd_use hf
    refine r_cv_1 (rest := []) C h (k_X1_rings (rfl : Kd 2 = 1) rfl hu5) (rfl : Kd 2 = 1) gX8_carriesOut_X1_rings rfl ⟨rfl, rfl⟩ hdX1_rings ⟨Nat.le_of_ble_eq_true rfl, Nat.le_of_ble_eq_true rfl⟩ ⟨Nat.zero_le _, Nat.zero_le _⟩ hl.1 rfl (Nat.le_of_ble_eq_true rfl) dX8_carriesOut_44 (fun H locs h => ?_)
    obtain ⟨σ6, eσ6⟩ : ∃ z, z = va_up σ 2 u5.2 := ⟨_, rfl⟩
    replace hf := lt_use eσ6 hf
    rw [← eσ6] at h
    clear eσ6
    refine lv_pop hx hb dX8_carriesOut_47 rfl ?_
    refine lv_goto (tgt := 70) hx hb dX8_carriesOut_48 (by decide) ?_
    replace hf := Option.some.inj hf
    subst hf
    exact r_vre C h dX8_carriesOut_70
  replace hf := it_f c4 hf
  refine lv_lookup (off := 50) (tgt := 51) hx hb dX8_carriesOut_1 (by decide) (lk_out _ (List.forall_mem_cons.mpr ⟨c1, (List.forall_mem_cons.mpr ⟨c4, (fun _ h => absurd h List.not_mem_nil)⟩)⟩)) (by decide) ?_
  refine lv_aload_n hx hb dX8_carriesOut_51 rfl (lv_at hl 0 rfl) ?_
  refine gf_8_1 C h (rfl : Kd 0 = 8) rfl inX8_carriesOut_8 lkX8_carriesOut_22 dX8_carriesOut_52 ?_
  refine gf_1_7 C h (rfl : Kd 2 = 1) rfl inX8_carriesOut_1 lkX8_carriesOut_111 dX8_carriesOut_55 ?_
  refine lv_iload_n hx hb dX8_carriesOut_58 rfl (lv_at hl 2 rfl) ?_
  refine lv_iload_n hx hb dX8_carriesOut_59 rfl (lv_at hl 1 rfl) ?_
  refine lv_iconst (v := (2 : Int32)) hx hb dX8_carriesOut_60 (by decide) ?_
  refine lv_icmp_ne (tgt := 68) hx hb dX8_carriesOut_61 (by decide) (fun c7 => ?_) (fun c7 => ?_)
  · replace hf := it_f c7 hf
    refine lv_iconst (v := (0 : Int32)) hx hb dX8_carriesOut_68 (by decide) ?_
    exact w_X8_carriesOut_69    C  _ _ _ _ _ h ls (lv_sub hl [] rfl) hf
  replace hf := it_t c7 hf
  refine lv_iconst (v := (1 : Int32)) hx hb dX8_carriesOut_64 (by decide) ?_
  refine lv_goto (tgt := 69) hx hb dX8_carriesOut_65 (by decide) ?_
  exact w_X8_carriesOut_69    C  _ _ _ _ _ h ls (lv_sub hl [] rfl) hf
theorem c_X8_carriesOut {l : Launch} {E : Ev} {σ : Ms} {ℓ : Mz} {p0 : Int32} {p1 : Int32} {out : Ms} (hf : f_X8_carriesOut σ p0 p1 = some out) : Ct l yX8_carriesOut wsX8_carriesOut rm_X8_carriesOut [.ref (Ea E 0 0), .int p0, .int p1] E σ ℓ none out ℓ := by
  refine Ct_mk (cc := cX8_carriesOut) (mL := 3) (ret := none) (own := RX8) (by decide +kernel) rfl rfl (Nat.le_of_ble_eq_true rfl) (fun p e s m below meth c C h ls hl => ?_)
  exact w_X8_carriesOut_0  C σ _ _ h ls (lv_sub hl [0, 1, 2] rfl) hf
theorem hdX8_ends : yX8_ends.cls = RX8 ∧ yX8_ends.cls ≠ "java/lang/invoke/MethodHandle" ∧ yX8_ends.cls ≠ "java/lang/invoke/VarHandle" ∧ (parseMethodDescriptor yX8_ends.desc).map (fun d => d.parameters.length) = some 1 := by decide +kernel
def rm_X8_ends : Room := { frames := 7, cells := 0, slots := 0, locals := 199 }
set_option maxRecDepth 100000 in
theorem inX8_ends_8 : ∀ w ∈ wsX80, w ∈ wsX8_ends := fun _ h => List.mem_cons_of_mem _ (List.mem_append_left _ (List.mem_append_left _ (List.mem_append_left _ (List.mem_append_left _ (List.mem_append_right _ h)))))
set_option maxRecDepth 100000 in
theorem lkX8_ends_22 : Cond.fieldLink RX8 22 "BellsBelow" "trial" "LBellsBelow$Hall;" ∈ wsX8_ends := by decide +kernel
set_option maxRecDepth 100000 in
theorem lkX8_ends_17 : Cond.fieldLink RX8 17 "BellsBelow" "now" "LBellsBelow$Hall;" ∈ wsX8_ends := by decide +kernel
set_option maxRecDepth 100000 in
theorem lkX8_ends_31 : Cond.fieldLink RX8 31 "BellsBelow" "notes" "LBellsBelow$Notes;" ∈ wsX8_ends := by decide +kernel
set_option maxRecDepth 100000 in
theorem inX8_ends_3 : ∀ w ∈ wsX30, w ∈ wsX8_ends := fun _ h => List.mem_cons_of_mem _ (List.mem_append_left _ (List.mem_append_left _ (List.mem_append_left _ (List.mem_append_right _ h))))
set_option maxRecDepth 100000 in
theorem lkX8_ends_237 : Cond.fieldLink RX8 237 "BellsBelow$Notes" "plan" "LBellsBelow$Rows;" ∈ wsX8_ends := by decide +kernel
set_option maxRecDepth 100000 in
theorem inX8_ends_4 : ∀ w ∈ wsX40, w ∈ wsX8_ends := fun _ h => List.mem_cons_of_mem _ (List.mem_append_left _ (List.mem_append_left _ (List.mem_append_right _ h)))
set_option maxRecDepth 100000 in
theorem lkX8_ends_244 : Cond.fieldLink RX8 244 "BellsBelow$Rows" "many" "I" ∈ wsX8_ends := by decide +kernel
set_option maxRecDepth 100000 in
theorem inX8_ends_1 : ∀ w ∈ wsX10, w ∈ wsX8_ends := fun _ h => List.mem_cons_of_mem _ (List.mem_append_left _ (List.mem_append_right _ h))
set_option maxRecDepth 100000 in
theorem lkX8_ends_169 : Cond.fieldLink RX8 169 "BellsBelow$Hall" "rung" "I" ∈ wsX8_ends := by decide +kernel
set_option maxRecDepth 100000 in
theorem lkX8_ends_172 : Cond.fieldLink RX8 172 "BellsBelow$Hall" "waited" "I" ∈ wsX8_ends := by decide +kernel
set_option maxRecDepth 100000 in
theorem lkX8_ends_245 : Cond.fieldLink RX8 245 "BellsBelow$Rows" "first" "[I" ∈ wsX8_ends := by decide +kernel
set_option maxRecDepth 100000 in
theorem lkX8_ends_248 : Cond.fieldLink RX8 248 "BellsBelow$Rows" "second" "[I" ∈ wsX8_ends := by decide +kernel
set_option maxHeartbeats 4000000 in
set_option maxRecDepth 100000 in
theorem w_X8_ends_24 {p : Program} {l : Launch} {e : Env} {s : State} {m : MethodId} {args : Array Value} {below : List Frame} {meth : Method} {c : Code} {E : Ev} {ℓ : Mz} {p0 : Int32} {out : Int32 × Ms}   (C : Cx cX8_ends 3 (some .int) wsX8_ends RX8 E p s m args meth c) {k24 : Ms → Int32 → Option (Int32 × Ms)} (hk24 : ∀ (σ : Ms) (v2 : Int32) (H : Heap) (locs : List Loc), HI E σ ℓ s H locs → ∀ ls : Array Slot, lv_has ls 3 [(0, .ref (Ea E 0 0)), (1, .int p0), (2, .int v2)] → k24 σ v2 = some out → W p l e rm_X8_ends s m args below meth c H locs 0 0 (MQ below (Po E s.heap.size (some (.int out.1)) out.2 ℓ) args s 0 0 (AA E s.heap.size)) (F0 m 24 ls [])) : ∀ (σ : Ms) (v2 : Int32) (H : Heap) (locs : List Loc) (h : HI E σ ℓ s H locs) (ls : Array Slot) (hl : lv_has ls 3 [(0, .ref (Ea E 0 0)), (1, .int p0), (2, .int v2)]), f_X8_ends_24 p0 k24 σ v2 = some out → W p l e rm_X8_ends s m args below meth c H locs 0 0 (MQ below (Po E s.heap.size (some (.int out.1)) out.2 ℓ) args s 0 0 (AA E s.heap.size)) (F0 m 24 ls []) := by
  intro σ v2 H locs h ls hl hf
  unfold f_X8_ends_24 at hf
  have C0 := C
  obtain ⟨hx, hb, hr, hml, hown, hts, hlk, hK, hSF⟩ := C0
  refine lv_iload_n hx hb dX8_ends_24 rfl (lv_at hl 2 rfl) ?_
  refine lv_aload_n hx hb dX8_ends_25 rfl (lv_at hl 0 rfl) ?_
  refine gf_8_3 C h (rfl : Kd 0 = 8) rfl inX8_ends_8 lkX8_ends_31 dX8_ends_26 ?_
  refine gf_31_1 C h (rfl : Kd 4 = 31) rfl inX8_ends_3 lkX8_ends_237 dX8_ends_29 ?_
  refine gf_4_3 C h (rfl : Kd 7 = 4) rfl inX8_ends_4 lkX8_ends_244 dX8_ends_32 ?_
  refine lv_icmp_ge (tgt := 72) hx hb dX8_ends_35 (by decide) (fun c5 => ?_) (fun c5 => ?_)
  · replace hf := it_t c5 hf
    refine lv_iload_n hx hb dX8_ends_72 rfl (lv_at hl 1 rfl) ?_
    refine lv_if_ne (tgt := 86) hx hb dX8_ends_73 (by decide) (fun c6 => ?_) (fun c6 => ?_)
    · replace hf := it_f c6 hf
      refine lv_aload_n hx hb dX8_ends_86 rfl (lv_at hl 0 rfl) ?_
      refine gf_8_1 C h (rfl : Kd 0 = 8) rfl inX8_ends_8 lkX8_ends_22 dX8_ends_87 ?_
      refine gf_1_13 C h (rfl : Kd 2 = 1) rfl inX8_ends_1 lkX8_ends_169 dX8_ends_90 ?_
      replace hf := Option.some.inj hf
      subst hf
      exact r_ire C h dX8_ends_93
    replace hf := it_t c6 hf
    refine lv_aload_n hx hb dX8_ends_76 rfl (lv_at hl 0 rfl) ?_
    refine gf_8_1 C h (rfl : Kd 0 = 8) rfl inX8_ends_8 lkX8_ends_22 dX8_ends_77 ?_
    refine gf_1_14 C h (rfl : Kd 2 = 1) rfl inX8_ends_1 lkX8_ends_172 dX8_ends_80 ?_
    refine lv_goto (tgt := 93) hx hb dX8_ends_83 (by decide) ?_
    replace hf := Option.some.inj hf
    subst hf
    exact r_ire C h dX8_ends_93
  replace hf := it_f c5 hf
  refine lv_aload_n hx hb dX8_ends_38 rfl (lv_at hl 0 rfl) ?_
  refine lv_aload_n hx hb dX8_ends_39 rfl (lv_at hl 0 rfl) ?_
  refine gf_8_3 C h (rfl : Kd 0 = 8) rfl inX8_ends_8 lkX8_ends_31 dX8_ends_40 ?_
  refine gf_31_1 C h (rfl : Kd 4 = 31) rfl inX8_ends_3 lkX8_ends_237 dX8_ends_43 ?_
  refine gf_4_0 C h (rfl : Kd 7 = 4) rfl inX8_ends_4 lkX8_ends_245 dX8_ends_46 ?_
  refine lv_iload_n hx hb dX8_ends_49 rfl (lv_at hl 2 rfl) ?_
  obtain ⟨g7, hf⟩ := gd_use hf
  refine ld_4_1 C h (rfl : Kd 7 = 4) rfl (inB_in g7) dX8_ends_50 ?_
  refine lv_aload_n hx hb dX8_ends_51 rfl (lv_at hl 0 rfl) ?_
  refine gf_8_3 C h (rfl : Kd 0 = 8) rfl inX8_ends_8 lkX8_ends_31 dX8_ends_52 ?_
  refine gf_31_1 C h (rfl : Kd 4 = 31) rfl inX8_ends_3 lkX8_ends_237 dX8_ends_55 ?_
  refine gf_4_1 C h (rfl : Kd 7 = 4) rfl inX8_ends_4 lkX8_ends_248 dX8_ends_58 ?_
  refine lv_iload_n hx hb dX8_ends_61 rfl (lv_at hl 2 rfl) ?_
  obtain ⟨g8, hf⟩ := gd_use hf
  refine ld_4_2 C h (rfl : Kd 7 = 4) rfl (inB_in g8) dX8_ends_62 ?_
  obtain ⟨u9, hu9, hf⟩ := bd_use hf
  refine r_cv_8 (rest := []) C h (c_X8_carriesOut  hu9) (rfl : Kd 0 = 8) gX8_ends_X8_carriesOut rfl ⟨rfl, rfl⟩ hdX8_carriesOut ⟨Nat.le_of_ble_eq_true rfl, Nat.le_of_ble_eq_true rfl⟩ ⟨Nat.zero_le _, Nat.zero_le _⟩ hl.1 rfl (Nat.le_of_ble_eq_true rfl) dX8_ends_63 (fun H locs h => ?_)
  obtain ⟨x10, ex10⟩ : ∃ y : Int32, y = (v2 + (1 : Int32)) := ⟨_, rfl⟩
  refine lv_iinc (v := x10) (lv' := [(2, .int x10), (0, .ref (Ea E 0 0)), (1, .int p0)]) hx hb dX8_ends_66 hl (k := 2) rfl (by rw [ex10]; rfl) (by decide) rfl (fun ls hl => ?_)
  replace hf := lt_use ex10 hf
  clear ex10
  refine lv_goto (tgt := 24) hx hb dX8_ends_69 (by decide) ?_
  exact hk24 _ _ _ _ h ls (lv_sub hl [1, 2, 0] rfl) hf
set_option maxHeartbeats 4000000 in
set_option maxRecDepth 100000 in
theorem w_X8_ends_24L {p : Program} {l : Launch} {e : Env} {s : State} {m : MethodId} {args : Array Value} {below : List Frame} {meth : Method} {c : Code} {E : Ev} {ℓ : Mz} {p0 : Int32} {out : Int32 × Ms}   (C : Cx cX8_ends 3 (some .int) wsX8_ends RX8 E p s m args meth c)  : ∀ (n9 : Nat) (σ : Ms) (v2 : Int32) (H : Heap) (locs : List Loc) (h : HI E σ ℓ s H locs) (ls : Array Slot) (hl : lv_has ls 3 [(0, .ref (Ea E 0 0)), (1, .int p0), (2, .int v2)]), f_X8_ends_24L p0  n9 σ v2 = some out → W p l e rm_X8_ends s m args below meth c H locs 0 0 (MQ below (Po E s.heap.size (some (.int out.1)) out.2 ℓ) args s 0 0 (AA E s.heap.size)) (F0 m 24 ls []) := by
  intro n9
  induction n9 with
  | zero =>
    intro σ v2 H locs h ls hl hf
    cases (show (none : Option (Int32 × Ms)) = some out from hf)
  | succ n9 ih =>
    intro σ v2 H locs h ls hl hf
    exact w_X8_ends_24   C  ih σ v2 H locs h ls hl hf
set_option maxHeartbeats 4000000 in
set_option maxRecDepth 100000 in
theorem w_X8_ends_0 {p : Program} {l : Launch} {e : Env} {s : State} {m : MethodId} {args : Array Value} {below : List Frame} {meth : Method} {c : Code} {E : Ev} {ℓ : Mz} {p0 : Int32} {out : Int32 × Ms}   (C : Cx cX8_ends 3 (some .int) wsX8_ends RX8 E p s m args meth c)  : ∀ (σ : Ms) (H : Heap) (locs : List Loc) (h : HI E σ ℓ s H locs) (ls : Array Slot) (hl : lv_has ls 3 [(0, .ref (Ea E 0 0)), (1, .int p0)]), f_X8_ends_0 p0  σ = some out → W p l e rm_X8_ends s m args below meth c H locs 0 0 (MQ below (Po E s.heap.size (some (.int out.1)) out.2 ℓ) args s 0 0 (AA E s.heap.size)) (F0 m 0 ls []) := by
  intro σ H locs h ls hl hf
  unfold f_X8_ends_0 at hf
  have C0 := C
  obtain ⟨hx, hb, hr, hml, hown, hts, hlk, hK, hSF⟩ := C0
  refine lv_iload_n hx hb dX8_ends_0 rfl (lv_at hl 1 rfl) ?_
  refine lv_i2l hx hb dX8_ends_1 rfl ?_
  refine lv_iconst (v := (2 : Int32)) hx hb dX8_ends_2 (by decide) ?_
  obtain ⟨u1, hu1, hf⟩ := bd_use hf
  refine r_cs (rest := []) C h (c_X8_within  hu1) gX8_ends_X8_within rfl ⟨rfl, rfl⟩ hdX8_within ⟨Nat.le_of_ble_eq_true rfl, Nat.le_of_ble_eq_true rfl⟩ ⟨Nat.zero_le _, Nat.zero_le _⟩ hl.1 rfl (Nat.le_of_ble_eq_true rfl) dX8_ends_3 (fun H locs h => ?_)
  refine lv_if_ne (tgt := 11) hx hb dX8_ends_6 (by decide) (fun c2 => ?_) (fun c2 => ?_)
  · replace hf := it_f c2 hf
    refine lv_aload_n hx hb dX8_ends_11 rfl (lv_at hl 0 rfl) ?_
    refine gf_8_1 C h (rfl : Kd 0 = 8) rfl inX8_ends_8 lkX8_ends_22 dX8_ends_12 ?_
    refine lv_aload_n hx hb dX8_ends_15 rfl (lv_at hl 0 rfl) ?_
    refine gf_8_0 C h (rfl : Kd 0 = 8) rfl inX8_ends_8 lkX8_ends_17 dX8_ends_16 ?_
    obtain ⟨u3, hu3, hf⟩ := bd_use hf
    refine r_cv_1 (rest := []) C h (k_X1_copies (rfl : Kd 2 = 1) (rfl : Kd 1 = 1) (by decide) rfl rfl hu3) (rfl : Kd 2 = 1) gX8_ends_X1_copies rfl ⟨rfl, rfl⟩ hdX1_copies ⟨Nat.le_of_ble_eq_true rfl, Nat.le_of_ble_eq_true rfl⟩ ⟨Nat.zero_le _, Nat.zero_le _⟩ hl.1 rfl (Nat.le_of_ble_eq_true rfl) dX8_ends_19 (fun H locs h => ?_)
    obtain ⟨σ4, eσ4⟩ : ∃ z, z = va_up σ 2 u3 := ⟨_, rfl⟩
    replace hf := lt_use eσ4 hf
    rw [← eσ4] at h
    clear eσ4
    refine lv_iconst (v := (0 : Int32)) hx hb dX8_ends_22 (by decide) ?_
    refine lv_istore_n (lv' := [(2, .int (0 : Int32)), (0, .ref (Ea E 0 0)), (1, .int p0)]) hx hb dX8_ends_23 rfl hl (by decide) rfl (fun ls hl => ?_)
    exact w_X8_ends_24L    C  _ _ _ _ _ h ls (lv_sub hl [1, 2, 0] rfl) hf
  replace hf := it_t c2 hf
  refine lv_iconst (v := (-1 : Int32)) hx hb dX8_ends_9 (by decide) ?_
  replace hf := Option.some.inj hf
  subst hf
  exact r_ire C h dX8_ends_10
theorem c_X8_ends {l : Launch} {E : Ev} {σ : Ms} {ℓ : Mz} {p0 : Int32} {out : Int32 × Ms} (hf : f_X8_ends σ p0 = some out) : Ct l yX8_ends wsX8_ends rm_X8_ends [.ref (Ea E 0 0), .int p0] E σ ℓ (some (.int out.1)) out.2 ℓ := by
  refine Ct_mk (cc := cX8_ends) (mL := 3) (ret := (some .int)) (own := RX8) (by decide +kernel) rfl rfl (Nat.le_of_ble_eq_true rfl) (fun p e s m below meth c C h ls hl => ?_)
  exact w_X8_ends_0  C σ _ _ h ls (lv_sub hl [0, 1] rfl) hf
theorem hdX8_book : yX8_book.cls = RX8 ∧ yX8_book.cls ≠ "java/lang/invoke/MethodHandle" ∧ yX8_book.cls ≠ "java/lang/invoke/VarHandle" ∧ (parseMethodDescriptor yX8_book.desc).map (fun d => d.parameters.length) = some 2 := by decide +kernel
def rm_X8_book : Room := { frames := 2, cells := 0, slots := 0, locals := 44 }
set_option maxRecDepth 100000 in
theorem inX8_book_8 : ∀ w ∈ wsX80, w ∈ wsX8_book := fun _ h => List.mem_cons_of_mem _ (List.mem_append_left _ (List.mem_append_left _ (List.mem_append_left _ (List.mem_append_right _ h))))
set_option maxRecDepth 100000 in
theorem lkX8_book_31 : Cond.fieldLink RX8 31 "BellsBelow" "notes" "LBellsBelow$Notes;" ∈ wsX8_book := by decide +kernel
set_option maxRecDepth 100000 in
theorem inX8_book_3 : ∀ w ∈ wsX30, w ∈ wsX8_book := fun _ h => List.mem_cons_of_mem _ (List.mem_append_left _ (List.mem_append_left _ (List.mem_append_right _ h)))
set_option maxRecDepth 100000 in
theorem lkX8_book_254 : Cond.fieldLink RX8 254 "BellsBelow$Notes" "book" "LBellsBelow$Rows;" ∈ wsX8_book := by decide +kernel
set_option maxHeartbeats 4000000 in
set_option maxRecDepth 100000 in
theorem w_X8_book_0 {p : Program} {l : Launch} {e : Env} {s : State} {m : MethodId} {args : Array Value} {below : List Frame} {meth : Method} {c : Code} {E : Ev} {ℓ : Mz} {p0 : Int32} {p1 : Int32} {out : Int32 × Ms}   (C : Cx cX8_book 3 (some .int) wsX8_book RX8 E p s m args meth c)  : ∀ (σ : Ms) (H : Heap) (locs : List Loc) (h : HI E σ ℓ s H locs) (ls : Array Slot) (hl : lv_has ls 3 [(0, .ref (Ea E 0 0)), (1, .int p0), (2, .int p1)]), f_X8_book_0 p0 p1  σ = some out → W p l e rm_X8_book s m args below meth c H locs 0 0 (MQ below (Po E s.heap.size (some (.int out.1)) out.2 ℓ) args s 0 0 (AA E s.heap.size)) (F0 m 0 ls []) := by
  intro σ H locs h ls hl hf
  unfold f_X8_book_0 at hf
  have C0 := C
  obtain ⟨hx, hb, hr, hml, hown, hts, hlk, hK, hSF⟩ := C0
  refine lv_iload_n hx hb dX8_book_0 rfl (lv_at hl 1 rfl) ?_
  refine lv_iconst (v := (-1 : Int32)) hx hb dX8_book_1 (by decide) ?_
  refine lv_icmp_ne (tgt := 16) hx hb dX8_book_2 (by decide) (fun c1 => ?_) (fun c1 => ?_)
  · replace hf := it_f c1 hf
    refine lv_aload_n hx hb dX8_book_16 rfl (lv_at hl 0 rfl) ?_
    refine lv_iload_n hx hb dX8_book_17 rfl (lv_at hl 1 rfl) ?_
    refine lv_i2l hx hb dX8_book_18 rfl ?_
    obtain ⟨u2, hu2, hf⟩ := bd_use hf
    refine r_cv_8 (rest := []) C h (c_X8_isMaster  hu2) (rfl : Kd 0 = 8) gX8_book_X8_isMaster rfl ⟨rfl, rfl⟩ hdX8_isMaster ⟨Nat.le_of_ble_eq_true rfl, Nat.le_of_ble_eq_true rfl⟩ ⟨Nat.zero_le _, Nat.zero_le _⟩ hl.1 rfl (Nat.le_of_ble_eq_true rfl) dX8_book_19 (fun H locs h => ?_)
    refine lv_if_eq (tgt := 35) hx hb dX8_book_22 (by decide) (fun c3 => ?_) (fun c3 => ?_)
    · replace hf := it_t c3 hf
      refine lv_iconst (v := (-1 : Int32)) hx hb dX8_book_35 (by decide) ?_
      replace hf := Option.some.inj hf
      subst hf
      exact r_ire C h dX8_book_36
    replace hf := it_f c3 hf
    refine lv_iload_n hx hb dX8_book_25 rfl (lv_at hl 2 rfl) ?_
    refine lv_i2l hx hb dX8_book_26 rfl ?_
    refine lv_bipush (v := (10 : Int32)) hx hb dX8_book_27 (by decide) ?_
    obtain ⟨u4, hu4, hf⟩ := bd_use hf
    refine r_cs (rest := []) C h (c_X8_within  hu4) gX8_book_X8_within rfl ⟨rfl, rfl⟩ hdX8_within ⟨Nat.le_of_ble_eq_true rfl, Nat.le_of_ble_eq_true rfl⟩ ⟨Nat.zero_le _, Nat.zero_le _⟩ hl.1 rfl (Nat.le_of_ble_eq_true rfl) dX8_book_29 (fun H locs h => ?_)
    refine lv_if_ne (tgt := 37) hx hb dX8_book_32 (by decide) (fun c5 => ?_) (fun c5 => ?_)
    · replace hf := it_f c5 hf
      refine lv_aload_n hx hb dX8_book_37 rfl (lv_at hl 0 rfl) ?_
      refine gf_8_3 C h (rfl : Kd 0 = 8) rfl inX8_book_8 lkX8_book_31 dX8_book_38 ?_
      refine gf_31_2 C h (rfl : Kd 4 = 31) rfl inX8_book_3 lkX8_book_254 dX8_book_41 ?_
      obtain ⟨u6, hu6, hf⟩ := bd_use hf
      refine r_cv_4 (rest := []) C h (c_X4_isFull (rfl : Kd 8 = 4) rfl rfl hu6) (rfl : Kd 8 = 4) gX8_book_X4_isFull rfl ⟨rfl, rfl⟩ hdX4_isFull ⟨Nat.le_of_ble_eq_true rfl, Nat.le_of_ble_eq_true rfl⟩ ⟨Nat.zero_le _, Nat.zero_le _⟩ hl.1 rfl (Nat.le_of_ble_eq_true rfl) dX8_book_44 (fun H locs h => ?_)
      refine lv_if_eq (tgt := 55) hx hb dX8_book_47 (by decide) (fun c7 => ?_) (fun c7 => ?_)
      · replace hf := it_t c7 hf
        refine lv_aload_n hx hb dX8_book_55 rfl (lv_at hl 0 rfl) ?_
        refine gf_8_3 C h (rfl : Kd 0 = 8) rfl inX8_book_8 lkX8_book_31 dX8_book_56 ?_
        refine gf_31_2 C h (rfl : Kd 4 = 31) rfl inX8_book_3 lkX8_book_254 dX8_book_59 ?_
        refine lv_iload_n hx hb dX8_book_62 rfl (lv_at hl 1 rfl) ?_
        refine lv_iload_n hx hb dX8_book_63 rfl (lv_at hl 2 rfl) ?_
        refine lv_iconst (v := (0 : Int32)) hx hb dX8_book_64 (by decide) ?_
        obtain ⟨u8, hu8, hf⟩ := bd_use hf
        refine r_cv_4 (rest := []) C h (k_X4_adds (rfl : Kd 8 = 4) rfl rfl hu8) (rfl : Kd 8 = 4) gX8_book_X4_adds rfl ⟨rfl, rfl⟩ hdX4_adds ⟨Nat.le_of_ble_eq_true rfl, Nat.le_of_ble_eq_true rfl⟩ ⟨Nat.zero_le _, Nat.zero_le _⟩ hl.1 rfl (Nat.le_of_ble_eq_true rfl) dX8_book_65 (fun H locs h => ?_)
        obtain ⟨σ9, eσ9⟩ : ∃ z, z = va_up σ 8 u8.2 := ⟨_, rfl⟩
        replace hf := lt_use eσ9 hf
        rw [← eσ9] at h
        clear eσ9
        replace hf := Option.some.inj hf
        subst hf
        exact r_ire C h dX8_book_68
      replace hf := it_f c7 hf
      refine lv_bipush (v := (-4 : Int32)) hx hb dX8_book_50 (by decide) ?_
      refine lv_goto (tgt := 68) hx hb dX8_book_52 (by decide) ?_
      replace hf := Option.some.inj hf
      subst hf
      exact r_ire C h dX8_book_68
    replace hf := it_t c5 hf
    refine lv_iconst (v := (-1 : Int32)) hx hb dX8_book_35 (by decide) ?_
    replace hf := Option.some.inj hf
    subst hf
    exact r_ire C h dX8_book_36
  replace hf := it_t c1 hf
  refine lv_aload_n hx hb dX8_book_5 rfl (lv_at hl 0 rfl) ?_
  refine gf_8_3 C h (rfl : Kd 0 = 8) rfl inX8_book_8 lkX8_book_31 dX8_book_6 ?_
  refine gf_31_2 C h (rfl : Kd 4 = 31) rfl inX8_book_3 lkX8_book_254 dX8_book_9 ?_
  obtain ⟨u10, hu10, hf⟩ := bd_use hf
  refine r_cv_4 (rest := []) C h (k_X4_empties (rfl : Kd 8 = 4) rfl hu10) (rfl : Kd 8 = 4) gX8_book_X4_empties rfl ⟨rfl, rfl⟩ hdX4_empties ⟨Nat.le_of_ble_eq_true rfl, Nat.le_of_ble_eq_true rfl⟩ ⟨Nat.zero_le _, Nat.zero_le _⟩ hl.1 rfl (Nat.le_of_ble_eq_true rfl) dX8_book_12 (fun H locs h => ?_)
  obtain ⟨σ11, eσ11⟩ : ∃ z, z = va_up σ 8 u10.2 := ⟨_, rfl⟩
  replace hf := lt_use eσ11 hf
  rw [← eσ11] at h
  clear eσ11
  replace hf := Option.some.inj hf
  subst hf
  exact r_ire C h dX8_book_15
theorem c_X8_book {l : Launch} {E : Ev} {σ : Ms} {ℓ : Mz} {p0 : Int32} {p1 : Int32} {out : Int32 × Ms} (hf : f_X8_book σ p0 p1 = some out) : Ct l yX8_book wsX8_book rm_X8_book [.ref (Ea E 0 0), .int p0, .int p1] E σ ℓ (some (.int out.1)) out.2 ℓ := by
  refine Ct_mk (cc := cX8_book) (mL := 3) (ret := (some .int)) (own := RX8) (by decide +kernel) rfl rfl (Nat.le_of_ble_eq_true rfl) (fun p e s m below meth c C h ls hl => ?_)
  exact w_X8_book_0  C σ _ _ h ls (lv_sub hl [0, 1, 2] rfl) hf
theorem hdX8_looked : yX8_looked.cls = RX8 ∧ yX8_looked.cls ≠ "java/lang/invoke/MethodHandle" ∧ yX8_looked.cls ≠ "java/lang/invoke/VarHandle" ∧ (parseMethodDescriptor yX8_looked.desc).map (fun d => d.parameters.length) = some 0 := by decide +kernel
def rm_X8_looked : Room := { frames := 0, cells := 0, slots := 0, locals := 0 }
set_option maxRecDepth 100000 in
theorem inX8_looked_8 : ∀ w ∈ wsX80, w ∈ wsX8_looked := fun _ h => List.mem_cons_of_mem _ (List.mem_append_left _ (List.mem_append_left _ (List.mem_append_left _ (List.mem_append_right _ h))))
set_option maxRecDepth 100000 in
theorem lkX8_looked_31 : Cond.fieldLink RX8 31 "BellsBelow" "notes" "LBellsBelow$Notes;" ∈ wsX8_looked := by decide +kernel
set_option maxRecDepth 100000 in
theorem inX8_looked_3 : ∀ w ∈ wsX30, w ∈ wsX8_looked := fun _ h => List.mem_cons_of_mem _ (List.mem_append_left _ (List.mem_append_left _ (List.mem_append_right _ h)))
set_option maxRecDepth 100000 in
theorem lkX8_looked_254 : Cond.fieldLink RX8 254 "BellsBelow$Notes" "book" "LBellsBelow$Rows;" ∈ wsX8_looked := by decide +kernel
set_option maxRecDepth 100000 in
theorem inX8_looked_4 : ∀ w ∈ wsX40, w ∈ wsX8_looked := fun _ h => List.mem_cons_of_mem _ (List.mem_append_left _ (List.mem_append_right _ h))
set_option maxRecDepth 100000 in
theorem lkX8_looked_244 : Cond.fieldLink RX8 244 "BellsBelow$Rows" "many" "I" ∈ wsX8_looked := by decide +kernel
set_option maxRecDepth 100000 in
theorem lkX8_looked_17 : Cond.fieldLink RX8 17 "BellsBelow" "now" "LBellsBelow$Hall;" ∈ wsX8_looked := by decide +kernel
set_option maxRecDepth 100000 in
theorem inX8_looked_1 : ∀ w ∈ wsX10, w ∈ wsX8_looked := fun _ h => List.mem_cons_of_mem _ (List.mem_append_right _ h)
set_option maxRecDepth 100000 in
theorem lkX8_looked_102 : Cond.fieldLink RX8 102 "BellsBelow$Hall" "floor" "[I" ∈ wsX8_looked := by decide +kernel
set_option maxRecDepth 100000 in
theorem lkX8_looked_245 : Cond.fieldLink RX8 245 "BellsBelow$Rows" "first" "[I" ∈ wsX8_looked := by decide +kernel
set_option maxRecDepth 100000 in
theorem lkX8_looked_248 : Cond.fieldLink RX8 248 "BellsBelow$Rows" "second" "[I" ∈ wsX8_looked := by decide +kernel
set_option maxHeartbeats 4000000 in
set_option maxRecDepth 100000 in
theorem w_X8_looked_2 {p : Program} {l : Launch} {e : Env} {s : State} {m : MethodId} {args : Array Value} {below : List Frame} {meth : Method} {c : Code} {E : Ev} {ℓ : Mz} {σ : Ms} {out : Int32}   (C : Cx cX8_looked 2 (some .int) wsX8_looked RX8 E p s m args meth c) {k2 : Int32 → Option (Int32)} (hk2 : ∀ (v1 : Int32) (H : Heap) (locs : List Loc), HI E σ ℓ s H locs → ∀ ls : Array Slot, lv_has ls 2 [(0, .ref (Ea E 0 0)), (1, .int v1)] → k2 v1 = some out → W p l e rm_X8_looked s m args below meth c H locs 0 0 (MQ below (Po E s.heap.size (some (.int out)) σ ℓ) args s 0 0 (AA E s.heap.size)) (F0 m 2 ls [])) : ∀ (v1 : Int32) (H : Heap) (locs : List Loc) (h : HI E σ ℓ s H locs) (ls : Array Slot) (hl : lv_has ls 2 [(0, .ref (Ea E 0 0)), (1, .int v1)]), f_X8_looked_2 σ k2 v1 = some out → W p l e rm_X8_looked s m args below meth c H locs 0 0 (MQ below (Po E s.heap.size (some (.int out)) σ ℓ) args s 0 0 (AA E s.heap.size)) (F0 m 2 ls []) := by
  intro v1 H locs h ls hl hf
  unfold f_X8_looked_2 at hf
  have C0 := C
  obtain ⟨hx, hb, hr, hml, hown, hts, hlk, hK, hSF⟩ := C0
  refine lv_iload_n hx hb dX8_looked_2 rfl (lv_at hl 1 rfl) ?_
  refine lv_aload_n hx hb dX8_looked_3 rfl (lv_at hl 0 rfl) ?_
  refine gf_8_3 C h (rfl : Kd 0 = 8) rfl inX8_looked_8 lkX8_looked_31 dX8_looked_4 ?_
  refine gf_31_2 C h (rfl : Kd 4 = 31) rfl inX8_looked_3 lkX8_looked_254 dX8_looked_7 ?_
  refine gf_4_3 C h (rfl : Kd 8 = 4) rfl inX8_looked_4 lkX8_looked_244 dX8_looked_10 ?_
  refine lv_icmp_ge (tgt := 59) hx hb dX8_looked_13 (by decide) (fun c1 => ?_) (fun c1 => ?_)
  · replace hf := it_t c1 hf
    refine lv_bipush (v := (-5 : Int32)) hx hb dX8_looked_59 (by decide) ?_
    replace hf := Option.some.inj hf
    subst hf
    exact r_ire C h dX8_looked_61
  replace hf := it_f c1 hf
  refine lv_aload_n hx hb dX8_looked_16 rfl (lv_at hl 0 rfl) ?_
  refine gf_8_0 C h (rfl : Kd 0 = 8) rfl inX8_looked_8 lkX8_looked_17 dX8_looked_17 ?_
  refine gf_1_4 C h (rfl : Kd 1 = 1) rfl inX8_looked_1 lkX8_looked_102 dX8_looked_20 ?_
  refine lv_aload_n hx hb dX8_looked_23 rfl (lv_at hl 0 rfl) ?_
  refine gf_8_3 C h (rfl : Kd 0 = 8) rfl inX8_looked_8 lkX8_looked_31 dX8_looked_24 ?_
  refine gf_31_2 C h (rfl : Kd 4 = 31) rfl inX8_looked_3 lkX8_looked_254 dX8_looked_27 ?_
  refine gf_4_0 C h (rfl : Kd 8 = 4) rfl inX8_looked_4 lkX8_looked_245 dX8_looked_30 ?_
  refine lv_iload_n hx hb dX8_looked_33 rfl (lv_at hl 1 rfl) ?_
  obtain ⟨g2, hf⟩ := gd_use hf
  refine ld_4_1 C h (rfl : Kd 8 = 4) rfl (inB_in g2) dX8_looked_34 ?_
  obtain ⟨g3, hf⟩ := gd_use hf
  refine ld_1_3 C h (rfl : Kd 1 = 1) rfl (inB_in g3) dX8_looked_35 ?_
  refine lv_aload_n hx hb dX8_looked_36 rfl (lv_at hl 0 rfl) ?_
  refine gf_8_3 C h (rfl : Kd 0 = 8) rfl inX8_looked_8 lkX8_looked_31 dX8_looked_37 ?_
  refine gf_31_2 C h (rfl : Kd 4 = 31) rfl inX8_looked_3 lkX8_looked_254 dX8_looked_40 ?_
  refine gf_4_1 C h (rfl : Kd 8 = 4) rfl inX8_looked_4 lkX8_looked_248 dX8_looked_43 ?_
  refine lv_iload_n hx hb dX8_looked_46 rfl (lv_at hl 1 rfl) ?_
  obtain ⟨g4, hf⟩ := gd_use hf
  refine ld_4_2 C h (rfl : Kd 8 = 4) rfl (inB_in g4) dX8_looked_47 ?_
  refine lv_icmp_eq (tgt := 53) hx hb dX8_looked_48 (by decide) (fun c5 => ?_) (fun c5 => ?_)
  · replace hf := it_t c5 hf
    obtain ⟨x6, ex6⟩ : ∃ y : Int32, y = (v1 + (1 : Int32)) := ⟨_, rfl⟩
    refine lv_iinc (v := x6) (lv' := [(1, .int x6), (0, .ref (Ea E 0 0))]) hx hb dX8_looked_53 hl (k := 1) rfl (by rw [ex6]; rfl) (by decide) rfl (fun ls hl => ?_)
    replace hf := lt_use ex6 hf
    clear ex6
    refine lv_goto (tgt := 2) hx hb dX8_looked_56 (by decide) ?_
    exact hk2 _ _ _ h ls (lv_sub hl [1, 0] rfl) hf
  replace hf := it_f c5 hf
  refine lv_iload_n hx hb dX8_looked_51 rfl (lv_at hl 1 rfl) ?_
  replace hf := Option.some.inj hf
  subst hf
  exact r_ire C h dX8_looked_52
set_option maxHeartbeats 4000000 in
set_option maxRecDepth 100000 in
theorem w_X8_looked_2L {p : Program} {l : Launch} {e : Env} {s : State} {m : MethodId} {args : Array Value} {below : List Frame} {meth : Method} {c : Code} {E : Ev} {ℓ : Mz} {σ : Ms} {out : Int32}   (C : Cx cX8_looked 2 (some .int) wsX8_looked RX8 E p s m args meth c)  : ∀ (n9 : Nat) (v1 : Int32) (H : Heap) (locs : List Loc) (h : HI E σ ℓ s H locs) (ls : Array Slot) (hl : lv_has ls 2 [(0, .ref (Ea E 0 0)), (1, .int v1)]), f_X8_looked_2L σ  n9 v1 = some out → W p l e rm_X8_looked s m args below meth c H locs 0 0 (MQ below (Po E s.heap.size (some (.int out)) σ ℓ) args s 0 0 (AA E s.heap.size)) (F0 m 2 ls []) := by
  intro n9
  induction n9 with
  | zero =>
    intro v1 H locs h ls hl hf
    cases (show (none : Option (Int32)) = some out from hf)
  | succ n9 ih =>
    intro v1 H locs h ls hl hf
    exact w_X8_looked_2   C  ih v1 H locs h ls hl hf
set_option maxHeartbeats 4000000 in
set_option maxRecDepth 100000 in
theorem w_X8_looked_0 {p : Program} {l : Launch} {e : Env} {s : State} {m : MethodId} {args : Array Value} {below : List Frame} {meth : Method} {c : Code} {E : Ev} {ℓ : Mz} {σ : Ms} {out : Int32}   (C : Cx cX8_looked 2 (some .int) wsX8_looked RX8 E p s m args meth c)  : ∀  (H : Heap) (locs : List Loc) (h : HI E σ ℓ s H locs) (ls : Array Slot) (hl : lv_has ls 2 [(0, .ref (Ea E 0 0))]), f_X8_looked_0 σ   = some out → W p l e rm_X8_looked s m args below meth c H locs 0 0 (MQ below (Po E s.heap.size (some (.int out)) σ ℓ) args s 0 0 (AA E s.heap.size)) (F0 m 0 ls []) := by
  intro  H locs h ls hl hf
  unfold f_X8_looked_0 at hf
  have C0 := C
  obtain ⟨hx, hb, hr, hml, hown, hts, hlk, hK, hSF⟩ := C0
  refine lv_iconst (v := (0 : Int32)) hx hb dX8_looked_0 (by decide) ?_
  refine lv_istore_n (lv' := [(1, .int (0 : Int32)), (0, .ref (Ea E 0 0))]) hx hb dX8_looked_1 rfl hl (by decide) rfl (fun ls hl => ?_)
  exact w_X8_looked_2L    C  _ _ _ _ h ls (lv_sub hl [1, 0] rfl) hf
theorem c_X8_looked {l : Launch} {E : Ev} {σ : Ms} {ℓ : Mz}  {out : Int32} (hf : f_X8_looked σ = some out) : Ct l yX8_looked wsX8_looked rm_X8_looked [.ref (Ea E 0 0)] E σ ℓ (some (.int out)) σ ℓ := by
  refine Ct_mk (cc := cX8_looked) (mL := 2) (ret := (some .int)) (own := RX8) (by decide +kernel) rfl rfl (Nat.le_of_ble_eq_true rfl) (fun p e s m below meth c C h ls hl => ?_)
  exact w_X8_looked_0  C  _ _ h ls (lv_sub hl [0] rfl) hf
theorem hdX8_judge : yX8_judge.cls = RX8 ∧ yX8_judge.cls ≠ "java/lang/invoke/MethodHandle" ∧ yX8_judge.cls ≠ "java/lang/invoke/VarHandle" ∧ (parseMethodDescriptor yX8_judge.desc).map (fun d => d.parameters.length) = some 2 := by decide +kernel
def rm_X8_judge : Room := { frames := 1, cells := 0, slots := 0, locals := 22 }
set_option maxRecDepth 100000 in
theorem inX8_judge_8 : ∀ w ∈ wsX80, w ∈ wsX8_judge := fun _ h => List.mem_cons_of_mem _ (List.mem_append_left _ (List.mem_append_left _ (List.mem_append_right _ h)))
set_option maxRecDepth 100000 in
theorem lkX8_judge_67 : Cond.fieldLink RX8 67 "BellsBelow" "tapes" "[LBellsBelow$Tape;" ∈ wsX8_judge := by decide +kernel
set_option maxRecDepth 100000 in
theorem inX8_judge_6 : ∀ w ∈ wsX60, w ∈ wsX8_judge := fun _ h => List.mem_cons_of_mem _ (List.mem_append_left _ (List.mem_append_right _ h))
set_option maxRecDepth 100000 in
theorem lkX8_judge_257 : Cond.fieldLink RX8 257 "BellsBelow$Tape" "sort" "I" ∈ wsX8_judge := by decide +kernel
set_option maxRecDepth 100000 in
theorem lkX8_judge_263 : Cond.fieldLink RX8 263 "BellsBelow$Tape" "items" "[J" ∈ wsX8_judge := by decide +kernel
set_option maxRecDepth 100000 in
theorem lkX8_judge_17 : Cond.fieldLink RX8 17 "BellsBelow" "now" "LBellsBelow$Hall;" ∈ wsX8_judge := by decide +kernel
set_option maxRecDepth 100000 in
theorem inX8_judge_1 : ∀ w ∈ wsX10, w ∈ wsX8_judge := fun _ h => List.mem_cons_of_mem _ (List.mem_append_right _ h)
set_option maxRecDepth 100000 in
theorem lkX8_judge_132 : Cond.fieldLink RX8 132 "BellsBelow$Hall" "wires" "[I" ∈ wsX8_judge := by decide +kernel
set_option maxHeartbeats 4000000 in
set_option maxRecDepth 100000 in
theorem w_X8_judge_40 {p : Program} {l : Launch} {e : Env} {s : State} {m : MethodId} {args : Array Value} {below : List Frame} {meth : Method} {c : Code} {E : Ev} {σ : Ms} {ℓ : Mz} {p0 : Int32} {p1 : Int32} {out : Int32} (hf3 : Kd (23 + p0.toNatClampNeg) = 6)  (C : Cx cX8_judge 5 (some .int) wsX8_judge RX8 E p s m args meth c) {k40 : Int32 → Option (Int32)} (hk40 : ∀ (v4 : Int32) (H : Heap) (locs : List Loc), HI E σ ℓ s H locs → ∀ ls : Array Slot, lv_has ls 5 [(0, .ref (Ea E 0 0)), (2, .int p1), (3, .ref (Ea E (23 + p0.toNatClampNeg) 0)), (4, .int v4)] → k40 v4 = some out → W p l e rm_X8_judge s m args below meth c H locs 0 0 (MQ below (Po E s.heap.size (some (.int out)) σ ℓ) args s 0 0 (AA E s.heap.size)) (F0 m 40 ls [])) : ∀ (v4 : Int32) (H : Heap) (locs : List Loc) (h : HI E σ ℓ s H locs) (ls : Array Slot) (hl : lv_has ls 5 [(0, .ref (Ea E 0 0)), (2, .int p1), (3, .ref (Ea E (23 + p0.toNatClampNeg) 0)), (4, .int v4)]), f_X8_judge_40 σ ℓ p0 p1 k40 v4 = some out → W p l e rm_X8_judge s m args below meth c H locs 0 0 (MQ below (Po E s.heap.size (some (.int out)) σ ℓ) args s 0 0 (AA E s.heap.size)) (F0 m 40 ls []) := by
  intro v4 H locs h ls hl hf
  unfold f_X8_judge_40 at hf
  have C0 := C
  obtain ⟨hx, hb, hr, hml, hown, hts, hlk, hK, hSF⟩ := C0
  refine lv_iload hx hb dX8_judge_40 (lv_at hl 3 rfl) ?_
  refine lv_bipush (v := (10 : Int32)) hx hb dX8_judge_42 (by decide) ?_
  refine lv_icmp_ge (tgt := 99) hx hb dX8_judge_44 (by decide) (fun c5 => ?_) (fun c5 => ?_)
  · replace hf := it_t c5 hf
    refine lv_bipush (v := (-5 : Int32)) hx hb dX8_judge_99 (by decide) ?_
    replace hf := Option.some.inj hf
    subst hf
    exact r_ire C h dX8_judge_101
  replace hf := it_f c5 hf
  refine lv_aload_n hx hb dX8_judge_47 rfl (lv_at hl 2 rfl) ?_
  refine lv_iload_n hx hb dX8_judge_48 rfl (lv_at hl 1 rfl) ?_
  refine lv_i2l hx hb dX8_judge_49 rfl ?_
  refine lv_iload hx hb dX8_judge_50 (lv_at hl 3 rfl) ?_
  refine lv_i2l hx hb dX8_judge_52 rfl ?_
  refine lv_ladd hx hb dX8_judge_53 ?_
  obtain ⟨u6, hu6, hf⟩ := bd_use hf
  refine r_cv_6 (rest := []) C h (c_X6_has hf3 rfl hu6) hf3 gX8_judge_X6_has rfl ⟨rfl, rfl⟩ hdX6_has ⟨Nat.le_of_ble_eq_true rfl, Nat.le_of_ble_eq_true rfl⟩ ⟨Nat.zero_le _, Nat.zero_le _⟩ hl.1 rfl (Nat.le_of_ble_eq_true rfl) dX8_judge_54 (fun H locs h => ?_)
  refine lv_if_ne (tgt := 66) hx hb dX8_judge_57 (by decide) (fun c7 => ?_) (fun c7 => ?_)
  · replace hf := it_f c7 hf
    refine lv_aload_n hx hb dX8_judge_66 rfl (lv_at hl 2 rfl) ?_
    refine gf_6_0 C h hf3 rfl inX8_judge_6 lkX8_judge_263 dX8_judge_67 ?_
    refine lv_iload_n hx hb dX8_judge_70 rfl (lv_at hl 1 rfl) ?_
    refine lv_iload hx hb dX8_judge_71 (lv_at hl 3 rfl) ?_
    refine lv_iadd hx hb dX8_judge_73 ?_
    obtain ⟨g8, hf⟩ := gd_use hf
    refine ld_6_1 C h hf3 rfl (inB_in g8) dX8_judge_74 ?_
    refine lv_aload_n hx hb dX8_judge_75 rfl (lv_at hl 0 rfl) ?_
    refine gf_8_0 C h (rfl : Kd 0 = 8) rfl inX8_judge_8 lkX8_judge_17 dX8_judge_76 ?_
    refine gf_1_10 C h (rfl : Kd 1 = 1) rfl inX8_judge_1 lkX8_judge_132 dX8_judge_79 ?_
    refine lv_iload hx hb dX8_judge_82 (lv_at hl 3 rfl) ?_
    obtain ⟨g9, hf⟩ := gd_use hf
    refine ld_1_9 C h (rfl : Kd 1 = 1) rfl (inB_in g9) dX8_judge_84 ?_
    refine lv_i2l hx hb dX8_judge_85 rfl ?_
    refine W.lcmp hx hb dX8_judge_86 ?_
    refine lv_if_eq (tgt := 93) hx hb dX8_judge_87 (by decide) (fun c10 => ?_) (fun c10 => ?_)
    · replace hf := it_t c10 hf
      obtain ⟨x11, ex11⟩ : ∃ y : Int32, y = (v4 + (1 : Int32)) := ⟨_, rfl⟩
      refine lv_iinc (v := x11) (lv' := [(4, .int x11), (0, .ref (Ea E 0 0)), (2, .int p1), (3, .ref (Ea E (23 + p0.toNatClampNeg) 0))]) hx hb dX8_judge_93 hl (k := 3) rfl (by rw [ex11]; rfl) (by decide) rfl (fun ls hl => ?_)
      replace hf := lt_use ex11 hf
      clear ex11
      refine lv_goto (tgt := 40) hx hb dX8_judge_96 (by decide) ?_
      exact hk40 _ _ _ h ls (lv_sub hl [1, 2, 3, 0] rfl) hf
    replace hf := it_f c10 hf
    refine lv_iload hx hb dX8_judge_90 (lv_at hl 3 rfl) ?_
    replace hf := Option.some.inj hf
    subst hf
    exact r_ire C h dX8_judge_92
  replace hf := it_t c7 hf
  refine lv_bipush (v := (100 : Int32)) hx hb dX8_judge_60 (by decide) ?_
  refine lv_iload hx hb dX8_judge_62 (lv_at hl 3 rfl) ?_
  refine lv_iadd hx hb dX8_judge_64 ?_
  replace hf := Option.some.inj hf
  subst hf
  exact r_ire C h dX8_judge_65
set_option maxHeartbeats 4000000 in
set_option maxRecDepth 100000 in
theorem w_X8_judge_40L {p : Program} {l : Launch} {e : Env} {s : State} {m : MethodId} {args : Array Value} {below : List Frame} {meth : Method} {c : Code} {E : Ev} {σ : Ms} {ℓ : Mz} {p0 : Int32} {p1 : Int32} {out : Int32} (hf3 : Kd (23 + p0.toNatClampNeg) = 6)  (C : Cx cX8_judge 5 (some .int) wsX8_judge RX8 E p s m args meth c)  : ∀ (n9 : Nat) (v4 : Int32) (H : Heap) (locs : List Loc) (h : HI E σ ℓ s H locs) (ls : Array Slot) (hl : lv_has ls 5 [(0, .ref (Ea E 0 0)), (2, .int p1), (3, .ref (Ea E (23 + p0.toNatClampNeg) 0)), (4, .int v4)]), f_X8_judge_40L σ ℓ p0 p1  n9 v4 = some out → W p l e rm_X8_judge s m args below meth c H locs 0 0 (MQ below (Po E s.heap.size (some (.int out)) σ ℓ) args s 0 0 (AA E s.heap.size)) (F0 m 40 ls []) := by
  intro n9
  induction n9 with
  | zero =>
    intro v4 H locs h ls hl hf
    cases (show (none : Option (Int32)) = some out from hf)
  | succ n9 ih =>
    intro v4 H locs h ls hl hf
    exact w_X8_judge_40  hf3 C  ih v4 H locs h ls hl hf
set_option maxHeartbeats 4000000 in
set_option maxRecDepth 100000 in
theorem w_X8_judge_37 {p : Program} {l : Launch} {e : Env} {s : State} {m : MethodId} {args : Array Value} {below : List Frame} {meth : Method} {c : Code} {E : Ev} {σ : Ms} {ℓ : Mz} {p0 : Int32} {p1 : Int32} {out : Int32} (hf3 : Kd (23 + p0.toNatClampNeg) = 6)  (C : Cx cX8_judge 5 (some .int) wsX8_judge RX8 E p s m args meth c)  : ∀  (H : Heap) (locs : List Loc) (h : HI E σ ℓ s H locs) (ls : Array Slot) (hl : lv_has ls 5 [(0, .ref (Ea E 0 0)), (2, .int p1), (3, .ref (Ea E (23 + p0.toNatClampNeg) 0))]), f_X8_judge_37 σ ℓ p0 p1   = some out → W p l e rm_X8_judge s m args below meth c H locs 0 0 (MQ below (Po E s.heap.size (some (.int out)) σ ℓ) args s 0 0 (AA E s.heap.size)) (F0 m 37 ls []) := by
  intro  H locs h ls hl hf
  unfold f_X8_judge_37 at hf
  have C0 := C
  obtain ⟨hx, hb, hr, hml, hown, hts, hlk, hK, hSF⟩ := C0
  refine lv_iconst (v := (0 : Int32)) hx hb dX8_judge_37 (by decide) ?_
  refine lv_istore (lv' := [(4, .int (0 : Int32)), (0, .ref (Ea E 0 0)), (2, .int p1), (3, .ref (Ea E (23 + p0.toNatClampNeg) 0))]) hx hb dX8_judge_38 hl (by decide) rfl (fun ls hl => ?_)
  exact w_X8_judge_40L  hf3  C  _ _ _ _ h ls (lv_sub hl [1, 2, 3, 0] rfl) hf
set_option maxHeartbeats 4000000 in
set_option maxRecDepth 100000 in
theorem w_X8_judge_0 {p : Program} {l : Launch} {e : Env} {s : State} {m : MethodId} {args : Array Value} {below : List Frame} {meth : Method} {c : Code} {E : Ev} {σ : Ms} {ℓ : Mz} {p0 : Int32} {p1 : Int32} {out : Int32}   (C : Cx cX8_judge 5 (some .int) wsX8_judge RX8 E p s m args meth c)  : ∀  (H : Heap) (locs : List Loc) (h : HI E σ ℓ s H locs) (ls : Array Slot) (hl : lv_has ls 5 [(0, .ref (Ea E 0 0)), (1, .int p0), (2, .int p1)]), f_X8_judge_0 σ ℓ p0 p1   = some out → W p l e rm_X8_judge s m args below meth c H locs 0 0 (MQ below (Po E s.heap.size (some (.int out)) σ ℓ) args s 0 0 (AA E s.heap.size)) (F0 m 0 ls []) := by
  intro  H locs h ls hl hf
  unfold f_X8_judge_0 at hf
  have C0 := C
  obtain ⟨hx, hb, hr, hml, hown, hts, hlk, hK, hSF⟩ := C0
  refine lv_iload_n hx hb dX8_judge_0 rfl (lv_at hl 1 rfl) ?_
  refine lv_i2l hx hb dX8_judge_1 rfl ?_
  refine lv_bipush (v := (6 : Int32)) hx hb dX8_judge_2 (by decide) ?_
  obtain ⟨u1, hu1, hf⟩ := bd_use hf
  refine r_cs (rest := []) C h (c_X8_within  hu1) gX8_judge_X8_within rfl ⟨rfl, rfl⟩ hdX8_within ⟨Nat.le_of_ble_eq_true rfl, Nat.le_of_ble_eq_true rfl⟩ ⟨Nat.zero_le _, Nat.zero_le _⟩ hl.1 rfl (Nat.le_of_ble_eq_true rfl) dX8_judge_4 (fun H locs h => ?_)
  refine lv_if_ne (tgt := 12) hx hb dX8_judge_7 (by decide) (fun c2 => ?_) (fun c2 => ?_)
  · replace hf := it_f c2 hf
    refine lv_aload_n hx hb dX8_judge_12 rfl (lv_at hl 0 rfl) ?_
    refine gf_8_11 C h (rfl : Kd 0 = 8) rfl inX8_judge_8 lkX8_judge_67 dX8_judge_13 ?_
    refine lv_iload_n hx hb dX8_judge_16 rfl (lv_at hl 1 rfl) ?_
    obtain ⟨g3, hf⟩ := gd_use hf
    refine ld_11_0 C h (rfl : Kd 22 = 11) (inB_in g3) dX8_judge_17 ?_
    refine lv_astore_n (lv' := [(3, .ref (Ea E (23 + p0.toNatClampNeg) 0)), (0, .ref (Ea E 0 0)), (1, .int p0), (2, .int p1)]) hx hb dX8_judge_18 rfl hl (by decide) rfl (fun ls hl => ?_)
    refine lv_aload_n hx hb dX8_judge_19 rfl (lv_at hl 0 rfl) ?_
    refine gf_6_1 C h (kd_tape (inB_lt g3)) rfl inX8_judge_6 lkX8_judge_257 dX8_judge_20 ?_
    refine lv_iconst (v := (-1 : Int32)) hx hb dX8_judge_23 (by decide) ?_
    refine lv_icmp_eq (tgt := 37) hx hb dX8_judge_24 (by decide) (fun c4 => ?_) (fun c4 => ?_)
    · replace hf := it_t c4 hf
      exact w_X8_judge_37  (kd_tape (inB_lt g3))  C   _ _ h ls (lv_sub hl [1, 3, 0] rfl) hf
    replace hf := it_f c4 hf
    refine lv_aload_n hx hb dX8_judge_27 rfl (lv_at hl 0 rfl) ?_
    refine gf_6_1 C h (kd_tape (inB_lt g3)) rfl inX8_judge_6 lkX8_judge_257 dX8_judge_28 ?_
    refine lv_if_eq (tgt := 37) hx hb dX8_judge_31 (by decide) (fun c12 => ?_) (fun c12 => ?_)
    · replace hf := it_t c12 hf
      exact w_X8_judge_37  (kd_tape (inB_lt g3))  C   _ _ h ls (lv_sub hl [1, 3, 0] rfl) hf
    replace hf := it_f c12 hf
    refine lv_bipush (v := (-12 : Int32)) hx hb dX8_judge_34 (by decide) ?_
    replace hf := Option.some.inj hf
    subst hf
    exact r_ire C h dX8_judge_36
  replace hf := it_t c2 hf
  refine lv_iconst (v := (-1 : Int32)) hx hb dX8_judge_10 (by decide) ?_
  replace hf := Option.some.inj hf
  subst hf
  exact r_ire C h dX8_judge_11
theorem c_X8_judge {l : Launch} {E : Ev} {σ : Ms} {ℓ : Mz} {p0 : Int32} {p1 : Int32} {out : Int32} (hf : f_X8_judge σ ℓ p0 p1 = some out) : Ct l yX8_judge wsX8_judge rm_X8_judge [.ref (Ea E 0 0), .int p0, .int p1] E σ ℓ (some (.int out)) σ ℓ := by
  refine Ct_mk (cc := cX8_judge) (mL := 5) (ret := (some .int)) (own := RX8) (by decide +kernel) rfl rfl (Nat.le_of_ble_eq_true rfl) (fun p e s m below meth c C h ls hl => ?_)
  exact w_X8_judge_0  C  _ _ h ls (lv_sub hl [0, 1, 2] rfl) hf
theorem hdX8_image : yX8_image.cls = RX8 ∧ yX8_image.cls ≠ "java/lang/invoke/MethodHandle" ∧ yX8_image.cls ≠ "java/lang/invoke/VarHandle" ∧ (parseMethodDescriptor yX8_image.desc).map (fun d => d.parameters.length) = some 0 := by decide +kernel
def rm_X8_image : Room := { frames := 4, cells := 0, slots := 0, locals := 123 }
set_option maxRecDepth 100000 in
theorem inX8_image_8 : ∀ w ∈ wsX80, w ∈ wsX8_image := fun _ h => List.mem_cons_of_mem _ (List.mem_append_left _ (List.mem_append_left _ (List.mem_append_left _ (List.mem_append_right _ h))))
set_option maxRecDepth 100000 in
theorem lkX8_image_25 : Cond.fieldLink RX8 25 "BellsBelow" "kept" "LBellsBelow$Hall;" ∈ wsX8_image := by decide +kernel
set_option maxRecDepth 100000 in
theorem lkX8_image_17 : Cond.fieldLink RX8 17 "BellsBelow" "now" "LBellsBelow$Hall;" ∈ wsX8_image := by decide +kernel
set_option maxRecDepth 100000 in
theorem lkX8_image_35 : Cond.fieldLink RX8 35 "BellsBelow" "keptNotes" "LBellsBelow$Notes;" ∈ wsX8_image := by decide +kernel
set_option maxRecDepth 100000 in
theorem lkX8_image_31 : Cond.fieldLink RX8 31 "BellsBelow" "notes" "LBellsBelow$Notes;" ∈ wsX8_image := by decide +kernel
set_option maxRecDepth 100000 in
theorem lkX8_image_270 : Cond.fieldLink RX8 270 "BellsBelow" "hasImage" "Z" ∈ wsX8_image := by decide +kernel
set_option maxRecDepth 100000 in
theorem inX8_image_1 : ∀ w ∈ wsX10, w ∈ wsX8_image := fun _ h => List.mem_cons_of_mem _ (List.mem_append_left _ (List.mem_append_left _ (List.mem_append_right _ h)))
set_option maxRecDepth 100000 in
theorem lkX8_image_77 : Cond.fieldLink RX8 77 "BellsBelow$Hall" "many" "I" ∈ wsX8_image := by decide +kernel
set_option maxHeartbeats 4000000 in
set_option maxRecDepth 100000 in
theorem w_X8_image_0 {p : Program} {l : Launch} {e : Env} {s : State} {m : MethodId} {args : Array Value} {below : List Frame} {meth : Method} {c : Code} {E : Ev} {ℓ : Mz} {out : Int32 × Ms}   (C : Cx cX8_image 1 (some .int) wsX8_image RX8 E p s m args meth c)  : ∀ (σ : Ms) (H : Heap) (locs : List Loc) (h : HI E σ ℓ s H locs) (ls : Array Slot) (hl : lv_has ls 1 [(0, .ref (Ea E 0 0))]), f_X8_image_0   σ = some out → W p l e rm_X8_image s m args below meth c H locs 0 0 (MQ below (Po E s.heap.size (some (.int out.1)) out.2 ℓ) args s 0 0 (AA E s.heap.size)) (F0 m 0 ls []) := by
  intro σ H locs h ls hl hf
  unfold f_X8_image_0 at hf
  have C0 := C
  obtain ⟨hx, hb, hr, hml, hown, hts, hlk, hK, hSF⟩ := C0
  refine lv_aload_n hx hb dX8_image_0 rfl (lv_at hl 0 rfl) ?_
  refine gf_8_2 C h (rfl : Kd 0 = 8) rfl inX8_image_8 lkX8_image_25 dX8_image_1 ?_
  refine lv_aload_n hx hb dX8_image_4 rfl (lv_at hl 0 rfl) ?_
  refine gf_8_0 C h (rfl : Kd 0 = 8) rfl inX8_image_8 lkX8_image_17 dX8_image_5 ?_
  obtain ⟨u1, hu1, hf⟩ := bd_use hf
  refine r_cv_1 (rest := []) C h (k_X1_copies (rfl : Kd 3 = 1) (rfl : Kd 1 = 1) (by decide) rfl rfl hu1) (rfl : Kd 3 = 1) gX8_image_X1_copies rfl ⟨rfl, rfl⟩ hdX1_copies ⟨Nat.le_of_ble_eq_true rfl, Nat.le_of_ble_eq_true rfl⟩ ⟨Nat.zero_le _, Nat.zero_le _⟩ hl.1 rfl (Nat.le_of_ble_eq_true rfl) dX8_image_8 (fun H locs h => ?_)
  obtain ⟨σ2, eσ2⟩ : ∃ z, z = va_up σ 3 u1 := ⟨_, rfl⟩
  replace hf := lt_use eσ2 hf
  rw [← eσ2] at h
  clear eσ2
  refine lv_aload_n hx hb dX8_image_11 rfl (lv_at hl 0 rfl) ?_
  refine gf_8_4 C h (rfl : Kd 0 = 8) rfl inX8_image_8 lkX8_image_35 dX8_image_12 ?_
  refine lv_aload_n hx hb dX8_image_15 rfl (lv_at hl 0 rfl) ?_
  refine gf_8_3 C h (rfl : Kd 0 = 8) rfl inX8_image_8 lkX8_image_31 dX8_image_16 ?_
  obtain ⟨u3, hu3, hf⟩ := bd_use hf
  refine r_cv_32 (rest := []) C h (c_X3_copies_5  hu3) (rfl : Kd 5 = 32) gX8_image_X3_copies rfl ⟨rfl, rfl⟩ hdX3_copies ⟨Nat.le_of_ble_eq_true rfl, Nat.le_of_ble_eq_true rfl⟩ ⟨Nat.zero_le _, Nat.zero_le _⟩ hl.1 rfl (Nat.le_of_ble_eq_true rfl) dX8_image_19 (fun H locs h => ?_)
  refine lv_aload_n hx hb dX8_image_22 rfl (lv_at hl 0 rfl) ?_
  refine lv_iconst (v := (1 : Int32)) hx hb dX8_image_23 (by decide) ?_
  refine pf_8_5 C h (rfl : Kd 0 = 8) rfl (F := fun t => va_up u3 0 t) (fun _ => rfl) inX8_image_8 lkX8_image_270 (Or.inr rfl) dX8_image_24 (fun τ4 eτ4 H locs h => ?_)
  replace hf := lt_use eτ4 hf
  clear eτ4
  obtain ⟨σ5, eσ5⟩ : ∃ z, z = va_up u3 0 τ4 := ⟨_, rfl⟩
  replace hf := lt_use eσ5 hf
  replace h : HI E (va_up u3 0 τ4) ℓ s H locs := h
  rw [← eσ5] at h
  clear eσ5
  refine lv_aload_n hx hb dX8_image_27 rfl (lv_at hl 0 rfl) ?_
  refine gf_8_0 C h (rfl : Kd 0 = 8) rfl inX8_image_8 lkX8_image_17 dX8_image_28 ?_
  refine gf_1_12 C h (rfl : Kd 1 = 1) rfl inX8_image_1 lkX8_image_77 dX8_image_31 ?_
  replace hf := Option.some.inj hf
  subst hf
  exact r_ire C h dX8_image_34
theorem c_X8_image {l : Launch} {E : Ev} {σ : Ms} {ℓ : Mz}  {out : Int32 × Ms} (hf : f_X8_image σ = some out) : Ct l yX8_image wsX8_image rm_X8_image [.ref (Ea E 0 0)] E σ ℓ (some (.int out.1)) out.2 ℓ := by
  refine Ct_mk (cc := cX8_image) (mL := 1) (ret := (some .int)) (own := RX8) (by decide +kernel) rfl rfl (Nat.le_of_ble_eq_true rfl) (fun p e s m below meth c C h ls hl => ?_)
  exact w_X8_image_0  C σ _ _ h ls (lv_sub hl [0] rfl) hf
theorem hdX8_undo : yX8_undo.cls = RX8 ∧ yX8_undo.cls ≠ "java/lang/invoke/MethodHandle" ∧ yX8_undo.cls ≠ "java/lang/invoke/VarHandle" ∧ (parseMethodDescriptor yX8_undo.desc).map (fun d => d.parameters.length) = some 0 := by decide +kernel
def rm_X8_undo : Room := { frames := 4, cells := 0, slots := 0, locals := 123 }
set_option maxRecDepth 100000 in
theorem inX8_undo_8 : ∀ w ∈ wsX80, w ∈ wsX8_undo := fun _ h => List.mem_cons_of_mem _ (List.mem_append_left _ (List.mem_append_left _ (List.mem_append_left _ (List.mem_append_right _ h))))
set_option maxRecDepth 100000 in
theorem lkX8_undo_270 : Cond.fieldLink RX8 270 "BellsBelow" "hasImage" "Z" ∈ wsX8_undo := by decide +kernel
set_option maxRecDepth 100000 in
theorem lkX8_undo_17 : Cond.fieldLink RX8 17 "BellsBelow" "now" "LBellsBelow$Hall;" ∈ wsX8_undo := by decide +kernel
set_option maxRecDepth 100000 in
theorem lkX8_undo_25 : Cond.fieldLink RX8 25 "BellsBelow" "kept" "LBellsBelow$Hall;" ∈ wsX8_undo := by decide +kernel
set_option maxRecDepth 100000 in
theorem lkX8_undo_31 : Cond.fieldLink RX8 31 "BellsBelow" "notes" "LBellsBelow$Notes;" ∈ wsX8_undo := by decide +kernel
set_option maxRecDepth 100000 in
theorem lkX8_undo_35 : Cond.fieldLink RX8 35 "BellsBelow" "keptNotes" "LBellsBelow$Notes;" ∈ wsX8_undo := by decide +kernel
set_option maxRecDepth 100000 in
theorem inX8_undo_1 : ∀ w ∈ wsX10, w ∈ wsX8_undo := fun _ h => List.mem_cons_of_mem _ (List.mem_append_left _ (List.mem_append_left _ (List.mem_append_right _ h)))
set_option maxRecDepth 100000 in
theorem lkX8_undo_77 : Cond.fieldLink RX8 77 "BellsBelow$Hall" "many" "I" ∈ wsX8_undo := by decide +kernel
set_option maxHeartbeats 4000000 in
set_option maxRecDepth 100000 in
theorem w_X8_undo_0 {p : Program} {l : Launch} {e : Env} {s : State} {m : MethodId} {args : Array Value} {below : List Frame} {meth : Method} {c : Code} {E : Ev} {ℓ : Mz} {out : Int32 × Ms}   (C : Cx cX8_undo 1 (some .int) wsX8_undo RX8 E p s m args meth c)  : ∀ (σ : Ms) (H : Heap) (locs : List Loc) (h : HI E σ ℓ s H locs) (ls : Array Slot) (hl : lv_has ls 1 [(0, .ref (Ea E 0 0))]), f_X8_undo_0   σ = some out → W p l e rm_X8_undo s m args below meth c H locs 0 0 (MQ below (Po E s.heap.size (some (.int out.1)) out.2 ℓ) args s 0 0 (AA E s.heap.size)) (F0 m 0 ls []) := by
  intro σ H locs h ls hl hf
  unfold f_X8_undo_0 at hf
  have C0 := C
  obtain ⟨hx, hb, hr, hml, hown, hts, hlk, hK, hSF⟩ := C0
  refine lv_aload_n hx hb dX8_undo_0 rfl (lv_at hl 0 rfl) ?_
  refine gf_8_5 C h (rfl : Kd 0 = 8) rfl inX8_undo_8 lkX8_undo_270 dX8_undo_1 ?_
  refine lv_if_ne (tgt := 10) hx hb dX8_undo_4 (by decide) (fun c1 => ?_) (fun c1 => ?_)
  · replace hf := it_f c1 hf
    refine lv_aload_n hx hb dX8_undo_10 rfl (lv_at hl 0 rfl) ?_
    refine gf_8_0 C h (rfl : Kd 0 = 8) rfl inX8_undo_8 lkX8_undo_17 dX8_undo_11 ?_
    refine lv_aload_n hx hb dX8_undo_14 rfl (lv_at hl 0 rfl) ?_
    refine gf_8_2 C h (rfl : Kd 0 = 8) rfl inX8_undo_8 lkX8_undo_25 dX8_undo_15 ?_
    obtain ⟨u2, hu2, hf⟩ := bd_use hf
    refine r_cv_1 (rest := []) C h (k_X1_copies (rfl : Kd 1 = 1) (rfl : Kd 3 = 1) (by decide) rfl rfl hu2) (rfl : Kd 1 = 1) gX8_undo_X1_copies rfl ⟨rfl, rfl⟩ hdX1_copies ⟨Nat.le_of_ble_eq_true rfl, Nat.le_of_ble_eq_true rfl⟩ ⟨Nat.zero_le _, Nat.zero_le _⟩ hl.1 rfl (Nat.le_of_ble_eq_true rfl) dX8_undo_18 (fun H locs h => ?_)
    obtain ⟨σ3, eσ3⟩ : ∃ z, z = va_up σ 1 u2 := ⟨_, rfl⟩
    replace hf := lt_use eσ3 hf
    rw [← eσ3] at h
    clear eσ3
    refine lv_aload_n hx hb dX8_undo_21 rfl (lv_at hl 0 rfl) ?_
    refine gf_8_3 C h (rfl : Kd 0 = 8) rfl inX8_undo_8 lkX8_undo_31 dX8_undo_22 ?_
    refine lv_aload_n hx hb dX8_undo_25 rfl (lv_at hl 0 rfl) ?_
    refine gf_8_4 C h (rfl : Kd 0 = 8) rfl inX8_undo_8 lkX8_undo_35 dX8_undo_26 ?_
    obtain ⟨u4, hu4, hf⟩ := bd_use hf
    refine r_cv_31 (rest := []) C h (c_X3_copies_4  hu4) (rfl : Kd 4 = 31) gX8_undo_X3_copies rfl ⟨rfl, rfl⟩ hdX3_copies ⟨Nat.le_of_ble_eq_true rfl, Nat.le_of_ble_eq_true rfl⟩ ⟨Nat.zero_le _, Nat.zero_le _⟩ hl.1 rfl (Nat.le_of_ble_eq_true rfl) dX8_undo_29 (fun H locs h => ?_)
    refine lv_aload_n hx hb dX8_undo_32 rfl (lv_at hl 0 rfl) ?_
    refine gf_8_0 C h (rfl : Kd 0 = 8) rfl inX8_undo_8 lkX8_undo_17 dX8_undo_33 ?_
    refine gf_1_12 C h (rfl : Kd 1 = 1) rfl inX8_undo_1 lkX8_undo_77 dX8_undo_36 ?_
    replace hf := Option.some.inj hf
    subst hf
    exact r_ire C h dX8_undo_39
  replace hf := it_t c1 hf
  refine lv_bipush (v := (-3 : Int32)) hx hb dX8_undo_7 (by decide) ?_
  replace hf := Option.some.inj hf
  subst hf
  exact r_ire C h dX8_undo_9
theorem c_X8_undo {l : Launch} {E : Ev} {σ : Ms} {ℓ : Mz}  {out : Int32 × Ms} (hf : f_X8_undo σ = some out) : Ct l yX8_undo wsX8_undo rm_X8_undo [.ref (Ea E 0 0)] E σ ℓ (some (.int out.1)) out.2 ℓ := by
  refine Ct_mk (cc := cX8_undo) (mL := 1) (ret := (some .int)) (own := RX8) (by decide +kernel) rfl rfl (Nat.le_of_ble_eq_true rfl) (fun p e s m below meth c C h ls hl => ?_)
  exact w_X8_undo_0  C σ _ _ h ls (lv_sub hl [0] rfl) hf
theorem hdX8_act : yX8_act.cls = RX8 ∧ yX8_act.cls ≠ "java/lang/invoke/MethodHandle" ∧ yX8_act.cls ≠ "java/lang/invoke/VarHandle" ∧ (parseMethodDescriptor yX8_act.desc).map (fun d => d.parameters.length) = some 3 := by decide +kernel
def rm_X8_act : Room := { frames := 49, cells := 0, slots := 0, locals := 1912 }
set_option maxRecDepth 100000 in
theorem inX8_act_8 : ∀ w ∈ wsX80, w ∈ wsX8_act := fun _ h => List.mem_cons_of_mem _ (List.mem_append_left _ (List.mem_append_left _ (List.mem_append_right _ h)))
set_option maxRecDepth 100000 in
theorem lkX8_act_61 : Cond.fieldLink RX8 61 "BellsBelow" "acts" "LBellsBelow$Acts;" ∈ wsX8_act := by decide +kernel
set_option maxRecDepth 100000 in
theorem inX8_act_0 : ∀ w ∈ wsX00, w ∈ wsX8_act := fun _ h => List.mem_cons_of_mem _ (List.mem_append_left _ (List.mem_append_right _ h))
set_option maxRecDepth 100000 in
theorem lkX8_act_274 : Cond.fieldLink RX8 274 "BellsBelow$Acts" "ran" "I" ∈ wsX8_act := by decide +kernel
set_option maxRecDepth 100000 in
theorem lkX8_act_17 : Cond.fieldLink RX8 17 "BellsBelow" "now" "LBellsBelow$Hall;" ∈ wsX8_act := by decide +kernel
set_option maxRecDepth 100000 in
theorem inX8_act_1 : ∀ w ∈ wsX10, w ∈ wsX8_act := fun _ h => List.mem_cons_of_mem _ (List.mem_append_right _ h)
set_option maxRecDepth 100000 in
theorem lkX8_act_99 : Cond.fieldLink RX8 99 "BellsBelow$Hall" "v" "[I" ∈ wsX8_act := by decide +kernel
set_option maxRecDepth 100000 in
theorem lkX8_act_95 : Cond.fieldLink RX8 95 "BellsBelow$Hall" "kind" "[I" ∈ wsX8_act := by decide +kernel
set_option maxHeartbeats 4000000 in
set_option maxRecDepth 100000 in
theorem w_X8_act_0 {p : Program} {l : Launch} {e : Env} {s : State} {m : MethodId} {args : Array Value} {below : List Frame} {meth : Method} {c : Code} {E : Ev} {ℓ : Mz} {p0 : Int32} {p1 : Int32} {p2 : Int32} {out : Int32 × Ms}   (C : Cx cX8_act 4 (some .int) wsX8_act RX8 E p s m args meth c)  : ∀ (σ : Ms) (H : Heap) (locs : List Loc) (h : HI E σ ℓ s H locs) (ls : Array Slot) (hl : lv_has ls 4 [(0, .ref (Ea E 0 0)), (1, .int p0), (2, .int p1), (3, .int p2)]), f_X8_act_0 p0 p1 p2  σ = some out → W p l e rm_X8_act s m args below meth c H locs 0 0 (MQ below (Po E s.heap.size (some (.int out.1)) out.2 ℓ) args s 0 0 (AA E s.heap.size)) (F0 m 0 ls []) := by
  intro σ H locs h ls hl hf
  unfold f_X8_act_0 at hf
  have C0 := C
  obtain ⟨hx, hb, hr, hml, hown, hts, hlk, hK, hSF⟩ := C0
  refine lv_aload_n hx hb dX8_act_0 rfl (lv_at hl 0 rfl) ?_
  refine gf_8_10 C h (rfl : Kd 0 = 8) rfl inX8_act_8 lkX8_act_61 dX8_act_1 ?_
  refine lv_iconst (v := (0 : Int32)) hx hb dX8_act_4 (by decide) ?_
  refine pf_0_1 C h (rfl : Kd 21 = 0) rfl (F := fun t => va_up σ 21 t) (fun _ => rfl) inX8_act_0 lkX8_act_274 dX8_act_5 (fun τ1 eτ1 H locs h => ?_)
  replace hf := lt_use eτ1 hf
  clear eτ1
  obtain ⟨σ2, eσ2⟩ : ∃ z, z = va_up σ 21 τ1 := ⟨_, rfl⟩
  replace hf := lt_use eσ2 hf
  replace h : HI E (va_up σ 21 τ1) ℓ s H locs := h
  rw [← eσ2] at h
  clear eσ2
  refine lv_aload_n hx hb dX8_act_8 rfl (lv_at hl 0 rfl) ?_
  refine lv_iload_n hx hb dX8_act_9 rfl (lv_at hl 1 rfl) ?_
  refine lv_i2l hx hb dX8_act_10 rfl ?_
  obtain ⟨u3, hu3, hf⟩ := bd_use hf
  refine r_cv_8 (rest := []) C h (c_X8_isMaster  hu3) (rfl : Kd 0 = 8) gX8_act_X8_isMaster rfl ⟨rfl, rfl⟩ hdX8_isMaster ⟨Nat.le_of_ble_eq_true rfl, Nat.le_of_ble_eq_true rfl⟩ ⟨Nat.zero_le _, Nat.zero_le _⟩ hl.1 rfl (Nat.le_of_ble_eq_true rfl) dX8_act_11 (fun H locs h => ?_)
  refine lv_if_eq (tgt := 26) hx hb dX8_act_14 (by decide) (fun c4 => ?_) (fun c4 => ?_)
  · replace hf := it_t c4 hf
    refine lv_iconst (v := (0 : Int32)) hx hb dX8_act_26 (by decide) ?_
    replace hf := Option.some.inj hf
    subst hf
    exact r_ire C h dX8_act_27
  replace hf := it_f c4 hf
  refine lv_iload_n hx hb dX8_act_17 rfl (lv_at hl 2 rfl) ?_
  refine lv_i2l hx hb dX8_act_18 rfl ?_
  refine lv_iconst (v := (3 : Int32)) hx hb dX8_act_19 (by decide) ?_
  obtain ⟨u5, hu5, hf⟩ := bd_use hf
  refine r_cs (rest := []) C h (c_X8_within  hu5) gX8_act_X8_within rfl ⟨rfl, rfl⟩ hdX8_within ⟨Nat.le_of_ble_eq_true rfl, Nat.le_of_ble_eq_true rfl⟩ ⟨Nat.zero_le _, Nat.zero_le _⟩ hl.1 rfl (Nat.le_of_ble_eq_true rfl) dX8_act_20 (fun H locs h => ?_)
  refine lv_if_ne (tgt := 28) hx hb dX8_act_23 (by decide) (fun c6 => ?_) (fun c6 => ?_)
  · replace hf := it_f c6 hf
    refine lv_aload_n hx hb dX8_act_28 rfl (lv_at hl 0 rfl) ?_
    refine gf_8_10 C h (rfl : Kd 0 = 8) rfl inX8_act_8 lkX8_act_61 dX8_act_29 ?_
    refine lv_iload_n hx hb dX8_act_32 rfl (lv_at hl 1 rfl) ?_
    refine lv_aload_n hx hb dX8_act_33 rfl (lv_at hl 0 rfl) ?_
    refine gf_8_0 C h (rfl : Kd 0 = 8) rfl inX8_act_8 lkX8_act_17 dX8_act_34 ?_
    refine gf_1_3 C h (rfl : Kd 1 = 1) rfl inX8_act_1 lkX8_act_99 dX8_act_37 ?_
    refine lv_iload_n hx hb dX8_act_40 rfl (lv_at hl 1 rfl) ?_
    obtain ⟨g7, hf⟩ := gd_use hf
    refine ld_1_2 C h (rfl : Kd 1 = 1) rfl (inB_in g7) dX8_act_41 ?_
    refine lv_aload_n hx hb dX8_act_42 rfl (lv_at hl 0 rfl) ?_
    refine gf_8_0 C h (rfl : Kd 0 = 8) rfl inX8_act_8 lkX8_act_17 dX8_act_43 ?_
    refine gf_1_2 C h (rfl : Kd 1 = 1) rfl inX8_act_1 lkX8_act_95 dX8_act_46 ?_
    refine lv_iload_n hx hb dX8_act_49 rfl (lv_at hl 1 rfl) ?_
    obtain ⟨g8, hf⟩ := gd_use hf
    refine ld_1_1 C h (rfl : Kd 1 = 1) rfl (inB_in g8) dX8_act_50 ?_
    refine lv_iload_n hx hb dX8_act_51 rfl (lv_at hl 2 rfl) ?_
    refine lv_iload_n hx hb dX8_act_52 rfl (lv_at hl 3 rfl) ?_
    obtain ⟨u9, hu9, hf⟩ := bd_use hf
    refine r_cv_0 (rest := []) C h (k_X0_does rfl hu9) (rfl : Kd 21 = 0) gX8_act_X0_does rfl ⟨rfl, rfl⟩ hdX0_does ⟨Nat.le_of_ble_eq_true rfl, Nat.le_of_ble_eq_true rfl⟩ ⟨Nat.zero_le _, Nat.zero_le _⟩ hl.1 rfl (Nat.le_of_ble_eq_true rfl) dX8_act_53 (fun H locs h => ?_)
    obtain ⟨σ10, eσ10⟩ : ∃ z, z = va_up σ2 21 u9.2 := ⟨_, rfl⟩
    replace hf := lt_use eσ10 hf
    rw [← eσ10] at h
    clear eσ10
    replace hf := Option.some.inj hf
    subst hf
    exact r_ire C h dX8_act_56
  replace hf := it_t c6 hf
  refine lv_iconst (v := (0 : Int32)) hx hb dX8_act_26 (by decide) ?_
  replace hf := Option.some.inj hf
  subst hf
  exact r_ire C h dX8_act_27
theorem c_X8_act {l : Launch} {E : Ev} {σ : Ms} {ℓ : Mz} {p0 : Int32} {p1 : Int32} {p2 : Int32} {out : Int32 × Ms} (hf : f_X8_act σ p0 p1 p2 = some out) : Ct l yX8_act wsX8_act rm_X8_act [.ref (Ea E 0 0), .int p0, .int p1, .int p2] E σ ℓ (some (.int out.1)) out.2 ℓ := by
  refine Ct_mk (cc := cX8_act) (mL := 4) (ret := (some .int)) (own := RX8) (by decide +kernel) rfl rfl (Nat.le_of_ble_eq_true rfl) (fun p e s m below meth c C h ls hl => ?_)
  exact w_X8_act_0  C σ _ _ h ls (lv_sub hl [0, 1, 2, 3] rfl) hf
theorem hdX8_trace : yX8_trace.cls = RX8 ∧ yX8_trace.cls ≠ "java/lang/invoke/MethodHandle" ∧ yX8_trace.cls ≠ "java/lang/invoke/VarHandle" ∧ (parseMethodDescriptor yX8_trace.desc).map (fun d => d.parameters.length) = some 1 := by decide +kernel
def rm_X8_trace : Room := { frames := 1, cells := 0, slots := 0, locals := 60 }
set_option maxRecDepth 100000 in
theorem inX8_trace_8 : ∀ w ∈ wsX80, w ∈ wsX8_trace := fun _ h => List.mem_cons_of_mem _ (List.mem_append_left _ (List.mem_append_right _ h))
set_option maxRecDepth 100000 in
theorem lkX8_trace_61 : Cond.fieldLink RX8 61 "BellsBelow" "acts" "LBellsBelow$Acts;" ∈ wsX8_trace := by decide +kernel
set_option maxRecDepth 100000 in
theorem inX8_trace_0 : ∀ w ∈ wsX00, w ∈ wsX8_trace := fun _ h => List.mem_cons_of_mem _ (List.mem_append_right _ h)
set_option maxRecDepth 100000 in
theorem lkX8_trace_274 : Cond.fieldLink RX8 274 "BellsBelow$Acts" "ran" "I" ∈ wsX8_trace := by decide +kernel
set_option maxRecDepth 100000 in
theorem lkX8_trace_281 : Cond.fieldLink RX8 281 "BellsBelow$Acts" "bodies" "[I" ∈ wsX8_trace := by decide +kernel
set_option maxRecDepth 100000 in
theorem wdX8_trace_Cond_methodLink_RX8_284_Lib_Math_min_name : Cond.methodLink RX8 284 Lib.Math.min.name ∈ wsX8_trace := by decide +kernel
set_option maxRecDepth 100000 in
theorem wdX8_trace_Cond_static_Lib_Math_min_name : Cond.static Lib.Math.min.name ∈ wsX8_trace := by decide +kernel
set_option maxRecDepth 100000 in
theorem wdX8_trace_Cond_initialized__java_lang_Math_ : Cond.initialized "java/lang/Math" ∈ wsX8_trace := by decide +kernel
set_option maxRecDepth 100000 in
theorem wdX8_trace_Cond_code_Lib_Math_min_name_Lib_Math_min_code_2__some__int_ : Cond.code Lib.Math.min.name Lib.Math.min.code 2 (some .int) ∈ wsX8_trace := by decide +kernel
set_option maxHeartbeats 4000000 in
set_option maxRecDepth 100000 in
theorem w_X8_trace_0 {p : Program} {l : Launch} {e : Env} {s : State} {m : MethodId} {args : Array Value} {below : List Frame} {meth : Method} {c : Code} {E : Ev} {ℓ : Mz} {σ : Ms} {p0 : Int32} {out : Int32}   (C : Cx cX8_trace 2 (some .int) wsX8_trace RX8 E p s m args meth c)  : ∀  (H : Heap) (locs : List Loc) (h : HI E σ ℓ s H locs) (ls : Array Slot) (hl : lv_has ls 2 [(0, .ref (Ea E 0 0)), (1, .int p0)]), f_X8_trace_0 σ p0   = some out → W p l e rm_X8_trace s m args below meth c H locs 0 0 (MQ below (Po E s.heap.size (some (.int out)) σ ℓ) args s 0 0 (AA E s.heap.size)) (F0 m 0 ls []) := by
  intro  H locs h ls hl hf
  unfold f_X8_trace_0 at hf
  have C0 := C
  obtain ⟨hx, hb, hr, hml, hown, hts, hlk, hK, hSF⟩ := C0
  refine lv_iload_n hx hb dX8_trace_0 rfl (lv_at hl 1 rfl) ?_
  refine lv_i2l hx hb dX8_trace_1 rfl ?_
  refine lv_aload_n hx hb dX8_trace_2 rfl (lv_at hl 0 rfl) ?_
  refine gf_8_10 C h (rfl : Kd 0 = 8) rfl inX8_trace_8 lkX8_trace_61 dX8_trace_3 ?_
  refine gf_0_1 C h (rfl : Kd 21 = 0) rfl inX8_trace_0 lkX8_trace_274 dX8_trace_6 ?_
  refine lv_aload_n hx hb dX8_trace_9 rfl (lv_at hl 0 rfl) ?_
  refine gf_8_10 C h (rfl : Kd 0 = 8) rfl inX8_trace_8 lkX8_trace_61 dX8_trace_10 ?_
  refine gf_0_0 C h (rfl : Kd 21 = 0) rfl inX8_trace_0 lkX8_trace_281 dX8_trace_13 ?_
  refine al_0_1 C h (rfl : Kd 21 = 0) dX8_trace_16 ?_
  refine va_mmin hx hb (by rw [hml]; exact hl.1.symm) hown (hts _ wdX8_trace_Cond_methodLink_RX8_284_Lib_Math_min_name) (hts _ wdX8_trace_Cond_static_Lib_Math_min_name) (hts _ wdX8_trace_Cond_initialized__java_lang_Math_) (hts _ wdX8_trace_Cond_code_Lib_Math_min_name_Lib_Math_min_code_2__some__int_) (Nat.le_of_ble_eq_true rfl) (Nat.le_of_ble_eq_true rfl) (Nat.zero_le _) (Nat.zero_le _) dX8_trace_17 ?_
  obtain ⟨u1, hu1, hf⟩ := bd_use hf
  refine r_cs (rest := []) C h (c_X8_within  hu1) gX8_trace_X8_within rfl ⟨rfl, rfl⟩ hdX8_within ⟨Nat.le_of_ble_eq_true rfl, Nat.le_of_ble_eq_true rfl⟩ ⟨Nat.zero_le _, Nat.zero_le _⟩ hl.1 rfl (Nat.le_of_ble_eq_true rfl) dX8_trace_20 (fun H locs h => ?_)
  refine lv_if_eq (tgt := 38) hx hb dX8_trace_23 (by decide) (fun c2 => ?_) (fun c2 => ?_)
  · replace hf := it_t c2 hf
    refine lv_iconst (v := (-1 : Int32)) hx hb dX8_trace_38 (by decide) ?_
    replace hf := Option.some.inj hf
    subst hf
    exact r_ire C h dX8_trace_39
  replace hf := it_f c2 hf
  refine lv_aload_n hx hb dX8_trace_26 rfl (lv_at hl 0 rfl) ?_
  refine gf_8_10 C h (rfl : Kd 0 = 8) rfl inX8_trace_8 lkX8_trace_61 dX8_trace_27 ?_
  refine gf_0_0 C h (rfl : Kd 21 = 0) rfl inX8_trace_0 lkX8_trace_281 dX8_trace_30 ?_
  refine lv_iload_n hx hb dX8_trace_33 rfl (lv_at hl 1 rfl) ?_
  obtain ⟨g3, hf⟩ := gd_use hf
  refine ld_0_1 C h (rfl : Kd 21 = 0) rfl (inB_in g3) dX8_trace_34 ?_
  refine lv_goto (tgt := 39) hx hb dX8_trace_35 (by decide) ?_
  replace hf := Option.some.inj hf
  subst hf
  exact r_ire C h dX8_trace_39
theorem c_X8_trace {l : Launch} {E : Ev} {σ : Ms} {ℓ : Mz} {p0 : Int32} {out : Int32} (hf : f_X8_trace σ p0 = some out) : Ct l yX8_trace wsX8_trace rm_X8_trace [.ref (Ea E 0 0), .int p0] E σ ℓ (some (.int out)) σ ℓ := by
  refine Ct_mk (cc := cX8_trace) (mL := 2) (ret := (some .int)) (own := RX8) (by decide +kernel) rfl rfl (Nat.le_of_ble_eq_true rfl) (fun p e s m below meth c C h ls hl => ?_)
  exact w_X8_trace_0  C  _ _ h ls (lv_sub hl [0, 1] rfl) hf
theorem hdX8_isUnder : yX8_isUnder.cls ≠ "java/lang/invoke/MethodHandle" ∧ yX8_isUnder.cls ≠ "java/lang/invoke/VarHandle" ∧ (parseMethodDescriptor yX8_isUnder.desc).map (fun d => d.parameters.length) = some 2 := by decide +kernel
def rm_X8_isUnder : Room := { frames := 0, cells := 0, slots := 0, locals := 0 }
set_option maxRecDepth 100000 in
theorem lkX8_isUnder_308 : Cond.fieldLink RX8 308 "BellsBelow" "ABOVE" "[I" ∈ wsX8_isUnder := by decide +kernel
set_option maxHeartbeats 4000000 in
set_option maxRecDepth 100000 in
theorem w_X8_isUnder_31 {p : Program} {l : Launch} {e : Env} {s : State} {m : MethodId} {args : Array Value} {below : List Frame} {meth : Method} {c : Code} {E : Ev} {ℓ : Mz} {σ : Ms} {p0 : Int32} {p1 : Int32} {out : Int32}   (C : Cx cX8_isUnder 4 (some .boolean) wsX8_isUnder RX8 E p s m args meth c)  : ∀ (v2 : Int32) (H : Heap) (locs : List Loc) (h : HI E σ ℓ s H locs) (ls : Array Slot) (hl : lv_has ls 4 [(1, .int p1), (2, .int v2)]), f_X8_isUnder_31 p0 p1  v2 = some out → W p l e rm_X8_isUnder s m args below meth c H locs 0 0 (MQ below (Po E s.heap.size (some (.int out)) σ ℓ) args s 0 0 (AA E s.heap.size)) (F0 m 31 ls []) := by
  intro v2 H locs h ls hl hf
  unfold f_X8_isUnder_31 at hf
  have C0 := C
  obtain ⟨hx, hb, hr, hml, hown, hts, hlk, hK, hSF⟩ := C0
  refine lv_iload_n hx hb dX8_isUnder_31 rfl (lv_at hl 1 rfl) ?_
  refine lv_iload_n hx hb dX8_isUnder_32 rfl (lv_at hl 0 rfl) ?_
  refine lv_icmp_ne (tgt := 40) hx hb dX8_isUnder_33 (by decide) (fun c2 => ?_) (fun c2 => ?_)
  · replace hf := it_f c2 hf
    refine lv_iconst (v := (0 : Int32)) hx hb dX8_isUnder_40 (by decide) ?_
    replace hf := Option.some.inj hf
    subst hf
    exact r_zre (v := (0 : Int32)) C h rfl dX8_isUnder_41
  replace hf := it_t c2 hf
  refine lv_iconst (v := (1 : Int32)) hx hb dX8_isUnder_36 (by decide) ?_
  refine lv_goto (tgt := 41) hx hb dX8_isUnder_37 (by decide) ?_
  replace hf := Option.some.inj hf
  subst hf
  exact r_zre (v := (1 : Int32)) C h rfl dX8_isUnder_41
set_option maxHeartbeats 4000000 in
set_option maxRecDepth 100000 in
theorem w_X8_isUnder_4 {p : Program} {l : Launch} {e : Env} {s : State} {m : MethodId} {args : Array Value} {below : List Frame} {meth : Method} {c : Code} {E : Ev} {ℓ : Mz} {σ : Ms} {p0 : Int32} {p1 : Int32} {out : Int32}   (C : Cx cX8_isUnder 4 (some .boolean) wsX8_isUnder RX8 E p s m args meth c) {k4 : Int32 → Int32 → Option (Int32)} (hk4 : ∀ (v2 : Int32) (v3 : Int32) (H : Heap) (locs : List Loc), HI E σ ℓ s H locs → ∀ ls : Array Slot, lv_has ls 4 [(1, .int p1), (2, .int v2), (3, .int v3)] → k4 v2 v3 = some out → W p l e rm_X8_isUnder s m args below meth c H locs 0 0 (MQ below (Po E s.heap.size (some (.int out)) σ ℓ) args s 0 0 (AA E s.heap.size)) (F0 m 4 ls [])) : ∀ (v2 : Int32) (v3 : Int32) (H : Heap) (locs : List Loc) (h : HI E σ ℓ s H locs) (ls : Array Slot) (hl : lv_has ls 4 [(1, .int p1), (2, .int v2), (3, .int v3)]), f_X8_isUnder_4 p0 p1 k4 v2 v3 = some out → W p l e rm_X8_isUnder s m args below meth c H locs 0 0 (MQ below (Po E s.heap.size (some (.int out)) σ ℓ) args s 0 0 (AA E s.heap.size)) (F0 m 4 ls []) := by
  intro v2 v3 H locs h ls hl hf
  unfold f_X8_isUnder_4 at hf
  have C0 := C
  obtain ⟨hx, hb, hr, hml, hown, hts, hlk, hK, hSF⟩ := C0
  refine lv_iload_n hx hb dX8_isUnder_4 rfl (lv_at hl 2 rfl) ?_
  refine lv_bipush (v := (7 : Int32)) hx hb dX8_isUnder_5 (by decide) ?_
  refine lv_icmp_ge (tgt := 31) hx hb dX8_isUnder_7 (by decide) (fun c1 => ?_) (fun c1 => ?_)
  · replace hf := it_t c1 hf
    exact w_X8_isUnder_31    C  _ _ _ h ls (lv_sub hl [0, 1] rfl) hf
  replace hf := it_f c1 hf
  refine lv_iload_n hx hb dX8_isUnder_10 rfl (lv_at hl 1 rfl) ?_
  refine lv_if_lt (tgt := 31) hx hb dX8_isUnder_11 (by decide) (fun c3 => ?_) (fun c3 => ?_)
  · replace hf := it_t c3 hf
    exact w_X8_isUnder_31    C  _ _ _ h ls (lv_sub hl [0, 1] rfl) hf
  replace hf := it_f c3 hf
  refine lv_iload_n hx hb dX8_isUnder_14 rfl (lv_at hl 1 rfl) ?_
  refine lv_iload_n hx hb dX8_isUnder_15 rfl (lv_at hl 0 rfl) ?_
  refine lv_icmp_eq (tgt := 31) hx hb dX8_isUnder_16 (by decide) (fun c4 => ?_) (fun c4 => ?_)
  · replace hf := it_t c4 hf
    exact w_X8_isUnder_31    C  _ _ _ h ls (lv_sub hl [0, 1] rfl) hf
  replace hf := it_f c4 hf
  obtain ⟨t5, zt5, yt5⟩ := hSF.1
  refine va_gets hx hb zt5 h.2.2 hown (hts _ lkX8_isUnder_308) (fun _ h9 => h9) dX8_isUnder_19 ?_
  refine lv_iload_n hx hb dX8_isUnder_22 rfl (lv_at hl 1 rfl) ?_
  obtain ⟨g6, hf⟩ := gd_use hf
  refine va_ti (v := .int (sAB v2.toNatClampNeg)) hx hb yt5 h.2.2 (inB_in g6) rfl dX8_isUnder_23 ?_
  refine lv_topi (fun x7 ex7 => ?_)
  replace hf := lt_use ex7 hf
  clear ex7
  refine lv_istore_n (lv' := [(2, .int x7), (1, .int p1), (3, .int v3)]) hx hb dX8_isUnder_24 rfl hl (by decide) rfl (fun ls hl => ?_)
  obtain ⟨x8, ex8⟩ : ∃ y : Int32, y = (v3 + (1 : Int32)) := ⟨_, rfl⟩
  refine lv_iinc (v := x8) (lv' := [(3, .int x8), (2, .int x7), (1, .int p1)]) hx hb dX8_isUnder_25 hl (k := 2) rfl (by rw [ex8]; rfl) (by decide) rfl (fun ls hl => ?_)
  replace hf := lt_use ex8 hf
  clear ex8
  refine lv_goto (tgt := 4) hx hb dX8_isUnder_28 (by decide) ?_
  exact hk4 _ _ _ _ h ls (lv_sub hl [2, 1, 0] rfl) hf
set_option maxHeartbeats 4000000 in
set_option maxRecDepth 100000 in
theorem w_X8_isUnder_4L {p : Program} {l : Launch} {e : Env} {s : State} {m : MethodId} {args : Array Value} {below : List Frame} {meth : Method} {c : Code} {E : Ev} {ℓ : Mz} {σ : Ms} {p0 : Int32} {p1 : Int32} {out : Int32}   (C : Cx cX8_isUnder 4 (some .boolean) wsX8_isUnder RX8 E p s m args meth c)  : ∀ (n9 : Nat) (v2 : Int32) (v3 : Int32) (H : Heap) (locs : List Loc) (h : HI E σ ℓ s H locs) (ls : Array Slot) (hl : lv_has ls 4 [(1, .int p1), (2, .int v2), (3, .int v3)]), f_X8_isUnder_4L p0 p1  n9 v2 v3 = some out → W p l e rm_X8_isUnder s m args below meth c H locs 0 0 (MQ below (Po E s.heap.size (some (.int out)) σ ℓ) args s 0 0 (AA E s.heap.size)) (F0 m 4 ls []) := by
  intro n9
  induction n9 with
  | zero =>
    intro v2 v3 H locs h ls hl hf
    cases (show (none : Option (Int32)) = some out from hf)
  | succ n9 ih =>
    intro v2 v3 H locs h ls hl hf
    exact w_X8_isUnder_4   C  ih v2 v3 H locs h ls hl hf
set_option maxHeartbeats 4000000 in
set_option maxRecDepth 100000 in
theorem w_X8_isUnder_0 {p : Program} {l : Launch} {e : Env} {s : State} {m : MethodId} {args : Array Value} {below : List Frame} {meth : Method} {c : Code} {E : Ev} {ℓ : Mz} {σ : Ms} {p0 : Int32} {p1 : Int32} {out : Int32}   (C : Cx cX8_isUnder 4 (some .boolean) wsX8_isUnder RX8 E p s m args meth c)  : ∀  (H : Heap) (locs : List Loc) (h : HI E σ ℓ s H locs) (ls : Array Slot) (hl : lv_has ls 4 [(0, .int p0), (1, .int p1)]), f_X8_isUnder_0 p0 p1   = some out → W p l e rm_X8_isUnder s m args below meth c H locs 0 0 (MQ below (Po E s.heap.size (some (.int out)) σ ℓ) args s 0 0 (AA E s.heap.size)) (F0 m 0 ls []) := by
  intro  H locs h ls hl hf
  unfold f_X8_isUnder_0 at hf
  have C0 := C
  obtain ⟨hx, hb, hr, hml, hown, hts, hlk, hK, hSF⟩ := C0
  refine lv_iload_n hx hb dX8_isUnder_0 rfl (lv_at hl 0 rfl) ?_
  refine lv_istore_n (lv' := [(2, .int p0), (0, .int p0), (1, .int p1)]) hx hb dX8_isUnder_1 rfl hl (by decide) rfl (fun ls hl => ?_)
  refine lv_iconst (v := (0 : Int32)) hx hb dX8_isUnder_2 (by decide) ?_
  refine lv_istore_n (lv' := [(3, .int (0 : Int32)), (2, .int p0), (0, .int p0), (1, .int p1)]) hx hb dX8_isUnder_3 rfl hl (by decide) rfl (fun ls hl => ?_)
  exact w_X8_isUnder_4L    C  _ _ _ _ _ h ls (lv_sub hl [3, 1, 0] rfl) hf
theorem c_X8_isUnder {l : Launch} {E : Ev} {σ : Ms} {ℓ : Mz} {p0 : Int32} {p1 : Int32} {out : Int32} (hf : f_X8_isUnder p0 p1 = some out) : Ct l yX8_isUnder wsX8_isUnder rm_X8_isUnder [.int p0, .int p1] E σ ℓ (some (.int out)) σ ℓ := by
  refine Ct_mk (cc := cX8_isUnder) (mL := 4) (ret := (some .boolean)) (own := RX8) (by decide +kernel) rfl rfl (Nat.le_of_ble_eq_true rfl) (fun p e s m below meth c C h ls hl => ?_)
  exact w_X8_isUnder_0  C  _ _ h ls (lv_sub hl [0, 1] rfl) hf
theorem hdX8_taken : yX8_taken.cls = RX8 ∧ yX8_taken.cls ≠ "java/lang/invoke/MethodHandle" ∧ yX8_taken.cls ≠ "java/lang/invoke/VarHandle" ∧ (parseMethodDescriptor yX8_taken.desc).map (fun d => d.parameters.length) = some 2 := by decide +kernel
def rm_X8_taken : Room := { frames := 2, cells := 0, slots := 0, locals := 44 }
set_option maxRecDepth 100000 in
theorem inX8_taken_8 : ∀ w ∈ wsX80, w ∈ wsX8_taken := fun _ h => List.mem_cons_of_mem _ (List.mem_append_left _ (List.mem_append_right _ h))
set_option maxRecDepth 100000 in
theorem lkX8_taken_17 : Cond.fieldLink RX8 17 "BellsBelow" "now" "LBellsBelow$Hall;" ∈ wsX8_taken := by decide +kernel
set_option maxRecDepth 100000 in
theorem inX8_taken_1 : ∀ w ∈ wsX10, w ∈ wsX8_taken := fun _ h => List.mem_cons_of_mem _ (List.mem_append_right _ h)
set_option maxRecDepth 100000 in
theorem lkX8_taken_95 : Cond.fieldLink RX8 95 "BellsBelow$Hall" "kind" "[I" ∈ wsX8_taken := by decide +kernel
set_option maxHeartbeats 4000000 in
set_option maxRecDepth 100000 in
theorem w_X8_taken_0 {p : Program} {l : Launch} {e : Env} {s : State} {m : MethodId} {args : Array Value} {below : List Frame} {meth : Method} {c : Code} {E : Ev} {ℓ : Mz} {σ : Ms} {p0 : Int32} {p1 : Int32} {out : Int32}   (C : Cx cX8_taken 3 (some .int) wsX8_taken RX8 E p s m args meth c)  : ∀  (H : Heap) (locs : List Loc) (h : HI E σ ℓ s H locs) (ls : Array Slot) (hl : lv_has ls 3 [(0, .ref (Ea E 0 0)), (1, .int p0), (2, .int p1)]), f_X8_taken_0 σ p0 p1   = some out → W p l e rm_X8_taken s m args below meth c H locs 0 0 (MQ below (Po E s.heap.size (some (.int out)) σ ℓ) args s 0 0 (AA E s.heap.size)) (F0 m 0 ls []) := by
  intro  H locs h ls hl hf
  unfold f_X8_taken_0 at hf
  have C0 := C
  obtain ⟨hx, hb, hr, hml, hown, hts, hlk, hK, hSF⟩ := C0
  refine lv_iload_n hx hb dX8_taken_0 rfl (lv_at hl 2 rfl) ?_
  refine lv_i2l hx hb dX8_taken_1 rfl ?_
  refine lv_bipush (v := (7 : Int32)) hx hb dX8_taken_2 (by decide) ?_
  obtain ⟨u1, hu1, hf⟩ := bd_use hf
  refine r_cs (rest := []) C h (c_X8_within  hu1) gX8_taken_X8_within rfl ⟨rfl, rfl⟩ hdX8_within ⟨Nat.le_of_ble_eq_true rfl, Nat.le_of_ble_eq_true rfl⟩ ⟨Nat.zero_le _, Nat.zero_le _⟩ hl.1 rfl (Nat.le_of_ble_eq_true rfl) dX8_taken_4 (fun H locs h => ?_)
  refine lv_if_ne (tgt := 13) hx hb dX8_taken_7 (by decide) (fun c2 => ?_) (fun c2 => ?_)
  · replace hf := it_f c2 hf
    refine lv_aload_n hx hb dX8_taken_13 rfl (lv_at hl 0 rfl) ?_
    refine lv_iload_n hx hb dX8_taken_14 rfl (lv_at hl 1 rfl) ?_
    refine lv_i2l hx hb dX8_taken_15 rfl ?_
    obtain ⟨u3, hu3, hf⟩ := bd_use hf
    refine r_cv_8 (rest := []) C h (c_X8_isMaster  hu3) (rfl : Kd 0 = 8) gX8_taken_X8_isMaster rfl ⟨rfl, rfl⟩ hdX8_isMaster ⟨Nat.le_of_ble_eq_true rfl, Nat.le_of_ble_eq_true rfl⟩ ⟨Nat.zero_le _, Nat.zero_le _⟩ hl.1 rfl (Nat.le_of_ble_eq_true rfl) dX8_taken_16 (fun H locs h => ?_)
    refine lv_if_ne (tgt := 25) hx hb dX8_taken_19 (by decide) (fun c4 => ?_) (fun c4 => ?_)
    · replace hf := it_f c4 hf
      refine lv_aload_n hx hb dX8_taken_25 rfl (lv_at hl 0 rfl) ?_
      refine gf_8_0 C h (rfl : Kd 0 = 8) rfl inX8_taken_8 lkX8_taken_17 dX8_taken_26 ?_
      refine gf_1_2 C h (rfl : Kd 1 = 1) rfl inX8_taken_1 lkX8_taken_95 dX8_taken_29 ?_
      refine lv_iload_n hx hb dX8_taken_32 rfl (lv_at hl 1 rfl) ?_
      obtain ⟨g5, hf⟩ := gd_use hf
      refine ld_1_1 C h (rfl : Kd 1 = 1) rfl (inB_in g5) dX8_taken_33 ?_
      refine lv_iload_n hx hb dX8_taken_34 rfl (lv_at hl 2 rfl) ?_
      obtain ⟨u6, hu6, hf⟩ := bd_use hf
      refine r_cs (rest := []) C h (c_X8_isUnder  hu6) gX8_taken_X8_isUnder rfl ⟨rfl, rfl⟩ hdX8_isUnder ⟨Nat.le_of_ble_eq_true rfl, Nat.le_of_ble_eq_true rfl⟩ ⟨Nat.zero_le _, Nat.zero_le _⟩ hl.1 rfl (Nat.le_of_ble_eq_true rfl) dX8_taken_35 (fun H locs h => ?_)
      refine lv_if_eq (tgt := 53) hx hb dX8_taken_38 (by decide) (fun c7 => ?_) (fun c7 => ?_)
      · replace hf := it_t c7 hf
        refine lv_bipush (v := (-12 : Int32)) hx hb dX8_taken_53 (by decide) ?_
        replace hf := Option.some.inj hf
        subst hf
        exact r_ire C h dX8_taken_55
      replace hf := it_f c7 hf
      refine lv_aload_n hx hb dX8_taken_41 rfl (lv_at hl 0 rfl) ?_
      refine gf_8_0 C h (rfl : Kd 0 = 8) rfl inX8_taken_8 lkX8_taken_17 dX8_taken_42 ?_
      refine gf_1_2 C h (rfl : Kd 1 = 1) rfl inX8_taken_1 lkX8_taken_95 dX8_taken_45 ?_
      refine lv_iload_n hx hb dX8_taken_48 rfl (lv_at hl 1 rfl) ?_
      obtain ⟨g8, hf⟩ := gd_use hf
      refine ld_1_1 C h (rfl : Kd 1 = 1) rfl (inB_in g8) dX8_taken_49 ?_
      refine lv_goto (tgt := 55) hx hb dX8_taken_50 (by decide) ?_
      replace hf := Option.some.inj hf
      subst hf
      exact r_ire C h dX8_taken_55
    replace hf := it_t c4 hf
    refine lv_bipush (v := (-11 : Int32)) hx hb dX8_taken_22 (by decide) ?_
    replace hf := Option.some.inj hf
    subst hf
    exact r_ire C h dX8_taken_24
  replace hf := it_t c2 hf
  refine lv_bipush (v := (-2 : Int32)) hx hb dX8_taken_10 (by decide) ?_
  replace hf := Option.some.inj hf
  subst hf
  exact r_ire C h dX8_taken_12
theorem c_X8_taken {l : Launch} {E : Ev} {σ : Ms} {ℓ : Mz} {p0 : Int32} {p1 : Int32} {out : Int32} (hf : f_X8_taken σ p0 p1 = some out) : Ct l yX8_taken wsX8_taken rm_X8_taken [.ref (Ea E 0 0), .int p0, .int p1] E σ ℓ (some (.int out)) σ ℓ := by
  refine Ct_mk (cc := cX8_taken) (mL := 3) (ret := (some .int)) (own := RX8) (by decide +kernel) rfl rfl (Nat.le_of_ble_eq_true rfl) (fun p e s m below meth c C h ls hl => ?_)
  exact w_X8_taken_0  C  _ _ h ls (lv_sub hl [0, 1, 2] rfl) hf
theorem hdX8_count : yX8_count.cls = RX8 ∧ yX8_count.cls ≠ "java/lang/invoke/MethodHandle" ∧ yX8_count.cls ≠ "java/lang/invoke/VarHandle" ∧ (parseMethodDescriptor yX8_count.desc).map (fun d => d.parameters.length) = some 1 := by decide +kernel
def rm_X8_count : Room := { frames := 0, cells := 0, slots := 0, locals := 0 }
set_option maxRecDepth 100000 in
theorem inX8_count_8 : ∀ w ∈ wsX80, w ∈ wsX8_count := fun _ h => List.mem_cons_of_mem _ (List.mem_append_left _ (List.mem_append_left _ (List.mem_append_left _ (List.mem_append_left _ (List.mem_append_left _ (List.mem_append_right _ h))))))
set_option maxRecDepth 100000 in
theorem lkX8_count_17 : Cond.fieldLink RX8 17 "BellsBelow" "now" "LBellsBelow$Hall;" ∈ wsX8_count := by decide +kernel
set_option maxRecDepth 100000 in
theorem inX8_count_1 : ∀ w ∈ wsX10, w ∈ wsX8_count := fun _ h => List.mem_cons_of_mem _ (List.mem_append_left _ (List.mem_append_left _ (List.mem_append_left _ (List.mem_append_left _ (List.mem_append_right _ h)))))
set_option maxRecDepth 100000 in
theorem lkX8_count_77 : Cond.fieldLink RX8 77 "BellsBelow$Hall" "many" "I" ∈ wsX8_count := by decide +kernel
set_option maxRecDepth 100000 in
theorem lkX8_count_144 : Cond.fieldLink RX8 144 "BellsBelow" "houseCount" "I" ∈ wsX8_count := by decide +kernel
set_option maxRecDepth 100000 in
theorem lkX8_count_31 : Cond.fieldLink RX8 31 "BellsBelow" "notes" "LBellsBelow$Notes;" ∈ wsX8_count := by decide +kernel
set_option maxRecDepth 100000 in
theorem inX8_count_3 : ∀ w ∈ wsX30, w ∈ wsX8_count := fun _ h => List.mem_cons_of_mem _ (List.mem_append_left _ (List.mem_append_left _ (List.mem_append_left _ (List.mem_append_right _ h))))
set_option maxRecDepth 100000 in
theorem lkX8_count_210 : Cond.fieldLink RX8 210 "BellsBelow$Notes" "seen" "LBellsBelow$Rows;" ∈ wsX8_count := by decide +kernel
set_option maxRecDepth 100000 in
theorem inX8_count_4 : ∀ w ∈ wsX40, w ∈ wsX8_count := fun _ h => List.mem_cons_of_mem _ (List.mem_append_left _ (List.mem_append_left _ (List.mem_append_right _ h)))
set_option maxRecDepth 100000 in
theorem lkX8_count_244 : Cond.fieldLink RX8 244 "BellsBelow$Rows" "many" "I" ∈ wsX8_count := by decide +kernel
set_option maxRecDepth 100000 in
theorem lkX8_count_237 : Cond.fieldLink RX8 237 "BellsBelow$Notes" "plan" "LBellsBelow$Rows;" ∈ wsX8_count := by decide +kernel
set_option maxRecDepth 100000 in
theorem lkX8_count_254 : Cond.fieldLink RX8 254 "BellsBelow$Notes" "book" "LBellsBelow$Rows;" ∈ wsX8_count := by decide +kernel
set_option maxRecDepth 100000 in
theorem lkX8_count_41 : Cond.fieldLink RX8 41 "BellsBelow" "text" "LBellsBelow$Text;" ∈ wsX8_count := by decide +kernel
set_option maxRecDepth 100000 in
theorem inX8_count_7 : ∀ w ∈ wsX70, w ∈ wsX8_count := fun _ h => List.mem_cons_of_mem _ (List.mem_append_left _ (List.mem_append_right _ h))
set_option maxRecDepth 100000 in
theorem lkX8_count_138 : Cond.fieldLink RX8 138 "BellsBelow$Text" "length" "I" ∈ wsX8_count := by decide +kernel
set_option maxRecDepth 100000 in
theorem lkX8_count_61 : Cond.fieldLink RX8 61 "BellsBelow" "acts" "LBellsBelow$Acts;" ∈ wsX8_count := by decide +kernel
set_option maxRecDepth 100000 in
theorem inX8_count_0 : ∀ w ∈ wsX00, w ∈ wsX8_count := fun _ h => List.mem_cons_of_mem _ (List.mem_append_right _ h)
set_option maxRecDepth 100000 in
theorem lkX8_count_274 : Cond.fieldLink RX8 274 "BellsBelow$Acts" "ran" "I" ∈ wsX8_count := by decide +kernel
set_option maxHeartbeats 4000000 in
set_option maxRecDepth 100000 in
theorem w_X8_count_0 {p : Program} {l : Launch} {e : Env} {s : State} {m : MethodId} {args : Array Value} {below : List Frame} {meth : Method} {c : Code} {E : Ev} {ℓ : Mz} {σ : Ms} {p0 : Int32} {out : Int32}   (C : Cx cX8_count 2 (some .int) wsX8_count RX8 E p s m args meth c)  : ∀  (H : Heap) (locs : List Loc) (h : HI E σ ℓ s H locs) (ls : Array Slot) (hl : lv_has ls 2 [(0, .ref (Ea E 0 0)), (1, .int p0)]), f_X8_count_0 σ p0   = some out → W p l e rm_X8_count s m args below meth c H locs 0 0 (MQ below (Po E s.heap.size (some (.int out)) σ ℓ) args s 0 0 (AA E s.heap.size)) (F0 m 0 ls []) := by
  intro  H locs h ls hl hf
  unfold f_X8_count_0 at hf
  have C0 := C
  obtain ⟨hx, hb, hr, hml, hown, hts, hlk, hK, hSF⟩ := C0
  refine lv_iload_n hx hb dX8_count_0 rfl (lv_at hl 1 rfl) ?_
  by_cases c1 : p0 = (0 : Int32)
  · replace hf := it_t c1 hf
    refine r_tin (v := (0 : Int32)) (off := 43) (tgt := 44) hx hb c1 dX8_count_1 (by decide) (by decide) (by decide) (by decide) ?_
    refine lv_aload_n hx hb dX8_count_44 rfl (lv_at hl 0 rfl) ?_
    refine gf_8_0 C h (rfl : Kd 0 = 8) rfl inX8_count_8 lkX8_count_17 dX8_count_45 ?_
    refine gf_1_12 C h (rfl : Kd 1 = 1) rfl inX8_count_1 lkX8_count_77 dX8_count_48 ?_
    replace hf := Option.some.inj hf
    subst hf
    exact r_ire C h dX8_count_51
  replace hf := it_f c1 hf
  by_cases c2 : p0 = (1 : Int32)
  · replace hf := it_t c2 hf
    refine r_tin (v := (1 : Int32)) (off := 51) (tgt := 52) hx hb c2 dX8_count_1 (by decide) (by decide) (by decide) (by decide) ?_
    refine lv_aload_n hx hb dX8_count_52 rfl (lv_at hl 0 rfl) ?_
    refine gf_8_8 C h (rfl : Kd 0 = 8) rfl inX8_count_8 lkX8_count_144 dX8_count_53 ?_
    replace hf := Option.some.inj hf
    subst hf
    exact r_ire C h dX8_count_56
  replace hf := it_f c2 hf
  by_cases c3 : p0 = (2 : Int32)
  · replace hf := it_t c3 hf
    refine r_tin (v := (2 : Int32)) (off := 56) (tgt := 57) hx hb c3 dX8_count_1 (by decide) (by decide) (by decide) (by decide) ?_
    refine lv_aload_n hx hb dX8_count_57 rfl (lv_at hl 0 rfl) ?_
    refine gf_8_3 C h (rfl : Kd 0 = 8) rfl inX8_count_8 lkX8_count_31 dX8_count_58 ?_
    refine gf_31_0 C h (rfl : Kd 4 = 31) rfl inX8_count_3 lkX8_count_210 dX8_count_61 ?_
    refine gf_4_3 C h (rfl : Kd 6 = 4) rfl inX8_count_4 lkX8_count_244 dX8_count_64 ?_
    replace hf := Option.some.inj hf
    subst hf
    exact r_ire C h dX8_count_67
  replace hf := it_f c3 hf
  by_cases c4 : p0 = (3 : Int32)
  · replace hf := it_t c4 hf
    refine r_tin (v := (3 : Int32)) (off := 67) (tgt := 68) hx hb c4 dX8_count_1 (by decide) (by decide) (by decide) (by decide) ?_
    refine lv_aload_n hx hb dX8_count_68 rfl (lv_at hl 0 rfl) ?_
    refine gf_8_3 C h (rfl : Kd 0 = 8) rfl inX8_count_8 lkX8_count_31 dX8_count_69 ?_
    refine gf_31_1 C h (rfl : Kd 4 = 31) rfl inX8_count_3 lkX8_count_237 dX8_count_72 ?_
    refine gf_4_3 C h (rfl : Kd 7 = 4) rfl inX8_count_4 lkX8_count_244 dX8_count_75 ?_
    replace hf := Option.some.inj hf
    subst hf
    exact r_ire C h dX8_count_78
  replace hf := it_f c4 hf
  by_cases c5 : p0 = (4 : Int32)
  · replace hf := it_t c5 hf
    refine r_tin (v := (4 : Int32)) (off := 78) (tgt := 79) hx hb c5 dX8_count_1 (by decide) (by decide) (by decide) (by decide) ?_
    refine lv_aload_n hx hb dX8_count_79 rfl (lv_at hl 0 rfl) ?_
    refine gf_8_3 C h (rfl : Kd 0 = 8) rfl inX8_count_8 lkX8_count_31 dX8_count_80 ?_
    refine gf_31_2 C h (rfl : Kd 4 = 31) rfl inX8_count_3 lkX8_count_254 dX8_count_83 ?_
    refine gf_4_3 C h (rfl : Kd 8 = 4) rfl inX8_count_4 lkX8_count_244 dX8_count_86 ?_
    replace hf := Option.some.inj hf
    subst hf
    exact r_ire C h dX8_count_89
  replace hf := it_f c5 hf
  by_cases c6 : p0 = (5 : Int32)
  · replace hf := it_t c6 hf
    refine r_tin (v := (5 : Int32)) (off := 89) (tgt := 90) hx hb c6 dX8_count_1 (by decide) (by decide) (by decide) (by decide) ?_
    refine lv_aload_n hx hb dX8_count_90 rfl (lv_at hl 0 rfl) ?_
    refine gf_8_6 C h (rfl : Kd 0 = 8) rfl inX8_count_8 lkX8_count_41 dX8_count_91 ?_
    refine gf_7_1 C h (rfl : Kd 12 = 7) rfl inX8_count_7 lkX8_count_138 dX8_count_94 ?_
    replace hf := Option.some.inj hf
    subst hf
    exact r_ire C h dX8_count_97
  replace hf := it_f c6 hf
  by_cases c7 : p0 = (6 : Int32)
  · replace hf := it_t c7 hf
    refine r_tin (v := (6 : Int32)) (off := 97) (tgt := 98) hx hb c7 dX8_count_1 (by decide) (by decide) (by decide) (by decide) ?_
    refine lv_aload_n hx hb dX8_count_98 rfl (lv_at hl 0 rfl) ?_
    refine gf_8_10 C h (rfl : Kd 0 = 8) rfl inX8_count_8 lkX8_count_61 dX8_count_99 ?_
    refine gf_0_1 C h (rfl : Kd 21 = 0) rfl inX8_count_0 lkX8_count_274 dX8_count_102 ?_
    replace hf := Option.some.inj hf
    subst hf
    exact r_ire C h dX8_count_105
  replace hf := it_f c7 hf
  refine lv_tableOut (tgt := 106) hx hb dX8_count_1 (tsw_out [0, 1, 2, 3, 4, 5, 6] (List.forall_mem_cons.mpr ⟨c1, (List.forall_mem_cons.mpr ⟨c2, (List.forall_mem_cons.mpr ⟨c3, (List.forall_mem_cons.mpr ⟨c4, (List.forall_mem_cons.mpr ⟨c5, (List.forall_mem_cons.mpr ⟨c6, (List.forall_mem_cons.mpr ⟨c7, (fun _ h => absurd h List.not_mem_nil)⟩)⟩)⟩)⟩)⟩)⟩)⟩) rfl) (by decide) ?_
  refine lv_bipush (v := (-2 : Int32)) hx hb dX8_count_106 (by decide) ?_
  replace hf := Option.some.inj hf
  subst hf
  exact r_ire C h dX8_count_108
theorem c_X8_count {l : Launch} {E : Ev} {σ : Ms} {ℓ : Mz} {p0 : Int32} {out : Int32} (hf : f_X8_count σ p0 = some out) : Ct l yX8_count wsX8_count rm_X8_count [.ref (Ea E 0 0), .int p0] E σ ℓ (some (.int out)) σ ℓ := by
  refine Ct_mk (cc := cX8_count) (mL := 2) (ret := (some .int)) (own := RX8) (by decide +kernel) rfl rfl (Nat.le_of_ble_eq_true rfl) (fun p e s m below meth c C h ls hl => ?_)
  exact w_X8_count_0  C  _ _ h ls (lv_sub hl [0, 1] rfl) hf
theorem hdX8_tape : yX8_tape.cls = RX8 ∧ yX8_tape.cls ≠ "java/lang/invoke/MethodHandle" ∧ yX8_tape.cls ≠ "java/lang/invoke/VarHandle" ∧ (parseMethodDescriptor yX8_tape.desc).map (fun d => d.parameters.length) = some 3 := by decide +kernel
def rm_X8_tape : Room := { frames := 1, cells := 0, slots := 0, locals := 23 }
set_option maxRecDepth 100000 in
theorem inX8_tape_8 : ∀ w ∈ wsX80, w ∈ wsX8_tape := fun _ h => List.mem_cons_of_mem _ (List.mem_append_left _ (List.mem_append_right _ h))
set_option maxRecDepth 100000 in
theorem lkX8_tape_67 : Cond.fieldLink RX8 67 "BellsBelow" "tapes" "[LBellsBelow$Tape;" ∈ wsX8_tape := by decide +kernel
set_option maxHeartbeats 4000000 in
set_option maxRecDepth 100000 in
theorem w_X8_tape_0 {p : Program} {l : Launch} {e : Env} {s : State} {m : MethodId} {args : Array Value} {below : List Frame} {meth : Method} {c : Code} {E : Ev} {p0 : Int32} {p1 : Int32} {p2 : Int32} {out : Int32 × Ms × Mz}   (C : Cx cX8_tape 4 (some .int) wsX8_tape RX8 E p s m args meth c)  : ∀ (σ : Ms) (ℓ : Mz) (H : Heap) (locs : List Loc) (h : HI E σ ℓ s H locs) (ls : Array Slot) (hl : lv_has ls 4 [(0, .ref (Ea E 0 0)), (1, .int p0), (2, .int p1), (3, .int p2)]), f_X8_tape_0 p0 p1 p2  σ ℓ = some out → W p l e rm_X8_tape s m args below meth c H locs 0 0 (MQ below (Po E s.heap.size (some (.int out.1)) out.2.1 out.2.2) args s 0 0 (AA E s.heap.size)) (F0 m 0 ls []) := by
  intro σ ℓ H locs h ls hl hf
  unfold f_X8_tape_0 at hf
  have C0 := C
  obtain ⟨hx, hb, hr, hml, hown, hts, hlk, hK, hSF⟩ := C0
  refine lv_iload_n hx hb dX8_tape_0 rfl (lv_at hl 1 rfl) ?_
  refine lv_i2l hx hb dX8_tape_1 rfl ?_
  refine lv_bipush (v := (6 : Int32)) hx hb dX8_tape_2 (by decide) ?_
  obtain ⟨u1, hu1, hf⟩ := bd_use hf
  refine r_cs (rest := []) C h (c_X8_within  hu1) gX8_tape_X8_within rfl ⟨rfl, rfl⟩ hdX8_within ⟨Nat.le_of_ble_eq_true rfl, Nat.le_of_ble_eq_true rfl⟩ ⟨Nat.zero_le _, Nat.zero_le _⟩ hl.1 rfl (Nat.le_of_ble_eq_true rfl) dX8_tape_4 (fun H locs h => ?_)
  refine lv_if_ne (tgt := 12) hx hb dX8_tape_7 (by decide) (fun c2 => ?_) (fun c2 => ?_)
  · replace hf := it_f c2 hf
    refine lv_iload_n hx hb dX8_tape_12 rfl (lv_at hl 2 rfl) ?_
    refine lv_iconst (v := (-1 : Int32)) hx hb dX8_tape_13 (by decide) ?_
    refine lv_icmp_ne (tgt := 30) hx hb dX8_tape_14 (by decide) (fun c3 => ?_) (fun c3 => ?_)
    · replace hf := it_f c3 hf
      refine lv_iload_n hx hb dX8_tape_30 rfl (lv_at hl 2 rfl) ?_
      refine lv_i2l hx hb dX8_tape_31 rfl ?_
      refine lv_iconst (v := (5 : Int32)) hx hb dX8_tape_32 (by decide) ?_
      obtain ⟨u4, hu4, hf⟩ := bd_use hf
      refine r_cs (rest := []) C h (c_X8_within  hu4) gX8_tape_X8_within rfl ⟨rfl, rfl⟩ hdX8_within ⟨Nat.le_of_ble_eq_true rfl, Nat.le_of_ble_eq_true rfl⟩ ⟨Nat.zero_le _, Nat.zero_le _⟩ hl.1 rfl (Nat.le_of_ble_eq_true rfl) dX8_tape_33 (fun H locs h => ?_)
      refine lv_if_eq (tgt := 45) hx hb dX8_tape_36 (by decide) (fun c5 => ?_) (fun c5 => ?_)
      · replace hf := it_t c5 hf
        refine lv_bipush (v := (-2 : Int32)) hx hb dX8_tape_45 (by decide) ?_
        replace hf := Option.some.inj hf
        subst hf
        exact r_ire C h dX8_tape_47
      replace hf := it_f c5 hf
      refine lv_iload_n hx hb dX8_tape_39 rfl (lv_at hl 3 rfl) ?_
      refine lv_bipush (v := (60 : Int32)) hx hb dX8_tape_40 (by decide) ?_
      refine lv_icmp_le (tgt := 48) hx hb dX8_tape_42 (by decide) (fun c6 => ?_) (fun c6 => ?_)
      · replace hf := it_t c6 hf
        refine lv_iload_n hx hb dX8_tape_48 rfl (lv_at hl 3 rfl) ?_
        refine lv_if_ge (tgt := 55) hx hb dX8_tape_49 (by decide) (fun c7 => ?_) (fun c7 => ?_)
        · replace hf := it_t c7 hf
          refine lv_aload_n hx hb dX8_tape_55 rfl (lv_at hl 0 rfl) ?_
          refine gf_8_11 C h (rfl : Kd 0 = 8) rfl inX8_tape_8 lkX8_tape_67 dX8_tape_56 ?_
          refine lv_iload_n hx hb dX8_tape_59 rfl (lv_at hl 1 rfl) ?_
          obtain ⟨g8, hf⟩ := gd_use hf
          refine ld_11_0 C h (rfl : Kd 22 = 11) (inB_in g8) dX8_tape_60 ?_
          refine lv_iload_n hx hb dX8_tape_61 rfl (lv_at hl 2 rfl) ?_
          refine lv_iload_n hx hb dX8_tape_62 rfl (lv_at hl 3 rfl) ?_
          obtain ⟨u9, hu9, hf⟩ := bd_use hf
          refine r_cv_6 (rest := []) C h (k_X6_becomes (kd_tape (inB_lt g8)) rfl rfl hu9) (kd_tape (inB_lt g8)) gX8_tape_X6_becomes rfl ⟨rfl, rfl⟩ hdX6_becomes ⟨Nat.le_of_ble_eq_true rfl, Nat.le_of_ble_eq_true rfl⟩ ⟨Nat.zero_le _, Nat.zero_le _⟩ hl.1 rfl (Nat.le_of_ble_eq_true rfl) dX8_tape_63 (fun H locs h => ?_)
          obtain ⟨σ10, eσ10⟩ : ∃ z, z = va_up σ (23 + p0.toNatClampNeg) u9.1 := ⟨_, rfl⟩
          replace hf := lt_use eσ10 hf
          rw [← eσ10] at h
          clear eσ10
          obtain ⟨ℓ11, eℓ11⟩ : ∃ z, z = va_up ℓ (23 + p0.toNatClampNeg) u9.2 := ⟨_, rfl⟩
          replace hf := lt_use eℓ11 hf
          rw [← eℓ11] at h
          clear eℓ11
          refine lv_iconst (v := (1 : Int32)) hx hb dX8_tape_66 (by decide) ?_
          replace hf := Option.some.inj hf
          subst hf
          exact r_ire C h dX8_tape_67
        replace hf := it_f c7 hf
        refine lv_bipush (v := (-14 : Int32)) hx hb dX8_tape_52 (by decide) ?_
        replace hf := Option.some.inj hf
        subst hf
        exact r_ire C h dX8_tape_54
      replace hf := it_f c6 hf
      refine lv_bipush (v := (-2 : Int32)) hx hb dX8_tape_45 (by decide) ?_
      replace hf := Option.some.inj hf
      subst hf
      exact r_ire C h dX8_tape_47
    replace hf := it_t c3 hf
    refine lv_aload_n hx hb dX8_tape_17 rfl (lv_at hl 0 rfl) ?_
    refine gf_8_11 C h (rfl : Kd 0 = 8) rfl inX8_tape_8 lkX8_tape_67 dX8_tape_18 ?_
    refine lv_iload_n hx hb dX8_tape_21 rfl (lv_at hl 1 rfl) ?_
    obtain ⟨g12, hf⟩ := gd_use hf
    refine ld_11_0 C h (rfl : Kd 22 = 11) (inB_in g12) dX8_tape_22 ?_
    refine lv_iload_n hx hb dX8_tape_23 rfl (lv_at hl 2 rfl) ?_
    refine lv_iconst (v := (0 : Int32)) hx hb dX8_tape_24 (by decide) ?_
    obtain ⟨u13, hu13, hf⟩ := bd_use hf
    refine r_cv_6 (rest := []) C h (k_X6_becomes (kd_tape (inB_lt g12)) rfl rfl hu13) (kd_tape (inB_lt g12)) gX8_tape_X6_becomes rfl ⟨rfl, rfl⟩ hdX6_becomes ⟨Nat.le_of_ble_eq_true rfl, Nat.le_of_ble_eq_true rfl⟩ ⟨Nat.zero_le _, Nat.zero_le _⟩ hl.1 rfl (Nat.le_of_ble_eq_true rfl) dX8_tape_25 (fun H locs h => ?_)
    obtain ⟨σ14, eσ14⟩ : ∃ z, z = va_up σ (23 + p0.toNatClampNeg) u13.1 := ⟨_, rfl⟩
    replace hf := lt_use eσ14 hf
    rw [← eσ14] at h
    clear eσ14
    obtain ⟨ℓ15, eℓ15⟩ : ∃ z, z = va_up ℓ (23 + p0.toNatClampNeg) u13.2 := ⟨_, rfl⟩
    replace hf := lt_use eℓ15 hf
    rw [← eℓ15] at h
    clear eℓ15
    refine lv_iconst (v := (1 : Int32)) hx hb dX8_tape_28 (by decide) ?_
    replace hf := Option.some.inj hf
    subst hf
    exact r_ire C h dX8_tape_29
  replace hf := it_t c2 hf
  refine lv_iconst (v := (-1 : Int32)) hx hb dX8_tape_10 (by decide) ?_
  replace hf := Option.some.inj hf
  subst hf
  exact r_ire C h dX8_tape_11
theorem c_X8_tape {l : Launch} {E : Ev} {σ : Ms} {ℓ : Mz} {p0 : Int32} {p1 : Int32} {p2 : Int32} {out : Int32 × Ms × Mz} (hf : f_X8_tape σ ℓ p0 p1 p2 = some out) : Ct l yX8_tape wsX8_tape rm_X8_tape [.ref (Ea E 0 0), .int p0, .int p1, .int p2] E σ ℓ (some (.int out.1)) out.2.1 out.2.2 := by
  refine Ct_mk (cc := cX8_tape) (mL := 4) (ret := (some .int)) (own := RX8) (by decide +kernel) rfl rfl (Nat.le_of_ble_eq_true rfl) (fun p e s m below meth c C h ls hl => ?_)
  exact w_X8_tape_0  C σ ℓ _ _ h ls (lv_sub hl [0, 1, 2, 3] rfl) hf
theorem hdX8_item : yX8_item.cls = RX8 ∧ yX8_item.cls ≠ "java/lang/invoke/MethodHandle" ∧ yX8_item.cls ≠ "java/lang/invoke/VarHandle" ∧ (parseMethodDescriptor yX8_item.desc).map (fun d => d.parameters.length) = some 3 := by decide +kernel
def rm_X8_item : Room := { frames := 1, cells := 0, slots := 0, locals := 22 }
set_option maxRecDepth 100000 in
theorem inX8_item_8 : ∀ w ∈ wsX80, w ∈ wsX8_item := fun _ h => List.mem_cons_of_mem _ (List.mem_append_left _ (List.mem_append_right _ h))
set_option maxRecDepth 100000 in
theorem lkX8_item_67 : Cond.fieldLink RX8 67 "BellsBelow" "tapes" "[LBellsBelow$Tape;" ∈ wsX8_item := by decide +kernel
set_option maxRecDepth 100000 in
theorem inX8_item_6 : ∀ w ∈ wsX60, w ∈ wsX8_item := fun _ h => List.mem_cons_of_mem _ (List.mem_append_right _ h)
set_option maxRecDepth 100000 in
theorem lkX8_item_257 : Cond.fieldLink RX8 257 "BellsBelow$Tape" "sort" "I" ∈ wsX8_item := by decide +kernel
set_option maxRecDepth 100000 in
theorem lkX8_item_263 : Cond.fieldLink RX8 263 "BellsBelow$Tape" "items" "[J" ∈ wsX8_item := by decide +kernel
set_option maxHeartbeats 4000000 in
set_option maxRecDepth 100000 in
theorem w_X8_item_0 {p : Program} {l : Launch} {e : Env} {s : State} {m : MethodId} {args : Array Value} {below : List Frame} {meth : Method} {c : Code} {E : Ev} {σ : Ms} {p0 : Int32} {p1 : Int32} {p2 : Int64} {out : Int32 × Mz}   (C : Cx cX8_item 6 (some .int) wsX8_item RX8 E p s m args meth c)  : ∀ (ℓ : Mz) (H : Heap) (locs : List Loc) (h : HI E σ ℓ s H locs) (ls : Array Slot) (hl : lv_has ls 6 [(0, .ref (Ea E 0 0)), (1, .int p0), (2, .int p1), (3, .long p2)]), f_X8_item_0 σ p0 p1 p2  ℓ = some out → W p l e rm_X8_item s m args below meth c H locs 0 0 (MQ below (Po E s.heap.size (some (.int out.1)) σ out.2) args s 0 0 (AA E s.heap.size)) (F0 m 0 ls []) := by
  intro ℓ H locs h ls hl hf
  unfold f_X8_item_0 at hf
  have C0 := C
  obtain ⟨hx, hb, hr, hml, hown, hts, hlk, hK, hSF⟩ := C0
  refine lv_iload_n hx hb dX8_item_0 rfl (lv_at hl 1 rfl) ?_
  refine lv_i2l hx hb dX8_item_1 rfl ?_
  refine lv_bipush (v := (6 : Int32)) hx hb dX8_item_2 (by decide) ?_
  obtain ⟨u1, hu1, hf⟩ := bd_use hf
  refine r_cs (rest := []) C h (c_X8_within  hu1) gX8_item_X8_within rfl ⟨rfl, rfl⟩ hdX8_within ⟨Nat.le_of_ble_eq_true rfl, Nat.le_of_ble_eq_true rfl⟩ ⟨Nat.zero_le _, Nat.zero_le _⟩ hl.1 rfl (Nat.le_of_ble_eq_true rfl) dX8_item_4 (fun H locs h => ?_)
  refine lv_if_ne (tgt := 12) hx hb dX8_item_7 (by decide) (fun c2 => ?_) (fun c2 => ?_)
  · replace hf := it_f c2 hf
    refine lv_aload_n hx hb dX8_item_12 rfl (lv_at hl 0 rfl) ?_
    refine gf_8_11 C h (rfl : Kd 0 = 8) rfl inX8_item_8 lkX8_item_67 dX8_item_13 ?_
    refine lv_iload_n hx hb dX8_item_16 rfl (lv_at hl 1 rfl) ?_
    obtain ⟨g3, hf⟩ := gd_use hf
    refine ld_11_0 C h (rfl : Kd 22 = 11) (inB_in g3) dX8_item_17 ?_
    refine lv_astore (lv' := [(5, .ref (Ea E (23 + p0.toNatClampNeg) 0)), (0, .ref (Ea E 0 0)), (1, .int p0), (2, .int p1), (3, .long p2)]) hx hb dX8_item_18 hl (by decide) rfl (fun ls hl => ?_)
    refine lv_aload hx hb dX8_item_20 (lv_at hl 0 rfl) ?_
    refine gf_6_1 C h (kd_tape (inB_lt g3)) rfl inX8_item_6 lkX8_item_257 dX8_item_22 ?_
    refine lv_iconst (v := (-1 : Int32)) hx hb dX8_item_25 (by decide) ?_
    refine lv_icmp_ne (tgt := 32) hx hb dX8_item_26 (by decide) (fun c4 => ?_) (fun c4 => ?_)
    · replace hf := it_f c4 hf
      refine lv_aload hx hb dX8_item_32 (lv_at hl 0 rfl) ?_
      refine lv_iload_n hx hb dX8_item_34 rfl (lv_at hl 3 rfl) ?_
      refine lv_i2l hx hb dX8_item_35 rfl ?_
      obtain ⟨u5, hu5, hf⟩ := bd_use hf
      refine r_cv_6 (rest := []) C h (c_X6_has (kd_tape (inB_lt g3)) rfl hu5) (kd_tape (inB_lt g3)) gX8_item_X6_has rfl ⟨rfl, rfl⟩ hdX6_has ⟨Nat.le_of_ble_eq_true rfl, Nat.le_of_ble_eq_true rfl⟩ ⟨Nat.zero_le _, Nat.zero_le _⟩ hl.1 rfl (Nat.le_of_ble_eq_true rfl) dX8_item_36 (fun H locs h => ?_)
      refine lv_if_ne (tgt := 45) hx hb dX8_item_39 (by decide) (fun c6 => ?_) (fun c6 => ?_)
      · replace hf := it_f c6 hf
        refine lv_aload hx hb dX8_item_45 (lv_at hl 0 rfl) ?_
        refine gf_6_0 C h (kd_tape (inB_lt g3)) rfl inX8_item_6 lkX8_item_263 dX8_item_47 ?_
        refine lv_iload_n hx hb dX8_item_50 rfl (lv_at hl 3 rfl) ?_
        refine lv_aload hx hb dX8_item_51 (lv_at hl 0 rfl) ?_
        refine lv_lload_n hx hb dX8_item_53 rfl (lv_at hl 4 rfl) ?_
        obtain ⟨u7, hu7, hf⟩ := bd_use hf
        refine r_cv_6 (rest := [.int p1, .ref (Ea E (23 + p0.toNatClampNeg) 1)]) C h (c_X6_fitted (kd_tape (inB_lt g3)) rfl hu7) (kd_tape (inB_lt g3)) gX8_item_X6_fitted rfl ⟨rfl, rfl⟩ hdX6_fitted ⟨Nat.le_of_ble_eq_true rfl, Nat.le_of_ble_eq_true rfl⟩ ⟨Nat.zero_le _, Nat.zero_le _⟩ hl.1 rfl (Nat.le_of_ble_eq_true rfl) dX8_item_54 (fun H locs h => ?_)
        obtain ⟨g8, hf⟩ := gd_use hf
        refine sa_6_1 C h (kd_tape (inB_lt g3)) rfl (F := fun t => va_up ℓ (23 + p0.toNatClampNeg) t) (fun _ => rfl) (inB_in g8) dX8_item_57 (fun η9 eη9 H locs h => ?_)
        replace hf := lt_use eη9 hf
        clear eη9
        obtain ⟨ℓ10, eℓ10⟩ : ∃ z, z = va_up ℓ (23 + p0.toNatClampNeg) η9 := ⟨_, rfl⟩
        replace hf := lt_use eℓ10 hf
        replace h : HI E σ (va_up ℓ (23 + p0.toNatClampNeg) η9) s H locs := h
        rw [← eℓ10] at h
        clear eℓ10
        refine lv_iconst (v := (1 : Int32)) hx hb dX8_item_58 (by decide) ?_
        replace hf := Option.some.inj hf
        subst hf
        exact r_ire C h dX8_item_59
      replace hf := it_t c6 hf
      refine lv_bipush (v := (-13 : Int32)) hx hb dX8_item_42 (by decide) ?_
      replace hf := Option.some.inj hf
      subst hf
      exact r_ire C h dX8_item_44
    replace hf := it_t c4 hf
    refine lv_bipush (v := (-11 : Int32)) hx hb dX8_item_29 (by decide) ?_
    replace hf := Option.some.inj hf
    subst hf
    exact r_ire C h dX8_item_31
  replace hf := it_t c2 hf
  refine lv_iconst (v := (-1 : Int32)) hx hb dX8_item_10 (by decide) ?_
  replace hf := Option.some.inj hf
  subst hf
  exact r_ire C h dX8_item_11
theorem c_X8_item {l : Launch} {E : Ev} {σ : Ms} {ℓ : Mz} {p0 : Int32} {p1 : Int32} {p2 : Int64} {out : Int32 × Mz} (hf : f_X8_item σ ℓ p0 p1 p2 = some out) : Ct l yX8_item wsX8_item rm_X8_item [.ref (Ea E 0 0), .int p0, .int p1, .long p2] E σ ℓ (some (.int out.1)) σ out.2 := by
  refine Ct_mk (cc := cX8_item) (mL := 6) (ret := (some .int)) (own := RX8) (by decide +kernel) rfl rfl (Nat.le_of_ble_eq_true rfl) (fun p e s m below meth c C h ls hl => ?_)
  exact w_X8_item_0  C ℓ _ _ h ls (lv_sub hl [0, 1, 2, 3] rfl) hf
theorem hdX8_read : yX8_read.cls = RX8 ∧ yX8_read.cls ≠ "java/lang/invoke/MethodHandle" ∧ yX8_read.cls ≠ "java/lang/invoke/VarHandle" ∧ (parseMethodDescriptor yX8_read.desc).map (fun d => d.parameters.length) = some 2 := by decide +kernel
def rm_X8_read : Room := { frames := 1, cells := 0, slots := 0, locals := 22 }
set_option maxRecDepth 100000 in
theorem wdX8_read_Cond_constantLong_RX8_228___9223372036854775808_ : Cond.constantLong RX8 228 (-9223372036854775808) ∈ wsX8_read := by decide +kernel
set_option maxRecDepth 100000 in
theorem inX8_read_8 : ∀ w ∈ wsX80, w ∈ wsX8_read := fun _ h => List.mem_cons_of_mem _ (List.mem_append_left _ (List.mem_append_right _ h))
set_option maxRecDepth 100000 in
theorem lkX8_read_67 : Cond.fieldLink RX8 67 "BellsBelow" "tapes" "[LBellsBelow$Tape;" ∈ wsX8_read := by decide +kernel
set_option maxRecDepth 100000 in
theorem inX8_read_6 : ∀ w ∈ wsX60, w ∈ wsX8_read := fun _ h => List.mem_cons_of_mem _ (List.mem_append_right _ h)
set_option maxRecDepth 100000 in
theorem lkX8_read_263 : Cond.fieldLink RX8 263 "BellsBelow$Tape" "items" "[J" ∈ wsX8_read := by decide +kernel
set_option maxHeartbeats 4000000 in
set_option maxRecDepth 100000 in
theorem w_X8_read_0 {p : Program} {l : Launch} {e : Env} {s : State} {m : MethodId} {args : Array Value} {below : List Frame} {meth : Method} {c : Code} {E : Ev} {σ : Ms} {ℓ : Mz} {p0 : Int32} {p1 : Int32} {out : Int64}   (C : Cx cX8_read 3 (some .long) wsX8_read RX8 E p s m args meth c)  : ∀  (H : Heap) (locs : List Loc) (h : HI E σ ℓ s H locs) (ls : Array Slot) (hl : lv_has ls 3 [(0, .ref (Ea E 0 0)), (1, .int p0), (2, .int p1)]), f_X8_read_0 σ ℓ p0 p1   = some out → W p l e rm_X8_read s m args below meth c H locs 0 0 (MQ below (Po E s.heap.size (some (.long out)) σ ℓ) args s 0 0 (AA E s.heap.size)) (F0 m 0 ls []) := by
  intro  H locs h ls hl hf
  unfold f_X8_read_0 at hf
  have C0 := C
  obtain ⟨hx, hb, hr, hml, hown, hts, hlk, hK, hSF⟩ := C0
  refine lv_iload_n hx hb dX8_read_0 rfl (lv_at hl 1 rfl) ?_
  refine lv_i2l hx hb dX8_read_1 rfl ?_
  refine lv_bipush (v := (6 : Int32)) hx hb dX8_read_2 (by decide) ?_
  obtain ⟨u1, hu1, hf⟩ := bd_use hf
  refine r_cs (rest := []) C h (c_X8_within  hu1) gX8_read_X8_within rfl ⟨rfl, rfl⟩ hdX8_within ⟨Nat.le_of_ble_eq_true rfl, Nat.le_of_ble_eq_true rfl⟩ ⟨Nat.zero_le _, Nat.zero_le _⟩ hl.1 rfl (Nat.le_of_ble_eq_true rfl) dX8_read_4 (fun H locs h => ?_)
  refine lv_if_eq (tgt := 38) hx hb dX8_read_7 (by decide) (fun c2 => ?_) (fun c2 => ?_)
  · replace hf := it_t c2 hf
    refine lv_ldc2 hx hb hown (hts _ wdX8_read_Cond_constantLong_RX8_228___9223372036854775808_) dX8_read_38 ?_
    replace hf := Option.some.inj hf
    subst hf
    exact r_lre C h dX8_read_41
  replace hf := it_f c2 hf
  refine lv_aload_n hx hb dX8_read_10 rfl (lv_at hl 0 rfl) ?_
  refine gf_8_11 C h (rfl : Kd 0 = 8) rfl inX8_read_8 lkX8_read_67 dX8_read_11 ?_
  refine lv_iload_n hx hb dX8_read_14 rfl (lv_at hl 1 rfl) ?_
  obtain ⟨g3, hf⟩ := gd_use hf
  refine ld_11_0 C h (rfl : Kd 22 = 11) (inB_in g3) dX8_read_15 ?_
  refine lv_iload_n hx hb dX8_read_16 rfl (lv_at hl 2 rfl) ?_
  refine lv_i2l hx hb dX8_read_17 rfl ?_
  obtain ⟨u4, hu4, hf⟩ := bd_use hf
  refine r_cv_6 (rest := []) C h (c_X6_has (kd_tape (inB_lt g3)) rfl hu4) (kd_tape (inB_lt g3)) gX8_read_X6_has rfl ⟨rfl, rfl⟩ hdX6_has ⟨Nat.le_of_ble_eq_true rfl, Nat.le_of_ble_eq_true rfl⟩ ⟨Nat.zero_le _, Nat.zero_le _⟩ hl.1 rfl (Nat.le_of_ble_eq_true rfl) dX8_read_18 (fun H locs h => ?_)
  refine lv_if_eq (tgt := 38) hx hb dX8_read_21 (by decide) (fun c5 => ?_) (fun c5 => ?_)
  · replace hf := it_t c5 hf
    refine lv_ldc2 hx hb hown (hts _ wdX8_read_Cond_constantLong_RX8_228___9223372036854775808_) dX8_read_38 ?_
    replace hf := Option.some.inj hf
    subst hf
    exact r_lre C h dX8_read_41
  replace hf := it_f c5 hf
  refine lv_aload_n hx hb dX8_read_24 rfl (lv_at hl 0 rfl) ?_
  refine gf_8_11 C h (rfl : Kd 0 = 8) rfl inX8_read_8 lkX8_read_67 dX8_read_25 ?_
  refine lv_iload_n hx hb dX8_read_28 rfl (lv_at hl 1 rfl) ?_
  obtain ⟨g6, hf⟩ := gd_use hf
  refine ld_11_0 C h (rfl : Kd 22 = 11) (inB_in g6) dX8_read_29 ?_
  refine gf_6_0 C h (kd_tape (inB_lt g6)) rfl inX8_read_6 lkX8_read_263 dX8_read_30 ?_
  refine lv_iload_n hx hb dX8_read_33 rfl (lv_at hl 2 rfl) ?_
  obtain ⟨g7, hf⟩ := gd_use hf
  refine ld_6_1 C h (kd_tape (inB_lt g6)) rfl (inB_in g7) dX8_read_34 ?_
  refine lv_goto (tgt := 41) hx hb dX8_read_35 (by decide) ?_
  replace hf := Option.some.inj hf
  subst hf
  exact r_lre C h dX8_read_41
theorem c_X8_read {l : Launch} {E : Ev} {σ : Ms} {ℓ : Mz} {p0 : Int32} {p1 : Int32} {out : Int64} (hf : f_X8_read σ ℓ p0 p1 = some out) : Ct l yX8_read wsX8_read rm_X8_read [.ref (Ea E 0 0), .int p0, .int p1] E σ ℓ (some (.long out)) σ ℓ := by
  refine Ct_mk (cc := cX8_read) (mL := 3) (ret := (some .long)) (own := RX8) (by decide +kernel) rfl rfl (Nat.le_of_ble_eq_true rfl) (fun p e s m below meth c C h ls hl => ?_)
  exact w_X8_read_0  C  _ _ h ls (lv_sub hl [0, 1, 2] rfl) hf
theorem hdX8_shift : yX8_shift.cls = RX8 ∧ yX8_shift.cls ≠ "java/lang/invoke/MethodHandle" ∧ yX8_shift.cls ≠ "java/lang/invoke/VarHandle" ∧ (parseMethodDescriptor yX8_shift.desc).map (fun d => d.parameters.length) = some 5 := by decide +kernel
def rm_X8_shift : Room := { frames := 1, cells := 0, slots := 0, locals := 60 }
set_option maxRecDepth 100000 in
theorem inX8_shift_8 : ∀ w ∈ wsX80, w ∈ wsX8_shift := fun _ h => List.mem_cons_of_mem _ (List.mem_append_left _ (List.mem_append_right _ h))
set_option maxRecDepth 100000 in
theorem lkX8_shift_67 : Cond.fieldLink RX8 67 "BellsBelow" "tapes" "[LBellsBelow$Tape;" ∈ wsX8_shift := by decide +kernel
set_option maxRecDepth 100000 in
theorem inX8_shift_6 : ∀ w ∈ wsX60, w ∈ wsX8_shift := fun _ h => List.mem_cons_of_mem _ (List.mem_append_right _ h)
set_option maxRecDepth 100000 in
theorem lkX8_shift_257 : Cond.fieldLink RX8 257 "BellsBelow$Tape" "sort" "I" ∈ wsX8_shift := by decide +kernel
set_option maxRecDepth 100000 in
theorem lkX8_shift_263 : Cond.fieldLink RX8 263 "BellsBelow$Tape" "items" "[J" ∈ wsX8_shift := by decide +kernel
set_option maxRecDepth 100000 in
theorem wdX8_shift_Cond_methodLink_RX8_302_arraycopyName : Cond.methodLink RX8 302 arraycopyName ∈ wsX8_shift := by decide +kernel
set_option maxRecDepth 100000 in
theorem wdX8_shift_Cond_native_arraycopyName : Cond.native arraycopyName ∈ wsX8_shift := by decide +kernel
set_option maxRecDepth 100000 in
theorem wdX8_shift_Cond_static_arraycopyName : Cond.static arraycopyName ∈ wsX8_shift := by decide +kernel
set_option maxRecDepth 100000 in
theorem wdX8_shift_Cond_initialized__java_lang_System_ : Cond.initialized "java/lang/System" ∈ wsX8_shift := by decide +kernel
set_option maxHeartbeats 4000000 in
set_option maxRecDepth 100000 in
theorem w_X8_shift_0 {p : Program} {l : Launch} {e : Env} {s : State} {m : MethodId} {args : Array Value} {below : List Frame} {meth : Method} {c : Code} {E : Ev} {σ : Ms} {p0 : Int32} {p1 : Int32} {p2 : Int32} {p3 : Int32} {p4 : Int32} {out : Int32 × Mz}   (C : Cx cX8_shift 8 (some .int) wsX8_shift RX8 E p s m args meth c)  : ∀ (ℓ : Mz) (H : Heap) (locs : List Loc) (h : HI E σ ℓ s H locs) (ls : Array Slot) (hl : lv_has ls 8 [(0, .ref (Ea E 0 0)), (1, .int p0), (2, .int p1), (3, .int p2), (4, .int p3), (5, .int p4)]), f_X8_shift_0 σ p0 p1 p2 p3 p4  ℓ = some out → W p l e rm_X8_shift s m args below meth c H locs 0 0 (MQ below (Po E s.heap.size (some (.int out.1)) σ out.2) args s 0 0 (AA E s.heap.size)) (F0 m 0 ls []) := by
  intro ℓ H locs h ls hl hf
  unfold f_X8_shift_0 at hf
  have C0 := C
  obtain ⟨hx, hb, hr, hml, hown, hts, hlk, hK, hSF⟩ := C0
  refine lv_iload_n hx hb dX8_shift_0 rfl (lv_at hl 1 rfl) ?_
  refine lv_i2l hx hb dX8_shift_1 rfl ?_
  refine lv_bipush (v := (6 : Int32)) hx hb dX8_shift_2 (by decide) ?_
  obtain ⟨u1, hu1, hf⟩ := bd_use hf
  refine r_cs (rest := []) C h (c_X8_within  hu1) gX8_shift_X8_within rfl ⟨rfl, rfl⟩ hdX8_within ⟨Nat.le_of_ble_eq_true rfl, Nat.le_of_ble_eq_true rfl⟩ ⟨Nat.zero_le _, Nat.zero_le _⟩ hl.1 rfl (Nat.le_of_ble_eq_true rfl) dX8_shift_4 (fun H locs h => ?_)
  refine lv_if_eq (tgt := 20) hx hb dX8_shift_7 (by decide) (fun c2 => ?_) (fun c2 => ?_)
  · replace hf := it_t c2 hf
    refine lv_iconst (v := (-1 : Int32)) hx hb dX8_shift_20 (by decide) ?_
    replace hf := Option.some.inj hf
    subst hf
    exact r_ire C h dX8_shift_21
  replace hf := it_f c2 hf
  refine lv_iload_n hx hb dX8_shift_10 rfl (lv_at hl 3 rfl) ?_
  refine lv_i2l hx hb dX8_shift_11 rfl ?_
  refine lv_bipush (v := (6 : Int32)) hx hb dX8_shift_12 (by decide) ?_
  obtain ⟨u3, hu3, hf⟩ := bd_use hf
  refine r_cs (rest := []) C h (c_X8_within  hu3) gX8_shift_X8_within rfl ⟨rfl, rfl⟩ hdX8_within ⟨Nat.le_of_ble_eq_true rfl, Nat.le_of_ble_eq_true rfl⟩ ⟨Nat.zero_le _, Nat.zero_le _⟩ hl.1 rfl (Nat.le_of_ble_eq_true rfl) dX8_shift_14 (fun H locs h => ?_)
  refine lv_if_ne (tgt := 22) hx hb dX8_shift_17 (by decide) (fun c4 => ?_) (fun c4 => ?_)
  · replace hf := it_f c4 hf
    refine lv_aload_n hx hb dX8_shift_22 rfl (lv_at hl 0 rfl) ?_
    refine gf_8_11 C h (rfl : Kd 0 = 8) rfl inX8_shift_8 lkX8_shift_67 dX8_shift_23 ?_
    refine lv_iload_n hx hb dX8_shift_26 rfl (lv_at hl 1 rfl) ?_
    obtain ⟨g5, hf⟩ := gd_use hf
    refine ld_11_0 C h (rfl : Kd 22 = 11) (inB_in g5) dX8_shift_27 ?_
    refine lv_astore (lv' := [(6, .ref (Ea E (23 + p0.toNatClampNeg) 0)), (0, .ref (Ea E 0 0)), (1, .int p0), (2, .int p1), (3, .int p2), (4, .int p3), (5, .int p4)]) hx hb dX8_shift_28 hl (by decide) rfl (fun ls hl => ?_)
    refine lv_aload_n hx hb dX8_shift_30 rfl (lv_at hl 1 rfl) ?_
    refine gf_8_11 C h (rfl : Kd 0 = 8) rfl inX8_shift_8 lkX8_shift_67 dX8_shift_31 ?_
    refine lv_iload_n hx hb dX8_shift_34 rfl (lv_at hl 4 rfl) ?_
    obtain ⟨g6, hf⟩ := gd_use hf
    refine ld_11_0 C h (rfl : Kd 22 = 11) (inB_in g6) dX8_shift_35 ?_
    refine lv_astore (lv' := [(7, .ref (Ea E (23 + p2.toNatClampNeg) 0)), (6, .ref (Ea E (23 + p0.toNatClampNeg) 0)), (0, .ref (Ea E 0 0)), (1, .int p0), (2, .int p1), (3, .int p2), (4, .int p3), (5, .int p4)]) hx hb dX8_shift_36 hl (by decide) rfl (fun ls hl => ?_)
    refine lv_aload hx hb dX8_shift_38 (lv_at hl 1 rfl) ?_
    refine gf_6_1 C h (kd_tape (inB_lt g5)) rfl inX8_shift_6 lkX8_shift_257 dX8_shift_40 ?_
    refine lv_iconst (v := (-1 : Int32)) hx hb dX8_shift_43 (by decide) ?_
    refine lv_icmp_eq (tgt := 56) hx hb dX8_shift_44 (by decide) (fun c7 => ?_) (fun c7 => ?_)
    · replace hf := it_t c7 hf
      refine lv_bipush (v := (-11 : Int32)) hx hb dX8_shift_56 (by decide) ?_
      replace hf := Option.some.inj hf
      subst hf
      exact r_ire C h dX8_shift_58
    replace hf := it_f c7 hf
    refine lv_aload hx hb dX8_shift_47 (lv_at hl 0 rfl) ?_
    refine gf_6_1 C h (kd_tape (inB_lt g6)) rfl inX8_shift_6 lkX8_shift_257 dX8_shift_49 ?_
    refine lv_iconst (v := (-1 : Int32)) hx hb dX8_shift_52 (by decide) ?_
    refine lv_icmp_ne (tgt := 59) hx hb dX8_shift_53 (by decide) (fun c8 => ?_) (fun c8 => ?_)
    · replace hf := it_f c8 hf
      refine lv_aload hx hb dX8_shift_59 (lv_at hl 1 rfl) ?_
      refine gf_6_1 C h (kd_tape (inB_lt g5)) rfl inX8_shift_6 lkX8_shift_257 dX8_shift_61 ?_
      refine lv_aload hx hb dX8_shift_64 (lv_at hl 0 rfl) ?_
      refine gf_6_1 C h (kd_tape (inB_lt g6)) rfl inX8_shift_6 lkX8_shift_257 dX8_shift_66 ?_
      refine lv_icmp_eq (tgt := 75) hx hb dX8_shift_69 (by decide) (fun c9 => ?_) (fun c9 => ?_)
      · replace hf := it_t c9 hf
        refine lv_aload hx hb dX8_shift_75 (lv_at hl 1 rfl) ?_
        refine lv_iload_n hx hb dX8_shift_77 rfl (lv_at hl 4 rfl) ?_
        refine lv_iload hx hb dX8_shift_78 (lv_at hl 7 rfl) ?_
        obtain ⟨u10, hu10, hf⟩ := bd_use hf
        refine r_cv_6 (rest := []) C h (c_X6_hasRun (kd_tape (inB_lt g5)) rfl hu10) (kd_tape (inB_lt g5)) gX8_shift_X6_hasRun rfl ⟨rfl, rfl⟩ hdX6_hasRun ⟨Nat.le_of_ble_eq_true rfl, Nat.le_of_ble_eq_true rfl⟩ ⟨Nat.zero_le _, Nat.zero_le _⟩ hl.1 rfl (Nat.le_of_ble_eq_true rfl) dX8_shift_80 (fun H locs h => ?_)
        refine lv_if_eq (tgt := 98) hx hb dX8_shift_83 (by decide) (fun c11 => ?_) (fun c11 => ?_)
        · replace hf := it_t c11 hf
          refine lv_bipush (v := (-13 : Int32)) hx hb dX8_shift_98 (by decide) ?_
          replace hf := Option.some.inj hf
          subst hf
          exact r_ire C h dX8_shift_100
        replace hf := it_f c11 hf
        refine lv_aload hx hb dX8_shift_86 (lv_at hl 0 rfl) ?_
        refine lv_iload hx hb dX8_shift_88 (lv_at hl 6 rfl) ?_
        refine lv_iload hx hb dX8_shift_90 (lv_at hl 7 rfl) ?_
        obtain ⟨u12, hu12, hf⟩ := bd_use hf
        refine r_cv_6 (rest := []) C h (c_X6_hasRun (kd_tape (inB_lt g6)) rfl hu12) (kd_tape (inB_lt g6)) gX8_shift_X6_hasRun rfl ⟨rfl, rfl⟩ hdX6_hasRun ⟨Nat.le_of_ble_eq_true rfl, Nat.le_of_ble_eq_true rfl⟩ ⟨Nat.zero_le _, Nat.zero_le _⟩ hl.1 rfl (Nat.le_of_ble_eq_true rfl) dX8_shift_92 (fun H locs h => ?_)
        refine lv_if_ne (tgt := 101) hx hb dX8_shift_95 (by decide) (fun c13 => ?_) (fun c13 => ?_)
        · replace hf := it_f c13 hf
          refine lv_aload hx hb dX8_shift_101 (lv_at hl 1 rfl) ?_
          refine gf_6_0 C h (kd_tape (inB_lt g5)) rfl inX8_shift_6 lkX8_shift_263 dX8_shift_103 ?_
          refine lv_iload_n hx hb dX8_shift_106 rfl (lv_at hl 4 rfl) ?_
          refine lv_aload hx hb dX8_shift_107 (lv_at hl 0 rfl) ?_
          refine gf_6_0 C h (kd_tape (inB_lt g6)) rfl inX8_shift_6 lkX8_shift_263 dX8_shift_109 ?_
          refine lv_iload hx hb dX8_shift_112 (lv_at hl 6 rfl) ?_
          refine lv_iload hx hb dX8_shift_114 (lv_at hl 7 rfl) ?_
          obtain ⟨g14, hf⟩ := gd_use hf
          refine cp_6_1 C h (kd_tape (inB_lt g6)) rfl (F := fun t => va_up ℓ (23 + p2.toNatClampNeg) t) (fun _ => rfl) (kd_tape (inB_lt g5)) rfl hml hl.1 wdX8_shift_Cond_methodLink_RX8_302_arraycopyName wdX8_shift_Cond_native_arraycopyName wdX8_shift_Cond_static_arraycopyName wdX8_shift_Cond_initialized__java_lang_System_ g14 (Nat.le_of_ble_eq_true rfl) (Nat.le_of_ble_eq_true rfl) dX8_shift_116 (fun η15 eη15 H locs h => ?_)
          replace hf := lt_use eη15 hf
          clear eη15
          obtain ⟨ℓ16, eℓ16⟩ : ∃ z, z = va_up ℓ (23 + p2.toNatClampNeg) η15 := ⟨_, rfl⟩
          replace hf := lt_use eℓ16 hf
          replace h : HI E σ (va_up ℓ (23 + p2.toNatClampNeg) η15) s H locs := h
          rw [← eℓ16] at h
          clear eℓ16
          refine lv_iload hx hb dX8_shift_119 (lv_at hl 7 rfl) ?_
          replace hf := Option.some.inj hf
          subst hf
          exact r_ire C h dX8_shift_121
        replace hf := it_t c13 hf
        refine lv_bipush (v := (-13 : Int32)) hx hb dX8_shift_98 (by decide) ?_
        replace hf := Option.some.inj hf
        subst hf
        exact r_ire C h dX8_shift_100
      replace hf := it_f c9 hf
      refine lv_bipush (v := (-12 : Int32)) hx hb dX8_shift_72 (by decide) ?_
      replace hf := Option.some.inj hf
      subst hf
      exact r_ire C h dX8_shift_74
    replace hf := it_t c8 hf
    refine lv_bipush (v := (-11 : Int32)) hx hb dX8_shift_56 (by decide) ?_
    replace hf := Option.some.inj hf
    subst hf
    exact r_ire C h dX8_shift_58
  replace hf := it_t c4 hf
  refine lv_iconst (v := (-1 : Int32)) hx hb dX8_shift_20 (by decide) ?_
  replace hf := Option.some.inj hf
  subst hf
  exact r_ire C h dX8_shift_21
theorem c_X8_shift {l : Launch} {E : Ev} {σ : Ms} {ℓ : Mz} {p0 : Int32} {p1 : Int32} {p2 : Int32} {p3 : Int32} {p4 : Int32} {out : Int32 × Mz} (hf : f_X8_shift σ ℓ p0 p1 p2 p3 p4 = some out) : Ct l yX8_shift wsX8_shift rm_X8_shift [.ref (Ea E 0 0), .int p0, .int p1, .int p2, .int p3, .int p4] E σ ℓ (some (.int out.1)) σ out.2 := by
  refine Ct_mk (cc := cX8_shift) (mL := 8) (ret := (some .int)) (own := RX8) (by decide +kernel) rfl rfl (Nat.le_of_ble_eq_true rfl) (fun p e s m below meth c C h ls hl => ?_)
  exact w_X8_shift_0  C ℓ _ _ h ls (lv_sub hl [0, 1, 2, 3, 4, 5] rfl) hf
