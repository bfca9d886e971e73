/-! WALKS: made by wip/whole/gen -/
theorem hdX9_giveGoals : yX9_giveGoals.cls = RX9 ∧ yX9_giveGoals.cls ≠ "java/lang/invoke/MethodHandle" ∧ yX9_giveGoals.cls ≠ "java/lang/invoke/VarHandle" ∧ (parseMethodDescriptor yX9_giveGoals.desc).map (fun d => d.parameters.length) = some 0 := by decide +kernel
def rm_X9_giveGoals : Room := { frames := 6, cells := 0, slots := 0, locals := 146 }
set_option maxRecDepth 100000 in
theorem inX9_giveGoals_9 : ∀ w ∈ wsX90, w ∈ wsX9_giveGoals := fun _ h => List.mem_cons_of_mem _ (List.mem_append_right _ h)
set_option maxRecDepth 100000 in
theorem lkX9_giveGoals_35 : Cond.fieldLink RX9 35 "BellsBelowModel" "goal" "[I" ∈ wsX9_giveGoals := by decide +kernel
set_option maxHeartbeats 4000000 in
set_option maxRecDepth 100000 in
theorem w_X9_giveGoals_36 {p : Program} {l : Launch} {e : Env} {s : State} {m : MethodId} {args : Array Value} {below : List Frame} {meth : Method} {c : Code} {E : Ev} {σ : Ms} {ℓ : Mz} {out : Mm}   (C : Cx cX9_giveGoals 3 none wsX9_giveGoals RX9 E p s m args meth c) {k2 : Mm → Int32 → Option (Mm)} (hk2 : ∀ (τ : Mm) (v1 : Int32) (H : Heap) (locs : List Loc), HI E (va_up σ 29 τ) ℓ s H locs → ∀ ls : Array Slot, lv_has ls 3 [(0, .ref (Ea E 29 0)), (1, .int v1)] → k2 τ v1 = some out → W p l e rm_X9_giveGoals s m args below meth c H locs 0 0 (MQ below (Po E s.heap.size none (va_up σ 29 out) ℓ) args s 0 0 (AA E s.heap.size)) (F0 m 2 ls [])) : ∀ (τ : Mm) (v1 : Int32) (H : Heap) (locs : List Loc) (h : HI E (va_up σ 29 τ) ℓ s H locs) (ls : Array Slot) (hl : lv_has ls 3 [(0, .ref (Ea E 29 0)), (1, .int v1)]), f_X9_giveGoals_36  k2 τ v1 = some out → W p l e rm_X9_giveGoals s m args below meth c H locs 0 0 (MQ below (Po E s.heap.size none (va_up σ 29 out) ℓ) args s 0 0 (AA E s.heap.size)) (F0 m 36 ls []) := by
  intro τ v1 H locs h ls hl hf
  unfold f_X9_giveGoals_36 at hf
  have C0 := C
  obtain ⟨hx, hb, hr, hml, hown, hts, hlk, hK, hSF⟩ := C0
  obtain ⟨x6, ex6⟩ : ∃ y : Int32, y = (v1 + (1 : Int32)) := ⟨_, rfl⟩
  refine lv_iinc (v := x6) (lv' := [(1, .int x6), (0, .ref (Ea E 29 0))]) hx hb dX9_giveGoals_36 hl (k := 1) rfl (by rw [ex6]; rfl) (by decide) rfl (fun ls hl => ?_)
  replace hf := lt_use ex6 hf
  clear ex6
  refine lv_goto (tgt := 2) hx hb dX9_giveGoals_39 (by decide) ?_
  exact hk2 _ _ _ _ h ls (lv_sub hl [1, 0] rfl) hf
set_option maxHeartbeats 4000000 in
set_option maxRecDepth 100000 in
theorem w_X9_giveGoals_2 {p : Program} {l : Launch} {e : Env} {s : State} {m : MethodId} {args : Array Value} {below : List Frame} {meth : Method} {c : Code} {E : Ev} {σ : Ms} {ℓ : Mz} {out : Mm}   (C : Cx cX9_giveGoals 3 none wsX9_giveGoals RX9 E p s m args meth c) {k2 : Mm → Int32 → Option (Mm)} (hk2 : ∀ (τ : Mm) (v1 : Int32) (H : Heap) (locs : List Loc), HI E (va_up σ 29 τ) ℓ s H locs → ∀ ls : Array Slot, lv_has ls 3 [(0, .ref (Ea E 29 0)), (1, .int v1)] → k2 τ v1 = some out → W p l e rm_X9_giveGoals s m args below meth c H locs 0 0 (MQ below (Po E s.heap.size none (va_up σ 29 out) ℓ) args s 0 0 (AA E s.heap.size)) (F0 m 2 ls [])) : ∀ (τ : Mm) (v1 : Int32) (H : Heap) (locs : List Loc) (h : HI E (va_up σ 29 τ) ℓ s H locs) (ls : Array Slot) (hl : lv_has ls 3 [(0, .ref (Ea E 29 0)), (1, .int v1)]), f_X9_giveGoals_2  k2 τ v1 = some out → W p l e rm_X9_giveGoals s m args below meth c H locs 0 0 (MQ below (Po E s.heap.size none (va_up σ 29 out) ℓ) args s 0 0 (AA E s.heap.size)) (F0 m 2 ls []) := by
  intro τ v1 H locs h ls hl hf
  unfold f_X9_giveGoals_2 at hf
  have C0 := C
  obtain ⟨hx, hb, hr, hml, hown, hts, hlk, hK, hSF⟩ := C0
  refine lv_iload_n hx hb dX9_giveGoals_2 rfl (lv_at hl 1 rfl) ?_
  refine lv_bipush (v := (10 : Int32)) hx hb dX9_giveGoals_3 (by decide) ?_
  refine lv_icmp_ge (tgt := 42) hx hb dX9_giveGoals_5 (by decide) (fun c1 => ?_) (fun c1 => ?_)
  · replace hf := it_t c1 hf
    replace hf := Option.some.inj hf
    subst hf
    exact r_vre C h dX9_giveGoals_42
  replace hf := it_f c1 hf
  refine lv_aload_n hx hb dX9_giveGoals_8 rfl (lv_at hl 0 rfl) ?_
  refine lv_iload_n hx hb dX9_giveGoals_9 rfl (lv_at hl 1 rfl) ?_
  obtain ⟨u2, hu2, hf⟩ := bd_use hf
  refine r_cv_9 (rest := []) C h (c_X9_isOpen up_eq hu2) (rfl : Kd 29 = 9) gX9_giveGoals_X9_isOpen rfl ⟨rfl, rfl⟩ hdX9_isOpen ⟨Nat.le_of_ble_eq_true rfl, Nat.le_of_ble_eq_true rfl⟩ ⟨Nat.zero_le _, Nat.zero_le _⟩ hl.1 rfl (Nat.le_of_ble_eq_true rfl) dX9_giveGoals_10 (fun H locs h => ?_)
  refine lv_if_ne (tgt := 19) hx hb dX9_giveGoals_13 (by decide) (fun c3 => ?_) (fun c3 => ?_)
  · replace hf := it_f c3 hf
    refine lv_aload_n hx hb dX9_giveGoals_19 rfl (lv_at hl 0 rfl) ?_
    refine lv_iload_n hx hb dX9_giveGoals_20 rfl (lv_at hl 1 rfl) ?_
    obtain ⟨u4, hu4, hf⟩ := bd_use hf
    refine r_cv_9 (rest := []) C h (c_X9_cheapest  hu4) (rfl : Kd 29 = 9) gX9_giveGoals_X9_cheapest rfl ⟨rfl, rfl⟩ hdX9_cheapest ⟨Nat.le_of_ble_eq_true rfl, Nat.le_of_ble_eq_true rfl⟩ ⟨Nat.zero_le _, Nat.zero_le _⟩ hl.1 rfl (Nat.le_of_ble_eq_true rfl) dX9_giveGoals_21 (fun H locs h => ?_)
    refine lv_istore_n (lv' := [(2, .int u4.1), (0, .ref (Ea E 29 0)), (1, .int v1)]) hx hb dX9_giveGoals_24 rfl hl (by decide) rfl (fun ls hl => ?_)
    refine lv_iload_n hx hb dX9_giveGoals_25 rfl (lv_at hl 0 rfl) ?_
    refine lv_if_lt (tgt := 36) hx hb dX9_giveGoals_26 (by decide) (fun c5 => ?_) (fun c5 => ?_)
    · replace hf := it_t c5 hf
      exact w_X9_giveGoals_36    C hk2 _ _ _ _ h ls (lv_sub hl [1, 2] rfl) hf
    replace hf := it_f c5 hf
    refine lv_aload_n hx hb dX9_giveGoals_29 rfl (lv_at hl 1 rfl) ?_
    refine gf_9_8 C h (rfl : Kd 29 = 9) up_eq inX9_giveGoals_9 lkX9_giveGoals_35 dX9_giveGoals_30 ?_
    refine lv_iload_n hx hb dX9_giveGoals_33 rfl (lv_at hl 0 rfl) ?_
    refine lv_iload_n hx hb dX9_giveGoals_34 rfl (lv_at hl 2 rfl) ?_
    obtain ⟨g7, hf⟩ := gd_use hf
    refine sa_9_4 C h (rfl : Kd 29 = 9) up_eq (F := fun t => va_up σ 29 t) (fun _ => up_up) (inB_in g7) dX9_giveGoals_35 (fun τ8 eτ8 H locs h => ?_)
    replace hf := lt_use eτ8 hf
    clear eτ8
    exact w_X9_giveGoals_36    C hk2 _ _ _ _ h ls (lv_sub hl [1, 2] rfl) hf
  replace hf := it_t c3 hf
  refine lv_goto (tgt := 36) hx hb dX9_giveGoals_16 (by decide) ?_
  exact w_X9_giveGoals_36    C hk2 _ _ _ _ h ls (lv_sub hl [0, 1] rfl) hf
set_option maxHeartbeats 4000000 in
set_option maxRecDepth 100000 in
theorem w_X9_giveGoals_2L {p : Program} {l : Launch} {e : Env} {s : State} {m : MethodId} {args : Array Value} {below : List Frame} {meth : Method} {c : Code} {E : Ev} {σ : Ms} {ℓ : Mz} {out : Mm}   (C : Cx cX9_giveGoals 3 none wsX9_giveGoals RX9 E p s m args meth c)  : ∀ (n9 : Nat) (τ : Mm) (v1 : Int32) (H : Heap) (locs : List Loc) (h : HI E (va_up σ 29 τ) ℓ s H locs) (ls : Array Slot) (hl : lv_has ls 3 [(0, .ref (Ea E 29 0)), (1, .int v1)]), f_X9_giveGoals_2L   n9 τ v1 = some out → W p l e rm_X9_giveGoals s m args below meth c H locs 0 0 (MQ below (Po E s.heap.size none (va_up σ 29 out) ℓ) args s 0 0 (AA E s.heap.size)) (F0 m 2 ls []) := by
  intro n9
  induction n9 with
  | zero =>
    intro τ v1 H locs h ls hl hf
    cases (show (none : Option (Mm)) = some out from hf)
  | succ n9 ih =>
    intro τ v1 H locs h ls hl hf
    exact w_X9_giveGoals_2   C  ih τ v1 H locs h ls hl hf
set_option maxHeartbeats 4000000 in
set_option maxRecDepth 100000 in
theorem w_X9_giveGoals_0 {p : Program} {l : Launch} {e : Env} {s : State} {m : MethodId} {args : Array Value} {below : List Frame} {meth : Method} {c : Code} {E : Ev} {σ : Ms} {ℓ : Mz} {out : Mm}   (C : Cx cX9_giveGoals 3 none wsX9_giveGoals RX9 E p s m args meth c)  : ∀ (τ : Mm) (H : Heap) (locs : List Loc) (h : HI E (va_up σ 29 τ) ℓ s H locs) (ls : Array Slot) (hl : lv_has ls 3 [(0, .ref (Ea E 29 0))]), f_X9_giveGoals_0   τ = some out → W p l e rm_X9_giveGoals s m args below meth c H locs 0 0 (MQ below (Po E s.heap.size none (va_up σ 29 out) ℓ) args s 0 0 (AA E s.heap.size)) (F0 m 0 ls []) := by
  intro τ H locs h ls hl hf
  unfold f_X9_giveGoals_0 at hf
  have C0 := C
  obtain ⟨hx, hb, hr, hml, hown, hts, hlk, hK, hSF⟩ := C0
  refine lv_iconst (v := (0 : Int32)) hx hb dX9_giveGoals_0 (by decide) ?_
  refine lv_istore_n (lv' := [(1, .int (0 : Int32)), (0, .ref (Ea E 29 0))]) hx hb dX9_giveGoals_1 rfl hl (by decide) rfl (fun ls hl => ?_)
  exact w_X9_giveGoals_2L    C  _ _ _ _ _ h ls (lv_sub hl [1, 0] rfl) hf
theorem c_X9_giveGoals {l : Launch} {E : Ev} {σ : Ms} {ℓ : Mz} {τ : Mm} {out : Mm} (hf : f_X9_giveGoals τ = some out) : Ct l yX9_giveGoals wsX9_giveGoals rm_X9_giveGoals [.ref (Ea E 29 0)] E (va_up σ 29 τ) ℓ none (va_up σ 29 out) ℓ := by
  refine Ct_mk (cc := cX9_giveGoals) (mL := 3) (ret := none) (own := RX9) (by decide +kernel) rfl rfl (Nat.le_of_ble_eq_true rfl) (fun p e s m below meth c C h ls hl => ?_)
  exact w_X9_giveGoals_0  C τ _ _ h ls (lv_sub hl [0] rfl) hf
theorem k_X9_giveGoals {l : Launch} {E : Ev} {σ : Ms} {ℓ : Mz} {τ : Mm} (hτ : σ 29 = τ) {out : Mm} (hf : f_X9_giveGoals τ = some out) : Ct l yX9_giveGoals wsX9_giveGoals rm_X9_giveGoals [.ref (Ea E 29 0)] E σ ℓ none (va_up σ 29 out) ℓ := by
  subst hτ
  have h := c_X9_giveGoals (l := l) (E := E) (σ := σ) (ℓ := ℓ)  hf
  rw [up_id σ 29] at h
  exact h
theorem hdX9_comes : yX9_comes.cls = RX9 ∧ yX9_comes.cls ≠ "java/lang/invoke/MethodHandle" ∧ yX9_comes.cls ≠ "java/lang/invoke/VarHandle" ∧ (parseMethodDescriptor yX9_comes.desc).map (fun d => d.parameters.length) = some 1 := by decide +kernel
def rm_X9_comes : Room := { frames := 2, cells := 0, slots := 0, locals := 42 }
set_option maxRecDepth 100000 in
theorem inX9_comes_9 : ∀ w ∈ wsX90, w ∈ wsX9_comes := fun _ h => List.mem_cons_of_mem _ (List.mem_append_right _ h)
set_option maxRecDepth 100000 in
theorem lkX9_comes_35 : Cond.fieldLink RX9 35 "BellsBelowModel" "goal" "[I" ∈ wsX9_comes := by decide +kernel
set_option maxRecDepth 100000 in
theorem lkX9_comes_32 : Cond.fieldLink RX9 32 "BellsBelowModel" "floor" "[I" ∈ wsX9_comes := by decide +kernel
set_option maxRecDepth 100000 in
theorem lkX9_comes_41 : Cond.fieldLink RX9 41 "BellsBelowModel" "came" "[I" ∈ wsX9_comes := by decide +kernel
set_option maxRecDepth 100000 in
theorem lkX9_comes_105 : Cond.fieldLink RX9 105 "BellsBelowModel" "mostCame" "I" ∈ wsX9_comes := by decide +kernel
set_option maxRecDepth 100000 in
theorem lkX9_comes_16 : Cond.fieldLink RX9 16 "BellsBelowModel" "rung" "I" ∈ wsX9_comes := by decide +kernel
set_option maxRecDepth 100000 in
theorem lkX9_comes_38 : Cond.fieldLink RX9 38 "BellsBelowModel" "rests" "[I" ∈ wsX9_comes := by decide +kernel
set_option maxHeartbeats 4000000 in
set_option maxRecDepth 100000 in
theorem w_X9_comes_41 {p : Program} {l : Launch} {e : Env} {s : State} {m : MethodId} {args : Array Value} {below : List Frame} {meth : Method} {c : Code} {E : Ev} {σ : Ms} {ℓ : Mz} {p0 : Int32} {out : Mm}   (C : Cx cX9_comes 3 none wsX9_comes RX9 E p s m args meth c)  : ∀ (τ : Mm) (v2 : Int32) (H : Heap) (locs : List Loc) (h : HI E (va_up σ 29 τ) ℓ s H locs) (ls : Array Slot) (hl : lv_has ls 3 [(0, .ref (Ea E 29 0)), (1, .int p0), (2, .int v2)]), f_X9_comes_41 p0  τ v2 = some out → W p l e rm_X9_comes s m args below meth c H locs 0 0 (MQ below (Po E s.heap.size none (va_up σ 29 out) ℓ) args s 0 0 (AA E s.heap.size)) (F0 m 41 ls []) := by
  intro τ v2 H locs h ls hl hf
  unfold f_X9_comes_41 at hf
  have C0 := C
  obtain ⟨hx, hb, hr, hml, hown, hts, hlk, hK, hSF⟩ := C0
  refine lv_aload_n hx hb dX9_comes_41 rfl (lv_at hl 0 rfl) ?_
  refine gf_9_7 C h (rfl : Kd 29 = 9) up_eq inX9_comes_9 lkX9_comes_32 dX9_comes_42 ?_
  refine lv_iload_n hx hb dX9_comes_45 rfl (lv_at hl 1 rfl) ?_
  obtain ⟨g5, hf⟩ := gd_use hf
  refine ld_9_3 C h (rfl : Kd 29 = 9) up_eq (inB_in g5) dX9_comes_46 ?_
  refine lv_iload_n hx hb dX9_comes_47 rfl (lv_at hl 2 rfl) ?_
  refine lv_icmp_eq (tgt := 52) hx hb dX9_comes_48 (by decide) (fun c6 => ?_) (fun c6 => ?_)
  · replace hf := it_t c6 hf
    refine lv_aload_n hx hb dX9_comes_52 rfl (lv_at hl 0 rfl) ?_
    refine gf_9_10 C h (rfl : Kd 29 = 9) up_eq inX9_comes_9 lkX9_comes_41 dX9_comes_53 ?_
    refine lv_iload_n hx hb dX9_comes_56 rfl (lv_at hl 1 rfl) ?_
    refine lv_aload_n hx hb dX9_comes_57 rfl (lv_at hl 0 rfl) ?_
    refine lv_aload_n hx hb dX9_comes_58 rfl (lv_at hl 0 rfl) ?_
    refine gf_9_10 C h (rfl : Kd 29 = 9) up_eq inX9_comes_9 lkX9_comes_41 dX9_comes_59 ?_
    refine lv_iload_n hx hb dX9_comes_62 rfl (lv_at hl 1 rfl) ?_
    obtain ⟨g7, hf⟩ := gd_use hf
    refine ld_9_6 C h (rfl : Kd 29 = 9) up_eq (inB_in g7) dX9_comes_63 ?_
    refine lv_iconst (v := (1 : Int32)) hx hb dX9_comes_64 (by decide) ?_
    refine lv_iadd hx hb dX9_comes_65 ?_
    refine lv_aload_n hx hb dX9_comes_66 rfl (lv_at hl 0 rfl) ?_
    refine gf_9_31 C h (rfl : Kd 29 = 9) up_eq inX9_comes_9 lkX9_comes_105 dX9_comes_67 ?_
    obtain ⟨u8, hu8, hf⟩ := bd_use hf
    refine r_cv_9 (rest := [.int p0, .ref (Ea E 29 6)]) C h (c_X9_least  hu8) (rfl : Kd 29 = 9) gX9_comes_X9_least rfl ⟨rfl, rfl⟩ hdX9_least ⟨Nat.le_of_ble_eq_true rfl, Nat.le_of_ble_eq_true rfl⟩ ⟨Nat.zero_le _, Nat.zero_le _⟩ hl.1 rfl (Nat.le_of_ble_eq_true rfl) dX9_comes_70 (fun H locs h => ?_)
    obtain ⟨g9, hf⟩ := gd_use hf
    refine sa_9_6 C h (rfl : Kd 29 = 9) up_eq (F := fun t => va_up σ 29 t) (fun _ => up_up) (inB_in g9) dX9_comes_73 (fun τ10 eτ10 H locs h => ?_)
    replace hf := lt_use eτ10 hf
    clear eτ10
    refine lv_aload_n hx hb dX9_comes_74 rfl (lv_at hl 0 rfl) ?_
    refine lv_dup hx hb dX9_comes_75 rfl ?_
    refine gf_9_2 C h (rfl : Kd 29 = 9) up_eq inX9_comes_9 lkX9_comes_16 dX9_comes_76 ?_
    refine lv_iconst (v := (1 : Int32)) hx hb dX9_comes_79 (by decide) ?_
    refine lv_iload_n hx hb dX9_comes_80 rfl (lv_at hl 2 rfl) ?_
    refine lv_ishl hx hb dX9_comes_81 ?_
    refine lv_iconst (v := (-1 : Int32)) hx hb dX9_comes_82 (by decide) ?_
    refine lv_ixor hx hb dX9_comes_83 ?_
    refine lv_iand hx hb dX9_comes_84 ?_
    refine pf_9_2 C h (rfl : Kd 29 = 9) up_eq (F := fun t => va_up σ 29 t) (fun _ => up_up) inX9_comes_9 lkX9_comes_16 dX9_comes_85 (fun τ11 eτ11 H locs h => ?_)
    replace hf := lt_use eτ11 hf
    clear eτ11
    refine lv_aload_n hx hb dX9_comes_88 rfl (lv_at hl 0 rfl) ?_
    refine gf_9_8 C h (rfl : Kd 29 = 9) up_eq inX9_comes_9 lkX9_comes_35 dX9_comes_89 ?_
    refine lv_iload_n hx hb dX9_comes_92 rfl (lv_at hl 1 rfl) ?_
    refine lv_bipush (v := (-5 : Int32)) hx hb dX9_comes_93 (by decide) ?_
    obtain ⟨g12, hf⟩ := gd_use hf
    refine sa_9_4 C h (rfl : Kd 29 = 9) up_eq (F := fun t => va_up σ 29 t) (fun _ => up_up) (inB_in g12) dX9_comes_95 (fun τ13 eτ13 H locs h => ?_)
    replace hf := lt_use eτ13 hf
    clear eτ13
    refine lv_aload_n hx hb dX9_comes_96 rfl (lv_at hl 0 rfl) ?_
    refine gf_9_9 C h (rfl : Kd 29 = 9) up_eq inX9_comes_9 lkX9_comes_38 dX9_comes_97 ?_
    refine lv_iload_n hx hb dX9_comes_100 rfl (lv_at hl 1 rfl) ?_
    refine lv_aload_n hx hb dX9_comes_101 rfl (lv_at hl 0 rfl) ?_
    obtain ⟨u14, hu14, hf⟩ := bd_use hf
    refine r_cv_9 (rest := [.int p0, .ref (Ea E 29 5)]) C h (c_X9_rest up_eq hu14) (rfl : Kd 29 = 9) gX9_comes_X9_rest rfl ⟨rfl, rfl⟩ hdX9_rest ⟨Nat.le_of_ble_eq_true rfl, Nat.le_of_ble_eq_true rfl⟩ ⟨Nat.zero_le _, Nat.zero_le _⟩ hl.1 rfl (Nat.le_of_ble_eq_true rfl) dX9_comes_102 (fun H locs h => ?_)
    obtain ⟨g15, hf⟩ := gd_use hf
    refine sa_9_5 C h (rfl : Kd 29 = 9) up_eq (F := fun t => va_up σ 29 t) (fun _ => up_up) (inB_in g15) dX9_comes_105 (fun τ16 eτ16 H locs h => ?_)
    replace hf := lt_use eτ16 hf
    clear eτ16
    replace hf := Option.some.inj hf
    subst hf
    exact r_vre C h dX9_comes_106
  replace hf := it_f c6 hf
  replace hf := Option.some.inj hf
  subst hf
  exact r_vre C h dX9_comes_51
set_option maxHeartbeats 4000000 in
set_option maxRecDepth 100000 in
theorem w_X9_comes_39 {p : Program} {l : Launch} {e : Env} {s : State} {m : MethodId} {args : Array Value} {below : List Frame} {meth : Method} {c : Code} {E : Ev} {σ : Ms} {ℓ : Mz} {p0 : Int32} {out : Mm}   (C : Cx cX9_comes 3 none wsX9_comes RX9 E p s m args meth c)  : ∀ (τ : Mm) (v2 : Int32) (w1 : Int32) (w2 : Int32) (w3 : Int32) (H : Heap) (locs : List Loc) (h : HI E (va_up σ 29 τ) ℓ s H locs) (ls : Array Slot) (hl : lv_has ls 3 [(0, .ref (Ea E 29 0)), (1, .int p0), (2, .int v2)]), f_X9_comes_39 p0  τ v2 w1 w2 w3 = some out → W p l e rm_X9_comes s m args below meth c H locs 0 0 (MQ below (Po E s.heap.size none (va_up σ 29 out) ℓ) args s 0 0 (AA E s.heap.size)) (F0 m 39 ls [.int w3, .int w2, .int w1, .ref (Ea E 29 3)]) := by
  intro τ v2 w1 w2 w3 H locs h ls hl hf
  unfold f_X9_comes_39 at hf
  have C0 := C
  obtain ⟨hx, hb, hr, hml, hown, hts, hlk, hK, hSF⟩ := C0
  refine lv_iadd hx hb dX9_comes_39 ?_
  obtain ⟨g20, hf⟩ := gd_use hf
  refine sa_9_3 C h (rfl : Kd 29 = 9) up_eq (F := fun t => va_up σ 29 t) (fun _ => up_up) (inB_in g20) dX9_comes_40 (fun τ21 eτ21 H locs h => ?_)
  replace hf := lt_use eτ21 hf
  clear eτ21
  exact w_X9_comes_41    C  _ _ _ _ h ls (lv_sub hl [0, 1, 2] rfl) hf
set_option maxHeartbeats 4000000 in
set_option maxRecDepth 100000 in
theorem w_X9_comes_0 {p : Program} {l : Launch} {e : Env} {s : State} {m : MethodId} {args : Array Value} {below : List Frame} {meth : Method} {c : Code} {E : Ev} {σ : Ms} {ℓ : Mz} {p0 : Int32} {out : Mm}   (C : Cx cX9_comes 3 none wsX9_comes RX9 E p s m args meth c)  : ∀ (τ : Mm) (H : Heap) (locs : List Loc) (h : HI E (va_up σ 29 τ) ℓ s H locs) (ls : Array Slot) (hl : lv_has ls 3 [(0, .ref (Ea E 29 0)), (1, .int p0)]), f_X9_comes_0 p0  τ = some out → W p l e rm_X9_comes s m args below meth c H locs 0 0 (MQ below (Po E s.heap.size none (va_up σ 29 out) ℓ) args s 0 0 (AA E s.heap.size)) (F0 m 0 ls []) := by
  intro τ H locs h ls hl hf
  unfold f_X9_comes_0 at hf
  have C0 := C
  obtain ⟨hx, hb, hr, hml, hown, hts, hlk, hK, hSF⟩ := C0
  refine lv_aload_n hx hb dX9_comes_0 rfl (lv_at hl 0 rfl) ?_
  refine gf_9_8 C h (rfl : Kd 29 = 9) up_eq inX9_comes_9 lkX9_comes_35 dX9_comes_1 ?_
  refine lv_iload_n hx hb dX9_comes_4 rfl (lv_at hl 1 rfl) ?_
  obtain ⟨g1, hf⟩ := gd_use hf
  refine ld_9_4 C h (rfl : Kd 29 = 9) up_eq (inB_in g1) dX9_comes_5 ?_
  refine lv_topi (fun x2 ex2 => ?_)
  replace hf := lt_use ex2 hf
  clear ex2
  refine lv_istore_n (lv' := [(2, .int x2), (0, .ref (Ea E 29 0)), (1, .int p0)]) hx hb dX9_comes_6 rfl hl (by decide) rfl (fun ls hl => ?_)
  refine lv_aload_n hx hb dX9_comes_7 rfl (lv_at hl 1 rfl) ?_
  refine gf_9_7 C h (rfl : Kd 29 = 9) up_eq inX9_comes_9 lkX9_comes_32 dX9_comes_8 ?_
  refine lv_iload_n hx hb dX9_comes_11 rfl (lv_at hl 2 rfl) ?_
  obtain ⟨g3, hf⟩ := gd_use hf
  refine ld_9_3 C h (rfl : Kd 29 = 9) up_eq (inB_in g3) dX9_comes_12 ?_
  refine lv_iload_n hx hb dX9_comes_13 rfl (lv_at hl 0 rfl) ?_
  refine lv_icmp_eq (tgt := 41) hx hb dX9_comes_14 (by decide) (fun c4 => ?_) (fun c4 => ?_)
  · replace hf := it_t c4 hf
    exact w_X9_comes_41    C  _ _ _ _ h ls (lv_sub hl [1, 2, 0] rfl) hf
  replace hf := it_f c4 hf
  refine lv_aload_n hx hb dX9_comes_17 rfl (lv_at hl 1 rfl) ?_
  refine gf_9_7 C h (rfl : Kd 29 = 9) up_eq inX9_comes_9 lkX9_comes_32 dX9_comes_18 ?_
  refine lv_iload_n hx hb dX9_comes_21 rfl (lv_at hl 2 rfl) ?_
  refine lv_dup2_11 hx hb dX9_comes_22 rfl rfl ?_
  obtain ⟨g17, hf⟩ := gd_use hf
  refine ld_9_3 C h (rfl : Kd 29 = 9) up_eq (inB_in g17) dX9_comes_23 ?_
  refine lv_aload_n hx hb dX9_comes_24 rfl (lv_at hl 1 rfl) ?_
  refine gf_9_7 C h (rfl : Kd 29 = 9) up_eq inX9_comes_9 lkX9_comes_32 dX9_comes_25 ?_
  refine lv_iload_n hx hb dX9_comes_28 rfl (lv_at hl 2 rfl) ?_
  obtain ⟨g18, hf⟩ := gd_use hf
  refine ld_9_3 C h (rfl : Kd 29 = 9) up_eq (inB_in g18) dX9_comes_29 ?_
  refine lv_iload_n hx hb dX9_comes_30 rfl (lv_at hl 0 rfl) ?_
  refine lv_icmp_ge (tgt := 38) hx hb dX9_comes_31 (by decide) (fun c19 => ?_) (fun c19 => ?_)
  · replace hf := it_t c19 hf
    refine lv_iconst (v := (-1 : Int32)) hx hb dX9_comes_38 (by decide) ?_
    exact w_X9_comes_39    C  _ _ _ _ _ _ _ h ls (lv_sub hl [1, 2, 0] rfl) hf
  replace hf := it_f c19 hf
  refine lv_iconst (v := (1 : Int32)) hx hb dX9_comes_34 (by decide) ?_
  refine lv_goto (tgt := 39) hx hb dX9_comes_35 (by decide) ?_
  exact w_X9_comes_39    C  _ _ _ _ _ _ _ h ls (lv_sub hl [1, 2, 0] rfl) hf
theorem c_X9_comes {l : Launch} {E : Ev} {σ : Ms} {ℓ : Mz} {τ : Mm} {p0 : Int32} {out : Mm} (hf : f_X9_comes τ p0 = some out) : Ct l yX9_comes wsX9_comes rm_X9_comes [.ref (Ea E 29 0), .int p0] E (va_up σ 29 τ) ℓ none (va_up σ 29 out) ℓ := by
  refine Ct_mk (cc := cX9_comes) (mL := 3) (ret := none) (own := RX9) (by decide +kernel) rfl rfl (Nat.le_of_ble_eq_true rfl) (fun p e s m below meth c C h ls hl => ?_)
  exact w_X9_comes_0  C τ _ _ h ls (lv_sub hl [0, 1] rfl) hf
theorem k_X9_comes {l : Launch} {E : Ev} {σ : Ms} {ℓ : Mz} {τ : Mm} {p0 : Int32} (hτ : σ 29 = τ) {out : Mm} (hf : f_X9_comes τ p0 = some out) : Ct l yX9_comes wsX9_comes rm_X9_comes [.ref (Ea E 29 0), .int p0] E σ ℓ none (va_up σ 29 out) ℓ := by
  subst hτ
  have h := c_X9_comes (l := l) (E := E) (σ := σ) (ℓ := ℓ)  hf
  rw [up_id σ 29] at h
  exact h
theorem hdX9_goMinute : yX9_goMinute.cls = RX9 ∧ yX9_goMinute.cls ≠ "java/lang/invoke/MethodHandle" ∧ yX9_goMinute.cls ≠ "java/lang/invoke/VarHandle" ∧ (parseMethodDescriptor yX9_goMinute.desc).map (fun d => d.parameters.length) = some 0 := by decide +kernel
def rm_X9_goMinute : Room := { frames := 7, cells := 0, slots := 0, locals := 168 }
set_option maxRecDepth 100000 in
theorem inX9_goMinute_9 : ∀ w ∈ wsX90, w ∈ wsX9_goMinute := fun _ h => List.mem_cons_of_mem _ (List.mem_append_right _ h)
set_option maxRecDepth 100000 in
theorem lkX9_goMinute_7 : Cond.fieldLink RX9 7 "BellsBelowModel" "masters" "I" ∈ wsX9_goMinute := by decide +kernel
set_option maxRecDepth 100000 in
theorem lkX9_goMinute_19 : Cond.fieldLink RX9 19 "BellsBelowModel" "waited" "I" ∈ wsX9_goMinute := by decide +kernel
set_option maxRecDepth 100000 in
theorem lkX9_goMinute_16 : Cond.fieldLink RX9 16 "BellsBelowModel" "rung" "I" ∈ wsX9_goMinute := by decide +kernel
set_option maxRecDepth 100000 in
theorem lkX9_goMinute_109 : Cond.fieldLink RX9 109 "BellsBelowModel" "mostWaited" "I" ∈ wsX9_goMinute := by decide +kernel
set_option maxRecDepth 100000 in
theorem lkX9_goMinute_22 : Cond.fieldLink RX9 22 "BellsBelowModel" "minute" "I" ∈ wsX9_goMinute := by decide +kernel
set_option maxRecDepth 100000 in
theorem lkX9_goMinute_13 : Cond.fieldLink RX9 13 "BellsBelowModel" "absent" "I" ∈ wsX9_goMinute := by decide +kernel
set_option maxRecDepth 100000 in
theorem lkX9_goMinute_35 : Cond.fieldLink RX9 35 "BellsBelowModel" "goal" "[I" ∈ wsX9_goMinute := by decide +kernel
set_option maxRecDepth 100000 in
theorem lkX9_goMinute_38 : Cond.fieldLink RX9 38 "BellsBelowModel" "rests" "[I" ∈ wsX9_goMinute := by decide +kernel
set_option maxHeartbeats 4000000 in
set_option maxRecDepth 100000 in
theorem w_X9_goMinute_65 {p : Program} {l : Launch} {e : Env} {s : State} {m : MethodId} {args : Array Value} {below : List Frame} {meth : Method} {c : Code} {E : Ev} {σ : Ms} {ℓ : Mz} {out : Mm}   (C : Cx cX9_goMinute 2 none wsX9_goMinute RX9 E p s m args meth c) {k6 : Mm → Int32 → Option (Mm)} (hk6 : ∀ (τ : Mm) (v1 : Int32) (H : Heap) (locs : List Loc), HI E (va_up σ 29 τ) ℓ s H locs → ∀ ls : Array Slot, lv_has ls 2 [(0, .ref (Ea E 29 0)), (1, .int v1)] → k6 τ v1 = some out → W p l e rm_X9_goMinute s m args below meth c H locs 0 0 (MQ below (Po E s.heap.size none (va_up σ 29 out) ℓ) args s 0 0 (AA E s.heap.size)) (F0 m 6 ls [])) : ∀ (τ : Mm) (v1 : Int32) (H : Heap) (locs : List Loc) (h : HI E (va_up σ 29 τ) ℓ s H locs) (ls : Array Slot) (hl : lv_has ls 2 [(0, .ref (Ea E 29 0)), (1, .int v1)]), f_X9_goMinute_65  k6 τ v1 = some out → W p l e rm_X9_goMinute s m args below meth c H locs 0 0 (MQ below (Po E s.heap.size none (va_up σ 29 out) ℓ) args s 0 0 (AA E s.heap.size)) (F0 m 65 ls []) := by
  intro τ v1 H locs h ls hl hf
  unfold f_X9_goMinute_65 at hf
  have C0 := C
  obtain ⟨hx, hb, hr, hml, hown, hts, hlk, hK, hSF⟩ := C0
  obtain ⟨x13, ex13⟩ : ∃ y : Int32, y = (v1 + (1 : Int32)) := ⟨_, rfl⟩
  refine lv_iinc (v := x13) (lv' := [(1, .int x13), (0, .ref (Ea E 29 0))]) hx hb dX9_goMinute_65 hl (k := 1) rfl (by rw [ex13]; rfl) (by decide) rfl (fun ls hl => ?_)
  replace hf := lt_use ex13 hf
  clear ex13
  refine lv_goto (tgt := 6) hx hb dX9_goMinute_68 (by decide) ?_
  exact hk6 _ _ _ _ h ls (lv_sub hl [1, 0] rfl) hf
set_option maxHeartbeats 4000000 in
set_option maxRecDepth 100000 in
theorem w_X9_goMinute_6 {p : Program} {l : Launch} {e : Env} {s : State} {m : MethodId} {args : Array Value} {below : List Frame} {meth : Method} {c : Code} {E : Ev} {σ : Ms} {ℓ : Mz} {out : Mm}   (C : Cx cX9_goMinute 2 none wsX9_goMinute RX9 E p s m args meth c) {k6 : Mm → Int32 → Option (Mm)} (hk6 : ∀ (τ : Mm) (v1 : Int32) (H : Heap) (locs : List Loc), HI E (va_up σ 29 τ) ℓ s H locs → ∀ ls : Array Slot, lv_has ls 2 [(0, .ref (Ea E 29 0)), (1, .int v1)] → k6 τ v1 = some out → W p l e rm_X9_goMinute s m args below meth c H locs 0 0 (MQ below (Po E s.heap.size none (va_up σ 29 out) ℓ) args s 0 0 (AA E s.heap.size)) (F0 m 6 ls [])) : ∀ (τ : Mm) (v1 : Int32) (H : Heap) (locs : List Loc) (h : HI E (va_up σ 29 τ) ℓ s H locs) (ls : Array Slot) (hl : lv_has ls 2 [(0, .ref (Ea E 29 0)), (1, .int v1)]), f_X9_goMinute_6  k6 τ v1 = some out → W p l e rm_X9_goMinute s m args below meth c H locs 0 0 (MQ below (Po E s.heap.size none (va_up σ 29 out) ℓ) args s 0 0 (AA E s.heap.size)) (F0 m 6 ls []) := by
  intro τ v1 H locs h ls hl hf
  unfold f_X9_goMinute_6 at hf
  have C0 := C
  obtain ⟨hx, hb, hr, hml, hown, hts, hlk, hK, hSF⟩ := C0
  refine lv_iload_n hx hb dX9_goMinute_6 rfl (lv_at hl 1 rfl) ?_
  refine lv_aload_n hx hb dX9_goMinute_7 rfl (lv_at hl 0 rfl) ?_
  refine gf_9_0 C h (rfl : Kd 29 = 9) up_eq inX9_goMinute_9 lkX9_goMinute_7 dX9_goMinute_8 ?_
  refine lv_icmp_ge (tgt := 71) hx hb dX9_goMinute_11 (by decide) (fun c2 => ?_) (fun c2 => ?_)
  · replace hf := it_t c2 hf
    refine lv_aload_n hx hb dX9_goMinute_71 rfl (lv_at hl 0 rfl) ?_
    refine lv_aload_n hx hb dX9_goMinute_72 rfl (lv_at hl 0 rfl) ?_
    refine lv_aload_n hx hb dX9_goMinute_73 rfl (lv_at hl 0 rfl) ?_
    refine gf_9_3 C h (rfl : Kd 29 = 9) up_eq inX9_goMinute_9 lkX9_goMinute_19 dX9_goMinute_74 ?_
    refine lv_aload_n hx hb dX9_goMinute_77 rfl (lv_at hl 0 rfl) ?_
    refine lv_aload_n hx hb dX9_goMinute_78 rfl (lv_at hl 0 rfl) ?_
    refine gf_9_2 C h (rfl : Kd 29 = 9) up_eq inX9_goMinute_9 lkX9_goMinute_16 dX9_goMinute_79 ?_
    obtain ⟨u3, hu3, hf⟩ := bd_use hf
    refine r_cv_9 (rest := [.int (τ 3 0), .ref (Ea E 29 0), .ref (Ea E 29 0)]) C h (c_X9_bits  hu3) (rfl : Kd 29 = 9) gX9_goMinute_X9_bits rfl ⟨rfl, rfl⟩ hdX9_bits ⟨Nat.le_of_ble_eq_true rfl, Nat.le_of_ble_eq_true rfl⟩ ⟨Nat.zero_le _, Nat.zero_le _⟩ hl.1 rfl (Nat.le_of_ble_eq_true rfl) dX9_goMinute_82 (fun H locs h => ?_)
    refine lv_iadd hx hb dX9_goMinute_85 ?_
    refine lv_aload_n hx hb dX9_goMinute_86 rfl (lv_at hl 0 rfl) ?_
    refine gf_9_32 C h (rfl : Kd 29 = 9) up_eq inX9_goMinute_9 lkX9_goMinute_109 dX9_goMinute_87 ?_
    obtain ⟨u4, hu4, hf⟩ := bd_use hf
    refine r_cv_9 (rest := [.ref (Ea E 29 0)]) C h (c_X9_least  hu4) (rfl : Kd 29 = 9) gX9_goMinute_X9_least rfl ⟨rfl, rfl⟩ hdX9_least ⟨Nat.le_of_ble_eq_true rfl, Nat.le_of_ble_eq_true rfl⟩ ⟨Nat.zero_le _, Nat.zero_le _⟩ hl.1 rfl (Nat.le_of_ble_eq_true rfl) dX9_goMinute_90 (fun H locs h => ?_)
    refine pf_9_3 C h (rfl : Kd 29 = 9) up_eq (F := fun t => va_up σ 29 t) (fun _ => up_up) inX9_goMinute_9 lkX9_goMinute_19 dX9_goMinute_93 (fun τ5 eτ5 H locs h => ?_)
    replace hf := lt_use eτ5 hf
    clear eτ5
    refine lv_aload_n hx hb dX9_goMinute_96 rfl (lv_at hl 0 rfl) ?_
    refine lv_dup hx hb dX9_goMinute_97 rfl ?_
    refine gf_9_4 C h (rfl : Kd 29 = 9) up_eq inX9_goMinute_9 lkX9_goMinute_22 dX9_goMinute_98 ?_
    refine lv_iconst (v := (1 : Int32)) hx hb dX9_goMinute_101 (by decide) ?_
    refine lv_iadd hx hb dX9_goMinute_102 ?_
    refine pf_9_4 C h (rfl : Kd 29 = 9) up_eq (F := fun t => va_up σ 29 t) (fun _ => up_up) inX9_goMinute_9 lkX9_goMinute_22 dX9_goMinute_103 (fun τ6 eτ6 H locs h => ?_)
    replace hf := lt_use eτ6 hf
    clear eτ6
    replace hf := Option.some.inj hf
    subst hf
    exact r_vre C h dX9_goMinute_106
  replace hf := it_f c2 hf
  refine lv_aload_n hx hb dX9_goMinute_14 rfl (lv_at hl 0 rfl) ?_
  refine lv_aload_n hx hb dX9_goMinute_15 rfl (lv_at hl 0 rfl) ?_
  refine gf_9_1 C h (rfl : Kd 29 = 9) up_eq inX9_goMinute_9 lkX9_goMinute_13 dX9_goMinute_16 ?_
  refine lv_iload_n hx hb dX9_goMinute_19 rfl (lv_at hl 1 rfl) ?_
  obtain ⟨u7, hu7, hf⟩ := bd_use hf
  refine r_cv_9 (rest := []) C h (c_X9_has  hu7) (rfl : Kd 29 = 9) gX9_goMinute_X9_has rfl ⟨rfl, rfl⟩ hdX9_has ⟨Nat.le_of_ble_eq_true rfl, Nat.le_of_ble_eq_true rfl⟩ ⟨Nat.zero_le _, Nat.zero_le _⟩ hl.1 rfl (Nat.le_of_ble_eq_true rfl) dX9_goMinute_20 (fun H locs h => ?_)
  refine lv_if_eq (tgt := 29) hx hb dX9_goMinute_23 (by decide) (fun c8 => ?_) (fun c8 => ?_)
  · replace hf := it_t c8 hf
    refine lv_aload_n hx hb dX9_goMinute_29 rfl (lv_at hl 0 rfl) ?_
    refine gf_9_8 C h (rfl : Kd 29 = 9) up_eq inX9_goMinute_9 lkX9_goMinute_35 dX9_goMinute_30 ?_
    refine lv_iload_n hx hb dX9_goMinute_33 rfl (lv_at hl 1 rfl) ?_
    obtain ⟨g9, hf⟩ := gd_use hf
    refine ld_9_4 C h (rfl : Kd 29 = 9) up_eq (inB_in g9) dX9_goMinute_34 ?_
    refine lv_if_lt (tgt := 46) hx hb dX9_goMinute_35 (by decide) (fun c10 => ?_) (fun c10 => ?_)
    · replace hf := it_t c10 hf
      refine lv_aload_n hx hb dX9_goMinute_46 rfl (lv_at hl 0 rfl) ?_
      refine gf_9_9 C h (rfl : Kd 29 = 9) up_eq inX9_goMinute_9 lkX9_goMinute_38 dX9_goMinute_47 ?_
      refine lv_iload_n hx hb dX9_goMinute_50 rfl (lv_at hl 1 rfl) ?_
      obtain ⟨g11, hf⟩ := gd_use hf
      refine ld_9_5 C h (rfl : Kd 29 = 9) up_eq (inB_in g11) dX9_goMinute_51 ?_
      refine lv_if_le (tgt := 65) hx hb dX9_goMinute_52 (by decide) (fun c12 => ?_) (fun c12 => ?_)
      · replace hf := it_t c12 hf
        exact w_X9_goMinute_65    C hk6 _ _ _ _ h ls (lv_sub hl [0, 1] rfl) hf
      replace hf := it_f c12 hf
      refine lv_aload_n hx hb dX9_goMinute_55 rfl (lv_at hl 0 rfl) ?_
      refine gf_9_9 C h (rfl : Kd 29 = 9) up_eq inX9_goMinute_9 lkX9_goMinute_38 dX9_goMinute_56 ?_
      refine lv_iload_n hx hb dX9_goMinute_59 rfl (lv_at hl 1 rfl) ?_
      refine lv_dup2_11 hx hb dX9_goMinute_60 rfl rfl ?_
      obtain ⟨g14, hf⟩ := gd_use hf
      refine ld_9_5 C h (rfl : Kd 29 = 9) up_eq (inB_in g14) dX9_goMinute_61 ?_
      refine lv_iconst (v := (1 : Int32)) hx hb dX9_goMinute_62 (by decide) ?_
      refine lv_isub hx hb dX9_goMinute_63 ?_
      obtain ⟨g15, hf⟩ := gd_use hf
      refine sa_9_5 C h (rfl : Kd 29 = 9) up_eq (F := fun t => va_up σ 29 t) (fun _ => up_up) (inB_in g15) dX9_goMinute_64 (fun τ16 eτ16 H locs h => ?_)
      replace hf := lt_use eτ16 hf
      clear eτ16
      exact w_X9_goMinute_65    C hk6 _ _ _ _ h ls (lv_sub hl [0, 1] rfl) hf
    replace hf := it_f c10 hf
    refine lv_aload_n hx hb dX9_goMinute_38 rfl (lv_at hl 0 rfl) ?_
    refine lv_iload_n hx hb dX9_goMinute_39 rfl (lv_at hl 1 rfl) ?_
    obtain ⟨u17, hu17, hf⟩ := bd_use hf
    refine r_cv_9 (rest := []) C h (c_X9_comes  hu17) (rfl : Kd 29 = 9) gX9_goMinute_X9_comes rfl ⟨rfl, rfl⟩ hdX9_comes ⟨Nat.le_of_ble_eq_true rfl, Nat.le_of_ble_eq_true rfl⟩ ⟨Nat.zero_le _, Nat.zero_le _⟩ hl.1 rfl (Nat.le_of_ble_eq_true rfl) dX9_goMinute_40 (fun H locs h => ?_)
    refine lv_goto (tgt := 65) hx hb dX9_goMinute_43 (by decide) ?_
    exact w_X9_goMinute_65    C hk6 _ _ _ _ h ls (lv_sub hl [0, 1] rfl) hf
  replace hf := it_f c8 hf
  refine lv_goto (tgt := 65) hx hb dX9_goMinute_26 (by decide) ?_
  exact w_X9_goMinute_65    C hk6 _ _ _ _ h ls (lv_sub hl [0, 1] rfl) hf
set_option maxHeartbeats 4000000 in
set_option maxRecDepth 100000 in
theorem w_X9_goMinute_6L {p : Program} {l : Launch} {e : Env} {s : State} {m : MethodId} {args : Array Value} {below : List Frame} {meth : Method} {c : Code} {E : Ev} {σ : Ms} {ℓ : Mz} {out : Mm}   (C : Cx cX9_goMinute 2 none wsX9_goMinute RX9 E p s m args meth c)  : ∀ (n9 : Nat) (τ : Mm) (v1 : Int32) (H : Heap) (locs : List Loc) (h : HI E (va_up σ 29 τ) ℓ s H locs) (ls : Array Slot) (hl : lv_has ls 2 [(0, .ref (Ea E 29 0)), (1, .int v1)]), f_X9_goMinute_6L   n9 τ v1 = some out → W p l e rm_X9_goMinute s m args below meth c H locs 0 0 (MQ below (Po E s.heap.size none (va_up σ 29 out) ℓ) args s 0 0 (AA E s.heap.size)) (F0 m 6 ls []) := by
  intro n9
  induction n9 with
  | zero =>
    intro τ v1 H locs h ls hl hf
    cases (show (none : Option (Mm)) = some out from hf)
  | succ n9 ih =>
    intro τ v1 H locs h ls hl hf
    exact w_X9_goMinute_6   C  ih τ v1 H locs h ls hl hf
set_option maxHeartbeats 4000000 in
set_option maxRecDepth 100000 in
theorem w_X9_goMinute_0 {p : Program} {l : Launch} {e : Env} {s : State} {m : MethodId} {args : Array Value} {below : List Frame} {meth : Method} {c : Code} {E : Ev} {σ : Ms} {ℓ : Mz} {out : Mm}   (C : Cx cX9_goMinute 2 none wsX9_goMinute RX9 E p s m args meth c)  : ∀ (τ : Mm) (H : Heap) (locs : List Loc) (h : HI E (va_up σ 29 τ) ℓ s H locs) (ls : Array Slot) (hl : lv_has ls 2 [(0, .ref (Ea E 29 0))]), f_X9_goMinute_0   τ = some out → W p l e rm_X9_goMinute s m args below meth c H locs 0 0 (MQ below (Po E s.heap.size none (va_up σ 29 out) ℓ) args s 0 0 (AA E s.heap.size)) (F0 m 0 ls []) := by
  intro τ H locs h ls hl hf
  unfold f_X9_goMinute_0 at hf
  have C0 := C
  obtain ⟨hx, hb, hr, hml, hown, hts, hlk, hK, hSF⟩ := C0
  refine lv_aload_n hx hb dX9_goMinute_0 rfl (lv_at hl 0 rfl) ?_
  obtain ⟨u1, hu1, hf⟩ := bd_use hf
  refine r_cv_9 (rest := []) C h (c_X9_giveGoals  hu1) (rfl : Kd 29 = 9) gX9_goMinute_X9_giveGoals rfl ⟨rfl, rfl⟩ hdX9_giveGoals ⟨Nat.le_of_ble_eq_true rfl, Nat.le_of_ble_eq_true rfl⟩ ⟨Nat.zero_le _, Nat.zero_le _⟩ hl.1 rfl (Nat.le_of_ble_eq_true rfl) dX9_goMinute_1 (fun H locs h => ?_)
  refine lv_iconst (v := (0 : Int32)) hx hb dX9_goMinute_4 (by decide) ?_
  refine lv_istore_n (lv' := [(1, .int (0 : Int32)), (0, .ref (Ea E 29 0))]) hx hb dX9_goMinute_5 rfl hl (by decide) rfl (fun ls hl => ?_)
  exact w_X9_goMinute_6L    C  _ _ _ _ _ h ls (lv_sub hl [1, 0] rfl) hf
theorem c_X9_goMinute {l : Launch} {E : Ev} {σ : Ms} {ℓ : Mz} {τ : Mm} {out : Mm} (hf : f_X9_goMinute τ = some out) : Ct l yX9_goMinute wsX9_goMinute rm_X9_goMinute [.ref (Ea E 29 0)] E (va_up σ 29 τ) ℓ none (va_up σ 29 out) ℓ := by
  refine Ct_mk (cc := cX9_goMinute) (mL := 2) (ret := none) (own := RX9) (by decide +kernel) rfl rfl (Nat.le_of_ble_eq_true rfl) (fun p e s m below meth c C h ls hl => ?_)
  exact w_X9_goMinute_0  C τ _ _ h ls (lv_sub hl [0] rfl) hf
theorem k_X9_goMinute {l : Launch} {E : Ev} {σ : Ms} {ℓ : Mz} {τ : Mm} (hτ : σ 29 = τ) {out : Mm} (hf : f_X9_goMinute τ = some out) : Ct l yX9_goMinute wsX9_goMinute rm_X9_goMinute [.ref (Ea E 29 0)] E σ ℓ none (va_up σ 29 out) ℓ := by
  subst hτ
  have h := c_X9_goMinute (l := l) (E := E) (σ := σ) (ℓ := ℓ)  hf
  rw [up_id σ 29] at h
  exact h
theorem hdX9_goMinutes : yX9_goMinutes.cls = RX9 ∧ yX9_goMinutes.cls ≠ "java/lang/invoke/MethodHandle" ∧ yX9_goMinutes.cls ≠ "java/lang/invoke/VarHandle" ∧ (parseMethodDescriptor yX9_goMinutes.desc).map (fun d => d.parameters.length) = some 1 := by decide +kernel
def rm_X9_goMinutes : Room := { frames := 8, cells := 0, slots := 0, locals := 189 }
set_option maxHeartbeats 4000000 in
set_option maxRecDepth 100000 in
theorem w_X9_goMinutes_2 {p : Program} {l : Launch} {e : Env} {s : State} {m : MethodId} {args : Array Value} {below : List Frame} {meth : Method} {c : Code} {E : Ev} {σ : Ms} {ℓ : Mz} {p0 : Int32} {out : Mm}   (C : Cx cX9_goMinutes 3 none wsX9_goMinutes RX9 E p s m args meth c) {k2 : Mm → Int32 → Option (Mm)} (hk2 : ∀ (τ : Mm) (v2 : Int32) (H : Heap) (locs : List Loc), HI E (va_up σ 29 τ) ℓ s H locs → ∀ ls : Array Slot, lv_has ls 3 [(0, .ref (Ea E 29 0)), (1, .int p0), (2, .int v2)] → k2 τ v2 = some out → W p l e rm_X9_goMinutes s m args below meth c H locs 0 0 (MQ below (Po E s.heap.size none (va_up σ 29 out) ℓ) args s 0 0 (AA E s.heap.size)) (F0 m 2 ls [])) : ∀ (τ : Mm) (v2 : Int32) (H : Heap) (locs : List Loc) (h : HI E (va_up σ 29 τ) ℓ s H locs) (ls : Array Slot) (hl : lv_has ls 3 [(0, .ref (Ea E 29 0)), (1, .int p0), (2, .int v2)]), f_X9_goMinutes_2 p0 k2 τ v2 = some out → W p l e rm_X9_goMinutes s m args below meth c H locs 0 0 (MQ below (Po E s.heap.size none (va_up σ 29 out) ℓ) args s 0 0 (AA E s.heap.size)) (F0 m 2 ls []) := by
  intro τ v2 H locs h ls hl hf
  unfold f_X9_goMinutes_2 at hf
  have C0 := C
  obtain ⟨hx, hb, hr, hml, hown, hts, hlk, hK, hSF⟩ := C0
  refine lv_iload_n hx hb dX9_goMinutes_2 rfl (lv_at hl 2 rfl) ?_
  refine lv_iload_n hx hb dX9_goMinutes_3 rfl (lv_at hl 1 rfl) ?_
  refine lv_icmp_ge (tgt := 17) hx hb dX9_goMinutes_4 (by decide) (fun c1 => ?_) (fun c1 => ?_)
  · replace hf := it_t c1 hf
    replace hf := Option.some.inj hf
    subst hf
    exact r_vre C h dX9_goMinutes_17
  replace hf := it_f c1 hf
  refine lv_aload_n hx hb dX9_goMinutes_7 rfl (lv_at hl 0 rfl) ?_
  obtain ⟨u2, hu2, hf⟩ := bd_use hf
  refine r_cv_9 (rest := []) C h (c_X9_goMinute  hu2) (rfl : Kd 29 = 9) gX9_goMinutes_X9_goMinute rfl ⟨rfl, rfl⟩ hdX9_goMinute ⟨Nat.le_of_ble_eq_true rfl, Nat.le_of_ble_eq_true rfl⟩ ⟨Nat.zero_le _, Nat.zero_le _⟩ hl.1 rfl (Nat.le_of_ble_eq_true rfl) dX9_goMinutes_8 (fun H locs h => ?_)
  obtain ⟨x3, ex3⟩ : ∃ y : Int32, y = (v2 + (1 : Int32)) := ⟨_, rfl⟩
  refine lv_iinc (v := x3) (lv' := [(2, .int x3), (0, .ref (Ea E 29 0)), (1, .int p0)]) hx hb dX9_goMinutes_11 hl (k := 2) rfl (by rw [ex3]; rfl) (by decide) rfl (fun ls hl => ?_)
  replace hf := lt_use ex3 hf
  clear ex3
  refine lv_goto (tgt := 2) hx hb dX9_goMinutes_14 (by decide) ?_
  exact hk2 _ _ _ _ h ls (lv_sub hl [1, 2, 0] rfl) hf
set_option maxHeartbeats 4000000 in
set_option maxRecDepth 100000 in
theorem w_X9_goMinutes_2L {p : Program} {l : Launch} {e : Env} {s : State} {m : MethodId} {args : Array Value} {below : List Frame} {meth : Method} {c : Code} {E : Ev} {σ : Ms} {ℓ : Mz} {p0 : Int32} {out : Mm}   (C : Cx cX9_goMinutes 3 none wsX9_goMinutes RX9 E p s m args meth c)  : ∀ (n9 : Nat) (τ : Mm) (v2 : Int32) (H : Heap) (locs : List Loc) (h : HI E (va_up σ 29 τ) ℓ s H locs) (ls : Array Slot) (hl : lv_has ls 3 [(0, .ref (Ea E 29 0)), (1, .int p0), (2, .int v2)]), f_X9_goMinutes_2L p0  n9 τ v2 = some out → W p l e rm_X9_goMinutes s m args below meth c H locs 0 0 (MQ below (Po E s.heap.size none (va_up σ 29 out) ℓ) args s 0 0 (AA E s.heap.size)) (F0 m 2 ls []) := by
  intro n9
  induction n9 with
  | zero =>
    intro τ v2 H locs h ls hl hf
    cases (show (none : Option (Mm)) = some out from hf)
  | succ n9 ih =>
    intro τ v2 H locs h ls hl hf
    exact w_X9_goMinutes_2   C  ih τ v2 H locs h ls hl hf
set_option maxHeartbeats 4000000 in
set_option maxRecDepth 100000 in
theorem w_X9_goMinutes_0 {p : Program} {l : Launch} {e : Env} {s : State} {m : MethodId} {args : Array Value} {below : List Frame} {meth : Method} {c : Code} {E : Ev} {σ : Ms} {ℓ : Mz} {p0 : Int32} {out : Mm}   (C : Cx cX9_goMinutes 3 none wsX9_goMinutes RX9 E p s m args meth c)  : ∀ (τ : Mm) (H : Heap) (locs : List Loc) (h : HI E (va_up σ 29 τ) ℓ s H locs) (ls : Array Slot) (hl : lv_has ls 3 [(0, .ref (Ea E 29 0)), (1, .int p0)]), f_X9_goMinutes_0 p0  τ = some out → W p l e rm_X9_goMinutes s m args below meth c H locs 0 0 (MQ below (Po E s.heap.size none (va_up σ 29 out) ℓ) args s 0 0 (AA E s.heap.size)) (F0 m 0 ls []) := by
  intro τ H locs h ls hl hf
  unfold f_X9_goMinutes_0 at hf
  have C0 := C
  obtain ⟨hx, hb, hr, hml, hown, hts, hlk, hK, hSF⟩ := C0
  refine lv_iconst (v := (0 : Int32)) hx hb dX9_goMinutes_0 (by decide) ?_
  refine lv_istore_n (lv' := [(2, .int (0 : Int32)), (0, .ref (Ea E 29 0)), (1, .int p0)]) hx hb dX9_goMinutes_1 rfl hl (by decide) rfl (fun ls hl => ?_)
  exact w_X9_goMinutes_2L    C  _ _ _ _ _ h ls (lv_sub hl [1, 2, 0] rfl) hf
theorem c_X9_goMinutes {l : Launch} {E : Ev} {σ : Ms} {ℓ : Mz} {τ : Mm} {p0 : Int32} {out : Mm} (hf : f_X9_goMinutes τ p0 = some out) : Ct l yX9_goMinutes wsX9_goMinutes rm_X9_goMinutes [.ref (Ea E 29 0), .int p0] E (va_up σ 29 τ) ℓ none (va_up σ 29 out) ℓ := by
  refine Ct_mk (cc := cX9_goMinutes) (mL := 3) (ret := none) (own := RX9) (by decide +kernel) rfl rfl (Nat.le_of_ble_eq_true rfl) (fun p e s m below meth c C h ls hl => ?_)
  exact w_X9_goMinutes_0  C τ _ _ h ls (lv_sub hl [0, 1] rfl) hf
theorem k_X9_goMinutes {l : Launch} {E : Ev} {σ : Ms} {ℓ : Mz} {τ : Mm} {p0 : Int32} (hτ : σ 29 = τ) {out : Mm} (hf : f_X9_goMinutes τ p0 = some out) : Ct l yX9_goMinutes wsX9_goMinutes rm_X9_goMinutes [.ref (Ea E 29 0), .int p0] E σ ℓ none (va_up σ 29 out) ℓ := by
  subst hτ
  have h := c_X9_goMinutes (l := l) (E := E) (σ := σ) (ℓ := ℓ)  hf
  rw [up_id σ 29] at h
  exact h
theorem hdX9_pass : yX9_pass.cls = RX9 ∧ yX9_pass.cls ≠ "java/lang/invoke/MethodHandle" ∧ yX9_pass.cls ≠ "java/lang/invoke/VarHandle" ∧ (parseMethodDescriptor yX9_pass.desc).map (fun d => d.parameters.length) = some 1 := by decide +kernel
def rm_X9_pass : Room := { frames := 9, cells := 0, slots := 0, locals := 211 }
set_option maxRecDepth 100000 in
theorem inX9_pass_9 : ∀ w ∈ wsX90, w ∈ wsX9_pass := fun _ h => List.mem_cons_of_mem _ (List.mem_append_right _ h)
set_option maxRecDepth 100000 in
theorem lkX9_pass_22 : Cond.fieldLink RX9 22 "BellsBelowModel" "minute" "I" ∈ wsX9_pass := by decide +kernel
set_option maxHeartbeats 4000000 in
set_option maxRecDepth 100000 in
theorem w_X9_pass_0 {p : Program} {l : Launch} {e : Env} {s : State} {m : MethodId} {args : Array Value} {below : List Frame} {meth : Method} {c : Code} {E : Ev} {σ : Ms} {ℓ : Mz} {p0 : Int32} {out : Int32 × Mm}   (C : Cx cX9_pass 2 (some .int) wsX9_pass RX9 E p s m args meth c)  : ∀ (τ : Mm) (H : Heap) (locs : List Loc) (h : HI E (va_up σ 29 τ) ℓ s H locs) (ls : Array Slot) (hl : lv_has ls 2 [(0, .ref (Ea E 29 0)), (1, .int p0)]), f_X9_pass_0 p0  τ = some out → W p l e rm_X9_pass s m args below meth c H locs 0 0 (MQ below (Po E s.heap.size (some (.int out.1)) (va_up σ 29 out.2) ℓ) args s 0 0 (AA E s.heap.size)) (F0 m 0 ls []) := by
  intro τ H locs h ls hl hf
  unfold f_X9_pass_0 at hf
  have C0 := C
  obtain ⟨hx, hb, hr, hml, hown, hts, hlk, hK, hSF⟩ := C0
  refine lv_aload_n hx hb dX9_pass_0 rfl (lv_at hl 0 rfl) ?_
  refine lv_iload_n hx hb dX9_pass_1 rfl (lv_at hl 1 rfl) ?_
  obtain ⟨u1, hu1, hf⟩ := bd_use hf
  refine r_cv_9 (rest := []) C h (c_X9_isMinutes  hu1) (rfl : Kd 29 = 9) gX9_pass_X9_isMinutes rfl ⟨rfl, rfl⟩ hdX9_isMinutes ⟨Nat.le_of_ble_eq_true rfl, Nat.le_of_ble_eq_true rfl⟩ ⟨Nat.zero_le _, Nat.zero_le _⟩ hl.1 rfl (Nat.le_of_ble_eq_true rfl) dX9_pass_2 (fun H locs h => ?_)
  refine lv_if_ne (tgt := 11) hx hb dX9_pass_5 (by decide) (fun c2 => ?_) (fun c2 => ?_)
  · replace hf := it_f c2 hf
    refine lv_aload_n hx hb dX9_pass_11 rfl (lv_at hl 0 rfl) ?_
    refine gf_9_4 C h (rfl : Kd 29 = 9) up_eq inX9_pass_9 lkX9_pass_22 dX9_pass_12 ?_
    refine lv_iload_n hx hb dX9_pass_15 rfl (lv_at hl 1 rfl) ?_
    refine lv_iadd hx hb dX9_pass_16 ?_
    refine lv_sipush (v := (9999 : Int32)) hx hb dX9_pass_17 (by decide) ?_
    refine lv_icmp_le (tgt := 26) hx hb dX9_pass_20 (by decide) (fun c3 => ?_) (fun c3 => ?_)
    · replace hf := it_t c3 hf
      refine lv_aload_n hx hb dX9_pass_26 rfl (lv_at hl 0 rfl) ?_
      refine lv_iload_n hx hb dX9_pass_27 rfl (lv_at hl 1 rfl) ?_
      obtain ⟨u4, hu4, hf⟩ := bd_use hf
      refine r_cv_9 (rest := []) C h (c_X9_goMinutes  hu4) (rfl : Kd 29 = 9) gX9_pass_X9_goMinutes rfl ⟨rfl, rfl⟩ hdX9_goMinutes ⟨Nat.le_of_ble_eq_true rfl, Nat.le_of_ble_eq_true rfl⟩ ⟨Nat.zero_le _, Nat.zero_le _⟩ hl.1 rfl (Nat.le_of_ble_eq_true rfl) dX9_pass_28 (fun H locs h => ?_)
      refine lv_aload_n hx hb dX9_pass_31 rfl (lv_at hl 0 rfl) ?_
      refine gf_9_4 C h (rfl : Kd 29 = 9) up_eq inX9_pass_9 lkX9_pass_22 dX9_pass_32 ?_
      replace hf := Option.some.inj hf
      subst hf
      exact r_ire C h dX9_pass_35
    replace hf := it_f c3 hf
    refine lv_bipush (v := (-3 : Int32)) hx hb dX9_pass_23 (by decide) ?_
    replace hf := Option.some.inj hf
    subst hf
    exact r_ire C h dX9_pass_25
  replace hf := it_t c2 hf
  refine lv_bipush (v := (-2 : Int32)) hx hb dX9_pass_8 (by decide) ?_
  replace hf := Option.some.inj hf
  subst hf
  exact r_ire C h dX9_pass_10
theorem c_X9_pass {l : Launch} {E : Ev} {σ : Ms} {ℓ : Mz} {τ : Mm} {p0 : Int32} {out : Int32 × Mm} (hf : f_X9_pass τ p0 = some out) : Ct l yX9_pass wsX9_pass rm_X9_pass [.ref (Ea E 29 0), .int p0] E (va_up σ 29 τ) ℓ (some (.int out.1)) (va_up σ 29 out.2) ℓ := by
  refine Ct_mk (cc := cX9_pass) (mL := 2) (ret := (some .int)) (own := RX9) (by decide +kernel) rfl rfl (Nat.le_of_ble_eq_true rfl) (fun p e s m below meth c C h ls hl => ?_)
  exact w_X9_pass_0  C τ _ _ h ls (lv_sub hl [0, 1] rfl) hf
theorem k_X9_pass {l : Launch} {E : Ev} {σ : Ms} {ℓ : Mz} {τ : Mm} {p0 : Int32} (hτ : σ 29 = τ) {out : Int32 × Mm} (hf : f_X9_pass τ p0 = some out) : Ct l yX9_pass wsX9_pass rm_X9_pass [.ref (Ea E 29 0), .int p0] E σ ℓ (some (.int out.1)) (va_up σ 29 out.2) ℓ := by
  subst hτ
  have h := c_X9_pass (l := l) (E := E) (σ := σ) (ℓ := ℓ)  hf
  rw [up_id σ 29] at h
  exact h
theorem hdX9_save : yX9_save.cls = RX9 ∧ yX9_save.cls ≠ "java/lang/invoke/MethodHandle" ∧ yX9_save.cls ≠ "java/lang/invoke/VarHandle" ∧ (parseMethodDescriptor yX9_save.desc).map (fun d => d.parameters.length) = some 0 := by decide +kernel
def rm_X9_save : Room := { frames := 0, cells := 0, slots := 0, locals := 0 }
set_option maxRecDepth 100000 in
theorem wdX9_save_Cond_constant_RX9_394__2000000000_ : Cond.constant RX9 394 (2000000000) ∈ wsX9_save := by decide +kernel
set_option maxRecDepth 100000 in
theorem inX9_save_9 : ∀ w ∈ wsX90, w ∈ wsX9_save := fun _ h => List.mem_cons_of_mem _ (List.mem_append_right _ h)
set_option maxRecDepth 100000 in
theorem lkX9_save_105 : Cond.fieldLink RX9 105 "BellsBelowModel" "mostCame" "I" ∈ wsX9_save := by decide +kernel
set_option maxRecDepth 100000 in
theorem lkX9_save_109 : Cond.fieldLink RX9 109 "BellsBelowModel" "mostWaited" "I" ∈ wsX9_save := by decide +kernel
set_option maxRecDepth 100000 in
theorem lkX9_save_13 : Cond.fieldLink RX9 13 "BellsBelowModel" "absent" "I" ∈ wsX9_save := by decide +kernel
set_option maxRecDepth 100000 in
theorem lkX9_save_112 : Cond.fieldLink RX9 112 "BellsBelowModel" "keptAbsent" "I" ∈ wsX9_save := by decide +kernel
set_option maxRecDepth 100000 in
theorem lkX9_save_16 : Cond.fieldLink RX9 16 "BellsBelowModel" "rung" "I" ∈ wsX9_save := by decide +kernel
set_option maxRecDepth 100000 in
theorem lkX9_save_115 : Cond.fieldLink RX9 115 "BellsBelowModel" "keptRung" "I" ∈ wsX9_save := by decide +kernel
set_option maxRecDepth 100000 in
theorem lkX9_save_19 : Cond.fieldLink RX9 19 "BellsBelowModel" "waited" "I" ∈ wsX9_save := by decide +kernel
set_option maxRecDepth 100000 in
theorem lkX9_save_118 : Cond.fieldLink RX9 118 "BellsBelowModel" "keptWaited" "I" ∈ wsX9_save := by decide +kernel
set_option maxRecDepth 100000 in
theorem lkX9_save_22 : Cond.fieldLink RX9 22 "BellsBelowModel" "minute" "I" ∈ wsX9_save := by decide +kernel
set_option maxRecDepth 100000 in
theorem lkX9_save_121 : Cond.fieldLink RX9 121 "BellsBelowModel" "keptMinute" "I" ∈ wsX9_save := by decide +kernel
set_option maxRecDepth 100000 in
theorem lkX9_save_124 : Cond.fieldLink RX9 124 "BellsBelowModel" "keptFloor" "[I" ∈ wsX9_save := by decide +kernel
set_option maxRecDepth 100000 in
theorem lkX9_save_32 : Cond.fieldLink RX9 32 "BellsBelowModel" "floor" "[I" ∈ wsX9_save := by decide +kernel
set_option maxRecDepth 100000 in
theorem lkX9_save_127 : Cond.fieldLink RX9 127 "BellsBelowModel" "keptGoal" "[I" ∈ wsX9_save := by decide +kernel
set_option maxRecDepth 100000 in
theorem lkX9_save_35 : Cond.fieldLink RX9 35 "BellsBelowModel" "goal" "[I" ∈ wsX9_save := by decide +kernel
set_option maxRecDepth 100000 in
theorem lkX9_save_130 : Cond.fieldLink RX9 130 "BellsBelowModel" "keptRests" "[I" ∈ wsX9_save := by decide +kernel
set_option maxRecDepth 100000 in
theorem lkX9_save_38 : Cond.fieldLink RX9 38 "BellsBelowModel" "rests" "[I" ∈ wsX9_save := by decide +kernel
set_option maxRecDepth 100000 in
theorem lkX9_save_133 : Cond.fieldLink RX9 133 "BellsBelowModel" "keptCame" "[I" ∈ wsX9_save := by decide +kernel
set_option maxRecDepth 100000 in
theorem lkX9_save_41 : Cond.fieldLink RX9 41 "BellsBelowModel" "came" "[I" ∈ wsX9_save := by decide +kernel
set_option maxHeartbeats 4000000 in
set_option maxRecDepth 100000 in
theorem w_X9_save_48 {p : Program} {l : Launch} {e : Env} {s : State} {m : MethodId} {args : Array Value} {below : List Frame} {meth : Method} {c : Code} {E : Ev} {σ : Ms} {ℓ : Mz} {out : Mm}   (C : Cx cX9_save 2 none wsX9_save RX9 E p s m args meth c) {k48 : Mm → Int32 → Option (Mm)} (hk48 : ∀ (τ : Mm) (v1 : Int32) (H : Heap) (locs : List Loc), HI E (va_up σ 29 τ) ℓ s H locs → ∀ ls : Array Slot, lv_has ls 2 [(0, .ref (Ea E 29 0)), (1, .int v1)] → k48 τ v1 = some out → W p l e rm_X9_save s m args below meth c H locs 0 0 (MQ below (Po E s.heap.size none (va_up σ 29 out) ℓ) args s 0 0 (AA E s.heap.size)) (F0 m 48 ls [])) : ∀ (τ : Mm) (v1 : Int32) (H : Heap) (locs : List Loc) (h : HI E (va_up σ 29 τ) ℓ s H locs) (ls : Array Slot) (hl : lv_has ls 2 [(0, .ref (Ea E 29 0)), (1, .int v1)]), f_X9_save_48  k48 τ v1 = some out → W p l e rm_X9_save s m args below meth c H locs 0 0 (MQ below (Po E s.heap.size none (va_up σ 29 out) ℓ) args s 0 0 (AA E s.heap.size)) (F0 m 48 ls []) := by
  intro τ v1 H locs h ls hl hf
  unfold f_X9_save_48 at hf
  have C0 := C
  obtain ⟨hx, hb, hr, hml, hown, hts, hlk, hK, hSF⟩ := C0
  refine lv_iload_n hx hb dX9_save_48 rfl (lv_at hl 1 rfl) ?_
  refine lv_bipush (v := (6 : Int32)) hx hb dX9_save_49 (by decide) ?_
  refine lv_icmp_ge (tgt := 108) hx hb dX9_save_51 (by decide) (fun c7 => ?_) (fun c7 => ?_)
  · replace hf := it_t c7 hf
    replace hf := Option.some.inj hf
    subst hf
    exact r_vre C h dX9_save_108
  replace hf := it_f c7 hf
  refine lv_aload_n hx hb dX9_save_54 rfl (lv_at hl 0 rfl) ?_
  refine gf_9_37 C h (rfl : Kd 29 = 9) up_eq inX9_save_9 lkX9_save_124 dX9_save_55 ?_
  refine lv_iload_n hx hb dX9_save_58 rfl (lv_at hl 1 rfl) ?_
  refine lv_aload_n hx hb dX9_save_59 rfl (lv_at hl 0 rfl) ?_
  refine gf_9_7 C h (rfl : Kd 29 = 9) up_eq inX9_save_9 lkX9_save_32 dX9_save_60 ?_
  refine lv_iload_n hx hb dX9_save_63 rfl (lv_at hl 1 rfl) ?_
  obtain ⟨g8, hf⟩ := gd_use hf
  refine ld_9_3 C h (rfl : Kd 29 = 9) up_eq (inB_in g8) dX9_save_64 ?_
  obtain ⟨g9, hf⟩ := gd_use hf
  refine sa_9_19 C h (rfl : Kd 29 = 9) up_eq (F := fun t => va_up σ 29 t) (fun _ => up_up) (inB_in g9) dX9_save_65 (fun τ10 eτ10 H locs h => ?_)
  replace hf := lt_use eτ10 hf
  clear eτ10
  refine lv_aload_n hx hb dX9_save_66 rfl (lv_at hl 0 rfl) ?_
  refine gf_9_38 C h (rfl : Kd 29 = 9) up_eq inX9_save_9 lkX9_save_127 dX9_save_67 ?_
  refine lv_iload_n hx hb dX9_save_70 rfl (lv_at hl 1 rfl) ?_
  refine lv_aload_n hx hb dX9_save_71 rfl (lv_at hl 0 rfl) ?_
  refine gf_9_8 C h (rfl : Kd 29 = 9) up_eq inX9_save_9 lkX9_save_35 dX9_save_72 ?_
  refine lv_iload_n hx hb dX9_save_75 rfl (lv_at hl 1 rfl) ?_
  obtain ⟨g11, hf⟩ := gd_use hf
  refine ld_9_4 C h (rfl : Kd 29 = 9) up_eq (inB_in g11) dX9_save_76 ?_
  obtain ⟨g12, hf⟩ := gd_use hf
  refine sa_9_20 C h (rfl : Kd 29 = 9) up_eq (F := fun t => va_up σ 29 t) (fun _ => up_up) (inB_in g12) dX9_save_77 (fun τ13 eτ13 H locs h => ?_)
  replace hf := lt_use eτ13 hf
  clear eτ13
  refine lv_aload_n hx hb dX9_save_78 rfl (lv_at hl 0 rfl) ?_
  refine gf_9_39 C h (rfl : Kd 29 = 9) up_eq inX9_save_9 lkX9_save_130 dX9_save_79 ?_
  refine lv_iload_n hx hb dX9_save_82 rfl (lv_at hl 1 rfl) ?_
  refine lv_aload_n hx hb dX9_save_83 rfl (lv_at hl 0 rfl) ?_
  refine gf_9_9 C h (rfl : Kd 29 = 9) up_eq inX9_save_9 lkX9_save_38 dX9_save_84 ?_
  refine lv_iload_n hx hb dX9_save_87 rfl (lv_at hl 1 rfl) ?_
  obtain ⟨g14, hf⟩ := gd_use hf
  refine ld_9_5 C h (rfl : Kd 29 = 9) up_eq (inB_in g14) dX9_save_88 ?_
  obtain ⟨g15, hf⟩ := gd_use hf
  refine sa_9_21 C h (rfl : Kd 29 = 9) up_eq (F := fun t => va_up σ 29 t) (fun _ => up_up) (inB_in g15) dX9_save_89 (fun τ16 eτ16 H locs h => ?_)
  replace hf := lt_use eτ16 hf
  clear eτ16
  refine lv_aload_n hx hb dX9_save_90 rfl (lv_at hl 0 rfl) ?_
  refine gf_9_40 C h (rfl : Kd 29 = 9) up_eq inX9_save_9 lkX9_save_133 dX9_save_91 ?_
  refine lv_iload_n hx hb dX9_save_94 rfl (lv_at hl 1 rfl) ?_
  refine lv_aload_n hx hb dX9_save_95 rfl (lv_at hl 0 rfl) ?_
  refine gf_9_10 C h (rfl : Kd 29 = 9) up_eq inX9_save_9 lkX9_save_41 dX9_save_96 ?_
  refine lv_iload_n hx hb dX9_save_99 rfl (lv_at hl 1 rfl) ?_
  obtain ⟨g17, hf⟩ := gd_use hf
  refine ld_9_6 C h (rfl : Kd 29 = 9) up_eq (inB_in g17) dX9_save_100 ?_
  obtain ⟨g18, hf⟩ := gd_use hf
  refine sa_9_22 C h (rfl : Kd 29 = 9) up_eq (F := fun t => va_up σ 29 t) (fun _ => up_up) (inB_in g18) dX9_save_101 (fun τ19 eτ19 H locs h => ?_)
  replace hf := lt_use eτ19 hf
  clear eτ19
  obtain ⟨x20, ex20⟩ : ∃ y : Int32, y = (v1 + (1 : Int32)) := ⟨_, rfl⟩
  refine lv_iinc (v := x20) (lv' := [(1, .int x20), (0, .ref (Ea E 29 0))]) hx hb dX9_save_102 hl (k := 1) rfl (by rw [ex20]; rfl) (by decide) rfl (fun ls hl => ?_)
  replace hf := lt_use ex20 hf
  clear ex20
  refine lv_goto (tgt := 48) hx hb dX9_save_105 (by decide) ?_
  exact hk48 _ _ _ _ h ls (lv_sub hl [1, 0] rfl) hf
set_option maxHeartbeats 4000000 in
set_option maxRecDepth 100000 in
theorem w_X9_save_48L {p : Program} {l : Launch} {e : Env} {s : State} {m : MethodId} {args : Array Value} {below : List Frame} {meth : Method} {c : Code} {E : Ev} {σ : Ms} {ℓ : Mz} {out : Mm}   (C : Cx cX9_save 2 none wsX9_save RX9 E p s m args meth c)  : ∀ (n9 : Nat) (τ : Mm) (v1 : Int32) (H : Heap) (locs : List Loc) (h : HI E (va_up σ 29 τ) ℓ s H locs) (ls : Array Slot) (hl : lv_has ls 2 [(0, .ref (Ea E 29 0)), (1, .int v1)]), f_X9_save_48L   n9 τ v1 = some out → W p l e rm_X9_save s m args below meth c H locs 0 0 (MQ below (Po E s.heap.size none (va_up σ 29 out) ℓ) args s 0 0 (AA E s.heap.size)) (F0 m 48 ls []) := by
  intro n9
  induction n9 with
  | zero =>
    intro τ v1 H locs h ls hl hf
    cases (show (none : Option (Mm)) = some out from hf)
  | succ n9 ih =>
    intro τ v1 H locs h ls hl hf
    exact w_X9_save_48   C  ih τ v1 H locs h ls hl hf
set_option maxHeartbeats 4000000 in
set_option maxRecDepth 100000 in
theorem w_X9_save_0 {p : Program} {l : Launch} {e : Env} {s : State} {m : MethodId} {args : Array Value} {below : List Frame} {meth : Method} {c : Code} {E : Ev} {σ : Ms} {ℓ : Mz} {out : Mm}   (C : Cx cX9_save 2 none wsX9_save RX9 E p s m args meth c)  : ∀ (τ : Mm) (H : Heap) (locs : List Loc) (h : HI E (va_up σ 29 τ) ℓ s H locs) (ls : Array Slot) (hl : lv_has ls 2 [(0, .ref (Ea E 29 0))]), f_X9_save_0   τ = some out → W p l e rm_X9_save s m args below meth c H locs 0 0 (MQ below (Po E s.heap.size none (va_up σ 29 out) ℓ) args s 0 0 (AA E s.heap.size)) (F0 m 0 ls []) := by
  intro τ H locs h ls hl hf
  unfold f_X9_save_0 at hf
  have C0 := C
  obtain ⟨hx, hb, hr, hml, hown, hts, hlk, hK, hSF⟩ := C0
  refine lv_aload_n hx hb dX9_save_0 rfl (lv_at hl 0 rfl) ?_
  refine lv_ldcw hx hb hown (hts _ wdX9_save_Cond_constant_RX9_394__2000000000_) dX9_save_1 ?_
  refine pf_9_31 C h (rfl : Kd 29 = 9) up_eq (F := fun t => va_up σ 29 t) (fun _ => up_up) inX9_save_9 lkX9_save_105 dX9_save_4 (fun τ1 eτ1 H locs h => ?_)
  replace hf := lt_use eτ1 hf
  clear eτ1
  refine lv_aload_n hx hb dX9_save_7 rfl (lv_at hl 0 rfl) ?_
  refine lv_ldcw hx hb hown (hts _ wdX9_save_Cond_constant_RX9_394__2000000000_) dX9_save_8 ?_
  refine pf_9_32 C h (rfl : Kd 29 = 9) up_eq (F := fun t => va_up σ 29 t) (fun _ => up_up) inX9_save_9 lkX9_save_109 dX9_save_11 (fun τ2 eτ2 H locs h => ?_)
  replace hf := lt_use eτ2 hf
  clear eτ2
  refine lv_aload_n hx hb dX9_save_14 rfl (lv_at hl 0 rfl) ?_
  refine lv_aload_n hx hb dX9_save_15 rfl (lv_at hl 0 rfl) ?_
  refine gf_9_1 C h (rfl : Kd 29 = 9) up_eq inX9_save_9 lkX9_save_13 dX9_save_16 ?_
  refine pf_9_33 C h (rfl : Kd 29 = 9) up_eq (F := fun t => va_up σ 29 t) (fun _ => up_up) inX9_save_9 lkX9_save_112 dX9_save_19 (fun τ3 eτ3 H locs h => ?_)
  replace hf := lt_use eτ3 hf
  clear eτ3
  refine lv_aload_n hx hb dX9_save_22 rfl (lv_at hl 0 rfl) ?_
  refine lv_aload_n hx hb dX9_save_23 rfl (lv_at hl 0 rfl) ?_
  refine gf_9_2 C h (rfl : Kd 29 = 9) up_eq inX9_save_9 lkX9_save_16 dX9_save_24 ?_
  refine pf_9_34 C h (rfl : Kd 29 = 9) up_eq (F := fun t => va_up σ 29 t) (fun _ => up_up) inX9_save_9 lkX9_save_115 dX9_save_27 (fun τ4 eτ4 H locs h => ?_)
  replace hf := lt_use eτ4 hf
  clear eτ4
  refine lv_aload_n hx hb dX9_save_30 rfl (lv_at hl 0 rfl) ?_
  refine lv_aload_n hx hb dX9_save_31 rfl (lv_at hl 0 rfl) ?_
  refine gf_9_3 C h (rfl : Kd 29 = 9) up_eq inX9_save_9 lkX9_save_19 dX9_save_32 ?_
  refine pf_9_35 C h (rfl : Kd 29 = 9) up_eq (F := fun t => va_up σ 29 t) (fun _ => up_up) inX9_save_9 lkX9_save_118 dX9_save_35 (fun τ5 eτ5 H locs h => ?_)
  replace hf := lt_use eτ5 hf
  clear eτ5
  refine lv_aload_n hx hb dX9_save_38 rfl (lv_at hl 0 rfl) ?_
  refine lv_aload_n hx hb dX9_save_39 rfl (lv_at hl 0 rfl) ?_
  refine gf_9_4 C h (rfl : Kd 29 = 9) up_eq inX9_save_9 lkX9_save_22 dX9_save_40 ?_
  refine pf_9_36 C h (rfl : Kd 29 = 9) up_eq (F := fun t => va_up σ 29 t) (fun _ => up_up) inX9_save_9 lkX9_save_121 dX9_save_43 (fun τ6 eτ6 H locs h => ?_)
  replace hf := lt_use eτ6 hf
  clear eτ6
  refine lv_iconst (v := (0 : Int32)) hx hb dX9_save_46 (by decide) ?_
  refine lv_istore_n (lv' := [(1, .int (0 : Int32)), (0, .ref (Ea E 29 0))]) hx hb dX9_save_47 rfl hl (by decide) rfl (fun ls hl => ?_)
  exact w_X9_save_48L    C  _ _ _ _ _ h ls (lv_sub hl [1, 0] rfl) hf
theorem c_X9_save {l : Launch} {E : Ev} {σ : Ms} {ℓ : Mz} {τ : Mm} {out : Mm} (hf : f_X9_save τ = some out) : Ct l yX9_save wsX9_save rm_X9_save [.ref (Ea E 29 0)] E (va_up σ 29 τ) ℓ none (va_up σ 29 out) ℓ := by
  refine Ct_mk (cc := cX9_save) (mL := 2) (ret := none) (own := RX9) (by decide +kernel) rfl rfl (Nat.le_of_ble_eq_true rfl) (fun p e s m below meth c C h ls hl => ?_)
  exact w_X9_save_0  C τ _ _ h ls (lv_sub hl [0] rfl) hf
theorem k_X9_save {l : Launch} {E : Ev} {σ : Ms} {ℓ : Mz} {τ : Mm} (hτ : σ 29 = τ) {out : Mm} (hf : f_X9_save τ = some out) : Ct l yX9_save wsX9_save rm_X9_save [.ref (Ea E 29 0)] E σ ℓ none (va_up σ 29 out) ℓ := by
  subst hτ
  have h := c_X9_save (l := l) (E := E) (σ := σ) (ℓ := ℓ)  hf
  rw [up_id σ 29] at h
  exact h
theorem hdX9_putBack : yX9_putBack.cls = RX9 ∧ yX9_putBack.cls ≠ "java/lang/invoke/MethodHandle" ∧ yX9_putBack.cls ≠ "java/lang/invoke/VarHandle" ∧ (parseMethodDescriptor yX9_putBack.desc).map (fun d => d.parameters.length) = some 0 := by decide +kernel
def rm_X9_putBack : Room := { frames := 0, cells := 0, slots := 0, locals := 0 }
set_option maxRecDepth 100000 in
theorem inX9_putBack_9 : ∀ w ∈ wsX90, w ∈ wsX9_putBack := fun _ h => List.mem_cons_of_mem _ (List.mem_append_right _ h)
set_option maxRecDepth 100000 in
theorem lkX9_putBack_105 : Cond.fieldLink RX9 105 "BellsBelowModel" "mostCame" "I" ∈ wsX9_putBack := by decide +kernel
set_option maxRecDepth 100000 in
theorem wdX9_putBack_Cond_constant_RX9_108__999999_ : Cond.constant RX9 108 (999999) ∈ wsX9_putBack := by decide +kernel
set_option maxRecDepth 100000 in
theorem lkX9_putBack_109 : Cond.fieldLink RX9 109 "BellsBelowModel" "mostWaited" "I" ∈ wsX9_putBack := by decide +kernel
set_option maxRecDepth 100000 in
theorem lkX9_putBack_112 : Cond.fieldLink RX9 112 "BellsBelowModel" "keptAbsent" "I" ∈ wsX9_putBack := by decide +kernel
set_option maxRecDepth 100000 in
theorem lkX9_putBack_13 : Cond.fieldLink RX9 13 "BellsBelowModel" "absent" "I" ∈ wsX9_putBack := by decide +kernel
set_option maxRecDepth 100000 in
theorem lkX9_putBack_115 : Cond.fieldLink RX9 115 "BellsBelowModel" "keptRung" "I" ∈ wsX9_putBack := by decide +kernel
set_option maxRecDepth 100000 in
theorem lkX9_putBack_16 : Cond.fieldLink RX9 16 "BellsBelowModel" "rung" "I" ∈ wsX9_putBack := by decide +kernel
set_option maxRecDepth 100000 in
theorem lkX9_putBack_118 : Cond.fieldLink RX9 118 "BellsBelowModel" "keptWaited" "I" ∈ wsX9_putBack := by decide +kernel
set_option maxRecDepth 100000 in
theorem lkX9_putBack_19 : Cond.fieldLink RX9 19 "BellsBelowModel" "waited" "I" ∈ wsX9_putBack := by decide +kernel
set_option maxRecDepth 100000 in
theorem lkX9_putBack_121 : Cond.fieldLink RX9 121 "BellsBelowModel" "keptMinute" "I" ∈ wsX9_putBack := by decide +kernel
set_option maxRecDepth 100000 in
theorem lkX9_putBack_22 : Cond.fieldLink RX9 22 "BellsBelowModel" "minute" "I" ∈ wsX9_putBack := by decide +kernel
set_option maxRecDepth 100000 in
theorem lkX9_putBack_32 : Cond.fieldLink RX9 32 "BellsBelowModel" "floor" "[I" ∈ wsX9_putBack := by decide +kernel
set_option maxRecDepth 100000 in
theorem lkX9_putBack_124 : Cond.fieldLink RX9 124 "BellsBelowModel" "keptFloor" "[I" ∈ wsX9_putBack := by decide +kernel
set_option maxRecDepth 100000 in
theorem lkX9_putBack_35 : Cond.fieldLink RX9 35 "BellsBelowModel" "goal" "[I" ∈ wsX9_putBack := by decide +kernel
set_option maxRecDepth 100000 in
theorem lkX9_putBack_127 : Cond.fieldLink RX9 127 "BellsBelowModel" "keptGoal" "[I" ∈ wsX9_putBack := by decide +kernel
set_option maxRecDepth 100000 in
theorem lkX9_putBack_38 : Cond.fieldLink RX9 38 "BellsBelowModel" "rests" "[I" ∈ wsX9_putBack := by decide +kernel
set_option maxRecDepth 100000 in
theorem lkX9_putBack_130 : Cond.fieldLink RX9 130 "BellsBelowModel" "keptRests" "[I" ∈ wsX9_putBack := by decide +kernel
set_option maxRecDepth 100000 in
theorem lkX9_putBack_41 : Cond.fieldLink RX9 41 "BellsBelowModel" "came" "[I" ∈ wsX9_putBack := by decide +kernel
set_option maxRecDepth 100000 in
theorem lkX9_putBack_133 : Cond.fieldLink RX9 133 "BellsBelowModel" "keptCame" "[I" ∈ wsX9_putBack := by decide +kernel
set_option maxHeartbeats 4000000 in
set_option maxRecDepth 100000 in
theorem w_X9_putBack_47 {p : Program} {l : Launch} {e : Env} {s : State} {m : MethodId} {args : Array Value} {below : List Frame} {meth : Method} {c : Code} {E : Ev} {σ : Ms} {ℓ : Mz} {out : Mm}   (C : Cx cX9_putBack 2 none wsX9_putBack RX9 E p s m args meth c) {k47 : Mm → Int32 → Option (Mm)} (hk47 : ∀ (τ : Mm) (v1 : Int32) (H : Heap) (locs : List Loc), HI E (va_up σ 29 τ) ℓ s H locs → ∀ ls : Array Slot, lv_has ls 2 [(0, .ref (Ea E 29 0)), (1, .int v1)] → k47 τ v1 = some out → W p l e rm_X9_putBack s m args below meth c H locs 0 0 (MQ below (Po E s.heap.size none (va_up σ 29 out) ℓ) args s 0 0 (AA E s.heap.size)) (F0 m 47 ls [])) : ∀ (τ : Mm) (v1 : Int32) (H : Heap) (locs : List Loc) (h : HI E (va_up σ 29 τ) ℓ s H locs) (ls : Array Slot) (hl : lv_has ls 2 [(0, .ref (Ea E 29 0)), (1, .int v1)]), f_X9_putBack_47  k47 τ v1 = some out → W p l e rm_X9_putBack s m args below meth c H locs 0 0 (MQ below (Po E s.heap.size none (va_up σ 29 out) ℓ) args s 0 0 (AA E s.heap.size)) (F0 m 47 ls []) := by
  intro τ v1 H locs h ls hl hf
  unfold f_X9_putBack_47 at hf
  have C0 := C
  obtain ⟨hx, hb, hr, hml, hown, hts, hlk, hK, hSF⟩ := C0
  refine lv_iload_n hx hb dX9_putBack_47 rfl (lv_at hl 1 rfl) ?_
  refine lv_bipush (v := (6 : Int32)) hx hb dX9_putBack_48 (by decide) ?_
  refine lv_icmp_ge (tgt := 107) hx hb dX9_putBack_50 (by decide) (fun c7 => ?_) (fun c7 => ?_)
  · replace hf := it_t c7 hf
    replace hf := Option.some.inj hf
    subst hf
    exact r_vre C h dX9_putBack_107
  replace hf := it_f c7 hf
  refine lv_aload_n hx hb dX9_putBack_53 rfl (lv_at hl 0 rfl) ?_
  refine gf_9_7 C h (rfl : Kd 29 = 9) up_eq inX9_putBack_9 lkX9_putBack_32 dX9_putBack_54 ?_
  refine lv_iload_n hx hb dX9_putBack_57 rfl (lv_at hl 1 rfl) ?_
  refine lv_aload_n hx hb dX9_putBack_58 rfl (lv_at hl 0 rfl) ?_
  refine gf_9_37 C h (rfl : Kd 29 = 9) up_eq inX9_putBack_9 lkX9_putBack_124 dX9_putBack_59 ?_
  refine lv_iload_n hx hb dX9_putBack_62 rfl (lv_at hl 1 rfl) ?_
  obtain ⟨g8, hf⟩ := gd_use hf
  refine ld_9_19 C h (rfl : Kd 29 = 9) up_eq (inB_in g8) dX9_putBack_63 ?_
  obtain ⟨g9, hf⟩ := gd_use hf
  refine sa_9_3 C h (rfl : Kd 29 = 9) up_eq (F := fun t => va_up σ 29 t) (fun _ => up_up) (inB_in g9) dX9_putBack_64 (fun τ10 eτ10 H locs h => ?_)
  replace hf := lt_use eτ10 hf
  clear eτ10
  refine lv_aload_n hx hb dX9_putBack_65 rfl (lv_at hl 0 rfl) ?_
  refine gf_9_8 C h (rfl : Kd 29 = 9) up_eq inX9_putBack_9 lkX9_putBack_35 dX9_putBack_66 ?_
  refine lv_iload_n hx hb dX9_putBack_69 rfl (lv_at hl 1 rfl) ?_
  refine lv_aload_n hx hb dX9_putBack_70 rfl (lv_at hl 0 rfl) ?_
  refine gf_9_38 C h (rfl : Kd 29 = 9) up_eq inX9_putBack_9 lkX9_putBack_127 dX9_putBack_71 ?_
  refine lv_iload_n hx hb dX9_putBack_74 rfl (lv_at hl 1 rfl) ?_
  obtain ⟨g11, hf⟩ := gd_use hf
  refine ld_9_20 C h (rfl : Kd 29 = 9) up_eq (inB_in g11) dX9_putBack_75 ?_
  obtain ⟨g12, hf⟩ := gd_use hf
  refine sa_9_4 C h (rfl : Kd 29 = 9) up_eq (F := fun t => va_up σ 29 t) (fun _ => up_up) (inB_in g12) dX9_putBack_76 (fun τ13 eτ13 H locs h => ?_)
  replace hf := lt_use eτ13 hf
  clear eτ13
  refine lv_aload_n hx hb dX9_putBack_77 rfl (lv_at hl 0 rfl) ?_
  refine gf_9_9 C h (rfl : Kd 29 = 9) up_eq inX9_putBack_9 lkX9_putBack_38 dX9_putBack_78 ?_
  refine lv_iload_n hx hb dX9_putBack_81 rfl (lv_at hl 1 rfl) ?_
  refine lv_aload_n hx hb dX9_putBack_82 rfl (lv_at hl 0 rfl) ?_
  refine gf_9_39 C h (rfl : Kd 29 = 9) up_eq inX9_putBack_9 lkX9_putBack_130 dX9_putBack_83 ?_
  refine lv_iload_n hx hb dX9_putBack_86 rfl (lv_at hl 1 rfl) ?_
  obtain ⟨g14, hf⟩ := gd_use hf
  refine ld_9_21 C h (rfl : Kd 29 = 9) up_eq (inB_in g14) dX9_putBack_87 ?_
  obtain ⟨g15, hf⟩ := gd_use hf
  refine sa_9_5 C h (rfl : Kd 29 = 9) up_eq (F := fun t => va_up σ 29 t) (fun _ => up_up) (inB_in g15) dX9_putBack_88 (fun τ16 eτ16 H locs h => ?_)
  replace hf := lt_use eτ16 hf
  clear eτ16
  refine lv_aload_n hx hb dX9_putBack_89 rfl (lv_at hl 0 rfl) ?_
  refine gf_9_10 C h (rfl : Kd 29 = 9) up_eq inX9_putBack_9 lkX9_putBack_41 dX9_putBack_90 ?_
  refine lv_iload_n hx hb dX9_putBack_93 rfl (lv_at hl 1 rfl) ?_
  refine lv_aload_n hx hb dX9_putBack_94 rfl (lv_at hl 0 rfl) ?_
  refine gf_9_40 C h (rfl : Kd 29 = 9) up_eq inX9_putBack_9 lkX9_putBack_133 dX9_putBack_95 ?_
  refine lv_iload_n hx hb dX9_putBack_98 rfl (lv_at hl 1 rfl) ?_
  obtain ⟨g17, hf⟩ := gd_use hf
  refine ld_9_22 C h (rfl : Kd 29 = 9) up_eq (inB_in g17) dX9_putBack_99 ?_
  obtain ⟨g18, hf⟩ := gd_use hf
  refine sa_9_6 C h (rfl : Kd 29 = 9) up_eq (F := fun t => va_up σ 29 t) (fun _ => up_up) (inB_in g18) dX9_putBack_100 (fun τ19 eτ19 H locs h => ?_)
  replace hf := lt_use eτ19 hf
  clear eτ19
  obtain ⟨x20, ex20⟩ : ∃ y : Int32, y = (v1 + (1 : Int32)) := ⟨_, rfl⟩
  refine lv_iinc (v := x20) (lv' := [(1, .int x20), (0, .ref (Ea E 29 0))]) hx hb dX9_putBack_101 hl (k := 1) rfl (by rw [ex20]; rfl) (by decide) rfl (fun ls hl => ?_)
  replace hf := lt_use ex20 hf
  clear ex20
  refine lv_goto (tgt := 47) hx hb dX9_putBack_104 (by decide) ?_
  exact hk47 _ _ _ _ h ls (lv_sub hl [1, 0] rfl) hf
set_option maxHeartbeats 4000000 in
set_option maxRecDepth 100000 in
theorem w_X9_putBack_47L {p : Program} {l : Launch} {e : Env} {s : State} {m : MethodId} {args : Array Value} {below : List Frame} {meth : Method} {c : Code} {E : Ev} {σ : Ms} {ℓ : Mz} {out : Mm}   (C : Cx cX9_putBack 2 none wsX9_putBack RX9 E p s m args meth c)  : ∀ (n9 : Nat) (τ : Mm) (v1 : Int32) (H : Heap) (locs : List Loc) (h : HI E (va_up σ 29 τ) ℓ s H locs) (ls : Array Slot) (hl : lv_has ls 2 [(0, .ref (Ea E 29 0)), (1, .int v1)]), f_X9_putBack_47L   n9 τ v1 = some out → W p l e rm_X9_putBack s m args below meth c H locs 0 0 (MQ below (Po E s.heap.size none (va_up σ 29 out) ℓ) args s 0 0 (AA E s.heap.size)) (F0 m 47 ls []) := by
  intro n9
  induction n9 with
  | zero =>
    intro τ v1 H locs h ls hl hf
    cases (show (none : Option (Mm)) = some out from hf)
  | succ n9 ih =>
    intro τ v1 H locs h ls hl hf
    exact w_X9_putBack_47   C  ih τ v1 H locs h ls hl hf
set_option maxHeartbeats 4000000 in
set_option maxRecDepth 100000 in
theorem w_X9_putBack_0 {p : Program} {l : Launch} {e : Env} {s : State} {m : MethodId} {args : Array Value} {below : List Frame} {meth : Method} {c : Code} {E : Ev} {σ : Ms} {ℓ : Mz} {out : Mm}   (C : Cx cX9_putBack 2 none wsX9_putBack RX9 E p s m args meth c)  : ∀ (τ : Mm) (H : Heap) (locs : List Loc) (h : HI E (va_up σ 29 τ) ℓ s H locs) (ls : Array Slot) (hl : lv_has ls 2 [(0, .ref (Ea E 29 0))]), f_X9_putBack_0   τ = some out → W p l e rm_X9_putBack s m args below meth c H locs 0 0 (MQ below (Po E s.heap.size none (va_up σ 29 out) ℓ) args s 0 0 (AA E s.heap.size)) (F0 m 0 ls []) := by
  intro τ H locs h ls hl hf
  unfold f_X9_putBack_0 at hf
  have C0 := C
  obtain ⟨hx, hb, hr, hml, hown, hts, hlk, hK, hSF⟩ := C0
  refine lv_aload_n hx hb dX9_putBack_0 rfl (lv_at hl 0 rfl) ?_
  refine lv_sipush (v := (9999 : Int32)) hx hb dX9_putBack_1 (by decide) ?_
  refine pf_9_31 C h (rfl : Kd 29 = 9) up_eq (F := fun t => va_up σ 29 t) (fun _ => up_up) inX9_putBack_9 lkX9_putBack_105 dX9_putBack_4 (fun τ1 eτ1 H locs h => ?_)
  replace hf := lt_use eτ1 hf
  clear eτ1
  refine lv_aload_n hx hb dX9_putBack_7 rfl (lv_at hl 0 rfl) ?_
  refine lv_ldc hx hb hown (hts _ wdX9_putBack_Cond_constant_RX9_108__999999_) dX9_putBack_8 ?_
  refine pf_9_32 C h (rfl : Kd 29 = 9) up_eq (F := fun t => va_up σ 29 t) (fun _ => up_up) inX9_putBack_9 lkX9_putBack_109 dX9_putBack_10 (fun τ2 eτ2 H locs h => ?_)
  replace hf := lt_use eτ2 hf
  clear eτ2
  refine lv_aload_n hx hb dX9_putBack_13 rfl (lv_at hl 0 rfl) ?_
  refine lv_aload_n hx hb dX9_putBack_14 rfl (lv_at hl 0 rfl) ?_
  refine gf_9_33 C h (rfl : Kd 29 = 9) up_eq inX9_putBack_9 lkX9_putBack_112 dX9_putBack_15 ?_
  refine pf_9_1 C h (rfl : Kd 29 = 9) up_eq (F := fun t => va_up σ 29 t) (fun _ => up_up) inX9_putBack_9 lkX9_putBack_13 dX9_putBack_18 (fun τ3 eτ3 H locs h => ?_)
  replace hf := lt_use eτ3 hf
  clear eτ3
  refine lv_aload_n hx hb dX9_putBack_21 rfl (lv_at hl 0 rfl) ?_
  refine lv_aload_n hx hb dX9_putBack_22 rfl (lv_at hl 0 rfl) ?_
  refine gf_9_34 C h (rfl : Kd 29 = 9) up_eq inX9_putBack_9 lkX9_putBack_115 dX9_putBack_23 ?_
  refine pf_9_2 C h (rfl : Kd 29 = 9) up_eq (F := fun t => va_up σ 29 t) (fun _ => up_up) inX9_putBack_9 lkX9_putBack_16 dX9_putBack_26 (fun τ4 eτ4 H locs h => ?_)
  replace hf := lt_use eτ4 hf
  clear eτ4
  refine lv_aload_n hx hb dX9_putBack_29 rfl (lv_at hl 0 rfl) ?_
  refine lv_aload_n hx hb dX9_putBack_30 rfl (lv_at hl 0 rfl) ?_
  refine gf_9_35 C h (rfl : Kd 29 = 9) up_eq inX9_putBack_9 lkX9_putBack_118 dX9_putBack_31 ?_
  refine pf_9_3 C h (rfl : Kd 29 = 9) up_eq (F := fun t => va_up σ 29 t) (fun _ => up_up) inX9_putBack_9 lkX9_putBack_19 dX9_putBack_34 (fun τ5 eτ5 H locs h => ?_)
  replace hf := lt_use eτ5 hf
  clear eτ5
  refine lv_aload_n hx hb dX9_putBack_37 rfl (lv_at hl 0 rfl) ?_
  refine lv_aload_n hx hb dX9_putBack_38 rfl (lv_at hl 0 rfl) ?_
  refine gf_9_36 C h (rfl : Kd 29 = 9) up_eq inX9_putBack_9 lkX9_putBack_121 dX9_putBack_39 ?_
  refine pf_9_4 C h (rfl : Kd 29 = 9) up_eq (F := fun t => va_up σ 29 t) (fun _ => up_up) inX9_putBack_9 lkX9_putBack_22 dX9_putBack_42 (fun τ6 eτ6 H locs h => ?_)
  replace hf := lt_use eτ6 hf
  clear eτ6
  refine lv_iconst (v := (0 : Int32)) hx hb dX9_putBack_45 (by decide) ?_
  refine lv_istore_n (lv' := [(1, .int (0 : Int32)), (0, .ref (Ea E 29 0))]) hx hb dX9_putBack_46 rfl hl (by decide) rfl (fun ls hl => ?_)
  exact w_X9_putBack_47L    C  _ _ _ _ _ h ls (lv_sub hl [1, 0] rfl) hf
theorem c_X9_putBack {l : Launch} {E : Ev} {σ : Ms} {ℓ : Mz} {τ : Mm} {out : Mm} (hf : f_X9_putBack τ = some out) : Ct l yX9_putBack wsX9_putBack rm_X9_putBack [.ref (Ea E 29 0)] E (va_up σ 29 τ) ℓ none (va_up σ 29 out) ℓ := by
  refine Ct_mk (cc := cX9_putBack) (mL := 2) (ret := none) (own := RX9) (by decide +kernel) rfl rfl (Nat.le_of_ble_eq_true rfl) (fun p e s m below meth c C h ls hl => ?_)
  exact w_X9_putBack_0  C τ _ _ h ls (lv_sub hl [0] rfl) hf
theorem k_X9_putBack {l : Launch} {E : Ev} {σ : Ms} {ℓ : Mz} {τ : Mm} (hτ : σ 29 = τ) {out : Mm} (hf : f_X9_putBack τ = some out) : Ct l yX9_putBack wsX9_putBack rm_X9_putBack [.ref (Ea E 29 0)] E σ ℓ none (va_up σ 29 out) ℓ := by
  subst hτ
  have h := c_X9_putBack (l := l) (E := E) (σ := σ) (ℓ := ℓ)  hf
  rw [up_id σ 29] at h
  exact h
theorem hdX9_stands : yX9_stands.cls = RX9 ∧ yX9_stands.cls ≠ "java/lang/invoke/MethodHandle" ∧ yX9_stands.cls ≠ "java/lang/invoke/VarHandle" ∧ (parseMethodDescriptor yX9_stands.desc).map (fun d => d.parameters.length) = some 1 := by decide +kernel
def rm_X9_stands : Room := { frames := 9, cells := 0, slots := 0, locals := 211 }
set_option maxRecDepth 100000 in
theorem wdX9_stands_Cond_constant_RX9_394__2000000000_ : Cond.constant RX9 394 (2000000000) ∈ wsX9_stands := by decide +kernel
set_option maxRecDepth 100000 in
theorem inX9_stands_9 : ∀ w ∈ wsX90, w ∈ wsX9_stands := fun _ h => List.mem_cons_of_mem _ (List.mem_append_right _ h)
set_option maxRecDepth 100000 in
theorem lkX9_stands_32 : Cond.fieldLink RX9 32 "BellsBelowModel" "floor" "[I" ∈ wsX9_stands := by decide +kernel
set_option maxRecDepth 100000 in
theorem lkX9_stands_19 : Cond.fieldLink RX9 19 "BellsBelowModel" "waited" "I" ∈ wsX9_stands := by decide +kernel
set_option maxHeartbeats 4000000 in
set_option maxRecDepth 100000 in
theorem w_X9_stands_59 {p : Program} {l : Launch} {e : Env} {s : State} {m : MethodId} {args : Array Value} {below : List Frame} {meth : Method} {c : Code} {E : Ev} {σ : Ms} {ℓ : Mz} {p0 : Int32} {out : Int32 × Mm}   (C : Cx cX9_stands 6 (some .int) wsX9_stands RX9 E p s m args meth c) {k9 : Mm → Int32 → Int32 → Int32 → Option (Int32 × Mm)} (hk9 : ∀ (τ : Mm) (v2 : Int32) (v3 : Int32) (v4 : Int32) (H : Heap) (locs : List Loc), HI E (va_up σ 29 τ) ℓ s H locs → ∀ ls : Array Slot, lv_has ls 6 [(0, .ref (Ea E 29 0)), (1, .int p0), (2, .int v2), (3, .int v3), (4, .int v4)] → k9 τ v2 v3 v4 = some out → W p l e rm_X9_stands s m args below meth c H locs 0 0 (MQ below (Po E s.heap.size (some (.int out.1)) (va_up σ 29 out.2) ℓ) args s 0 0 (AA E s.heap.size)) (F0 m 9 ls [])) : ∀ (τ : Mm) (v2 : Int32) (v3 : Int32) (v4 : Int32) (H : Heap) (locs : List Loc) (h : HI E (va_up σ 29 τ) ℓ s H locs) (ls : Array Slot) (hl : lv_has ls 6 [(0, .ref (Ea E 29 0)), (1, .int p0), (2, .int v2), (3, .int v3), (4, .int v4)]), f_X9_stands_59 p0 k9 τ v2 v3 v4 = some out → W p l e rm_X9_stands s m args below meth c H locs 0 0 (MQ below (Po E s.heap.size (some (.int out.1)) (va_up σ 29 out.2) ℓ) args s 0 0 (AA E s.heap.size)) (F0 m 59 ls []) := by
  intro τ v2 v3 v4 H locs h ls hl hf
  unfold f_X9_stands_59 at hf
  have C0 := C
  obtain ⟨hx, hb, hr, hml, hown, hts, hlk, hK, hSF⟩ := C0
  obtain ⟨x9, ex9⟩ : ∃ y : Int32, y = (v4 + (1 : Int32)) := ⟨_, rfl⟩
  refine lv_iinc (v := x9) (lv' := [(4, .int x9), (0, .ref (Ea E 29 0)), (1, .int p0), (2, .int v2), (3, .int v3)]) hx hb dX9_stands_59 hl (k := 4) rfl (by rw [ex9]; rfl) (by decide) rfl (fun ls hl => ?_)
  replace hf := lt_use ex9 hf
  clear ex9
  refine lv_goto (tgt := 9) hx hb dX9_stands_62 (by decide) ?_
  exact hk9 _ _ _ _ _ _ h ls (lv_sub hl [1, 2, 3, 4, 0] rfl) hf
set_option maxHeartbeats 4000000 in
set_option maxRecDepth 100000 in
theorem w_X9_stands_9 {p : Program} {l : Launch} {e : Env} {s : State} {m : MethodId} {args : Array Value} {below : List Frame} {meth : Method} {c : Code} {E : Ev} {σ : Ms} {ℓ : Mz} {p0 : Int32} {out : Int32 × Mm}   (C : Cx cX9_stands 6 (some .int) wsX9_stands RX9 E p s m args meth c) {k9 : Mm → Int32 → Int32 → Int32 → Option (Int32 × Mm)} (hk9 : ∀ (τ : Mm) (v2 : Int32) (v3 : Int32) (v4 : Int32) (H : Heap) (locs : List Loc), HI E (va_up σ 29 τ) ℓ s H locs → ∀ ls : Array Slot, lv_has ls 6 [(0, .ref (Ea E 29 0)), (1, .int p0), (2, .int v2), (3, .int v3), (4, .int v4)] → k9 τ v2 v3 v4 = some out → W p l e rm_X9_stands s m args below meth c H locs 0 0 (MQ below (Po E s.heap.size (some (.int out.1)) (va_up σ 29 out.2) ℓ) args s 0 0 (AA E s.heap.size)) (F0 m 9 ls [])) : ∀ (τ : Mm) (v2 : Int32) (v3 : Int32) (v4 : Int32) (H : Heap) (locs : List Loc) (h : HI E (va_up σ 29 τ) ℓ s H locs) (ls : Array Slot) (hl : lv_has ls 6 [(0, .ref (Ea E 29 0)), (1, .int p0), (2, .int v2), (3, .int v3), (4, .int v4)]), f_X9_stands_9 p0 k9 τ v2 v3 v4 = some out → W p l e rm_X9_stands s m args below meth c H locs 0 0 (MQ below (Po E s.heap.size (some (.int out.1)) (va_up σ 29 out.2) ℓ) args s 0 0 (AA E s.heap.size)) (F0 m 9 ls []) := by
  intro τ v2 v3 v4 H locs h ls hl hf
  unfold f_X9_stands_9 at hf
  have C0 := C
  obtain ⟨hx, hb, hr, hml, hown, hts, hlk, hK, hSF⟩ := C0
  refine lv_iload hx hb dX9_stands_9 (lv_at hl 4 rfl) ?_
  refine lv_bipush (v := (10 : Int32)) hx hb dX9_stands_11 (by decide) ?_
  refine lv_icmp_ge (tgt := 65) hx hb dX9_stands_13 (by decide) (fun c1 => ?_) (fun c1 => ?_)
  · replace hf := it_t c1 hf
    refine lv_iload_n hx hb dX9_stands_65 rfl (lv_at hl 2 rfl) ?_
    replace hf := Option.some.inj hf
    subst hf
    exact r_ire C h dX9_stands_66
  replace hf := it_f c1 hf
  refine lv_aload_n hx hb dX9_stands_16 rfl (lv_at hl 0 rfl) ?_
  obtain ⟨u2, hu2, hf⟩ := bd_use hf
  refine r_cv_9 (rest := []) C h (c_X9_save  hu2) (rfl : Kd 29 = 9) gX9_stands_X9_save rfl ⟨rfl, rfl⟩ hdX9_save ⟨Nat.le_of_ble_eq_true rfl, Nat.le_of_ble_eq_true rfl⟩ ⟨Nat.zero_le _, Nat.zero_le _⟩ hl.1 rfl (Nat.le_of_ble_eq_true rfl) dX9_stands_17 (fun H locs h => ?_)
  refine lv_aload_n hx hb dX9_stands_20 rfl (lv_at hl 0 rfl) ?_
  refine gf_9_7 C h (rfl : Kd 29 = 9) up_eq inX9_stands_9 lkX9_stands_32 dX9_stands_21 ?_
  refine lv_iload_n hx hb dX9_stands_24 rfl (lv_at hl 1 rfl) ?_
  refine lv_iload hx hb dX9_stands_25 (lv_at hl 4 rfl) ?_
  obtain ⟨g3, hf⟩ := gd_use hf
  refine sa_9_3 C h (rfl : Kd 29 = 9) up_eq (F := fun t => va_up σ 29 t) (fun _ => up_up) (inB_in g3) dX9_stands_27 (fun τ4 eτ4 H locs h => ?_)
  replace hf := lt_use eτ4 hf
  clear eτ4
  refine lv_aload_n hx hb dX9_stands_28 rfl (lv_at hl 0 rfl) ?_
  refine lv_bipush (v := (20 : Int32)) hx hb dX9_stands_29 (by decide) ?_
  obtain ⟨u5, hu5, hf⟩ := bd_use hf
  refine r_cv_9 (rest := []) C h (c_X9_goMinutes  hu5) (rfl : Kd 29 = 9) gX9_stands_X9_goMinutes rfl ⟨rfl, rfl⟩ hdX9_goMinutes ⟨Nat.le_of_ble_eq_true rfl, Nat.le_of_ble_eq_true rfl⟩ ⟨Nat.zero_le _, Nat.zero_le _⟩ hl.1 rfl (Nat.le_of_ble_eq_true rfl) dX9_stands_31 (fun H locs h => ?_)
  refine lv_aload_n hx hb dX9_stands_34 rfl (lv_at hl 0 rfl) ?_
  refine gf_9_3 C h (rfl : Kd 29 = 9) up_eq inX9_stands_9 lkX9_stands_19 dX9_stands_35 ?_
  refine lv_topi (fun x6 ex6 => ?_)
  replace hf := lt_use ex6 hf
  clear ex6
  refine lv_istore (lv' := [(5, .int x6), (0, .ref (Ea E 29 0)), (1, .int p0), (2, .int v2), (3, .int v3), (4, .int v4)]) hx hb dX9_stands_38 hl (by decide) rfl (fun ls hl => ?_)
  refine lv_aload_n hx hb dX9_stands_40 rfl (lv_at hl 1 rfl) ?_
  obtain ⟨u7, hu7, hf⟩ := bd_use hf
  refine r_cv_9 (rest := []) C h (c_X9_putBack  hu7) (rfl : Kd 29 = 9) gX9_stands_X9_putBack rfl ⟨rfl, rfl⟩ hdX9_putBack ⟨Nat.le_of_ble_eq_true rfl, Nat.le_of_ble_eq_true rfl⟩ ⟨Nat.zero_le _, Nat.zero_le _⟩ hl.1 rfl (Nat.le_of_ble_eq_true rfl) dX9_stands_41 (fun H locs h => ?_)
  refine lv_iload hx hb dX9_stands_44 (lv_at hl 0 rfl) ?_
  refine lv_iload_n hx hb dX9_stands_46 rfl (lv_at hl 4 rfl) ?_
  refine lv_icmp_lt (tgt := 53) hx hb dX9_stands_47 (by decide) (fun c8 => ?_) (fun c8 => ?_)
  · replace hf := it_t c8 hf
    refine lv_iload hx hb dX9_stands_53 (lv_at hl 5 rfl) ?_
    refine lv_istore_n (lv' := [(2, .int v4), (5, .int x6), (0, .ref (Ea E 29 0)), (1, .int p0), (3, .int v3), (4, .int v4)]) hx hb dX9_stands_55 rfl hl (by decide) rfl (fun ls hl => ?_)
    refine lv_iload hx hb dX9_stands_56 (lv_at hl 1 rfl) ?_
    refine lv_istore_n (lv' := [(3, .int x6), (2, .int v4), (5, .int x6), (0, .ref (Ea E 29 0)), (1, .int p0), (4, .int v4)]) hx hb dX9_stands_58 rfl hl (by decide) rfl (fun ls hl => ?_)
    exact w_X9_stands_59    C hk9 _ _ _ _ _ _ h ls (lv_sub hl [3, 4, 1, 0, 5] rfl) hf
  replace hf := it_f c8 hf
  refine lv_goto (tgt := 59) hx hb dX9_stands_50 (by decide) ?_
  exact w_X9_stands_59    C hk9 _ _ _ _ _ _ h ls (lv_sub hl [1, 2, 3, 4, 5] rfl) hf
set_option maxHeartbeats 4000000 in
set_option maxRecDepth 100000 in
theorem w_X9_stands_9L {p : Program} {l : Launch} {e : Env} {s : State} {m : MethodId} {args : Array Value} {below : List Frame} {meth : Method} {c : Code} {E : Ev} {σ : Ms} {ℓ : Mz} {p0 : Int32} {out : Int32 × Mm}   (C : Cx cX9_stands 6 (some .int) wsX9_stands RX9 E p s m args meth c)  : ∀ (n9 : Nat) (τ : Mm) (v2 : Int32) (v3 : Int32) (v4 : Int32) (H : Heap) (locs : List Loc) (h : HI E (va_up σ 29 τ) ℓ s H locs) (ls : Array Slot) (hl : lv_has ls 6 [(0, .ref (Ea E 29 0)), (1, .int p0), (2, .int v2), (3, .int v3), (4, .int v4)]), f_X9_stands_9L p0  n9 τ v2 v3 v4 = some out → W p l e rm_X9_stands s m args below meth c H locs 0 0 (MQ below (Po E s.heap.size (some (.int out.1)) (va_up σ 29 out.2) ℓ) args s 0 0 (AA E s.heap.size)) (F0 m 9 ls []) := by
  intro n9
  induction n9 with
  | zero =>
    intro τ v2 v3 v4 H locs h ls hl hf
    cases (show (none : Option (Int32 × Mm)) = some out from hf)
  | succ n9 ih =>
    intro τ v2 v3 v4 H locs h ls hl hf
    exact w_X9_stands_9   C  ih τ v2 v3 v4 H locs h ls hl hf
set_option maxHeartbeats 4000000 in
set_option maxRecDepth 100000 in
theorem w_X9_stands_0 {p : Program} {l : Launch} {e : Env} {s : State} {m : MethodId} {args : Array Value} {below : List Frame} {meth : Method} {c : Code} {E : Ev} {σ : Ms} {ℓ : Mz} {p0 : Int32} {out : Int32 × Mm}   (C : Cx cX9_stands 6 (some .int) wsX9_stands RX9 E p s m args meth c)  : ∀ (τ : Mm) (H : Heap) (locs : List Loc) (h : HI E (va_up σ 29 τ) ℓ s H locs) (ls : Array Slot) (hl : lv_has ls 6 [(0, .ref (Ea E 29 0)), (1, .int p0)]), f_X9_stands_0 p0  τ = some out → W p l e rm_X9_stands s m args below meth c H locs 0 0 (MQ below (Po E s.heap.size (some (.int out.1)) (va_up σ 29 out.2) ℓ) args s 0 0 (AA E s.heap.size)) (F0 m 0 ls []) := by
  intro τ H locs h ls hl hf
  unfold f_X9_stands_0 at hf
  have C0 := C
  obtain ⟨hx, hb, hr, hml, hown, hts, hlk, hK, hSF⟩ := C0
  refine lv_iconst (v := (0 : Int32)) hx hb dX9_stands_0 (by decide) ?_
  refine lv_istore_n (lv' := [(2, .int (0 : Int32)), (0, .ref (Ea E 29 0)), (1, .int p0)]) hx hb dX9_stands_1 rfl hl (by decide) rfl (fun ls hl => ?_)
  refine lv_ldcw hx hb hown (hts _ wdX9_stands_Cond_constant_RX9_394__2000000000_) dX9_stands_2 ?_
  refine lv_istore_n (lv' := [(3, .int (2000000000 : Int32)), (2, .int (0 : Int32)), (0, .ref (Ea E 29 0)), (1, .int p0)]) hx hb dX9_stands_5 rfl hl (by decide) rfl (fun ls hl => ?_)
  refine lv_iconst (v := (0 : Int32)) hx hb dX9_stands_6 (by decide) ?_
  refine lv_istore (lv' := [(4, .int (0 : Int32)), (3, .int (2000000000 : Int32)), (2, .int (0 : Int32)), (0, .ref (Ea E 29 0)), (1, .int p0)]) hx hb dX9_stands_7 hl (by decide) rfl (fun ls hl => ?_)
  exact w_X9_stands_9L    C  _ _ _ _ _ _ _ h ls (lv_sub hl [3, 4, 2, 1, 0] rfl) hf
theorem c_X9_stands {l : Launch} {E : Ev} {σ : Ms} {ℓ : Mz} {τ : Mm} {p0 : Int32} {out : Int32 × Mm} (hf : f_X9_stands τ p0 = some out) : Ct l yX9_stands wsX9_stands rm_X9_stands [.ref (Ea E 29 0), .int p0] E (va_up σ 29 τ) ℓ (some (.int out.1)) (va_up σ 29 out.2) ℓ := by
  refine Ct_mk (cc := cX9_stands) (mL := 6) (ret := (some .int)) (own := RX9) (by decide +kernel) rfl rfl (Nat.le_of_ble_eq_true rfl) (fun p e s m below meth c C h ls hl => ?_)
  exact w_X9_stands_0  C τ _ _ h ls (lv_sub hl [0, 1] rfl) hf
theorem k_X9_stands {l : Launch} {E : Ev} {σ : Ms} {ℓ : Mz} {τ : Mm} {p0 : Int32} (hτ : σ 29 = τ) {out : Int32 × Mm} (hf : f_X9_stands τ p0 = some out) : Ct l yX9_stands wsX9_stands rm_X9_stands [.ref (Ea E 29 0), .int p0] E σ ℓ (some (.int out.1)) (va_up σ 29 out.2) ℓ := by
  subst hτ
  have h := c_X9_stands (l := l) (E := E) (σ := σ) (ℓ := ℓ)  hf
  rw [up_id σ 29] at h
  exact h
theorem hdX9_of : yX9_of.cls = RX9 ∧ yX9_of.cls ≠ "java/lang/invoke/MethodHandle" ∧ yX9_of.cls ≠ "java/lang/invoke/VarHandle" ∧ (parseMethodDescriptor yX9_of.desc).map (fun d => d.parameters.length) = some 2 := by decide +kernel
def rm_X9_of : Room := { frames := 10, cells := 0, slots := 0, locals := 236 }
set_option maxRecDepth 100000 in
theorem inX9_of_9 : ∀ w ∈ wsX90, w ∈ wsX9_of := fun _ h => List.mem_cons_of_mem _ (List.mem_append_right _ h)
set_option maxRecDepth 100000 in
theorem lkX9_of_25 : Cond.fieldLink RX9 25 "BellsBelowModel" "kind" "[I" ∈ wsX9_of := by decide +kernel
set_option maxRecDepth 100000 in
theorem lkX9_of_29 : Cond.fieldLink RX9 29 "BellsBelowModel" "v" "[I" ∈ wsX9_of := by decide +kernel
set_option maxRecDepth 100000 in
theorem lkX9_of_32 : Cond.fieldLink RX9 32 "BellsBelowModel" "floor" "[I" ∈ wsX9_of := by decide +kernel
set_option maxRecDepth 100000 in
theorem lkX9_of_35 : Cond.fieldLink RX9 35 "BellsBelowModel" "goal" "[I" ∈ wsX9_of := by decide +kernel
set_option maxRecDepth 100000 in
theorem lkX9_of_38 : Cond.fieldLink RX9 38 "BellsBelowModel" "rests" "[I" ∈ wsX9_of := by decide +kernel
set_option maxRecDepth 100000 in
theorem lkX9_of_13 : Cond.fieldLink RX9 13 "BellsBelowModel" "absent" "I" ∈ wsX9_of := by decide +kernel
set_option maxRecDepth 100000 in
theorem lkX9_of_41 : Cond.fieldLink RX9 41 "BellsBelowModel" "came" "[I" ∈ wsX9_of := by decide +kernel
set_option maxHeartbeats 4000000 in
set_option maxRecDepth 100000 in
theorem w_X9_of_0 {p : Program} {l : Launch} {e : Env} {s : State} {m : MethodId} {args : Array Value} {below : List Frame} {meth : Method} {c : Code} {E : Ev} {σ : Ms} {ℓ : Mz} {p0 : Int32} {p1 : Int32} {out : Int32 × Mm}   (C : Cx cX9_of 3 (some .int) wsX9_of RX9 E p s m args meth c)  : ∀ (τ : Mm) (H : Heap) (locs : List Loc) (h : HI E (va_up σ 29 τ) ℓ s H locs) (ls : Array Slot) (hl : lv_has ls 3 [(0, .ref (Ea E 29 0)), (1, .int p0), (2, .int p1)]), f_X9_of_0 p0 p1  τ = some out → W p l e rm_X9_of s m args below meth c H locs 0 0 (MQ below (Po E s.heap.size (some (.int out.1)) (va_up σ 29 out.2) ℓ) args s 0 0 (AA E s.heap.size)) (F0 m 0 ls []) := by
  intro τ H locs h ls hl hf
  unfold f_X9_of_0 at hf
  have C0 := C
  obtain ⟨hx, hb, hr, hml, hown, hts, hlk, hK, hSF⟩ := C0
  refine lv_aload_n hx hb dX9_of_0 rfl (lv_at hl 0 rfl) ?_
  refine lv_iload_n hx hb dX9_of_1 rfl (lv_at hl 1 rfl) ?_
  obtain ⟨u1, hu1, hf⟩ := bd_use hf
  refine r_cv_9 (rest := []) C h (c_X9_isMaster up_eq hu1) (rfl : Kd 29 = 9) gX9_of_X9_isMaster rfl ⟨rfl, rfl⟩ hdX9_isMaster ⟨Nat.le_of_ble_eq_true rfl, Nat.le_of_ble_eq_true rfl⟩ ⟨Nat.zero_le _, Nat.zero_le _⟩ hl.1 rfl (Nat.le_of_ble_eq_true rfl) dX9_of_2 (fun H locs h => ?_)
  refine lv_if_ne (tgt := 12) hx hb dX9_of_5 (by decide) (fun c2 => ?_) (fun c2 => ?_)
  · replace hf := it_f c2 hf
    refine lv_aload_n hx hb dX9_of_12 rfl (lv_at hl 0 rfl) ?_
    refine lv_iload_n hx hb dX9_of_13 rfl (lv_at hl 2 rfl) ?_
    refine lv_bipush (v := (10 : Int32)) hx hb dX9_of_14 (by decide) ?_
    refine lv_bipush (v := (19 : Int32)) hx hb dX9_of_16 (by decide) ?_
    obtain ⟨u3, hu3, hf⟩ := bd_use hf
    refine r_cv_9 (rest := []) C h (c_X9_in  hu3) (rfl : Kd 29 = 9) gX9_of_X9_in rfl ⟨rfl, rfl⟩ hdX9_in ⟨Nat.le_of_ble_eq_true rfl, Nat.le_of_ble_eq_true rfl⟩ ⟨Nat.zero_le _, Nat.zero_le _⟩ hl.1 rfl (Nat.le_of_ble_eq_true rfl) dX9_of_18 (fun H locs h => ?_)
    refine lv_if_eq (tgt := 34) hx hb dX9_of_21 (by decide) (fun c4 => ?_) (fun c4 => ?_)
    · replace hf := it_t c4 hf
      refine lv_iload_n hx hb dX9_of_34 rfl (lv_at hl 2 rfl) ?_
      by_cases c5 : p1 = (0 : Int32)
      · replace hf := it_t c5 hf
        refine r_tin (v := (0 : Int32)) (off := 49) (tgt := 84) hx hb c5 dX9_of_35 (by decide) (by decide) (by decide) (by decide) ?_
        refine lv_aload_n hx hb dX9_of_84 rfl (lv_at hl 0 rfl) ?_
        refine gf_9_5 C h (rfl : Kd 29 = 9) up_eq inX9_of_9 lkX9_of_25 dX9_of_85 ?_
        refine lv_iload_n hx hb dX9_of_88 rfl (lv_at hl 1 rfl) ?_
        obtain ⟨g6, hf⟩ := gd_use hf
        refine ld_9_1 C h (rfl : Kd 29 = 9) up_eq (inB_in g6) dX9_of_89 ?_
        replace hf := Option.some.inj hf
        subst hf
        exact r_ire C h dX9_of_90
      replace hf := it_f c5 hf
      by_cases c7 : p1 = (1 : Int32)
      · replace hf := it_t c7 hf
        refine r_tin (v := (1 : Int32)) (off := 56) (tgt := 91) hx hb c7 dX9_of_35 (by decide) (by decide) (by decide) (by decide) ?_
        refine lv_aload_n hx hb dX9_of_91 rfl (lv_at hl 0 rfl) ?_
        refine gf_9_6 C h (rfl : Kd 29 = 9) up_eq inX9_of_9 lkX9_of_29 dX9_of_92 ?_
        refine lv_iload_n hx hb dX9_of_95 rfl (lv_at hl 1 rfl) ?_
        obtain ⟨g8, hf⟩ := gd_use hf
        refine ld_9_2 C h (rfl : Kd 29 = 9) up_eq (inB_in g8) dX9_of_96 ?_
        replace hf := Option.some.inj hf
        subst hf
        exact r_ire C h dX9_of_97
      replace hf := it_f c7 hf
      by_cases c9 : p1 = (2 : Int32)
      · replace hf := it_t c9 hf
        refine r_tin (v := (2 : Int32)) (off := 63) (tgt := 98) hx hb c9 dX9_of_35 (by decide) (by decide) (by decide) (by decide) ?_
        refine lv_aload_n hx hb dX9_of_98 rfl (lv_at hl 0 rfl) ?_
        refine gf_9_7 C h (rfl : Kd 29 = 9) up_eq inX9_of_9 lkX9_of_32 dX9_of_99 ?_
        refine lv_iload_n hx hb dX9_of_102 rfl (lv_at hl 1 rfl) ?_
        obtain ⟨g10, hf⟩ := gd_use hf
        refine ld_9_3 C h (rfl : Kd 29 = 9) up_eq (inB_in g10) dX9_of_103 ?_
        replace hf := Option.some.inj hf
        subst hf
        exact r_ire C h dX9_of_104
      replace hf := it_f c9 hf
      by_cases c11 : p1 = (3 : Int32)
      · replace hf := it_t c11 hf
        refine r_tin (v := (3 : Int32)) (off := 70) (tgt := 105) hx hb c11 dX9_of_35 (by decide) (by decide) (by decide) (by decide) ?_
        refine lv_aload_n hx hb dX9_of_105 rfl (lv_at hl 0 rfl) ?_
        refine gf_9_8 C h (rfl : Kd 29 = 9) up_eq inX9_of_9 lkX9_of_35 dX9_of_106 ?_
        refine lv_iload_n hx hb dX9_of_109 rfl (lv_at hl 1 rfl) ?_
        obtain ⟨g12, hf⟩ := gd_use hf
        refine ld_9_4 C h (rfl : Kd 29 = 9) up_eq (inB_in g12) dX9_of_110 ?_
        replace hf := Option.some.inj hf
        subst hf
        exact r_ire C h dX9_of_111
      replace hf := it_f c11 hf
      by_cases c13 : p1 = (4 : Int32)
      · replace hf := it_t c13 hf
        refine r_tin (v := (4 : Int32)) (off := 77) (tgt := 112) hx hb c13 dX9_of_35 (by decide) (by decide) (by decide) (by decide) ?_
        refine lv_aload_n hx hb dX9_of_112 rfl (lv_at hl 0 rfl) ?_
        refine gf_9_9 C h (rfl : Kd 29 = 9) up_eq inX9_of_9 lkX9_of_38 dX9_of_113 ?_
        refine lv_iload_n hx hb dX9_of_116 rfl (lv_at hl 1 rfl) ?_
        obtain ⟨g14, hf⟩ := gd_use hf
        refine ld_9_5 C h (rfl : Kd 29 = 9) up_eq (inB_in g14) dX9_of_117 ?_
        replace hf := Option.some.inj hf
        subst hf
        exact r_ire C h dX9_of_118
      replace hf := it_f c13 hf
      by_cases c15 : p1 = (5 : Int32)
      · replace hf := it_t c15 hf
        refine r_tin (v := (5 : Int32)) (off := 84) (tgt := 119) hx hb c15 dX9_of_35 (by decide) (by decide) (by decide) (by decide) ?_
        refine lv_aload_n hx hb dX9_of_119 rfl (lv_at hl 0 rfl) ?_
        refine lv_aload_n hx hb dX9_of_120 rfl (lv_at hl 0 rfl) ?_
        refine gf_9_1 C h (rfl : Kd 29 = 9) up_eq inX9_of_9 lkX9_of_13 dX9_of_121 ?_
        refine lv_iload_n hx hb dX9_of_124 rfl (lv_at hl 1 rfl) ?_
        obtain ⟨u16, hu16, hf⟩ := bd_use hf
        refine r_cv_9 (rest := []) C h (c_X9_has  hu16) (rfl : Kd 29 = 9) gX9_of_X9_has rfl ⟨rfl, rfl⟩ hdX9_has ⟨Nat.le_of_ble_eq_true rfl, Nat.le_of_ble_eq_true rfl⟩ ⟨Nat.zero_le _, Nat.zero_le _⟩ hl.1 rfl (Nat.le_of_ble_eq_true rfl) dX9_of_125 (fun H locs h => ?_)
        refine lv_if_eq (tgt := 135) hx hb dX9_of_128 (by decide) (fun c17 => ?_) (fun c17 => ?_)
        · replace hf := it_t c17 hf
          refine lv_iconst (v := (0 : Int32)) hx hb dX9_of_135 (by decide) ?_
          replace hf := Option.some.inj hf
          subst hf
          exact r_ire C h dX9_of_136
        replace hf := it_f c17 hf
        refine lv_iconst (v := (1 : Int32)) hx hb dX9_of_131 (by decide) ?_
        refine lv_goto (tgt := 136) hx hb dX9_of_132 (by decide) ?_
        replace hf := Option.some.inj hf
        subst hf
        exact r_ire C h dX9_of_136
      replace hf := it_f c15 hf
      by_cases c18 : p1 = (6 : Int32)
      · replace hf := it_t c18 hf
        refine r_tin (v := (6 : Int32)) (off := 102) (tgt := 137) hx hb c18 dX9_of_35 (by decide) (by decide) (by decide) (by decide) ?_
        refine lv_aload_n hx hb dX9_of_137 rfl (lv_at hl 0 rfl) ?_
        refine gf_9_10 C h (rfl : Kd 29 = 9) up_eq inX9_of_9 lkX9_of_41 dX9_of_138 ?_
        refine lv_iload_n hx hb dX9_of_141 rfl (lv_at hl 1 rfl) ?_
        obtain ⟨g19, hf⟩ := gd_use hf
        refine ld_9_6 C h (rfl : Kd 29 = 9) up_eq (inB_in g19) dX9_of_142 ?_
        replace hf := Option.some.inj hf
        subst hf
        exact r_ire C h dX9_of_143
      replace hf := it_f c18 hf
      by_cases c20 : p1 = (7 : Int32)
      · replace hf := it_t c20 hf
        refine r_tin (v := (7 : Int32)) (off := 109) (tgt := 144) hx hb c20 dX9_of_35 (by decide) (by decide) (by decide) (by decide) ?_
        refine lv_aload_n hx hb dX9_of_144 rfl (lv_at hl 0 rfl) ?_
        refine lv_iload_n hx hb dX9_of_145 rfl (lv_at hl 1 rfl) ?_
        obtain ⟨u21, hu21, hf⟩ := bd_use hf
        refine r_cv_9 (rest := []) C h (c_X9_isFree up_eq hu21) (rfl : Kd 29 = 9) gX9_of_X9_isFree rfl ⟨rfl, rfl⟩ hdX9_isFree ⟨Nat.le_of_ble_eq_true rfl, Nat.le_of_ble_eq_true rfl⟩ ⟨Nat.zero_le _, Nat.zero_le _⟩ hl.1 rfl (Nat.le_of_ble_eq_true rfl) dX9_of_146 (fun H locs h => ?_)
        refine lv_if_eq (tgt := 156) hx hb dX9_of_149 (by decide) (fun c22 => ?_) (fun c22 => ?_)
        · replace hf := it_t c22 hf
          refine lv_iconst (v := (0 : Int32)) hx hb dX9_of_156 (by decide) ?_
          replace hf := Option.some.inj hf
          subst hf
          exact r_ire C h dX9_of_157
        replace hf := it_f c22 hf
        refine lv_iconst (v := (1 : Int32)) hx hb dX9_of_152 (by decide) ?_
        refine lv_goto (tgt := 157) hx hb dX9_of_153 (by decide) ?_
        replace hf := Option.some.inj hf
        subst hf
        exact r_ire C h dX9_of_157
      replace hf := it_f c20 hf
      by_cases c23 : p1 = (8 : Int32)
      · replace hf := it_t c23 hf
        refine r_tin (v := (8 : Int32)) (off := 123) (tgt := 158) hx hb c23 dX9_of_35 (by decide) (by decide) (by decide) (by decide) ?_
        refine lv_aload_n hx hb dX9_of_158 rfl (lv_at hl 0 rfl) ?_
        refine lv_iload_n hx hb dX9_of_159 rfl (lv_at hl 1 rfl) ?_
        obtain ⟨u24, hu24, hf⟩ := bd_use hf
        refine r_cv_9 (rest := []) C h (c_X9_stands  hu24) (rfl : Kd 29 = 9) gX9_of_X9_stands rfl ⟨rfl, rfl⟩ hdX9_stands ⟨Nat.le_of_ble_eq_true rfl, Nat.le_of_ble_eq_true rfl⟩ ⟨Nat.zero_le _, Nat.zero_le _⟩ hl.1 rfl (Nat.le_of_ble_eq_true rfl) dX9_of_160 (fun H locs h => ?_)
        replace hf := Option.some.inj hf
        subst hf
        exact r_ire C h dX9_of_163
      replace hf := it_f c23 hf
      refine lv_tableOut (tgt := 164) hx hb dX9_of_35 (tsw_out [0, 1, 2, 3, 4, 5, 6, 7, 8] (List.forall_mem_cons.mpr ⟨c5, (List.forall_mem_cons.mpr ⟨c7, (List.forall_mem_cons.mpr ⟨c9, (List.forall_mem_cons.mpr ⟨c11, (List.forall_mem_cons.mpr ⟨c13, (List.forall_mem_cons.mpr ⟨c15, (List.forall_mem_cons.mpr ⟨c18, (List.forall_mem_cons.mpr ⟨c20, (List.forall_mem_cons.mpr ⟨c23, (fun _ h => absurd h List.not_mem_nil)⟩)⟩)⟩)⟩)⟩)⟩)⟩)⟩)⟩) rfl) (by decide) ?_
      refine lv_sipush (v := (-10001 : Int32)) hx hb dX9_of_164 (by decide) ?_
      replace hf := Option.some.inj hf
      subst hf
      exact r_ire C h dX9_of_167
    replace hf := it_f c4 hf
    refine lv_aload_n hx hb dX9_of_24 rfl (lv_at hl 0 rfl) ?_
    refine lv_iload_n hx hb dX9_of_25 rfl (lv_at hl 1 rfl) ?_
    refine lv_iload_n hx hb dX9_of_26 rfl (lv_at hl 2 rfl) ?_
    refine lv_bipush (v := (10 : Int32)) hx hb dX9_of_27 (by decide) ?_
    refine lv_isub hx hb dX9_of_29 ?_
    obtain ⟨u25, hu25, hf⟩ := bd_use hf
    refine r_cv_9 (rest := []) C h (c_X9_cost  hu25) (rfl : Kd 29 = 9) gX9_of_X9_cost rfl ⟨rfl, rfl⟩ hdX9_cost ⟨Nat.le_of_ble_eq_true rfl, Nat.le_of_ble_eq_true rfl⟩ ⟨Nat.zero_le _, Nat.zero_le _⟩ hl.1 rfl (Nat.le_of_ble_eq_true rfl) dX9_of_30 (fun H locs h => ?_)
    replace hf := Option.some.inj hf
    subst hf
    exact r_ire C h dX9_of_33
  replace hf := it_t c2 hf
  refine lv_sipush (v := (-10001 : Int32)) hx hb dX9_of_8 (by decide) ?_
  replace hf := Option.some.inj hf
  subst hf
  exact r_ire C h dX9_of_11
theorem c_X9_of {l : Launch} {E : Ev} {σ : Ms} {ℓ : Mz} {τ : Mm} {p0 : Int32} {p1 : Int32} {out : Int32 × Mm} (hf : f_X9_of τ p0 p1 = some out) : Ct l yX9_of wsX9_of rm_X9_of [.ref (Ea E 29 0), .int p0, .int p1] E (va_up σ 29 τ) ℓ (some (.int out.1)) (va_up σ 29 out.2) ℓ := by
  refine Ct_mk (cc := cX9_of) (mL := 3) (ret := (some .int)) (own := RX9) (by decide +kernel) rfl rfl (Nat.le_of_ble_eq_true rfl) (fun p e s m below meth c C h ls hl => ?_)
  exact w_X9_of_0  C τ _ _ h ls (lv_sub hl [0, 1, 2] rfl) hf
theorem k_X9_of {l : Launch} {E : Ev} {σ : Ms} {ℓ : Mz} {τ : Mm} {p0 : Int32} {p1 : Int32} (hτ : σ 29 = τ) {out : Int32 × Mm} (hf : f_X9_of τ p0 p1 = some out) : Ct l yX9_of wsX9_of rm_X9_of [.ref (Ea E 29 0), .int p0, .int p1] E σ ℓ (some (.int out.1)) (va_up σ 29 out.2) ℓ := by
  subst hτ
  have h := c_X9_of (l := l) (E := E) (σ := σ) (ℓ := ℓ)  hf
  rw [up_id σ 29] at h
  exact h
theorem hdX9_quiet : yX9_quiet.cls = RX9 ∧ yX9_quiet.cls ≠ "java/lang/invoke/MethodHandle" ∧ yX9_quiet.cls ≠ "java/lang/invoke/VarHandle" ∧ (parseMethodDescriptor yX9_quiet.desc).map (fun d => d.parameters.length) = some 0 := by decide +kernel
def rm_X9_quiet : Room := { frames := 8, cells := 0, slots := 0, locals := 189 }
set_option maxRecDepth 100000 in
theorem inX9_quiet_9 : ∀ w ∈ wsX90, w ∈ wsX9_quiet := fun _ h => List.mem_cons_of_mem _ (List.mem_append_right _ h)
set_option maxRecDepth 100000 in
theorem lkX9_quiet_16 : Cond.fieldLink RX9 16 "BellsBelowModel" "rung" "I" ∈ wsX9_quiet := by decide +kernel
set_option maxHeartbeats 4000000 in
set_option maxRecDepth 100000 in
theorem w_X9_quiet_29 {p : Program} {l : Launch} {e : Env} {s : State} {m : MethodId} {args : Array Value} {below : List Frame} {meth : Method} {c : Code} {E : Ev} {σ : Ms} {ℓ : Mz} {out : Int32 × Mm}   (C : Cx cX9_quiet 2 (some .int) wsX9_quiet RX9 E p s m args meth c)  : ∀ (τ : Mm) (v1 : Int32) (H : Heap) (locs : List Loc) (h : HI E (va_up σ 29 τ) ℓ s H locs) (ls : Array Slot) (hl : lv_has ls 2 [(0, .ref (Ea E 29 0)), (1, .int v1)]), f_X9_quiet_29   τ v1 = some out → W p l e rm_X9_quiet s m args below meth c H locs 0 0 (MQ below (Po E s.heap.size (some (.int out.1)) (va_up σ 29 out.2) ℓ) args s 0 0 (AA E s.heap.size)) (F0 m 29 ls []) := by
  intro τ v1 H locs h ls hl hf
  unfold f_X9_quiet_29 at hf
  have C0 := C
  obtain ⟨hx, hb, hr, hml, hown, hts, hlk, hK, hSF⟩ := C0
  refine lv_aload_n hx hb dX9_quiet_29 rfl (lv_at hl 0 rfl) ?_
  obtain ⟨u3, hu3, hf⟩ := bd_use hf
  refine r_cv_9 (rest := []) C h (c_X9_putBack  hu3) (rfl : Kd 29 = 9) gX9_quiet_X9_putBack rfl ⟨rfl, rfl⟩ hdX9_putBack ⟨Nat.le_of_ble_eq_true rfl, Nat.le_of_ble_eq_true rfl⟩ ⟨Nat.zero_le _, Nat.zero_le _⟩ hl.1 rfl (Nat.le_of_ble_eq_true rfl) dX9_quiet_30 (fun H locs h => ?_)
  refine lv_iload_n hx hb dX9_quiet_33 rfl (lv_at hl 1 rfl) ?_
  refine lv_bipush (v := (61 : Int32)) hx hb dX9_quiet_34 (by decide) ?_
  refine lv_icmp_ge (tgt := 43) hx hb dX9_quiet_36 (by decide) (fun c4 => ?_) (fun c4 => ?_)
  · replace hf := it_t c4 hf
    refine lv_bipush (v := (-5 : Int32)) hx hb dX9_quiet_43 (by decide) ?_
    replace hf := Option.some.inj hf
    subst hf
    exact r_ire C h dX9_quiet_45
  replace hf := it_f c4 hf
  refine lv_iload_n hx hb dX9_quiet_39 rfl (lv_at hl 1 rfl) ?_
  refine lv_goto (tgt := 45) hx hb dX9_quiet_40 (by decide) ?_
  replace hf := Option.some.inj hf
  subst hf
  exact r_ire C h dX9_quiet_45
set_option maxHeartbeats 4000000 in
set_option maxRecDepth 100000 in
theorem w_X9_quiet_6 {p : Program} {l : Launch} {e : Env} {s : State} {m : MethodId} {args : Array Value} {below : List Frame} {meth : Method} {c : Code} {E : Ev} {σ : Ms} {ℓ : Mz} {out : Int32 × Mm}   (C : Cx cX9_quiet 2 (some .int) wsX9_quiet RX9 E p s m args meth c) {k6 : Mm → Int32 → Option (Int32 × Mm)} (hk6 : ∀ (τ : Mm) (v1 : Int32) (H : Heap) (locs : List Loc), HI E (va_up σ 29 τ) ℓ s H locs → ∀ ls : Array Slot, lv_has ls 2 [(0, .ref (Ea E 29 0)), (1, .int v1)] → k6 τ v1 = some out → W p l e rm_X9_quiet s m args below meth c H locs 0 0 (MQ below (Po E s.heap.size (some (.int out.1)) (va_up σ 29 out.2) ℓ) args s 0 0 (AA E s.heap.size)) (F0 m 6 ls [])) : ∀ (τ : Mm) (v1 : Int32) (H : Heap) (locs : List Loc) (h : HI E (va_up σ 29 τ) ℓ s H locs) (ls : Array Slot) (hl : lv_has ls 2 [(0, .ref (Ea E 29 0)), (1, .int v1)]), f_X9_quiet_6  k6 τ v1 = some out → W p l e rm_X9_quiet s m args below meth c H locs 0 0 (MQ below (Po E s.heap.size (some (.int out.1)) (va_up σ 29 out.2) ℓ) args s 0 0 (AA E s.heap.size)) (F0 m 6 ls []) := by
  intro τ v1 H locs h ls hl hf
  unfold f_X9_quiet_6 at hf
  have C0 := C
  obtain ⟨hx, hb, hr, hml, hown, hts, hlk, hK, hSF⟩ := C0
  refine lv_iload_n hx hb dX9_quiet_6 rfl (lv_at hl 1 rfl) ?_
  refine lv_bipush (v := (61 : Int32)) hx hb dX9_quiet_7 (by decide) ?_
  refine lv_icmp_ge (tgt := 29) hx hb dX9_quiet_9 (by decide) (fun c2 => ?_) (fun c2 => ?_)
  · replace hf := it_t c2 hf
    exact w_X9_quiet_29    C  _ _ _ _ h ls (lv_sub hl [0, 1] rfl) hf
  replace hf := it_f c2 hf
  refine lv_aload_n hx hb dX9_quiet_12 rfl (lv_at hl 0 rfl) ?_
  refine gf_9_2 C h (rfl : Kd 29 = 9) up_eq inX9_quiet_9 lkX9_quiet_16 dX9_quiet_13 ?_
  refine lv_if_eq (tgt := 29) hx hb dX9_quiet_16 (by decide) (fun c5 => ?_) (fun c5 => ?_)
  · replace hf := it_t c5 hf
    exact w_X9_quiet_29    C  _ _ _ _ h ls (lv_sub hl [0, 1] rfl) hf
  replace hf := it_f c5 hf
  refine lv_aload_n hx hb dX9_quiet_19 rfl (lv_at hl 0 rfl) ?_
  obtain ⟨u6, hu6, hf⟩ := bd_use hf
  refine r_cv_9 (rest := []) C h (c_X9_goMinute  hu6) (rfl : Kd 29 = 9) gX9_quiet_X9_goMinute rfl ⟨rfl, rfl⟩ hdX9_goMinute ⟨Nat.le_of_ble_eq_true rfl, Nat.le_of_ble_eq_true rfl⟩ ⟨Nat.zero_le _, Nat.zero_le _⟩ hl.1 rfl (Nat.le_of_ble_eq_true rfl) dX9_quiet_20 (fun H locs h => ?_)
  obtain ⟨x7, ex7⟩ : ∃ y : Int32, y = (v1 + (1 : Int32)) := ⟨_, rfl⟩
  refine lv_iinc (v := x7) (lv' := [(1, .int x7), (0, .ref (Ea E 29 0))]) hx hb dX9_quiet_23 hl (k := 1) rfl (by rw [ex7]; rfl) (by decide) rfl (fun ls hl => ?_)
  replace hf := lt_use ex7 hf
  clear ex7
  refine lv_goto (tgt := 6) hx hb dX9_quiet_26 (by decide) ?_
  exact hk6 _ _ _ _ h ls (lv_sub hl [1, 0] rfl) hf
set_option maxHeartbeats 4000000 in
set_option maxRecDepth 100000 in
theorem w_X9_quiet_6L {p : Program} {l : Launch} {e : Env} {s : State} {m : MethodId} {args : Array Value} {below : List Frame} {meth : Method} {c : Code} {E : Ev} {σ : Ms} {ℓ : Mz} {out : Int32 × Mm}   (C : Cx cX9_quiet 2 (some .int) wsX9_quiet RX9 E p s m args meth c)  : ∀ (n9 : Nat) (τ : Mm) (v1 : Int32) (H : Heap) (locs : List Loc) (h : HI E (va_up σ 29 τ) ℓ s H locs) (ls : Array Slot) (hl : lv_has ls 2 [(0, .ref (Ea E 29 0)), (1, .int v1)]), f_X9_quiet_6L   n9 τ v1 = some out → W p l e rm_X9_quiet s m args below meth c H locs 0 0 (MQ below (Po E s.heap.size (some (.int out.1)) (va_up σ 29 out.2) ℓ) args s 0 0 (AA E s.heap.size)) (F0 m 6 ls []) := by
  intro n9
  induction n9 with
  | zero =>
    intro τ v1 H locs h ls hl hf
    cases (show (none : Option (Int32 × Mm)) = some out from hf)
  | succ n9 ih =>
    intro τ v1 H locs h ls hl hf
    exact w_X9_quiet_6   C  ih τ v1 H locs h ls hl hf
set_option maxHeartbeats 4000000 in
set_option maxRecDepth 100000 in
theorem w_X9_quiet_0 {p : Program} {l : Launch} {e : Env} {s : State} {m : MethodId} {args : Array Value} {below : List Frame} {meth : Method} {c : Code} {E : Ev} {σ : Ms} {ℓ : Mz} {out : Int32 × Mm}   (C : Cx cX9_quiet 2 (some .int) wsX9_quiet RX9 E p s m args meth c)  : ∀ (τ : Mm) (H : Heap) (locs : List Loc) (h : HI E (va_up σ 29 τ) ℓ s H locs) (ls : Array Slot) (hl : lv_has ls 2 [(0, .ref (Ea E 29 0))]), f_X9_quiet_0   τ = some out → W p l e rm_X9_quiet s m args below meth c H locs 0 0 (MQ below (Po E s.heap.size (some (.int out.1)) (va_up σ 29 out.2) ℓ) args s 0 0 (AA E s.heap.size)) (F0 m 0 ls []) := by
  intro τ H locs h ls hl hf
  unfold f_X9_quiet_0 at hf
  have C0 := C
  obtain ⟨hx, hb, hr, hml, hown, hts, hlk, hK, hSF⟩ := C0
  refine lv_aload_n hx hb dX9_quiet_0 rfl (lv_at hl 0 rfl) ?_
  obtain ⟨u1, hu1, hf⟩ := bd_use hf
  refine r_cv_9 (rest := []) C h (c_X9_save  hu1) (rfl : Kd 29 = 9) gX9_quiet_X9_save rfl ⟨rfl, rfl⟩ hdX9_save ⟨Nat.le_of_ble_eq_true rfl, Nat.le_of_ble_eq_true rfl⟩ ⟨Nat.zero_le _, Nat.zero_le _⟩ hl.1 rfl (Nat.le_of_ble_eq_true rfl) dX9_quiet_1 (fun H locs h => ?_)
  refine lv_iconst (v := (0 : Int32)) hx hb dX9_quiet_4 (by decide) ?_
  refine lv_istore_n (lv' := [(1, .int (0 : Int32)), (0, .ref (Ea E 29 0))]) hx hb dX9_quiet_5 rfl hl (by decide) rfl (fun ls hl => ?_)
  exact w_X9_quiet_6L    C  _ _ _ _ _ h ls (lv_sub hl [1, 0] rfl) hf
theorem c_X9_quiet {l : Launch} {E : Ev} {σ : Ms} {ℓ : Mz} {τ : Mm} {out : Int32 × Mm} (hf : f_X9_quiet τ = some out) : Ct l yX9_quiet wsX9_quiet rm_X9_quiet [.ref (Ea E 29 0)] E (va_up σ 29 τ) ℓ (some (.int out.1)) (va_up σ 29 out.2) ℓ := by
  refine Ct_mk (cc := cX9_quiet) (mL := 2) (ret := (some .int)) (own := RX9) (by decide +kernel) rfl rfl (Nat.le_of_ble_eq_true rfl) (fun p e s m below meth c C h ls hl => ?_)
  exact w_X9_quiet_0  C τ _ _ h ls (lv_sub hl [0] rfl) hf
theorem k_X9_quiet {l : Launch} {E : Ev} {σ : Ms} {ℓ : Mz} {τ : Mm} (hτ : σ 29 = τ) {out : Int32 × Mm} (hf : f_X9_quiet τ = some out) : Ct l yX9_quiet wsX9_quiet rm_X9_quiet [.ref (Ea E 29 0)] E σ ℓ (some (.int out.1)) (va_up σ 29 out.2) ℓ := by
  subst hτ
  have h := c_X9_quiet (l := l) (E := E) (σ := σ) (ℓ := ℓ)  hf
  rw [up_id σ 29] at h
  exact h
theorem hdX9_loop : yX9_loop.cls = RX9 ∧ yX9_loop.cls ≠ "java/lang/invoke/MethodHandle" ∧ yX9_loop.cls ≠ "java/lang/invoke/VarHandle" ∧ (parseMethodDescriptor yX9_loop.desc).map (fun d => d.parameters.length) = some 1 := by decide +kernel
def rm_X9_loop : Room := { frames := 0, cells := 0, slots := 0, locals := 0 }
set_option maxRecDepth 100000 in
theorem inX9_loop_9 : ∀ w ∈ wsX90, w ∈ wsX9_loop := fun _ h => List.mem_cons_of_mem _ (List.mem_append_right _ h)
set_option maxRecDepth 100000 in
theorem lkX9_loop_47 : Cond.fieldLink RX9 47 "BellsBelowModel" "wire" "[I" ∈ wsX9_loop := by decide +kernel
set_option maxHeartbeats 4000000 in
set_option maxRecDepth 100000 in
theorem w_X9_loop_9 {p : Program} {l : Launch} {e : Env} {s : State} {m : MethodId} {args : Array Value} {below : List Frame} {meth : Method} {c : Code} {E : Ev} {σ : Ms} {ℓ : Mz} {τ : Mm} {p0 : Int32} {out : Int32} (hτ : σ 29 = τ)   (C : Cx cX9_loop 4 (some .int) wsX9_loop RX9 E p s m args meth c) {k9 : Int32 → Int32 → Option (Int32)} (hk9 : ∀ (v2 : Int32) (v3 : Int32) (H : Heap) (locs : List Loc), HI E σ ℓ s H locs → ∀ ls : Array Slot, lv_has ls 4 [(0, .ref (Ea E 29 0)), (1, .int p0), (2, .int v2), (3, .int v3)] → k9 v2 v3 = some out → W p l e rm_X9_loop s m args below meth c H locs 0 0 (MQ below (Po E s.heap.size (some (.int out)) σ ℓ) args s 0 0 (AA E s.heap.size)) (F0 m 9 ls [])) : ∀ (v2 : Int32) (v3 : Int32) (H : Heap) (locs : List Loc) (h : HI E σ ℓ s H locs) (ls : Array Slot) (hl : lv_has ls 4 [(0, .ref (Ea E 29 0)), (1, .int p0), (2, .int v2), (3, .int v3)]), f_X9_loop_9 τ p0 k9 v2 v3 = some out → W p l e rm_X9_loop s m args below meth c H locs 0 0 (MQ below (Po E s.heap.size (some (.int out)) σ ℓ) args s 0 0 (AA E s.heap.size)) (F0 m 9 ls []) := by
  intro v2 v3 H locs h ls hl hf
  unfold f_X9_loop_9 at hf
  have C0 := C
  obtain ⟨hx, hb, hr, hml, hown, hts, hlk, hK, hSF⟩ := C0
  refine lv_iload_n hx hb dX9_loop_9 rfl (lv_at hl 3 rfl) ?_
  refine lv_iload_n hx hb dX9_loop_10 rfl (lv_at hl 1 rfl) ?_
  refine lv_icmp_eq (tgt := 27) hx hb dX9_loop_11 (by decide) (fun c3 => ?_) (fun c3 => ?_)
  · replace hf := it_t c3 hf
    refine lv_iload_n hx hb dX9_loop_27 rfl (lv_at hl 2 rfl) ?_
    replace hf := Option.some.inj hf
    subst hf
    exact r_ire C h dX9_loop_28
  replace hf := it_f c3 hf
  refine lv_aload_n hx hb dX9_loop_14 rfl (lv_at hl 0 rfl) ?_
  refine gf_9_12 C h (rfl : Kd 29 = 9) hτ inX9_loop_9 lkX9_loop_47 dX9_loop_15 ?_
  refine lv_iload_n hx hb dX9_loop_18 rfl (lv_at hl 3 rfl) ?_
  obtain ⟨g4, hf⟩ := gd_use hf
  refine ld_9_8 C h (rfl : Kd 29 = 9) hτ (inB_in g4) dX9_loop_19 ?_
  refine lv_topi (fun x5 ex5 => ?_)
  replace hf := lt_use ex5 hf
  clear ex5
  refine lv_istore_n (lv' := [(3, .int x5), (0, .ref (Ea E 29 0)), (1, .int p0), (2, .int v2)]) hx hb dX9_loop_20 rfl hl (by decide) rfl (fun ls hl => ?_)
  obtain ⟨x6, ex6⟩ : ∃ y : Int32, y = (v2 + (1 : Int32)) := ⟨_, rfl⟩
  refine lv_iinc (v := x6) (lv' := [(2, .int x6), (3, .int x5), (0, .ref (Ea E 29 0)), (1, .int p0)]) hx hb dX9_loop_21 hl (k := 3) rfl (by rw [ex6]; rfl) (by decide) rfl (fun ls hl => ?_)
  replace hf := lt_use ex6 hf
  clear ex6
  refine lv_goto (tgt := 9) hx hb dX9_loop_24 (by decide) ?_
  exact hk9 _ _ _ _ h ls (lv_sub hl [2, 3, 0, 1] rfl) hf
set_option maxHeartbeats 4000000 in
set_option maxRecDepth 100000 in
theorem w_X9_loop_9L {p : Program} {l : Launch} {e : Env} {s : State} {m : MethodId} {args : Array Value} {below : List Frame} {meth : Method} {c : Code} {E : Ev} {σ : Ms} {ℓ : Mz} {τ : Mm} {p0 : Int32} {out : Int32} (hτ : σ 29 = τ)   (C : Cx cX9_loop 4 (some .int) wsX9_loop RX9 E p s m args meth c)  : ∀ (n9 : Nat) (v2 : Int32) (v3 : Int32) (H : Heap) (locs : List Loc) (h : HI E σ ℓ s H locs) (ls : Array Slot) (hl : lv_has ls 4 [(0, .ref (Ea E 29 0)), (1, .int p0), (2, .int v2), (3, .int v3)]), f_X9_loop_9L τ p0  n9 v2 v3 = some out → W p l e rm_X9_loop s m args below meth c H locs 0 0 (MQ below (Po E s.heap.size (some (.int out)) σ ℓ) args s 0 0 (AA E s.heap.size)) (F0 m 9 ls []) := by
  intro n9
  induction n9 with
  | zero =>
    intro v2 v3 H locs h ls hl hf
    cases (show (none : Option (Int32)) = some out from hf)
  | succ n9 ih =>
    intro v2 v3 H locs h ls hl hf
    exact w_X9_loop_9 hτ  C  ih v2 v3 H locs h ls hl hf
set_option maxHeartbeats 4000000 in
set_option maxRecDepth 100000 in
theorem w_X9_loop_0 {p : Program} {l : Launch} {e : Env} {s : State} {m : MethodId} {args : Array Value} {below : List Frame} {meth : Method} {c : Code} {E : Ev} {σ : Ms} {ℓ : Mz} {τ : Mm} {p0 : Int32} {out : Int32} (hτ : σ 29 = τ)   (C : Cx cX9_loop 4 (some .int) wsX9_loop RX9 E p s m args meth c)  : ∀  (H : Heap) (locs : List Loc) (h : HI E σ ℓ s H locs) (ls : Array Slot) (hl : lv_has ls 4 [(0, .ref (Ea E 29 0)), (1, .int p0)]), f_X9_loop_0 τ p0   = some out → W p l e rm_X9_loop s m args below meth c H locs 0 0 (MQ below (Po E s.heap.size (some (.int out)) σ ℓ) args s 0 0 (AA E s.heap.size)) (F0 m 0 ls []) := by
  intro  H locs h ls hl hf
  unfold f_X9_loop_0 at hf
  have C0 := C
  obtain ⟨hx, hb, hr, hml, hown, hts, hlk, hK, hSF⟩ := C0
  refine lv_iconst (v := (1 : Int32)) hx hb dX9_loop_0 (by decide) ?_
  refine lv_istore_n (lv' := [(2, .int (1 : Int32)), (0, .ref (Ea E 29 0)), (1, .int p0)]) hx hb dX9_loop_1 rfl hl (by decide) rfl (fun ls hl => ?_)
  refine lv_aload_n hx hb dX9_loop_2 rfl (lv_at hl 1 rfl) ?_
  refine gf_9_12 C h (rfl : Kd 29 = 9) hτ inX9_loop_9 lkX9_loop_47 dX9_loop_3 ?_
  refine lv_iload_n hx hb dX9_loop_6 rfl (lv_at hl 2 rfl) ?_
  obtain ⟨g1, hf⟩ := gd_use hf
  refine ld_9_8 C h (rfl : Kd 29 = 9) hτ (inB_in g1) dX9_loop_7 ?_
  refine lv_topi (fun x2 ex2 => ?_)
  replace hf := lt_use ex2 hf
  clear ex2
  refine lv_istore_n (lv' := [(3, .int x2), (2, .int (1 : Int32)), (0, .ref (Ea E 29 0)), (1, .int p0)]) hx hb dX9_loop_8 rfl hl (by decide) rfl (fun ls hl => ?_)
  exact w_X9_loop_9L hτ   C  _ _ _ _ _ h ls (lv_sub hl [2, 3, 1, 0] rfl) hf
theorem c_X9_loop {l : Launch} {E : Ev} {σ : Ms} {ℓ : Mz} {τ : Mm} {p0 : Int32} (hτ : σ 29 = τ) {out : Int32} (hf : f_X9_loop τ p0 = some out) : Ct l yX9_loop wsX9_loop rm_X9_loop [.ref (Ea E 29 0), .int p0] E σ ℓ (some (.int out)) σ ℓ := by
  refine Ct_mk (cc := cX9_loop) (mL := 4) (ret := (some .int)) (own := RX9) (by decide +kernel) rfl rfl (Nat.le_of_ble_eq_true rfl) (fun p e s m below meth c C h ls hl => ?_)
  exact w_X9_loop_0 hτ C  _ _ h ls (lv_sub hl [0, 1] rfl) hf
theorem hdX9_crossed : yX9_crossed.cls = RX9 ∧ yX9_crossed.cls ≠ "java/lang/invoke/MethodHandle" ∧ yX9_crossed.cls ≠ "java/lang/invoke/VarHandle" ∧ (parseMethodDescriptor yX9_crossed.desc).map (fun d => d.parameters.length) = some 0 := by decide +kernel
def rm_X9_crossed : Room := { frames := 1, cells := 0, slots := 0, locals := 23 }
set_option maxRecDepth 100000 in
theorem inX9_crossed_9 : ∀ w ∈ wsX90, w ∈ wsX9_crossed := fun _ h => List.mem_cons_of_mem _ (List.mem_append_right _ h)
set_option maxRecDepth 100000 in
theorem lkX9_crossed_47 : Cond.fieldLink RX9 47 "BellsBelowModel" "wire" "[I" ∈ wsX9_crossed := by decide +kernel
set_option maxHeartbeats 4000000 in
set_option maxRecDepth 100000 in
theorem w_X9_crossed_66 {p : Program} {l : Launch} {e : Env} {s : State} {m : MethodId} {args : Array Value} {below : List Frame} {meth : Method} {c : Code} {E : Ev} {σ : Ms} {ℓ : Mz} {τ : Mm} {out : Int32} (hτ : σ 29 = τ)   (C : Cx cX9_crossed 5 (some .int) wsX9_crossed RX9 E p s m args meth c) {k6 : Int32 → Int32 → Int32 → Option (Int32)} (hk6 : ∀ (v1 : Int32) (v2 : Int32) (v3 : Int32) (H : Heap) (locs : List Loc), HI E σ ℓ s H locs → ∀ ls : Array Slot, lv_has ls 5 [(0, .ref (Ea E 29 0)), (1, .int v1), (2, .int v2), (3, .int v3)] → k6 v1 v2 v3 = some out → W p l e rm_X9_crossed s m args below meth c H locs 0 0 (MQ below (Po E s.heap.size (some (.int out)) σ ℓ) args s 0 0 (AA E s.heap.size)) (F0 m 6 ls [])) : ∀ (v1 : Int32) (v2 : Int32) (v3 : Int32) (H : Heap) (locs : List Loc) (h : HI E σ ℓ s H locs) (ls : Array Slot) (hl : lv_has ls 5 [(0, .ref (Ea E 29 0)), (1, .int v1), (2, .int v2), (3, .int v3)]), f_X9_crossed_66 τ k6 v1 v2 v3 = some out → W p l e rm_X9_crossed s m args below meth c H locs 0 0 (MQ below (Po E s.heap.size (some (.int out)) σ ℓ) args s 0 0 (AA E s.heap.size)) (F0 m 66 ls []) := by
  intro v1 v2 v3 H locs h ls hl hf
  unfold f_X9_crossed_66 at hf
  have C0 := C
  obtain ⟨hx, hb, hr, hml, hown, hts, hlk, hK, hSF⟩ := C0
  obtain ⟨x8, ex8⟩ : ∃ y : Int32, y = (v3 + (1 : Int32)) := ⟨_, rfl⟩
  refine lv_iinc (v := x8) (lv' := [(3, .int x8), (0, .ref (Ea E 29 0)), (1, .int v1), (2, .int v2)]) hx hb dX9_crossed_66 hl (k := 3) rfl (by rw [ex8]; rfl) (by decide) rfl (fun ls hl => ?_)
  replace hf := lt_use ex8 hf
  clear ex8
  refine lv_goto (tgt := 6) hx hb dX9_crossed_69 (by decide) ?_
  exact hk6 _ _ _ _ _ h ls (lv_sub hl [1, 2, 3, 0] rfl) hf
set_option maxHeartbeats 4000000 in
set_option maxRecDepth 100000 in
theorem w_X9_crossed_37 {p : Program} {l : Launch} {e : Env} {s : State} {m : MethodId} {args : Array Value} {below : List Frame} {meth : Method} {c : Code} {E : Ev} {σ : Ms} {ℓ : Mz} {τ : Mm} {out : Int32} (hτ : σ 29 = τ)   (C : Cx cX9_crossed 5 (some .int) wsX9_crossed RX9 E p s m args meth c) {k6 : Int32 → Int32 → Int32 → Option (Int32)} (hk6 : ∀ (v1 : Int32) (v2 : Int32) (v3 : Int32) (H : Heap) (locs : List Loc), HI E σ ℓ s H locs → ∀ ls : Array Slot, lv_has ls 5 [(0, .ref (Ea E 29 0)), (1, .int v1), (2, .int v2), (3, .int v3)] → k6 v1 v2 v3 = some out → W p l e rm_X9_crossed s m args below meth c H locs 0 0 (MQ below (Po E s.heap.size (some (.int out)) σ ℓ) args s 0 0 (AA E s.heap.size)) (F0 m 6 ls [])) {k37 : Int32 → Int32 → Int32 → Int32 → Option (Int32)} (hk37 : ∀ (v1 : Int32) (v2 : Int32) (v3 : Int32) (v4 : Int32) (H : Heap) (locs : List Loc), HI E σ ℓ s H locs → ∀ ls : Array Slot, lv_has ls 5 [(0, .ref (Ea E 29 0)), (1, .int v1), (2, .int v2), (3, .int v3), (4, .int v4)] → k37 v1 v2 v3 v4 = some out → W p l e rm_X9_crossed s m args below meth c H locs 0 0 (MQ below (Po E s.heap.size (some (.int out)) σ ℓ) args s 0 0 (AA E s.heap.size)) (F0 m 37 ls [])) : ∀ (v1 : Int32) (v2 : Int32) (v3 : Int32) (v4 : Int32) (H : Heap) (locs : List Loc) (h : HI E σ ℓ s H locs) (ls : Array Slot) (hl : lv_has ls 5 [(0, .ref (Ea E 29 0)), (1, .int v1), (2, .int v2), (3, .int v3), (4, .int v4)]), f_X9_crossed_37 τ k6 k37 v1 v2 v3 v4 = some out → W p l e rm_X9_crossed s m args below meth c H locs 0 0 (MQ below (Po E s.heap.size (some (.int out)) σ ℓ) args s 0 0 (AA E s.heap.size)) (F0 m 37 ls []) := by
  intro v1 v2 v3 v4 H locs h ls hl hf
  unfold f_X9_crossed_37 at hf
  have C0 := C
  obtain ⟨hx, hb, hr, hml, hown, hts, hlk, hK, hSF⟩ := C0
  refine lv_aload_n hx hb dX9_crossed_37 rfl (lv_at hl 0 rfl) ?_
  refine lv_iload_n hx hb dX9_crossed_38 rfl (lv_at hl 2 rfl) ?_
  refine lv_iload hx hb dX9_crossed_39 (lv_at hl 4 rfl) ?_
  obtain ⟨u6, hu6, hf⟩ := bd_use hf
  refine r_cv_9 (rest := []) C h (c_X9_has  hu6) (rfl : Kd 29 = 9) gX9_crossed_X9_has rfl ⟨rfl, rfl⟩ hdX9_has ⟨Nat.le_of_ble_eq_true rfl, Nat.le_of_ble_eq_true rfl⟩ ⟨Nat.zero_le _, Nat.zero_le _⟩ hl.1 rfl (Nat.le_of_ble_eq_true rfl) dX9_crossed_41 (fun H locs h => ?_)
  refine lv_if_ne (tgt := 66) hx hb dX9_crossed_44 (by decide) (fun c7 => ?_) (fun c7 => ?_)
  · replace hf := it_f c7 hf
    exact w_X9_crossed_66 hτ   C hk6 _ _ _ _ _ h ls (lv_sub hl [0, 1, 2, 3] rfl) hf
  replace hf := it_t c7 hf
  refine lv_iload_n hx hb dX9_crossed_47 rfl (lv_at hl 2 rfl) ?_
  refine lv_iconst (v := (1 : Int32)) hx hb dX9_crossed_48 (by decide) ?_
  refine lv_iload hx hb dX9_crossed_49 (lv_at hl 4 rfl) ?_
  refine lv_ishl hx hb dX9_crossed_51 ?_
  refine lv_ior hx hb dX9_crossed_52 ?_
  refine lv_topi (fun x9 ex9 => ?_)
  replace hf := lt_use ex9 hf
  clear ex9
  refine lv_istore_n (lv' := [(2, .int x9), (0, .ref (Ea E 29 0)), (1, .int v1), (3, .int v3), (4, .int v4)]) hx hb dX9_crossed_53 rfl hl (by decide) rfl (fun ls hl => ?_)
  refine lv_aload_n hx hb dX9_crossed_54 rfl (lv_at hl 1 rfl) ?_
  refine gf_9_12 C h (rfl : Kd 29 = 9) hτ inX9_crossed_9 lkX9_crossed_47 dX9_crossed_55 ?_
  refine lv_iload hx hb dX9_crossed_58 (lv_at hl 4 rfl) ?_
  obtain ⟨g10, hf⟩ := gd_use hf
  refine ld_9_8 C h (rfl : Kd 29 = 9) hτ (inB_in g10) dX9_crossed_60 ?_
  refine lv_topi (fun x11 ex11 => ?_)
  replace hf := lt_use ex11 hf
  clear ex11
  refine lv_istore (lv' := [(4, .int x11), (2, .int x9), (0, .ref (Ea E 29 0)), (1, .int v1), (3, .int v3)]) hx hb dX9_crossed_61 hl (by decide) rfl (fun ls hl => ?_)
  refine lv_goto (tgt := 37) hx hb dX9_crossed_63 (by decide) ?_
  exact hk37 _ _ _ _ _ _ h ls (lv_sub hl [2, 3, 1, 4, 0] rfl) hf
set_option maxHeartbeats 4000000 in
set_option maxRecDepth 100000 in
theorem w_X9_crossed_37L {p : Program} {l : Launch} {e : Env} {s : State} {m : MethodId} {args : Array Value} {below : List Frame} {meth : Method} {c : Code} {E : Ev} {σ : Ms} {ℓ : Mz} {τ : Mm} {out : Int32} (hτ : σ 29 = τ)   (C : Cx cX9_crossed 5 (some .int) wsX9_crossed RX9 E p s m args meth c) {k6 : Int32 → Int32 → Int32 → Option (Int32)} (hk6 : ∀ (v1 : Int32) (v2 : Int32) (v3 : Int32) (H : Heap) (locs : List Loc), HI E σ ℓ s H locs → ∀ ls : Array Slot, lv_has ls 5 [(0, .ref (Ea E 29 0)), (1, .int v1), (2, .int v2), (3, .int v3)] → k6 v1 v2 v3 = some out → W p l e rm_X9_crossed s m args below meth c H locs 0 0 (MQ below (Po E s.heap.size (some (.int out)) σ ℓ) args s 0 0 (AA E s.heap.size)) (F0 m 6 ls [])) : ∀ (n9 : Nat) (v1 : Int32) (v2 : Int32) (v3 : Int32) (v4 : Int32) (H : Heap) (locs : List Loc) (h : HI E σ ℓ s H locs) (ls : Array Slot) (hl : lv_has ls 5 [(0, .ref (Ea E 29 0)), (1, .int v1), (2, .int v2), (3, .int v3), (4, .int v4)]), f_X9_crossed_37L τ k6 n9 v1 v2 v3 v4 = some out → W p l e rm_X9_crossed s m args below meth c H locs 0 0 (MQ below (Po E s.heap.size (some (.int out)) σ ℓ) args s 0 0 (AA E s.heap.size)) (F0 m 37 ls []) := by
  intro n9
  induction n9 with
  | zero =>
    intro v1 v2 v3 v4 H locs h ls hl hf
    cases (show (none : Option (Int32)) = some out from hf)
  | succ n9 ih =>
    intro v1 v2 v3 v4 H locs h ls hl hf
    exact w_X9_crossed_37 hτ  C hk6 ih v1 v2 v3 v4 H locs h ls hl hf
set_option maxHeartbeats 4000000 in
set_option maxRecDepth 100000 in
theorem w_X9_crossed_6 {p : Program} {l : Launch} {e : Env} {s : State} {m : MethodId} {args : Array Value} {below : List Frame} {meth : Method} {c : Code} {E : Ev} {σ : Ms} {ℓ : Mz} {τ : Mm} {out : Int32} (hτ : σ 29 = τ)   (C : Cx cX9_crossed 5 (some .int) wsX9_crossed RX9 E p s m args meth c) {k6 : Int32 → Int32 → Int32 → Option (Int32)} (hk6 : ∀ (v1 : Int32) (v2 : Int32) (v3 : Int32) (H : Heap) (locs : List Loc), HI E σ ℓ s H locs → ∀ ls : Array Slot, lv_has ls 5 [(0, .ref (Ea E 29 0)), (1, .int v1), (2, .int v2), (3, .int v3)] → k6 v1 v2 v3 = some out → W p l e rm_X9_crossed s m args below meth c H locs 0 0 (MQ below (Po E s.heap.size (some (.int out)) σ ℓ) args s 0 0 (AA E s.heap.size)) (F0 m 6 ls [])) : ∀ (v1 : Int32) (v2 : Int32) (v3 : Int32) (H : Heap) (locs : List Loc) (h : HI E σ ℓ s H locs) (ls : Array Slot) (hl : lv_has ls 5 [(0, .ref (Ea E 29 0)), (1, .int v1), (2, .int v2), (3, .int v3)]), f_X9_crossed_6 τ k6 v1 v2 v3 = some out → W p l e rm_X9_crossed s m args below meth c H locs 0 0 (MQ below (Po E s.heap.size (some (.int out)) σ ℓ) args s 0 0 (AA E s.heap.size)) (F0 m 6 ls []) := by
  intro v1 v2 v3 H locs h ls hl hf
  unfold f_X9_crossed_6 at hf
  have C0 := C
  obtain ⟨hx, hb, hr, hml, hown, hts, hlk, hK, hSF⟩ := C0
  refine lv_iload_n hx hb dX9_crossed_6 rfl (lv_at hl 3 rfl) ?_
  refine lv_bipush (v := (10 : Int32)) hx hb dX9_crossed_7 (by decide) ?_
  refine lv_icmp_ge (tgt := 72) hx hb dX9_crossed_9 (by decide) (fun c1 => ?_) (fun c1 => ?_)
  · replace hf := it_t c1 hf
    refine lv_iload_n hx hb dX9_crossed_72 rfl (lv_at hl 1 rfl) ?_
    replace hf := Option.some.inj hf
    subst hf
    exact r_ire C h dX9_crossed_73
  replace hf := it_f c1 hf
  refine lv_aload_n hx hb dX9_crossed_12 rfl (lv_at hl 0 rfl) ?_
  refine lv_iload_n hx hb dX9_crossed_13 rfl (lv_at hl 2 rfl) ?_
  refine lv_iload_n hx hb dX9_crossed_14 rfl (lv_at hl 3 rfl) ?_
  obtain ⟨u2, hu2, hf⟩ := bd_use hf
  refine r_cv_9 (rest := []) C h (c_X9_has  hu2) (rfl : Kd 29 = 9) gX9_crossed_X9_has rfl ⟨rfl, rfl⟩ hdX9_has ⟨Nat.le_of_ble_eq_true rfl, Nat.le_of_ble_eq_true rfl⟩ ⟨Nat.zero_le _, Nat.zero_le _⟩ hl.1 rfl (Nat.le_of_ble_eq_true rfl) dX9_crossed_15 (fun H locs h => ?_)
  refine lv_if_eq (tgt := 24) hx hb dX9_crossed_18 (by decide) (fun c3 => ?_) (fun c3 => ?_)
  · replace hf := it_t c3 hf
    refine lv_iload_n hx hb dX9_crossed_24 rfl (lv_at hl 1 rfl) ?_
    refine lv_aload_n hx hb dX9_crossed_25 rfl (lv_at hl 0 rfl) ?_
    refine lv_iload_n hx hb dX9_crossed_26 rfl (lv_at hl 3 rfl) ?_
    obtain ⟨u4, hu4, hf⟩ := bd_use hf
    refine r_cv_9 (rest := [.int v1]) C h (c_X9_loop hτ hu4) (rfl : Kd 29 = 9) gX9_crossed_X9_loop rfl ⟨rfl, rfl⟩ hdX9_loop ⟨Nat.le_of_ble_eq_true rfl, Nat.le_of_ble_eq_true rfl⟩ ⟨Nat.zero_le _, Nat.zero_le _⟩ hl.1 rfl (Nat.le_of_ble_eq_true rfl) dX9_crossed_27 (fun H locs h => ?_)
    refine lv_iconst (v := (1 : Int32)) hx hb dX9_crossed_30 (by decide) ?_
    refine lv_isub hx hb dX9_crossed_31 ?_
    refine lv_iadd hx hb dX9_crossed_32 ?_
    refine lv_topi (fun x5 ex5 => ?_)
    replace hf := lt_use ex5 hf
    clear ex5
    refine lv_istore_n (lv' := [(1, .int x5), (0, .ref (Ea E 29 0)), (2, .int v2), (3, .int v3)]) hx hb dX9_crossed_33 rfl hl (by decide) rfl (fun ls hl => ?_)
    refine lv_iload_n hx hb dX9_crossed_34 rfl (lv_at hl 3 rfl) ?_
    refine lv_istore (lv' := [(4, .int v3), (1, .int x5), (0, .ref (Ea E 29 0)), (2, .int v2), (3, .int v3)]) hx hb dX9_crossed_35 hl (by decide) rfl (fun ls hl => ?_)
    exact w_X9_crossed_37L hτ   C hk6 _ _ _ _ _ _ _ h ls (lv_sub hl [2, 1, 3, 4, 0] rfl) hf
  replace hf := it_f c3 hf
  refine lv_goto (tgt := 66) hx hb dX9_crossed_21 (by decide) ?_
  exact w_X9_crossed_66 hτ   C hk6 _ _ _ _ _ h ls (lv_sub hl [0, 1, 2, 3] rfl) hf
set_option maxHeartbeats 4000000 in
set_option maxRecDepth 100000 in
theorem w_X9_crossed_6L {p : Program} {l : Launch} {e : Env} {s : State} {m : MethodId} {args : Array Value} {below : List Frame} {meth : Method} {c : Code} {E : Ev} {σ : Ms} {ℓ : Mz} {τ : Mm} {out : Int32} (hτ : σ 29 = τ)   (C : Cx cX9_crossed 5 (some .int) wsX9_crossed RX9 E p s m args meth c)  : ∀ (n9 : Nat) (v1 : Int32) (v2 : Int32) (v3 : Int32) (H : Heap) (locs : List Loc) (h : HI E σ ℓ s H locs) (ls : Array Slot) (hl : lv_has ls 5 [(0, .ref (Ea E 29 0)), (1, .int v1), (2, .int v2), (3, .int v3)]), f_X9_crossed_6L τ  n9 v1 v2 v3 = some out → W p l e rm_X9_crossed s m args below meth c H locs 0 0 (MQ below (Po E s.heap.size (some (.int out)) σ ℓ) args s 0 0 (AA E s.heap.size)) (F0 m 6 ls []) := by
  intro n9
  induction n9 with
  | zero =>
    intro v1 v2 v3 H locs h ls hl hf
    cases (show (none : Option (Int32)) = some out from hf)
  | succ n9 ih =>
    intro v1 v2 v3 H locs h ls hl hf
    exact w_X9_crossed_6 hτ  C  ih v1 v2 v3 H locs h ls hl hf
set_option maxHeartbeats 4000000 in
set_option maxRecDepth 100000 in
theorem w_X9_crossed_0 {p : Program} {l : Launch} {e : Env} {s : State} {m : MethodId} {args : Array Value} {below : List Frame} {meth : Method} {c : Code} {E : Ev} {σ : Ms} {ℓ : Mz} {τ : Mm} {out : Int32} (hτ : σ 29 = τ)   (C : Cx cX9_crossed 5 (some .int) wsX9_crossed RX9 E p s m args meth c)  : ∀  (H : Heap) (locs : List Loc) (h : HI E σ ℓ s H locs) (ls : Array Slot) (hl : lv_has ls 5 [(0, .ref (Ea E 29 0))]), f_X9_crossed_0 τ   = some out → W p l e rm_X9_crossed s m args below meth c H locs 0 0 (MQ below (Po E s.heap.size (some (.int out)) σ ℓ) args s 0 0 (AA E s.heap.size)) (F0 m 0 ls []) := by
  intro  H locs h ls hl hf
  unfold f_X9_crossed_0 at hf
  have C0 := C
  obtain ⟨hx, hb, hr, hml, hown, hts, hlk, hK, hSF⟩ := C0
  refine lv_iconst (v := (0 : Int32)) hx hb dX9_crossed_0 (by decide) ?_
  refine lv_istore_n (lv' := [(1, .int (0 : Int32)), (0, .ref (Ea E 29 0))]) hx hb dX9_crossed_1 rfl hl (by decide) rfl (fun ls hl => ?_)
  refine lv_iconst (v := (0 : Int32)) hx hb dX9_crossed_2 (by decide) ?_
  refine lv_istore_n (lv' := [(2, .int (0 : Int32)), (1, .int (0 : Int32)), (0, .ref (Ea E 29 0))]) hx hb dX9_crossed_3 rfl hl (by decide) rfl (fun ls hl => ?_)
  refine lv_iconst (v := (0 : Int32)) hx hb dX9_crossed_4 (by decide) ?_
  refine lv_istore_n (lv' := [(3, .int (0 : Int32)), (2, .int (0 : Int32)), (1, .int (0 : Int32)), (0, .ref (Ea E 29 0))]) hx hb dX9_crossed_5 rfl hl (by decide) rfl (fun ls hl => ?_)
  exact w_X9_crossed_6L hτ   C  _ _ _ _ _ _ h ls (lv_sub hl [3, 2, 1, 0] rfl) hf
theorem c_X9_crossed {l : Launch} {E : Ev} {σ : Ms} {ℓ : Mz} {τ : Mm} (hτ : σ 29 = τ) {out : Int32} (hf : f_X9_crossed τ = some out) : Ct l yX9_crossed wsX9_crossed rm_X9_crossed [.ref (Ea E 29 0)] E σ ℓ (some (.int out)) σ ℓ := by
  refine Ct_mk (cc := cX9_crossed) (mL := 5) (ret := (some .int)) (own := RX9) (by decide +kernel) rfl rfl (Nat.le_of_ble_eq_true rfl) (fun p e s m below meth c C h ls hl => ?_)
  exact w_X9_crossed_0 hτ C  _ _ h ls (lv_sub hl [0] rfl) hf
theorem hdX9_firstCrossed : yX9_firstCrossed.cls = RX9 ∧ yX9_firstCrossed.cls ≠ "java/lang/invoke/MethodHandle" ∧ yX9_firstCrossed.cls ≠ "java/lang/invoke/VarHandle" ∧ (parseMethodDescriptor yX9_firstCrossed.desc).map (fun d => d.parameters.length) = some 0 := by decide +kernel
def rm_X9_firstCrossed : Room := { frames := 0, cells := 0, slots := 0, locals := 0 }
set_option maxRecDepth 100000 in
theorem inX9_firstCrossed_9 : ∀ w ∈ wsX90, w ∈ wsX9_firstCrossed := fun _ h => List.mem_cons_of_mem _ (List.mem_append_right _ h)
set_option maxRecDepth 100000 in
theorem lkX9_firstCrossed_47 : Cond.fieldLink RX9 47 "BellsBelowModel" "wire" "[I" ∈ wsX9_firstCrossed := by decide +kernel
set_option maxHeartbeats 4000000 in
set_option maxRecDepth 100000 in
theorem w_X9_firstCrossed_2 {p : Program} {l : Launch} {e : Env} {s : State} {m : MethodId} {args : Array Value} {below : List Frame} {meth : Method} {c : Code} {E : Ev} {σ : Ms} {ℓ : Mz} {τ : Mm} {out : Int32} (hτ : σ 29 = τ)   (C : Cx cX9_firstCrossed 2 (some .int) wsX9_firstCrossed RX9 E p s m args meth c) {k2 : Int32 → Option (Int32)} (hk2 : ∀ (v1 : Int32) (H : Heap) (locs : List Loc), HI E σ ℓ s H locs → ∀ ls : Array Slot, lv_has ls 2 [(0, .ref (Ea E 29 0)), (1, .int v1)] → k2 v1 = some out → W p l e rm_X9_firstCrossed s m args below meth c H locs 0 0 (MQ below (Po E s.heap.size (some (.int out)) σ ℓ) args s 0 0 (AA E s.heap.size)) (F0 m 2 ls [])) : ∀ (v1 : Int32) (H : Heap) (locs : List Loc) (h : HI E σ ℓ s H locs) (ls : Array Slot) (hl : lv_has ls 2 [(0, .ref (Ea E 29 0)), (1, .int v1)]), f_X9_firstCrossed_2 τ k2 v1 = some out → W p l e rm_X9_firstCrossed s m args below meth c H locs 0 0 (MQ below (Po E s.heap.size (some (.int out)) σ ℓ) args s 0 0 (AA E s.heap.size)) (F0 m 2 ls []) := by
  intro v1 H locs h ls hl hf
  unfold f_X9_firstCrossed_2 at hf
  have C0 := C
  obtain ⟨hx, hb, hr, hml, hown, hts, hlk, hK, hSF⟩ := C0
  refine lv_iload_n hx hb dX9_firstCrossed_2 rfl (lv_at hl 1 rfl) ?_
  refine lv_bipush (v := (10 : Int32)) hx hb dX9_firstCrossed_3 (by decide) ?_
  refine lv_icmp_ge (tgt := 26) hx hb dX9_firstCrossed_5 (by decide) (fun c1 => ?_) (fun c1 => ?_)
  · replace hf := it_t c1 hf
    refine lv_bipush (v := (-5 : Int32)) hx hb dX9_firstCrossed_26 (by decide) ?_
    replace hf := Option.some.inj hf
    subst hf
    exact r_ire C h dX9_firstCrossed_28
  replace hf := it_f c1 hf
  refine lv_aload_n hx hb dX9_firstCrossed_8 rfl (lv_at hl 0 rfl) ?_
  refine gf_9_12 C h (rfl : Kd 29 = 9) hτ inX9_firstCrossed_9 lkX9_firstCrossed_47 dX9_firstCrossed_9 ?_
  refine lv_iload_n hx hb dX9_firstCrossed_12 rfl (lv_at hl 1 rfl) ?_
  obtain ⟨g2, hf⟩ := gd_use hf
  refine ld_9_8 C h (rfl : Kd 29 = 9) hτ (inB_in g2) dX9_firstCrossed_13 ?_
  refine lv_iload_n hx hb dX9_firstCrossed_14 rfl (lv_at hl 1 rfl) ?_
  refine lv_icmp_eq (tgt := 20) hx hb dX9_firstCrossed_15 (by decide) (fun c3 => ?_) (fun c3 => ?_)
  · replace hf := it_t c3 hf
    obtain ⟨x4, ex4⟩ : ∃ y : Int32, y = (v1 + (1 : Int32)) := ⟨_, rfl⟩
    refine lv_iinc (v := x4) (lv' := [(1, .int x4), (0, .ref (Ea E 29 0))]) hx hb dX9_firstCrossed_20 hl (k := 1) rfl (by rw [ex4]; rfl) (by decide) rfl (fun ls hl => ?_)
    replace hf := lt_use ex4 hf
    clear ex4
    refine lv_goto (tgt := 2) hx hb dX9_firstCrossed_23 (by decide) ?_
    exact hk2 _ _ _ h ls (lv_sub hl [1, 0] rfl) hf
  replace hf := it_f c3 hf
  refine lv_iload_n hx hb dX9_firstCrossed_18 rfl (lv_at hl 1 rfl) ?_
  replace hf := Option.some.inj hf
  subst hf
  exact r_ire C h dX9_firstCrossed_19
set_option maxHeartbeats 4000000 in
set_option maxRecDepth 100000 in
theorem w_X9_firstCrossed_2L {p : Program} {l : Launch} {e : Env} {s : State} {m : MethodId} {args : Array Value} {below : List Frame} {meth : Method} {c : Code} {E : Ev} {σ : Ms} {ℓ : Mz} {τ : Mm} {out : Int32} (hτ : σ 29 = τ)   (C : Cx cX9_firstCrossed 2 (some .int) wsX9_firstCrossed RX9 E p s m args meth c)  : ∀ (n9 : Nat) (v1 : Int32) (H : Heap) (locs : List Loc) (h : HI E σ ℓ s H locs) (ls : Array Slot) (hl : lv_has ls 2 [(0, .ref (Ea E 29 0)), (1, .int v1)]), f_X9_firstCrossed_2L τ  n9 v1 = some out → W p l e rm_X9_firstCrossed s m args below meth c H locs 0 0 (MQ below (Po E s.heap.size (some (.int out)) σ ℓ) args s 0 0 (AA E s.heap.size)) (F0 m 2 ls []) := by
  intro n9
  induction n9 with
  | zero =>
    intro v1 H locs h ls hl hf
    cases (show (none : Option (Int32)) = some out from hf)
  | succ n9 ih =>
    intro v1 H locs h ls hl hf
    exact w_X9_firstCrossed_2 hτ  C  ih v1 H locs h ls hl hf
set_option maxHeartbeats 4000000 in
set_option maxRecDepth 100000 in
theorem w_X9_firstCrossed_0 {p : Program} {l : Launch} {e : Env} {s : State} {m : MethodId} {args : Array Value} {below : List Frame} {meth : Method} {c : Code} {E : Ev} {σ : Ms} {ℓ : Mz} {τ : Mm} {out : Int32} (hτ : σ 29 = τ)   (C : Cx cX9_firstCrossed 2 (some .int) wsX9_firstCrossed RX9 E p s m args meth c)  : ∀  (H : Heap) (locs : List Loc) (h : HI E σ ℓ s H locs) (ls : Array Slot) (hl : lv_has ls 2 [(0, .ref (Ea E 29 0))]), f_X9_firstCrossed_0 τ   = some out → W p l e rm_X9_firstCrossed s m args below meth c H locs 0 0 (MQ below (Po E s.heap.size (some (.int out)) σ ℓ) args s 0 0 (AA E s.heap.size)) (F0 m 0 ls []) := by
  intro  H locs h ls hl hf
  unfold f_X9_firstCrossed_0 at hf
  have C0 := C
  obtain ⟨hx, hb, hr, hml, hown, hts, hlk, hK, hSF⟩ := C0
  refine lv_iconst (v := (0 : Int32)) hx hb dX9_firstCrossed_0 (by decide) ?_
  refine lv_istore_n (lv' := [(1, .int (0 : Int32)), (0, .ref (Ea E 29 0))]) hx hb dX9_firstCrossed_1 rfl hl (by decide) rfl (fun ls hl => ?_)
  exact w_X9_firstCrossed_2L hτ   C  _ _ _ _ h ls (lv_sub hl [1, 0] rfl) hf
theorem c_X9_firstCrossed {l : Launch} {E : Ev} {σ : Ms} {ℓ : Mz} {τ : Mm} (hτ : σ 29 = τ) {out : Int32} (hf : f_X9_firstCrossed τ = some out) : Ct l yX9_firstCrossed wsX9_firstCrossed rm_X9_firstCrossed [.ref (Ea E 29 0)] E σ ℓ (some (.int out)) σ ℓ := by
  refine Ct_mk (cc := cX9_firstCrossed) (mL := 2) (ret := (some .int)) (own := RX9) (by decide +kernel) rfl rfl (Nat.le_of_ble_eq_true rfl) (fun p e s m below meth c C h ls hl => ?_)
  exact w_X9_firstCrossed_0 hτ C  _ _ h ls (lv_sub hl [0] rfl) hf
theorem hdX9_told : yX9_told.cls = RX9 ∧ yX9_told.cls ≠ "java/lang/invoke/MethodHandle" ∧ yX9_told.cls ≠ "java/lang/invoke/VarHandle" ∧ (parseMethodDescriptor yX9_told.desc).map (fun d => d.parameters.length) = some 1 := by decide +kernel
def rm_X9_told : Room := { frames := 9, cells := 0, slots := 0, locals := 210 }
set_option maxRecDepth 100000 in
theorem inX9_told_9 : ∀ w ∈ wsX90, w ∈ wsX9_told := fun _ h => List.mem_cons_of_mem _ (List.mem_append_right _ h)
set_option maxRecDepth 100000 in
theorem lkX9_told_22 : Cond.fieldLink RX9 22 "BellsBelowModel" "minute" "I" ∈ wsX9_told := by decide +kernel
set_option maxRecDepth 100000 in
theorem lkX9_told_16 : Cond.fieldLink RX9 16 "BellsBelowModel" "rung" "I" ∈ wsX9_told := by decide +kernel
set_option maxRecDepth 100000 in
theorem lkX9_told_19 : Cond.fieldLink RX9 19 "BellsBelowModel" "waited" "I" ∈ wsX9_told := by decide +kernel
set_option maxRecDepth 100000 in
theorem lkX9_told_47 : Cond.fieldLink RX9 47 "BellsBelowModel" "wire" "[I" ∈ wsX9_told := by decide +kernel
set_option maxHeartbeats 4000000 in
set_option maxRecDepth 100000 in
theorem w_X9_told_0 {p : Program} {l : Launch} {e : Env} {s : State} {m : MethodId} {args : Array Value} {below : List Frame} {meth : Method} {c : Code} {E : Ev} {σ : Ms} {ℓ : Mz} {p0 : Int32} {out : Int32 × Mm}   (C : Cx cX9_told 2 (some .int) wsX9_told RX9 E p s m args meth c)  : ∀ (τ : Mm) (H : Heap) (locs : List Loc) (h : HI E (va_up σ 29 τ) ℓ s H locs) (ls : Array Slot) (hl : lv_has ls 2 [(0, .ref (Ea E 29 0)), (1, .int p0)]), f_X9_told_0 p0  τ = some out → W p l e rm_X9_told s m args below meth c H locs 0 0 (MQ below (Po E s.heap.size (some (.int out.1)) (va_up σ 29 out.2) ℓ) args s 0 0 (AA E s.heap.size)) (F0 m 0 ls []) := by
  intro τ H locs h ls hl hf
  unfold f_X9_told_0 at hf
  have C0 := C
  obtain ⟨hx, hb, hr, hml, hown, hts, hlk, hK, hSF⟩ := C0
  refine lv_aload_n hx hb dX9_told_0 rfl (lv_at hl 0 rfl) ?_
  refine lv_iload_n hx hb dX9_told_1 rfl (lv_at hl 1 rfl) ?_
  refine lv_bipush (v := (10 : Int32)) hx hb dX9_told_2 (by decide) ?_
  refine lv_bipush (v := (19 : Int32)) hx hb dX9_told_4 (by decide) ?_
  obtain ⟨u1, hu1, hf⟩ := bd_use hf
  refine r_cv_9 (rest := []) C h (c_X9_in  hu1) (rfl : Kd 29 = 9) gX9_told_X9_in rfl ⟨rfl, rfl⟩ hdX9_in ⟨Nat.le_of_ble_eq_true rfl, Nat.le_of_ble_eq_true rfl⟩ ⟨Nat.zero_le _, Nat.zero_le _⟩ hl.1 rfl (Nat.le_of_ble_eq_true rfl) dX9_told_6 (fun H locs h => ?_)
  refine lv_if_eq (tgt := 22) hx hb dX9_told_9 (by decide) (fun c2 => ?_) (fun c2 => ?_)
  · replace hf := it_t c2 hf
    refine lv_aload_n hx hb dX9_told_22 rfl (lv_at hl 0 rfl) ?_
    refine lv_iload_n hx hb dX9_told_23 rfl (lv_at hl 1 rfl) ?_
    refine lv_bipush (v := (20 : Int32)) hx hb dX9_told_24 (by decide) ?_
    refine lv_bipush (v := (29 : Int32)) hx hb dX9_told_26 (by decide) ?_
    obtain ⟨u3, hu3, hf⟩ := bd_use hf
    refine r_cv_9 (rest := []) C h (c_X9_in  hu3) (rfl : Kd 29 = 9) gX9_told_X9_in rfl ⟨rfl, rfl⟩ hdX9_in ⟨Nat.le_of_ble_eq_true rfl, Nat.le_of_ble_eq_true rfl⟩ ⟨Nat.zero_le _, Nat.zero_le _⟩ hl.1 rfl (Nat.le_of_ble_eq_true rfl) dX9_told_28 (fun H locs h => ?_)
    refine lv_if_eq (tgt := 43) hx hb dX9_told_31 (by decide) (fun c4 => ?_) (fun c4 => ?_)
    · replace hf := it_t c4 hf
      refine lv_iload_n hx hb dX9_told_43 rfl (lv_at hl 1 rfl) ?_
      by_cases c5 : p0 = (0 : Int32)
      · replace hf := it_t c5 hf
        refine r_tin (v := (0 : Int32)) (off := 44) (tgt := 88) hx hb c5 dX9_told_44 (by decide) (by decide) (by decide) (by decide) ?_
        refine lv_aload_n hx hb dX9_told_88 rfl (lv_at hl 0 rfl) ?_
        refine gf_9_4 C h (rfl : Kd 29 = 9) up_eq inX9_told_9 lkX9_told_22 dX9_told_89 ?_
        replace hf := Option.some.inj hf
        subst hf
        exact r_ire C h dX9_told_92
      replace hf := it_f c5 hf
      by_cases c6 : p0 = (1 : Int32)
      · replace hf := it_t c6 hf
        refine r_tin (v := (1 : Int32)) (off := 49) (tgt := 93) hx hb c6 dX9_told_44 (by decide) (by decide) (by decide) (by decide) ?_
        refine lv_aload_n hx hb dX9_told_93 rfl (lv_at hl 0 rfl) ?_
        obtain ⟨u7, hu7, hf⟩ := bd_use hf
        refine r_cv_9 (rest := []) C h (c_X9_rest up_eq hu7) (rfl : Kd 29 = 9) gX9_told_X9_rest rfl ⟨rfl, rfl⟩ hdX9_rest ⟨Nat.le_of_ble_eq_true rfl, Nat.le_of_ble_eq_true rfl⟩ ⟨Nat.zero_le _, Nat.zero_le _⟩ hl.1 rfl (Nat.le_of_ble_eq_true rfl) dX9_told_94 (fun H locs h => ?_)
        replace hf := Option.some.inj hf
        subst hf
        exact r_ire C h dX9_told_97
      replace hf := it_f c6 hf
      by_cases c8 : p0 = (2 : Int32)
      · replace hf := it_t c8 hf
        refine r_tin (v := (2 : Int32)) (off := 54) (tgt := 98) hx hb c8 dX9_told_44 (by decide) (by decide) (by decide) (by decide) ?_
        refine lv_aload_n hx hb dX9_told_98 rfl (lv_at hl 0 rfl) ?_
        refine gf_9_2 C h (rfl : Kd 29 = 9) up_eq inX9_told_9 lkX9_told_16 dX9_told_99 ?_
        replace hf := Option.some.inj hf
        subst hf
        exact r_ire C h dX9_told_102
      replace hf := it_f c8 hf
      by_cases c9 : p0 = (3 : Int32)
      · replace hf := it_t c9 hf
        refine r_tin (v := (3 : Int32)) (off := 59) (tgt := 103) hx hb c9 dX9_told_44 (by decide) (by decide) (by decide) (by decide) ?_
        refine lv_aload_n hx hb dX9_told_103 rfl (lv_at hl 0 rfl) ?_
        refine gf_9_3 C h (rfl : Kd 29 = 9) up_eq inX9_told_9 lkX9_told_19 dX9_told_104 ?_
        replace hf := Option.some.inj hf
        subst hf
        exact r_ire C h dX9_told_107
      replace hf := it_f c9 hf
      by_cases c10 : p0 = (4 : Int32)
      · replace hf := it_t c10 hf
        refine r_tin (v := (4 : Int32)) (off := 64) (tgt := 108) hx hb c10 dX9_told_44 (by decide) (by decide) (by decide) (by decide) ?_
        refine lv_aload_n hx hb dX9_told_108 rfl (lv_at hl 0 rfl) ?_
        obtain ⟨u11, hu11, hf⟩ := bd_use hf
        refine r_cv_9 (rest := []) C h (c_X9_quiet  hu11) (rfl : Kd 29 = 9) gX9_told_X9_quiet rfl ⟨rfl, rfl⟩ hdX9_quiet ⟨Nat.le_of_ble_eq_true rfl, Nat.le_of_ble_eq_true rfl⟩ ⟨Nat.zero_le _, Nat.zero_le _⟩ hl.1 rfl (Nat.le_of_ble_eq_true rfl) dX9_told_109 (fun H locs h => ?_)
        replace hf := Option.some.inj hf
        subst hf
        exact r_ire C h dX9_told_112
      replace hf := it_f c10 hf
      by_cases c12 : p0 = (5 : Int32)
      · replace hf := it_t c12 hf
        refine r_tin (v := (5 : Int32)) (off := 69) (tgt := 113) hx hb c12 dX9_told_44 (by decide) (by decide) (by decide) (by decide) ?_
        refine lv_aload_n hx hb dX9_told_113 rfl (lv_at hl 0 rfl) ?_
        obtain ⟨u13, hu13, hf⟩ := bd_use hf
        refine r_cv_9 (rest := []) C h (c_X9_crossed up_eq hu13) (rfl : Kd 29 = 9) gX9_told_X9_crossed rfl ⟨rfl, rfl⟩ hdX9_crossed ⟨Nat.le_of_ble_eq_true rfl, Nat.le_of_ble_eq_true rfl⟩ ⟨Nat.zero_le _, Nat.zero_le _⟩ hl.1 rfl (Nat.le_of_ble_eq_true rfl) dX9_told_114 (fun H locs h => ?_)
        replace hf := Option.some.inj hf
        subst hf
        exact r_ire C h dX9_told_117
      replace hf := it_f c12 hf
      by_cases c14 : p0 = (6 : Int32)
      · replace hf := it_t c14 hf
        refine r_tin (v := (6 : Int32)) (off := 74) (tgt := 118) hx hb c14 dX9_told_44 (by decide) (by decide) (by decide) (by decide) ?_
        refine lv_aload_n hx hb dX9_told_118 rfl (lv_at hl 0 rfl) ?_
        obtain ⟨u15, hu15, hf⟩ := bd_use hf
        refine r_cv_9 (rest := []) C h (c_X9_firstCrossed up_eq hu15) (rfl : Kd 29 = 9) gX9_told_X9_firstCrossed rfl ⟨rfl, rfl⟩ hdX9_firstCrossed ⟨Nat.le_of_ble_eq_true rfl, Nat.le_of_ble_eq_true rfl⟩ ⟨Nat.zero_le _, Nat.zero_le _⟩ hl.1 rfl (Nat.le_of_ble_eq_true rfl) dX9_told_119 (fun H locs h => ?_)
        replace hf := Option.some.inj hf
        subst hf
        exact r_ire C h dX9_told_122
      replace hf := it_f c14 hf
      refine lv_tableOut (tgt := 123) hx hb dX9_told_44 (tsw_out [0, 1, 2, 3, 4, 5, 6] (List.forall_mem_cons.mpr ⟨c5, (List.forall_mem_cons.mpr ⟨c6, (List.forall_mem_cons.mpr ⟨c8, (List.forall_mem_cons.mpr ⟨c9, (List.forall_mem_cons.mpr ⟨c10, (List.forall_mem_cons.mpr ⟨c12, (List.forall_mem_cons.mpr ⟨c14, (fun _ h => absurd h List.not_mem_nil)⟩)⟩)⟩)⟩)⟩)⟩)⟩) rfl) (by decide) ?_
      refine lv_iconst (v := (-1 : Int32)) hx hb dX9_told_123 (by decide) ?_
      replace hf := Option.some.inj hf
      subst hf
      exact r_ire C h dX9_told_124
    replace hf := it_f c4 hf
    refine lv_aload_n hx hb dX9_told_34 rfl (lv_at hl 0 rfl) ?_
    refine lv_iload_n hx hb dX9_told_35 rfl (lv_at hl 1 rfl) ?_
    refine lv_bipush (v := (20 : Int32)) hx hb dX9_told_36 (by decide) ?_
    refine lv_isub hx hb dX9_told_38 ?_
    obtain ⟨u16, hu16, hf⟩ := bd_use hf
    refine r_cv_9 (rest := []) C h (c_X9_loop up_eq hu16) (rfl : Kd 29 = 9) gX9_told_X9_loop rfl ⟨rfl, rfl⟩ hdX9_loop ⟨Nat.le_of_ble_eq_true rfl, Nat.le_of_ble_eq_true rfl⟩ ⟨Nat.zero_le _, Nat.zero_le _⟩ hl.1 rfl (Nat.le_of_ble_eq_true rfl) dX9_told_39 (fun H locs h => ?_)
    replace hf := Option.some.inj hf
    subst hf
    exact r_ire C h dX9_told_42
  replace hf := it_f c2 hf
  refine lv_aload_n hx hb dX9_told_12 rfl (lv_at hl 0 rfl) ?_
  refine gf_9_12 C h (rfl : Kd 29 = 9) up_eq inX9_told_9 lkX9_told_47 dX9_told_13 ?_
  refine lv_iload_n hx hb dX9_told_16 rfl (lv_at hl 1 rfl) ?_
  refine lv_bipush (v := (10 : Int32)) hx hb dX9_told_17 (by decide) ?_
  refine lv_isub hx hb dX9_told_19 ?_
  obtain ⟨g17, hf⟩ := gd_use hf
  refine ld_9_8 C h (rfl : Kd 29 = 9) up_eq (inB_in g17) dX9_told_20 ?_
  replace hf := Option.some.inj hf
  subst hf
  exact r_ire C h dX9_told_21
theorem c_X9_told {l : Launch} {E : Ev} {σ : Ms} {ℓ : Mz} {τ : Mm} {p0 : Int32} {out : Int32 × Mm} (hf : f_X9_told τ p0 = some out) : Ct l yX9_told wsX9_told rm_X9_told [.ref (Ea E 29 0), .int p0] E (va_up σ 29 τ) ℓ (some (.int out.1)) (va_up σ 29 out.2) ℓ := by
  refine Ct_mk (cc := cX9_told) (mL := 2) (ret := (some .int)) (own := RX9) (by decide +kernel) rfl rfl (Nat.le_of_ble_eq_true rfl) (fun p e s m below meth c C h ls hl => ?_)
  exact w_X9_told_0  C τ _ _ h ls (lv_sub hl [0, 1] rfl) hf
theorem k_X9_told {l : Launch} {E : Ev} {σ : Ms} {ℓ : Mz} {τ : Mm} {p0 : Int32} (hτ : σ 29 = τ) {out : Int32 × Mm} (hf : f_X9_told τ p0 = some out) : Ct l yX9_told wsX9_told rm_X9_told [.ref (Ea E 29 0), .int p0] E σ ℓ (some (.int out.1)) (va_up σ 29 out.2) ℓ := by
  subst hτ
  have h := c_X9_told (l := l) (E := E) (σ := σ) (ℓ := ℓ)  hf
  rw [up_id σ 29] at h
  exact h
theorem hdX9_on : yX9_on.cls = RX9 ∧ yX9_on.cls ≠ "java/lang/invoke/MethodHandle" ∧ yX9_on.cls ≠ "java/lang/invoke/VarHandle" ∧ (parseMethodDescriptor yX9_on.desc).map (fun d => d.parameters.length) = some 2 := by decide +kernel
def rm_X9_on : Room := { frames := 9, cells := 0, slots := 0, locals := 211 }
set_option maxRecDepth 100000 in
theorem inX9_on_9 : ∀ w ∈ wsX90, w ∈ wsX9_on := fun _ h => List.mem_cons_of_mem _ (List.mem_append_right _ h)
set_option maxRecDepth 100000 in
theorem lkX9_on_35 : Cond.fieldLink RX9 35 "BellsBelowModel" "goal" "[I" ∈ wsX9_on := by decide +kernel
set_option maxRecDepth 100000 in
theorem lkX9_on_32 : Cond.fieldLink RX9 32 "BellsBelowModel" "floor" "[I" ∈ wsX9_on := by decide +kernel
set_option maxRecDepth 100000 in
theorem lkX9_on_19 : Cond.fieldLink RX9 19 "BellsBelowModel" "waited" "I" ∈ wsX9_on := by decide +kernel
set_option maxRecDepth 100000 in
theorem lkX9_on_16 : Cond.fieldLink RX9 16 "BellsBelowModel" "rung" "I" ∈ wsX9_on := by decide +kernel
set_option maxRecDepth 100000 in
theorem lkX9_on_7 : Cond.fieldLink RX9 7 "BellsBelowModel" "masters" "I" ∈ wsX9_on := by decide +kernel
set_option maxHeartbeats 4000000 in
set_option maxRecDepth 100000 in
theorem w_X9_on_116 {p : Program} {l : Launch} {e : Env} {s : State} {m : MethodId} {args : Array Value} {below : List Frame} {meth : Method} {c : Code} {E : Ev} {σ : Ms} {ℓ : Mz} {p0 : Int32} {p1 : Int32} {out : Int32 × Mm}   (C : Cx cX9_on 4 (some .int) wsX9_on RX9 E p s m args meth c)  : ∀ (τ : Mm) (w0 : Int32) (H : Heap) (locs : List Loc) (h : HI E (va_up σ 29 τ) ℓ s H locs) (ls : Array Slot) (hl : lv_has ls 4 [(0, .ref (Ea E 29 0))]), f_X9_on_116 p0 p1  τ w0 = some out → W p l e rm_X9_on s m args below meth c H locs 0 0 (MQ below (Po E s.heap.size (some (.int out.1)) (va_up σ 29 out.2) ℓ) args s 0 0 (AA E s.heap.size)) (F0 m 116 ls [.int w0]) := by
  intro τ w0 H locs h ls hl hf
  unfold f_X9_on_116 at hf
  have C0 := C
  obtain ⟨hx, hb, hr, hml, hown, hts, hlk, hK, hSF⟩ := C0
  refine lv_istore_n (lv' := [(3, .int w0), (0, .ref (Ea E 29 0))]) hx hb dX9_on_116 rfl hl (by decide) rfl (fun ls hl => ?_)
  refine lv_aload_n hx hb dX9_on_117 rfl (lv_at hl 1 rfl) ?_
  obtain ⟨u11, hu11, hf⟩ := bd_use hf
  refine r_cv_9 (rest := []) C h (c_X9_putBack  hu11) (rfl : Kd 29 = 9) gX9_on_X9_putBack rfl ⟨rfl, rfl⟩ hdX9_putBack ⟨Nat.le_of_ble_eq_true rfl, Nat.le_of_ble_eq_true rfl⟩ ⟨Nat.zero_le _, Nat.zero_le _⟩ hl.1 rfl (Nat.le_of_ble_eq_true rfl) dX9_on_118 (fun H locs h => ?_)
  refine lv_iload_n hx hb dX9_on_121 rfl (lv_at hl 0 rfl) ?_
  replace hf := Option.some.inj hf
  subst hf
  exact r_ire C h dX9_on_122
set_option maxHeartbeats 4000000 in
set_option maxRecDepth 100000 in
theorem w_X9_on_46 {p : Program} {l : Launch} {e : Env} {s : State} {m : MethodId} {args : Array Value} {below : List Frame} {meth : Method} {c : Code} {E : Ev} {σ : Ms} {ℓ : Mz} {p0 : Int32} {p1 : Int32} {out : Int32 × Mm}   (C : Cx cX9_on 4 (some .int) wsX9_on RX9 E p s m args meth c)  : ∀ (τ : Mm) (H : Heap) (locs : List Loc) (h : HI E (va_up σ 29 τ) ℓ s H locs) (ls : Array Slot) (hl : lv_has ls 4 [(0, .ref (Ea E 29 0)), (1, .int p0), (2, .int p1)]), f_X9_on_46 p0 p1  τ = some out → W p l e rm_X9_on s m args below meth c H locs 0 0 (MQ below (Po E s.heap.size (some (.int out.1)) (va_up σ 29 out.2) ℓ) args s 0 0 (AA E s.heap.size)) (F0 m 46 ls []) := by
  intro τ H locs h ls hl hf
  unfold f_X9_on_46 at hf
  have C0 := C
  obtain ⟨hx, hb, hr, hml, hown, hts, hlk, hK, hSF⟩ := C0
  refine lv_aload_n hx hb dX9_on_46 rfl (lv_at hl 0 rfl) ?_
  refine lv_iload_n hx hb dX9_on_47 rfl (lv_at hl 1 rfl) ?_
  obtain ⟨u3, hu3, hf⟩ := bd_use hf
  refine r_cv_9 (rest := []) C h (c_X9_isMinutes  hu3) (rfl : Kd 29 = 9) gX9_on_X9_isMinutes rfl ⟨rfl, rfl⟩ hdX9_isMinutes ⟨Nat.le_of_ble_eq_true rfl, Nat.le_of_ble_eq_true rfl⟩ ⟨Nat.zero_le _, Nat.zero_le _⟩ hl.1 rfl (Nat.le_of_ble_eq_true rfl) dX9_on_48 (fun H locs h => ?_)
  refine lv_if_ne (tgt := 57) hx hb dX9_on_51 (by decide) (fun c4 => ?_) (fun c4 => ?_)
  · replace hf := it_f c4 hf
    refine lv_aload_n hx hb dX9_on_57 rfl (lv_at hl 0 rfl) ?_
    obtain ⟨u5, hu5, hf⟩ := bd_use hf
    refine r_cv_9 (rest := []) C h (c_X9_save  hu5) (rfl : Kd 29 = 9) gX9_on_X9_save rfl ⟨rfl, rfl⟩ hdX9_save ⟨Nat.le_of_ble_eq_true rfl, Nat.le_of_ble_eq_true rfl⟩ ⟨Nat.zero_le _, Nat.zero_le _⟩ hl.1 rfl (Nat.le_of_ble_eq_true rfl) dX9_on_58 (fun H locs h => ?_)
    refine lv_aload_n hx hb dX9_on_61 rfl (lv_at hl 0 rfl) ?_
    refine lv_iload_n hx hb dX9_on_62 rfl (lv_at hl 1 rfl) ?_
    obtain ⟨u6, hu6, hf⟩ := bd_use hf
    refine r_cv_9 (rest := []) C h (c_X9_goMinutes  hu6) (rfl : Kd 29 = 9) gX9_on_X9_goMinutes rfl ⟨rfl, rfl⟩ hdX9_goMinutes ⟨Nat.le_of_ble_eq_true rfl, Nat.le_of_ble_eq_true rfl⟩ ⟨Nat.zero_le _, Nat.zero_le _⟩ hl.1 rfl (Nat.le_of_ble_eq_true rfl) dX9_on_63 (fun H locs h => ?_)
    refine lv_iload_n hx hb dX9_on_66 rfl (lv_at hl 2 rfl) ?_
    refine lv_if_ne (tgt := 77) hx hb dX9_on_67 (by decide) (fun c7 => ?_) (fun c7 => ?_)
    · replace hf := it_f c7 hf
      refine lv_iload_n hx hb dX9_on_77 rfl (lv_at hl 2 rfl) ?_
      refine lv_iconst (v := (1 : Int32)) hx hb dX9_on_78 (by decide) ?_
      refine lv_icmp_ne (tgt := 89) hx hb dX9_on_79 (by decide) (fun c8 => ?_) (fun c8 => ?_)
      · replace hf := it_f c8 hf
        refine lv_iload_n hx hb dX9_on_89 rfl (lv_at hl 2 rfl) ?_
        refine lv_bipush (v := (20 : Int32)) hx hb dX9_on_90 (by decide) ?_
        refine lv_icmp_ge (tgt := 107) hx hb dX9_on_92 (by decide) (fun c9 => ?_) (fun c9 => ?_)
        · replace hf := it_t c9 hf
          refine lv_aload_n hx hb dX9_on_107 rfl (lv_at hl 0 rfl) ?_
          refine gf_9_8 C h (rfl : Kd 29 = 9) up_eq inX9_on_9 lkX9_on_35 dX9_on_108 ?_
          refine lv_iload_n hx hb dX9_on_111 rfl (lv_at hl 2 rfl) ?_
          refine lv_bipush (v := (20 : Int32)) hx hb dX9_on_112 (by decide) ?_
          refine lv_isub hx hb dX9_on_114 ?_
          obtain ⟨g10, hf⟩ := gd_use hf
          refine ld_9_4 C h (rfl : Kd 29 = 9) up_eq (inB_in g10) dX9_on_115 ?_
          exact w_X9_on_116    C  _ _ _ _ h ls (lv_sub hl [0] rfl) hf
        replace hf := it_f c9 hf
        refine lv_aload_n hx hb dX9_on_95 rfl (lv_at hl 0 rfl) ?_
        refine gf_9_7 C h (rfl : Kd 29 = 9) up_eq inX9_on_9 lkX9_on_32 dX9_on_96 ?_
        refine lv_iload_n hx hb dX9_on_99 rfl (lv_at hl 2 rfl) ?_
        refine lv_bipush (v := (10 : Int32)) hx hb dX9_on_100 (by decide) ?_
        refine lv_isub hx hb dX9_on_102 ?_
        obtain ⟨g12, hf⟩ := gd_use hf
        refine ld_9_3 C h (rfl : Kd 29 = 9) up_eq (inB_in g12) dX9_on_103 ?_
        refine lv_goto (tgt := 116) hx hb dX9_on_104 (by decide) ?_
        exact w_X9_on_116    C  _ _ _ _ h ls (lv_sub hl [0] rfl) hf
      replace hf := it_t c8 hf
      refine lv_aload_n hx hb dX9_on_82 rfl (lv_at hl 0 rfl) ?_
      refine gf_9_3 C h (rfl : Kd 29 = 9) up_eq inX9_on_9 lkX9_on_19 dX9_on_83 ?_
      refine lv_goto (tgt := 116) hx hb dX9_on_86 (by decide) ?_
      exact w_X9_on_116    C  _ _ _ _ h ls (lv_sub hl [0] rfl) hf
    replace hf := it_t c7 hf
    refine lv_aload_n hx hb dX9_on_70 rfl (lv_at hl 0 rfl) ?_
    refine gf_9_2 C h (rfl : Kd 29 = 9) up_eq inX9_on_9 lkX9_on_16 dX9_on_71 ?_
    refine lv_goto (tgt := 116) hx hb dX9_on_74 (by decide) ?_
    exact w_X9_on_116    C  _ _ _ _ h ls (lv_sub hl [0] rfl) hf
  replace hf := it_t c4 hf
  refine lv_bipush (v := (-2 : Int32)) hx hb dX9_on_54 (by decide) ?_
  replace hf := Option.some.inj hf
  subst hf
  exact r_ire C h dX9_on_56
set_option maxHeartbeats 4000000 in
set_option maxRecDepth 100000 in
theorem w_X9_on_0 {p : Program} {l : Launch} {e : Env} {s : State} {m : MethodId} {args : Array Value} {below : List Frame} {meth : Method} {c : Code} {E : Ev} {σ : Ms} {ℓ : Mz} {p0 : Int32} {p1 : Int32} {out : Int32 × Mm}   (C : Cx cX9_on 4 (some .int) wsX9_on RX9 E p s m args meth c)  : ∀ (τ : Mm) (H : Heap) (locs : List Loc) (h : HI E (va_up σ 29 τ) ℓ s H locs) (ls : Array Slot) (hl : lv_has ls 4 [(0, .ref (Ea E 29 0)), (1, .int p0), (2, .int p1)]), f_X9_on_0 p0 p1  τ = some out → W p l e rm_X9_on s m args below meth c H locs 0 0 (MQ below (Po E s.heap.size (some (.int out.1)) (va_up σ 29 out.2) ℓ) args s 0 0 (AA E s.heap.size)) (F0 m 0 ls []) := by
  intro τ H locs h ls hl hf
  unfold f_X9_on_0 at hf
  have C0 := C
  obtain ⟨hx, hb, hr, hml, hown, hts, hlk, hK, hSF⟩ := C0
  refine lv_aload_n hx hb dX9_on_0 rfl (lv_at hl 0 rfl) ?_
  refine lv_iload_n hx hb dX9_on_1 rfl (lv_at hl 2 rfl) ?_
  refine lv_iconst (v := (0 : Int32)) hx hb dX9_on_2 (by decide) ?_
  refine lv_iconst (v := (1 : Int32)) hx hb dX9_on_3 (by decide) ?_
  obtain ⟨u1, hu1, hf⟩ := bd_use hf
  refine r_cv_9 (rest := []) C h (c_X9_in  hu1) (rfl : Kd 29 = 9) gX9_on_X9_in rfl ⟨rfl, rfl⟩ hdX9_in ⟨Nat.le_of_ble_eq_true rfl, Nat.le_of_ble_eq_true rfl⟩ ⟨Nat.zero_le _, Nat.zero_le _⟩ hl.1 rfl (Nat.le_of_ble_eq_true rfl) dX9_on_4 (fun H locs h => ?_)
  refine lv_if_ne (tgt := 46) hx hb dX9_on_7 (by decide) (fun c2 => ?_) (fun c2 => ?_)
  · replace hf := it_f c2 hf
    exact w_X9_on_46    C  _ _ _ h ls (lv_sub hl [0, 1, 2] rfl) hf
  replace hf := it_t c2 hf
  refine lv_aload_n hx hb dX9_on_10 rfl (lv_at hl 0 rfl) ?_
  refine lv_iload_n hx hb dX9_on_11 rfl (lv_at hl 2 rfl) ?_
  refine lv_bipush (v := (10 : Int32)) hx hb dX9_on_12 (by decide) ?_
  refine lv_bipush (v := (9 : Int32)) hx hb dX9_on_14 (by decide) ?_
  refine lv_aload_n hx hb dX9_on_16 rfl (lv_at hl 0 rfl) ?_
  refine gf_9_0 C h (rfl : Kd 29 = 9) up_eq inX9_on_9 lkX9_on_7 dX9_on_17 ?_
  refine lv_iadd hx hb dX9_on_20 ?_
  obtain ⟨u13, hu13, hf⟩ := bd_use hf
  refine r_cv_9 (rest := []) C h (c_X9_in  hu13) (rfl : Kd 29 = 9) gX9_on_X9_in rfl ⟨rfl, rfl⟩ hdX9_in ⟨Nat.le_of_ble_eq_true rfl, Nat.le_of_ble_eq_true rfl⟩ ⟨Nat.zero_le _, Nat.zero_le _⟩ hl.1 rfl (Nat.le_of_ble_eq_true rfl) dX9_on_21 (fun H locs h => ?_)
  refine lv_if_ne (tgt := 46) hx hb dX9_on_24 (by decide) (fun c14 => ?_) (fun c14 => ?_)
  · replace hf := it_f c14 hf
    exact w_X9_on_46    C  _ _ _ h ls (lv_sub hl [0, 1, 2] rfl) hf
  replace hf := it_t c14 hf
  refine lv_aload_n hx hb dX9_on_27 rfl (lv_at hl 0 rfl) ?_
  refine lv_iload_n hx hb dX9_on_28 rfl (lv_at hl 2 rfl) ?_
  refine lv_bipush (v := (20 : Int32)) hx hb dX9_on_29 (by decide) ?_
  refine lv_bipush (v := (19 : Int32)) hx hb dX9_on_31 (by decide) ?_
  refine lv_aload_n hx hb dX9_on_33 rfl (lv_at hl 0 rfl) ?_
  refine gf_9_0 C h (rfl : Kd 29 = 9) up_eq inX9_on_9 lkX9_on_7 dX9_on_34 ?_
  refine lv_iadd hx hb dX9_on_37 ?_
  obtain ⟨u15, hu15, hf⟩ := bd_use hf
  refine r_cv_9 (rest := []) C h (c_X9_in  hu15) (rfl : Kd 29 = 9) gX9_on_X9_in rfl ⟨rfl, rfl⟩ hdX9_in ⟨Nat.le_of_ble_eq_true rfl, Nat.le_of_ble_eq_true rfl⟩ ⟨Nat.zero_le _, Nat.zero_le _⟩ hl.1 rfl (Nat.le_of_ble_eq_true rfl) dX9_on_38 (fun H locs h => ?_)
  refine lv_if_ne (tgt := 46) hx hb dX9_on_41 (by decide) (fun c16 => ?_) (fun c16 => ?_)
  · replace hf := it_f c16 hf
    exact w_X9_on_46    C  _ _ _ h ls (lv_sub hl [0, 1, 2] rfl) hf
  replace hf := it_t c16 hf
  refine lv_iconst (v := (-1 : Int32)) hx hb dX9_on_44 (by decide) ?_
  replace hf := Option.some.inj hf
  subst hf
  exact r_ire C h dX9_on_45
theorem c_X9_on {l : Launch} {E : Ev} {σ : Ms} {ℓ : Mz} {τ : Mm} {p0 : Int32} {p1 : Int32} {out : Int32 × Mm} (hf : f_X9_on τ p0 p1 = some out) : Ct l yX9_on wsX9_on rm_X9_on [.ref (Ea E 29 0), .int p0, .int p1] E (va_up σ 29 τ) ℓ (some (.int out.1)) (va_up σ 29 out.2) ℓ := by
  refine Ct_mk (cc := cX9_on) (mL := 4) (ret := (some .int)) (own := RX9) (by decide +kernel) rfl rfl (Nat.le_of_ble_eq_true rfl) (fun p e s m below meth c C h ls hl => ?_)
  exact w_X9_on_0  C τ _ _ h ls (lv_sub hl [0, 1, 2] rfl) hf
theorem k_X9_on {l : Launch} {E : Ev} {σ : Ms} {ℓ : Mz} {τ : Mm} {p0 : Int32} {p1 : Int32} (hτ : σ 29 = τ) {out : Int32 × Mm} (hf : f_X9_on τ p0 p1 = some out) : Ct l yX9_on wsX9_on rm_X9_on [.ref (Ea E 29 0), .int p0, .int p1] E σ ℓ (some (.int out.1)) (va_up σ 29 out.2) ℓ := by
  subst hτ
  have h := c_X9_on (l := l) (E := E) (σ := σ) (ℓ := ℓ)  hf
  rw [up_id σ 29] at h
  exact h
theorem hdX9_whoIfRung : yX9_whoIfRung.cls = RX9 ∧ yX9_whoIfRung.cls ≠ "java/lang/invoke/MethodHandle" ∧ yX9_whoIfRung.cls ≠ "java/lang/invoke/VarHandle" ∧ (parseMethodDescriptor yX9_whoIfRung.desc).map (fun d => d.parameters.length) = some 1 := by decide +kernel
def rm_X9_whoIfRung : Room := { frames := 7, cells := 0, slots := 0, locals := 168 }
set_option maxRecDepth 100000 in
theorem inX9_whoIfRung_9 : ∀ w ∈ wsX90, w ∈ wsX9_whoIfRung := fun _ h => List.mem_cons_of_mem _ (List.mem_append_right _ h)
set_option maxRecDepth 100000 in
theorem lkX9_whoIfRung_16 : Cond.fieldLink RX9 16 "BellsBelowModel" "rung" "I" ∈ wsX9_whoIfRung := by decide +kernel
set_option maxHeartbeats 4000000 in
set_option maxRecDepth 100000 in
theorem w_X9_whoIfRung_0 {p : Program} {l : Launch} {e : Env} {s : State} {m : MethodId} {args : Array Value} {below : List Frame} {meth : Method} {c : Code} {E : Ev} {σ : Ms} {ℓ : Mz} {p0 : Int32} {out : Int32 × Mm}   (C : Cx cX9_whoIfRung 3 (some .int) wsX9_whoIfRung RX9 E p s m args meth c)  : ∀ (τ : Mm) (H : Heap) (locs : List Loc) (h : HI E (va_up σ 29 τ) ℓ s H locs) (ls : Array Slot) (hl : lv_has ls 3 [(0, .ref (Ea E 29 0)), (1, .int p0)]), f_X9_whoIfRung_0 p0  τ = some out → W p l e rm_X9_whoIfRung s m args below meth c H locs 0 0 (MQ below (Po E s.heap.size (some (.int out.1)) (va_up σ 29 out.2) ℓ) args s 0 0 (AA E s.heap.size)) (F0 m 0 ls []) := by
  intro τ H locs h ls hl hf
  unfold f_X9_whoIfRung_0 at hf
  have C0 := C
  obtain ⟨hx, hb, hr, hml, hown, hts, hlk, hK, hSF⟩ := C0
  refine lv_aload_n hx hb dX9_whoIfRung_0 rfl (lv_at hl 0 rfl) ?_
  obtain ⟨u1, hu1, hf⟩ := bd_use hf
  refine r_cv_9 (rest := []) C h (c_X9_save  hu1) (rfl : Kd 29 = 9) gX9_whoIfRung_X9_save rfl ⟨rfl, rfl⟩ hdX9_save ⟨Nat.le_of_ble_eq_true rfl, Nat.le_of_ble_eq_true rfl⟩ ⟨Nat.zero_le _, Nat.zero_le _⟩ hl.1 rfl (Nat.le_of_ble_eq_true rfl) dX9_whoIfRung_1 (fun H locs h => ?_)
  refine lv_aload_n hx hb dX9_whoIfRung_4 rfl (lv_at hl 0 rfl) ?_
  refine lv_dup hx hb dX9_whoIfRung_5 rfl ?_
  refine gf_9_2 C h (rfl : Kd 29 = 9) up_eq inX9_whoIfRung_9 lkX9_whoIfRung_16 dX9_whoIfRung_6 ?_
  refine lv_iconst (v := (1 : Int32)) hx hb dX9_whoIfRung_9 (by decide) ?_
  refine lv_iload_n hx hb dX9_whoIfRung_10 rfl (lv_at hl 1 rfl) ?_
  refine lv_ishl hx hb dX9_whoIfRung_11 ?_
  refine lv_ior hx hb dX9_whoIfRung_12 ?_
  refine pf_9_2 C h (rfl : Kd 29 = 9) up_eq (F := fun t => va_up σ 29 t) (fun _ => up_up) inX9_whoIfRung_9 lkX9_whoIfRung_16 dX9_whoIfRung_13 (fun τ2 eτ2 H locs h => ?_)
  replace hf := lt_use eτ2 hf
  clear eτ2
  refine lv_aload_n hx hb dX9_whoIfRung_16 rfl (lv_at hl 0 rfl) ?_
  obtain ⟨u3, hu3, hf⟩ := bd_use hf
  refine r_cv_9 (rest := []) C h (c_X9_giveGoals  hu3) (rfl : Kd 29 = 9) gX9_whoIfRung_X9_giveGoals rfl ⟨rfl, rfl⟩ hdX9_giveGoals ⟨Nat.le_of_ble_eq_true rfl, Nat.le_of_ble_eq_true rfl⟩ ⟨Nat.zero_le _, Nat.zero_le _⟩ hl.1 rfl (Nat.le_of_ble_eq_true rfl) dX9_whoIfRung_17 (fun H locs h => ?_)
  refine lv_aload_n hx hb dX9_whoIfRung_20 rfl (lv_at hl 0 rfl) ?_
  refine lv_iload_n hx hb dX9_whoIfRung_21 rfl (lv_at hl 1 rfl) ?_
  obtain ⟨u4, hu4, hf⟩ := bd_use hf
  refine r_cv_9 (rest := []) C h (c_X9_whoGoes up_eq hu4) (rfl : Kd 29 = 9) gX9_whoIfRung_X9_whoGoes rfl ⟨rfl, rfl⟩ hdX9_whoGoes ⟨Nat.le_of_ble_eq_true rfl, Nat.le_of_ble_eq_true rfl⟩ ⟨Nat.zero_le _, Nat.zero_le _⟩ hl.1 rfl (Nat.le_of_ble_eq_true rfl) dX9_whoIfRung_22 (fun H locs h => ?_)
  refine lv_istore_n (lv' := [(2, .int u4), (0, .ref (Ea E 29 0)), (1, .int p0)]) hx hb dX9_whoIfRung_25 rfl hl (by decide) rfl (fun ls hl => ?_)
  refine lv_aload_n hx hb dX9_whoIfRung_26 rfl (lv_at hl 1 rfl) ?_
  obtain ⟨u5, hu5, hf⟩ := bd_use hf
  refine r_cv_9 (rest := []) C h (c_X9_putBack  hu5) (rfl : Kd 29 = 9) gX9_whoIfRung_X9_putBack rfl ⟨rfl, rfl⟩ hdX9_putBack ⟨Nat.le_of_ble_eq_true rfl, Nat.le_of_ble_eq_true rfl⟩ ⟨Nat.zero_le _, Nat.zero_le _⟩ hl.1 rfl (Nat.le_of_ble_eq_true rfl) dX9_whoIfRung_27 (fun H locs h => ?_)
  refine lv_iload_n hx hb dX9_whoIfRung_30 rfl (lv_at hl 0 rfl) ?_
  replace hf := Option.some.inj hf
  subst hf
  exact r_ire C h dX9_whoIfRung_31
theorem c_X9_whoIfRung {l : Launch} {E : Ev} {σ : Ms} {ℓ : Mz} {τ : Mm} {p0 : Int32} {out : Int32 × Mm} (hf : f_X9_whoIfRung τ p0 = some out) : Ct l yX9_whoIfRung wsX9_whoIfRung rm_X9_whoIfRung [.ref (Ea E 29 0), .int p0] E (va_up σ 29 τ) ℓ (some (.int out.1)) (va_up σ 29 out.2) ℓ := by
  refine Ct_mk (cc := cX9_whoIfRung) (mL := 3) (ret := (some .int)) (own := RX9) (by decide +kernel) rfl rfl (Nat.le_of_ble_eq_true rfl) (fun p e s m below meth c C h ls hl => ?_)
  exact w_X9_whoIfRung_0  C τ _ _ h ls (lv_sub hl [0, 1] rfl) hf
theorem k_X9_whoIfRung {l : Launch} {E : Ev} {σ : Ms} {ℓ : Mz} {τ : Mm} {p0 : Int32} (hτ : σ 29 = τ) {out : Int32 × Mm} (hf : f_X9_whoIfRung τ p0 = some out) : Ct l yX9_whoIfRung wsX9_whoIfRung rm_X9_whoIfRung [.ref (Ea E 29 0), .int p0] E σ ℓ (some (.int out.1)) (va_up σ 29 out.2) ℓ := by
  subst hτ
  have h := c_X9_whoIfRung (l := l) (E := E) (σ := σ) (ℓ := ℓ)  hf
  rw [up_id σ 29] at h
  exact h
theorem hdX9_soonIfRung : yX9_soonIfRung.cls = RX9 ∧ yX9_soonIfRung.cls ≠ "java/lang/invoke/MethodHandle" ∧ yX9_soonIfRung.cls ≠ "java/lang/invoke/VarHandle" ∧ (parseMethodDescriptor yX9_soonIfRung.desc).map (fun d => d.parameters.length) = some 1 := by decide +kernel
def rm_X9_soonIfRung : Room := { frames := 8, cells := 0, slots := 0, locals := 189 }
set_option maxRecDepth 100000 in
theorem inX9_soonIfRung_9 : ∀ w ∈ wsX90, w ∈ wsX9_soonIfRung := fun _ h => List.mem_cons_of_mem _ (List.mem_append_right _ h)
set_option maxRecDepth 100000 in
theorem lkX9_soonIfRung_16 : Cond.fieldLink RX9 16 "BellsBelowModel" "rung" "I" ∈ wsX9_soonIfRung := by decide +kernel
set_option maxHeartbeats 4000000 in
set_option maxRecDepth 100000 in
theorem w_X9_soonIfRung_46 {p : Program} {l : Launch} {e : Env} {s : State} {m : MethodId} {args : Array Value} {below : List Frame} {meth : Method} {c : Code} {E : Ev} {σ : Ms} {ℓ : Mz} {p0 : Int32} {out : Int32 × Mm}   (C : Cx cX9_soonIfRung 3 (some .int) wsX9_soonIfRung RX9 E p s m args meth c)  : ∀ (τ : Mm) (v2 : Int32) (H : Heap) (locs : List Loc) (h : HI E (va_up σ 29 τ) ℓ s H locs) (ls : Array Slot) (hl : lv_has ls 3 [(0, .ref (Ea E 29 0)), (2, .int v2)]), f_X9_soonIfRung_46 p0  τ v2 = some out → W p l e rm_X9_soonIfRung s m args below meth c H locs 0 0 (MQ below (Po E s.heap.size (some (.int out.1)) (va_up σ 29 out.2) ℓ) args s 0 0 (AA E s.heap.size)) (F0 m 46 ls []) := by
  intro τ v2 H locs h ls hl hf
  unfold f_X9_soonIfRung_46 at hf
  have C0 := C
  obtain ⟨hx, hb, hr, hml, hown, hts, hlk, hK, hSF⟩ := C0
  refine lv_aload_n hx hb dX9_soonIfRung_46 rfl (lv_at hl 0 rfl) ?_
  obtain ⟨u4, hu4, hf⟩ := bd_use hf
  refine r_cv_9 (rest := []) C h (c_X9_putBack  hu4) (rfl : Kd 29 = 9) gX9_soonIfRung_X9_putBack rfl ⟨rfl, rfl⟩ hdX9_putBack ⟨Nat.le_of_ble_eq_true rfl, Nat.le_of_ble_eq_true rfl⟩ ⟨Nat.zero_le _, Nat.zero_le _⟩ hl.1 rfl (Nat.le_of_ble_eq_true rfl) dX9_soonIfRung_47 (fun H locs h => ?_)
  refine lv_iload_n hx hb dX9_soonIfRung_50 rfl (lv_at hl 1 rfl) ?_
  refine lv_bipush (v := (61 : Int32)) hx hb dX9_soonIfRung_51 (by decide) ?_
  refine lv_icmp_ge (tgt := 60) hx hb dX9_soonIfRung_53 (by decide) (fun c5 => ?_) (fun c5 => ?_)
  · replace hf := it_t c5 hf
    refine lv_bipush (v := (-5 : Int32)) hx hb dX9_soonIfRung_60 (by decide) ?_
    replace hf := Option.some.inj hf
    subst hf
    exact r_ire C h dX9_soonIfRung_62
  replace hf := it_f c5 hf
  refine lv_iload_n hx hb dX9_soonIfRung_56 rfl (lv_at hl 1 rfl) ?_
  refine lv_goto (tgt := 62) hx hb dX9_soonIfRung_57 (by decide) ?_
  replace hf := Option.some.inj hf
  subst hf
  exact r_ire C h dX9_soonIfRung_62
set_option maxHeartbeats 4000000 in
set_option maxRecDepth 100000 in
theorem w_X9_soonIfRung_18 {p : Program} {l : Launch} {e : Env} {s : State} {m : MethodId} {args : Array Value} {below : List Frame} {meth : Method} {c : Code} {E : Ev} {σ : Ms} {ℓ : Mz} {p0 : Int32} {out : Int32 × Mm}   (C : Cx cX9_soonIfRung 3 (some .int) wsX9_soonIfRung RX9 E p s m args meth c) {k18 : Mm → Int32 → Option (Int32 × Mm)} (hk18 : ∀ (τ : Mm) (v2 : Int32) (H : Heap) (locs : List Loc), HI E (va_up σ 29 τ) ℓ s H locs → ∀ ls : Array Slot, lv_has ls 3 [(0, .ref (Ea E 29 0)), (1, .int p0), (2, .int v2)] → k18 τ v2 = some out → W p l e rm_X9_soonIfRung s m args below meth c H locs 0 0 (MQ below (Po E s.heap.size (some (.int out.1)) (va_up σ 29 out.2) ℓ) args s 0 0 (AA E s.heap.size)) (F0 m 18 ls [])) : ∀ (τ : Mm) (v2 : Int32) (H : Heap) (locs : List Loc) (h : HI E (va_up σ 29 τ) ℓ s H locs) (ls : Array Slot) (hl : lv_has ls 3 [(0, .ref (Ea E 29 0)), (1, .int p0), (2, .int v2)]), f_X9_soonIfRung_18 p0 k18 τ v2 = some out → W p l e rm_X9_soonIfRung s m args below meth c H locs 0 0 (MQ below (Po E s.heap.size (some (.int out.1)) (va_up σ 29 out.2) ℓ) args s 0 0 (AA E s.heap.size)) (F0 m 18 ls []) := by
  intro τ v2 H locs h ls hl hf
  unfold f_X9_soonIfRung_18 at hf
  have C0 := C
  obtain ⟨hx, hb, hr, hml, hown, hts, hlk, hK, hSF⟩ := C0
  refine lv_iload_n hx hb dX9_soonIfRung_18 rfl (lv_at hl 2 rfl) ?_
  refine lv_bipush (v := (61 : Int32)) hx hb dX9_soonIfRung_19 (by decide) ?_
  refine lv_icmp_ge (tgt := 46) hx hb dX9_soonIfRung_21 (by decide) (fun c3 => ?_) (fun c3 => ?_)
  · replace hf := it_t c3 hf
    exact w_X9_soonIfRung_46    C  _ _ _ _ h ls (lv_sub hl [0, 2] rfl) hf
  replace hf := it_f c3 hf
  refine lv_aload_n hx hb dX9_soonIfRung_24 rfl (lv_at hl 0 rfl) ?_
  refine lv_aload_n hx hb dX9_soonIfRung_25 rfl (lv_at hl 0 rfl) ?_
  refine gf_9_2 C h (rfl : Kd 29 = 9) up_eq inX9_soonIfRung_9 lkX9_soonIfRung_16 dX9_soonIfRung_26 ?_
  refine lv_iload_n hx hb dX9_soonIfRung_29 rfl (lv_at hl 1 rfl) ?_
  obtain ⟨u6, hu6, hf⟩ := bd_use hf
  refine r_cv_9 (rest := []) C h (c_X9_has  hu6) (rfl : Kd 29 = 9) gX9_soonIfRung_X9_has rfl ⟨rfl, rfl⟩ hdX9_has ⟨Nat.le_of_ble_eq_true rfl, Nat.le_of_ble_eq_true rfl⟩ ⟨Nat.zero_le _, Nat.zero_le _⟩ hl.1 rfl (Nat.le_of_ble_eq_true rfl) dX9_soonIfRung_30 (fun H locs h => ?_)
  refine lv_if_eq (tgt := 46) hx hb dX9_soonIfRung_33 (by decide) (fun c7 => ?_) (fun c7 => ?_)
  · replace hf := it_t c7 hf
    exact w_X9_soonIfRung_46    C  _ _ _ _ h ls (lv_sub hl [0, 2] rfl) hf
  replace hf := it_f c7 hf
  refine lv_aload_n hx hb dX9_soonIfRung_36 rfl (lv_at hl 0 rfl) ?_
  obtain ⟨u8, hu8, hf⟩ := bd_use hf
  refine r_cv_9 (rest := []) C h (c_X9_goMinute  hu8) (rfl : Kd 29 = 9) gX9_soonIfRung_X9_goMinute rfl ⟨rfl, rfl⟩ hdX9_goMinute ⟨Nat.le_of_ble_eq_true rfl, Nat.le_of_ble_eq_true rfl⟩ ⟨Nat.zero_le _, Nat.zero_le _⟩ hl.1 rfl (Nat.le_of_ble_eq_true rfl) dX9_soonIfRung_37 (fun H locs h => ?_)
  obtain ⟨x9, ex9⟩ : ∃ y : Int32, y = (v2 + (1 : Int32)) := ⟨_, rfl⟩
  refine lv_iinc (v := x9) (lv' := [(2, .int x9), (0, .ref (Ea E 29 0)), (1, .int p0)]) hx hb dX9_soonIfRung_40 hl (k := 2) rfl (by rw [ex9]; rfl) (by decide) rfl (fun ls hl => ?_)
  replace hf := lt_use ex9 hf
  clear ex9
  refine lv_goto (tgt := 18) hx hb dX9_soonIfRung_43 (by decide) ?_
  exact hk18 _ _ _ _ h ls (lv_sub hl [1, 2, 0] rfl) hf
set_option maxHeartbeats 4000000 in
set_option maxRecDepth 100000 in
theorem w_X9_soonIfRung_18L {p : Program} {l : Launch} {e : Env} {s : State} {m : MethodId} {args : Array Value} {below : List Frame} {meth : Method} {c : Code} {E : Ev} {σ : Ms} {ℓ : Mz} {p0 : Int32} {out : Int32 × Mm}   (C : Cx cX9_soonIfRung 3 (some .int) wsX9_soonIfRung RX9 E p s m args meth c)  : ∀ (n9 : Nat) (τ : Mm) (v2 : Int32) (H : Heap) (locs : List Loc) (h : HI E (va_up σ 29 τ) ℓ s H locs) (ls : Array Slot) (hl : lv_has ls 3 [(0, .ref (Ea E 29 0)), (1, .int p0), (2, .int v2)]), f_X9_soonIfRung_18L p0  n9 τ v2 = some out → W p l e rm_X9_soonIfRung s m args below meth c H locs 0 0 (MQ below (Po E s.heap.size (some (.int out.1)) (va_up σ 29 out.2) ℓ) args s 0 0 (AA E s.heap.size)) (F0 m 18 ls []) := by
  intro n9
  induction n9 with
  | zero =>
    intro τ v2 H locs h ls hl hf
    cases (show (none : Option (Int32 × Mm)) = some out from hf)
  | succ n9 ih =>
    intro τ v2 H locs h ls hl hf
    exact w_X9_soonIfRung_18   C  ih τ v2 H locs h ls hl hf
set_option maxHeartbeats 4000000 in
set_option maxRecDepth 100000 in
theorem w_X9_soonIfRung_0 {p : Program} {l : Launch} {e : Env} {s : State} {m : MethodId} {args : Array Value} {below : List Frame} {meth : Method} {c : Code} {E : Ev} {σ : Ms} {ℓ : Mz} {p0 : Int32} {out : Int32 × Mm}   (C : Cx cX9_soonIfRung 3 (some .int) wsX9_soonIfRung RX9 E p s m args meth c)  : ∀ (τ : Mm) (H : Heap) (locs : List Loc) (h : HI E (va_up σ 29 τ) ℓ s H locs) (ls : Array Slot) (hl : lv_has ls 3 [(0, .ref (Ea E 29 0)), (1, .int p0)]), f_X9_soonIfRung_0 p0  τ = some out → W p l e rm_X9_soonIfRung s m args below meth c H locs 0 0 (MQ below (Po E s.heap.size (some (.int out.1)) (va_up σ 29 out.2) ℓ) args s 0 0 (AA E s.heap.size)) (F0 m 0 ls []) := by
  intro τ H locs h ls hl hf
  unfold f_X9_soonIfRung_0 at hf
  have C0 := C
  obtain ⟨hx, hb, hr, hml, hown, hts, hlk, hK, hSF⟩ := C0
  refine lv_aload_n hx hb dX9_soonIfRung_0 rfl (lv_at hl 0 rfl) ?_
  obtain ⟨u1, hu1, hf⟩ := bd_use hf
  refine r_cv_9 (rest := []) C h (c_X9_save  hu1) (rfl : Kd 29 = 9) gX9_soonIfRung_X9_save rfl ⟨rfl, rfl⟩ hdX9_save ⟨Nat.le_of_ble_eq_true rfl, Nat.le_of_ble_eq_true rfl⟩ ⟨Nat.zero_le _, Nat.zero_le _⟩ hl.1 rfl (Nat.le_of_ble_eq_true rfl) dX9_soonIfRung_1 (fun H locs h => ?_)
  refine lv_aload_n hx hb dX9_soonIfRung_4 rfl (lv_at hl 0 rfl) ?_
  refine lv_dup hx hb dX9_soonIfRung_5 rfl ?_
  refine gf_9_2 C h (rfl : Kd 29 = 9) up_eq inX9_soonIfRung_9 lkX9_soonIfRung_16 dX9_soonIfRung_6 ?_
  refine lv_iconst (v := (1 : Int32)) hx hb dX9_soonIfRung_9 (by decide) ?_
  refine lv_iload_n hx hb dX9_soonIfRung_10 rfl (lv_at hl 1 rfl) ?_
  refine lv_ishl hx hb dX9_soonIfRung_11 ?_
  refine lv_ior hx hb dX9_soonIfRung_12 ?_
  refine pf_9_2 C h (rfl : Kd 29 = 9) up_eq (F := fun t => va_up σ 29 t) (fun _ => up_up) inX9_soonIfRung_9 lkX9_soonIfRung_16 dX9_soonIfRung_13 (fun τ2 eτ2 H locs h => ?_)
  replace hf := lt_use eτ2 hf
  clear eτ2
  refine lv_iconst (v := (0 : Int32)) hx hb dX9_soonIfRung_16 (by decide) ?_
  refine lv_istore_n (lv' := [(2, .int (0 : Int32)), (0, .ref (Ea E 29 0)), (1, .int p0)]) hx hb dX9_soonIfRung_17 rfl hl (by decide) rfl (fun ls hl => ?_)
  exact w_X9_soonIfRung_18L    C  _ _ _ _ _ h ls (lv_sub hl [1, 2, 0] rfl) hf
theorem c_X9_soonIfRung {l : Launch} {E : Ev} {σ : Ms} {ℓ : Mz} {τ : Mm} {p0 : Int32} {out : Int32 × Mm} (hf : f_X9_soonIfRung τ p0 = some out) : Ct l yX9_soonIfRung wsX9_soonIfRung rm_X9_soonIfRung [.ref (Ea E 29 0), .int p0] E (va_up σ 29 τ) ℓ (some (.int out.1)) (va_up σ 29 out.2) ℓ := by
  refine Ct_mk (cc := cX9_soonIfRung) (mL := 3) (ret := (some .int)) (own := RX9) (by decide +kernel) rfl rfl (Nat.le_of_ble_eq_true rfl) (fun p e s m below meth c C h ls hl => ?_)
  exact w_X9_soonIfRung_0  C τ _ _ h ls (lv_sub hl [0, 1] rfl) hf
theorem k_X9_soonIfRung {l : Launch} {E : Ev} {σ : Ms} {ℓ : Mz} {τ : Mm} {p0 : Int32} (hτ : σ 29 = τ) {out : Int32 × Mm} (hf : f_X9_soonIfRung τ p0 = some out) : Ct l yX9_soonIfRung wsX9_soonIfRung rm_X9_soonIfRung [.ref (Ea E 29 0), .int p0] E σ ℓ (some (.int out.1)) (va_up σ 29 out.2) ℓ := by
  subst hτ
  have h := c_X9_soonIfRung (l := l) (E := E) (σ := σ) (ℓ := ℓ)  hf
  rw [up_id σ 29] at h
  exact h
