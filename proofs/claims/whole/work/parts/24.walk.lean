/-! WALKS: made by wip/whole/gen -/
theorem hdX9_goPlan : yX9_goPlan.cls = RX9 ∧ yX9_goPlan.cls ≠ "java/lang/invoke/MethodHandle" ∧ yX9_goPlan.cls ≠ "java/lang/invoke/VarHandle" ∧ (parseMethodDescriptor yX9_goPlan.desc).map (fun d => d.parameters.length) = some 2 := by decide +kernel
def rm_X9_goPlan : Room := { frames := 8, cells := 0, slots := 0, locals := 189 }
set_option maxRecDepth 100000 in
theorem inX9_goPlan_9 : ∀ w ∈ wsX90, w ∈ wsX9_goPlan := fun _ h => List.mem_cons_of_mem _ (List.mem_append_right _ h)
set_option maxRecDepth 100000 in
theorem lkX9_goPlan_16 : Cond.fieldLink RX9 16 "BellsBelowModel" "rung" "I" ∈ wsX9_goPlan := by decide +kernel
set_option maxRecDepth 100000 in
theorem lkX9_goPlan_47 : Cond.fieldLink RX9 47 "BellsBelowModel" "wire" "[I" ∈ wsX9_goPlan := by decide +kernel
set_option maxHeartbeats 4000000 in
set_option maxRecDepth 100000 in
theorem w_X9_goPlan_47 {p : Program} {l : Launch} {e : Env} {s : State} {m : MethodId} {args : Array Value} {below : List Frame} {meth : Method} {c : Code} {E : Ev} {σ : Ms} {ℓ : Mz} {p0 : Int32} {p1 : Int32} {out : Mm}   (C : Cx cX9_goPlan 3 none wsX9_goPlan RX9 E p s m args meth c)  : ∀ (τ : Mm) (w1 : Int32) (w2 : Int32) (H : Heap) (locs : List Loc) (h : HI E (va_up σ 29 τ) ℓ s H locs) (ls : Array Slot) (hl : lv_has ls 3 []), f_X9_goPlan_47 p0 p1  τ w1 w2 = some out → W p l e rm_X9_goPlan s m args below meth c H locs 0 0 (MQ below (Po E s.heap.size none (va_up σ 29 out) ℓ) args s 0 0 (AA E s.heap.size)) (F0 m 47 ls [.int w2, .int w1, .ref (Ea E 29 0)]) := by
  intro τ w1 w2 H locs h ls hl hf
  unfold f_X9_goPlan_47 at hf
  have C0 := C
  obtain ⟨hx, hb, hr, hml, hown, hts, hlk, hK, hSF⟩ := C0
  obtain ⟨u5, hu5, hf⟩ := bd_use hf
  refine r_cv_9 (rest := []) C h (c_X9_goes  hu5) (rfl : Kd 29 = 9) gX9_goPlan_X9_goes rfl ⟨rfl, rfl⟩ hdX9_goes ⟨Nat.le_of_ble_eq_true rfl, Nat.le_of_ble_eq_true rfl⟩ ⟨Nat.zero_le _, Nat.zero_le _⟩ hl.1 rfl (Nat.le_of_ble_eq_true rfl) dX9_goPlan_47 (fun H locs h => ?_)
  replace hf := Option.some.inj hf
  subst hf
  exact r_vre C h dX9_goPlan_50
set_option maxHeartbeats 4000000 in
set_option maxRecDepth 100000 in
theorem w_X9_goPlan_30 {p : Program} {l : Launch} {e : Env} {s : State} {m : MethodId} {args : Array Value} {below : List Frame} {meth : Method} {c : Code} {E : Ev} {σ : Ms} {ℓ : Mz} {p0 : Int32} {p1 : Int32} {out : Mm}   (C : Cx cX9_goPlan 3 none wsX9_goPlan RX9 E p s m args meth c)  : ∀ (τ : Mm) (H : Heap) (locs : List Loc) (h : HI E (va_up σ 29 τ) ℓ s H locs) (ls : Array Slot) (hl : lv_has ls 3 [(0, .ref (Ea E 29 0)), (1, .int p0), (2, .int p1)]), f_X9_goPlan_30 p0 p1  τ = some out → W p l e rm_X9_goPlan s m args below meth c H locs 0 0 (MQ below (Po E s.heap.size none (va_up σ 29 out) ℓ) args s 0 0 (AA E s.heap.size)) (F0 m 30 ls []) := by
  intro τ H locs h ls hl hf
  unfold f_X9_goPlan_30 at hf
  have C0 := C
  obtain ⟨hx, hb, hr, hml, hown, hts, hlk, hK, hSF⟩ := C0
  refine lv_iload_n hx hb dX9_goPlan_30 rfl (lv_at hl 1 rfl) ?_
  refine lv_iconst (v := (1 : Int32)) hx hb dX9_goPlan_31 (by decide) ?_
  refine lv_icmp_le (tgt := 50) hx hb dX9_goPlan_32 (by decide) (fun c3 => ?_) (fun c3 => ?_)
  · replace hf := it_t c3 hf
    replace hf := Option.some.inj hf
    subst hf
    exact r_vre C h dX9_goPlan_50
  replace hf := it_f c3 hf
  refine lv_aload_n hx hb dX9_goPlan_35 rfl (lv_at hl 0 rfl) ?_
  refine lv_iload_n hx hb dX9_goPlan_36 rfl (lv_at hl 2 rfl) ?_
  refine lv_iload_n hx hb dX9_goPlan_37 rfl (lv_at hl 1 rfl) ?_
  refine lv_iconst (v := (2 : Int32)) hx hb dX9_goPlan_38 (by decide) ?_
  refine lv_icmp_ne (tgt := 46) hx hb dX9_goPlan_39 (by decide) (fun c4 => ?_) (fun c4 => ?_)
  · replace hf := it_f c4 hf
    refine lv_iconst (v := (0 : Int32)) hx hb dX9_goPlan_46 (by decide) ?_
    exact w_X9_goPlan_47    C  _ _ _ _ _ h ls (lv_sub hl [] rfl) hf
  replace hf := it_t c4 hf
  refine lv_iconst (v := (1 : Int32)) hx hb dX9_goPlan_42 (by decide) ?_
  refine lv_goto (tgt := 47) hx hb dX9_goPlan_43 (by decide) ?_
  exact w_X9_goPlan_47    C  _ _ _ _ _ h ls (lv_sub hl [] rfl) hf
set_option maxHeartbeats 4000000 in
set_option maxRecDepth 100000 in
theorem w_X9_goPlan_8 {p : Program} {l : Launch} {e : Env} {s : State} {m : MethodId} {args : Array Value} {below : List Frame} {meth : Method} {c : Code} {E : Ev} {σ : Ms} {ℓ : Mz} {p0 : Int32} {p1 : Int32} {out : Mm}   (C : Cx cX9_goPlan 3 none wsX9_goPlan RX9 E p s m args meth c)  : ∀ (τ : Mm) (H : Heap) (locs : List Loc) (h : HI E (va_up σ 29 τ) ℓ s H locs) (ls : Array Slot) (hl : lv_has ls 3 [(0, .ref (Ea E 29 0)), (1, .int p0), (2, .int p1)]), f_X9_goPlan_8 p0 p1  τ = some out → W p l e rm_X9_goPlan s m args below meth c H locs 0 0 (MQ below (Po E s.heap.size none (va_up σ 29 out) ℓ) args s 0 0 (AA E s.heap.size)) (F0 m 8 ls []) := by
  intro τ H locs h ls hl hf
  unfold f_X9_goPlan_8 at hf
  have C0 := C
  obtain ⟨hx, hb, hr, hml, hown, hts, hlk, hK, hSF⟩ := C0
  refine lv_iload_n hx hb dX9_goPlan_8 rfl (lv_at hl 1 rfl) ?_
  refine lv_iconst (v := (1 : Int32)) hx hb dX9_goPlan_9 (by decide) ?_
  refine lv_icmp_ne (tgt := 30) hx hb dX9_goPlan_10 (by decide) (fun c2 => ?_) (fun c2 => ?_)
  · replace hf := it_f c2 hf
    exact w_X9_goPlan_30    C  _ _ _ h ls (lv_sub hl [0, 1, 2] rfl) hf
  replace hf := it_t c2 hf
  refine lv_aload_n hx hb dX9_goPlan_13 rfl (lv_at hl 0 rfl) ?_
  refine lv_dup hx hb dX9_goPlan_14 rfl ?_
  refine gf_9_2 C h (rfl : Kd 29 = 9) up_eq inX9_goPlan_9 lkX9_goPlan_16 dX9_goPlan_15 ?_
  refine lv_iconst (v := (1 : Int32)) hx hb dX9_goPlan_18 (by decide) ?_
  refine lv_aload_n hx hb dX9_goPlan_19 rfl (lv_at hl 0 rfl) ?_
  refine gf_9_12 C h (rfl : Kd 29 = 9) up_eq inX9_goPlan_9 lkX9_goPlan_47 dX9_goPlan_20 ?_
  refine lv_iload_n hx hb dX9_goPlan_23 rfl (lv_at hl 2 rfl) ?_
  obtain ⟨g6, hf⟩ := gd_use hf
  refine ld_9_8 C h (rfl : Kd 29 = 9) up_eq (inB_in g6) dX9_goPlan_24 ?_
  refine lv_ishl hx hb dX9_goPlan_25 ?_
  refine lv_ior hx hb dX9_goPlan_26 ?_
  refine pf_9_2 C h (rfl : Kd 29 = 9) up_eq (F := fun t => va_up σ 29 t) (fun _ => up_up) inX9_goPlan_9 lkX9_goPlan_16 dX9_goPlan_27 (fun τ7 eτ7 H locs h => ?_)
  replace hf := lt_use eτ7 hf
  clear eτ7
  exact w_X9_goPlan_30    C  _ _ _ h ls (lv_sub hl [0, 1, 2] rfl) hf
set_option maxHeartbeats 4000000 in
set_option maxRecDepth 100000 in
theorem w_X9_goPlan_0 {p : Program} {l : Launch} {e : Env} {s : State} {m : MethodId} {args : Array Value} {below : List Frame} {meth : Method} {c : Code} {E : Ev} {σ : Ms} {ℓ : Mz} {p0 : Int32} {p1 : Int32} {out : Mm}   (C : Cx cX9_goPlan 3 none wsX9_goPlan RX9 E p s m args meth c)  : ∀ (τ : Mm) (H : Heap) (locs : List Loc) (h : HI E (va_up σ 29 τ) ℓ s H locs) (ls : Array Slot) (hl : lv_has ls 3 [(0, .ref (Ea E 29 0)), (1, .int p0), (2, .int p1)]), f_X9_goPlan_0 p0 p1  τ = some out → W p l e rm_X9_goPlan s m args below meth c H locs 0 0 (MQ below (Po E s.heap.size none (va_up σ 29 out) ℓ) args s 0 0 (AA E s.heap.size)) (F0 m 0 ls []) := by
  intro τ H locs h ls hl hf
  unfold f_X9_goPlan_0 at hf
  have C0 := C
  obtain ⟨hx, hb, hr, hml, hown, hts, hlk, hK, hSF⟩ := C0
  refine lv_iload_n hx hb dX9_goPlan_0 rfl (lv_at hl 1 rfl) ?_
  refine lv_if_ne (tgt := 8) hx hb dX9_goPlan_1 (by decide) (fun c1 => ?_) (fun c1 => ?_)
  · replace hf := it_f c1 hf
    exact w_X9_goPlan_8    C  _ _ _ h ls (lv_sub hl [0, 1, 2] rfl) hf
  replace hf := it_t c1 hf
  refine lv_aload_n hx hb dX9_goPlan_4 rfl (lv_at hl 0 rfl) ?_
  obtain ⟨u8, hu8, hf⟩ := bd_use hf
  refine r_cv_9 (rest := []) C h (c_X9_goMinute  hu8) (rfl : Kd 29 = 9) gX9_goPlan_X9_goMinute rfl ⟨rfl, rfl⟩ hdX9_goMinute ⟨Nat.le_of_ble_eq_true rfl, Nat.le_of_ble_eq_true rfl⟩ ⟨Nat.zero_le _, Nat.zero_le _⟩ hl.1 rfl (Nat.le_of_ble_eq_true rfl) dX9_goPlan_5 (fun H locs h => ?_)
  exact w_X9_goPlan_8    C  _ _ _ h ls (lv_sub hl [0, 1, 2] rfl) hf
theorem c_X9_goPlan {l : Launch} {E : Ev} {σ : Ms} {ℓ : Mz} {τ : Mm} {p0 : Int32} {p1 : Int32} {out : Mm} (hf : f_X9_goPlan τ p0 p1 = some out) : Ct l yX9_goPlan wsX9_goPlan rm_X9_goPlan [.ref (Ea E 29 0), .int p0, .int p1] E (va_up σ 29 τ) ℓ none (va_up σ 29 out) ℓ := by
  refine Ct_mk (cc := cX9_goPlan) (mL := 3) (ret := none) (own := RX9) (by decide +kernel) rfl rfl (Nat.le_of_ble_eq_true rfl) (fun p e s m below meth c C h ls hl => ?_)
  exact w_X9_goPlan_0  C τ _ _ h ls (lv_sub hl [0, 1, 2] rfl) hf
theorem k_X9_goPlan {l : Launch} {E : Ev} {σ : Ms} {ℓ : Mz} {τ : Mm} {p0 : Int32} {p1 : Int32} (hτ : σ 29 = τ) {out : Mm} (hf : f_X9_goPlan τ p0 p1 = some out) : Ct l yX9_goPlan wsX9_goPlan rm_X9_goPlan [.ref (Ea E 29 0), .int p0, .int p1] E σ ℓ none (va_up σ 29 out) ℓ := by
  subst hτ
  have h := c_X9_goPlan (l := l) (E := E) (σ := σ) (ℓ := ℓ)  hf
  rw [up_id σ 29] at h
  exact h
theorem hdX9_ends : yX9_ends.cls = RX9 ∧ yX9_ends.cls ≠ "java/lang/invoke/MethodHandle" ∧ yX9_ends.cls ≠ "java/lang/invoke/VarHandle" ∧ (parseMethodDescriptor yX9_ends.desc).map (fun d => d.parameters.length) = some 1 := by decide +kernel
def rm_X9_ends : Room := { frames := 9, cells := 0, slots := 0, locals := 211 }
set_option maxRecDepth 100000 in
theorem inX9_ends_9 : ∀ w ∈ wsX90, w ∈ wsX9_ends := fun _ h => List.mem_cons_of_mem _ (List.mem_append_right _ h)
set_option maxRecDepth 100000 in
theorem lkX9_ends_157 : Cond.fieldLink RX9 157 "BellsBelowModel" "plans" "I" ∈ wsX9_ends := by decide +kernel
set_option maxRecDepth 100000 in
theorem lkX9_ends_16 : Cond.fieldLink RX9 16 "BellsBelowModel" "rung" "I" ∈ wsX9_ends := by decide +kernel
set_option maxRecDepth 100000 in
theorem lkX9_ends_19 : Cond.fieldLink RX9 19 "BellsBelowModel" "waited" "I" ∈ wsX9_ends := by decide +kernel
set_option maxRecDepth 100000 in
theorem lkX9_ends_163 : Cond.fieldLink RX9 163 "BellsBelowModel" "planWhat" "[I" ∈ wsX9_ends := by decide +kernel
set_option maxRecDepth 100000 in
theorem lkX9_ends_166 : Cond.fieldLink RX9 166 "BellsBelowModel" "planNumber" "[I" ∈ wsX9_ends := by decide +kernel
set_option maxHeartbeats 4000000 in
set_option maxRecDepth 100000 in
theorem w_X9_ends_63 {p : Program} {l : Launch} {e : Env} {s : State} {m : MethodId} {args : Array Value} {below : List Frame} {meth : Method} {c : Code} {E : Ev} {σ : Ms} {ℓ : Mz} {p0 : Int32} {out : Int32 × Mm}   (C : Cx cX9_ends 3 (some .int) wsX9_ends RX9 E p s m args meth c)  : ∀ (τ : Mm) (w0 : Int32) (H : Heap) (locs : List Loc) (h : HI E (va_up σ 29 τ) ℓ s H locs) (ls : Array Slot) (hl : lv_has ls 3 [(0, .ref (Ea E 29 0))]), f_X9_ends_63 p0  τ w0 = some out → W p l e rm_X9_ends s m args below meth c H locs 0 0 (MQ below (Po E s.heap.size (some (.int out.1)) (va_up σ 29 out.2) ℓ) args s 0 0 (AA E s.heap.size)) (F0 m 63 ls [.int w0]) := by
  intro τ w0 H locs h ls hl hf
  unfold f_X9_ends_63 at hf
  have C0 := C
  obtain ⟨hx, hb, hr, hml, hown, hts, hlk, hK, hSF⟩ := C0
  refine lv_istore_n (lv' := [(2, .int w0), (0, .ref (Ea E 29 0))]) hx hb dX9_ends_63 rfl hl (by decide) rfl (fun ls hl => ?_)
  refine lv_aload_n hx hb dX9_ends_64 rfl (lv_at hl 1 rfl) ?_
  obtain ⟨u6, hu6, hf⟩ := bd_use hf
  refine r_cv_9 (rest := []) C h (c_X9_putBack  hu6) (rfl : Kd 29 = 9) gX9_ends_X9_putBack rfl ⟨rfl, rfl⟩ hdX9_putBack ⟨Nat.le_of_ble_eq_true rfl, Nat.le_of_ble_eq_true rfl⟩ ⟨Nat.zero_le _, Nat.zero_le _⟩ hl.1 rfl (Nat.le_of_ble_eq_true rfl) dX9_ends_65 (fun H locs h => ?_)
  refine lv_iload_n hx hb dX9_ends_68 rfl (lv_at hl 0 rfl) ?_
  replace hf := Option.some.inj hf
  subst hf
  exact r_ire C h dX9_ends_69
set_option maxHeartbeats 4000000 in
set_option maxRecDepth 100000 in
theorem w_X9_ends_18 {p : Program} {l : Launch} {e : Env} {s : State} {m : MethodId} {args : Array Value} {below : List Frame} {meth : Method} {c : Code} {E : Ev} {σ : Ms} {ℓ : Mz} {p0 : Int32} {out : Int32 × Mm}   (C : Cx cX9_ends 3 (some .int) wsX9_ends RX9 E p s m args meth c) {k18 : Mm → Int32 → Option (Int32 × Mm)} (hk18 : ∀ (τ : Mm) (v2 : Int32) (H : Heap) (locs : List Loc), HI E (va_up σ 29 τ) ℓ s H locs → ∀ ls : Array Slot, lv_has ls 3 [(0, .ref (Ea E 29 0)), (1, .int p0), (2, .int v2)] → k18 τ v2 = some out → W p l e rm_X9_ends s m args below meth c H locs 0 0 (MQ below (Po E s.heap.size (some (.int out.1)) (va_up σ 29 out.2) ℓ) args s 0 0 (AA E s.heap.size)) (F0 m 18 ls [])) : ∀ (τ : Mm) (v2 : Int32) (H : Heap) (locs : List Loc) (h : HI E (va_up σ 29 τ) ℓ s H locs) (ls : Array Slot) (hl : lv_has ls 3 [(0, .ref (Ea E 29 0)), (1, .int p0), (2, .int v2)]), f_X9_ends_18 p0 k18 τ v2 = some out → W p l e rm_X9_ends s m args below meth c H locs 0 0 (MQ below (Po E s.heap.size (some (.int out.1)) (va_up σ 29 out.2) ℓ) args s 0 0 (AA E s.heap.size)) (F0 m 18 ls []) := by
  intro τ v2 H locs h ls hl hf
  unfold f_X9_ends_18 at hf
  have C0 := C
  obtain ⟨hx, hb, hr, hml, hown, hts, hlk, hK, hSF⟩ := C0
  refine lv_iload_n hx hb dX9_ends_18 rfl (lv_at hl 2 rfl) ?_
  refine lv_aload_n hx hb dX9_ends_19 rfl (lv_at hl 0 rfl) ?_
  refine gf_9_48 C h (rfl : Kd 29 = 9) up_eq inX9_ends_9 lkX9_ends_157 dX9_ends_20 ?_
  refine lv_icmp_ge (tgt := 48) hx hb dX9_ends_23 (by decide) (fun c4 => ?_) (fun c4 => ?_)
  · replace hf := it_t c4 hf
    refine lv_iload_n hx hb dX9_ends_48 rfl (lv_at hl 1 rfl) ?_
    refine lv_if_ne (tgt := 59) hx hb dX9_ends_49 (by decide) (fun c5 => ?_) (fun c5 => ?_)
    · replace hf := it_f c5 hf
      refine lv_aload_n hx hb dX9_ends_59 rfl (lv_at hl 0 rfl) ?_
      refine gf_9_2 C h (rfl : Kd 29 = 9) up_eq inX9_ends_9 lkX9_ends_16 dX9_ends_60 ?_
      exact w_X9_ends_63    C  _ _ _ _ h ls (lv_sub hl [0] rfl) hf
    replace hf := it_t c5 hf
    refine lv_aload_n hx hb dX9_ends_52 rfl (lv_at hl 0 rfl) ?_
    refine gf_9_3 C h (rfl : Kd 29 = 9) up_eq inX9_ends_9 lkX9_ends_19 dX9_ends_53 ?_
    refine lv_goto (tgt := 63) hx hb dX9_ends_56 (by decide) ?_
    exact w_X9_ends_63    C  _ _ _ _ h ls (lv_sub hl [0] rfl) hf
  replace hf := it_f c4 hf
  refine lv_aload_n hx hb dX9_ends_26 rfl (lv_at hl 0 rfl) ?_
  refine lv_aload_n hx hb dX9_ends_27 rfl (lv_at hl 0 rfl) ?_
  refine gf_9_50 C h (rfl : Kd 29 = 9) up_eq inX9_ends_9 lkX9_ends_163 dX9_ends_28 ?_
  refine lv_iload_n hx hb dX9_ends_31 rfl (lv_at hl 2 rfl) ?_
  obtain ⟨g7, hf⟩ := gd_use hf
  refine ld_9_29 C h (rfl : Kd 29 = 9) up_eq (inB_in g7) dX9_ends_32 ?_
  refine lv_aload_n hx hb dX9_ends_33 rfl (lv_at hl 0 rfl) ?_
  refine gf_9_51 C h (rfl : Kd 29 = 9) up_eq inX9_ends_9 lkX9_ends_166 dX9_ends_34 ?_
  refine lv_iload_n hx hb dX9_ends_37 rfl (lv_at hl 2 rfl) ?_
  obtain ⟨g8, hf⟩ := gd_use hf
  refine ld_9_30 C h (rfl : Kd 29 = 9) up_eq (inB_in g8) dX9_ends_38 ?_
  obtain ⟨u9, hu9, hf⟩ := bd_use hf
  refine r_cv_9 (rest := []) C h (c_X9_goPlan  hu9) (rfl : Kd 29 = 9) gX9_ends_X9_goPlan rfl ⟨rfl, rfl⟩ hdX9_goPlan ⟨Nat.le_of_ble_eq_true rfl, Nat.le_of_ble_eq_true rfl⟩ ⟨Nat.zero_le _, Nat.zero_le _⟩ hl.1 rfl (Nat.le_of_ble_eq_true rfl) dX9_ends_39 (fun H locs h => ?_)
  obtain ⟨x10, ex10⟩ : ∃ y : Int32, y = (v2 + (1 : Int32)) := ⟨_, rfl⟩
  refine lv_iinc (v := x10) (lv' := [(2, .int x10), (0, .ref (Ea E 29 0)), (1, .int p0)]) hx hb dX9_ends_42 hl (k := 2) rfl (by rw [ex10]; rfl) (by decide) rfl (fun ls hl => ?_)
  replace hf := lt_use ex10 hf
  clear ex10
  refine lv_goto (tgt := 18) hx hb dX9_ends_45 (by decide) ?_
  exact hk18 _ _ _ _ h ls (lv_sub hl [1, 2, 0] rfl) hf
set_option maxHeartbeats 4000000 in
set_option maxRecDepth 100000 in
theorem w_X9_ends_18L {p : Program} {l : Launch} {e : Env} {s : State} {m : MethodId} {args : Array Value} {below : List Frame} {meth : Method} {c : Code} {E : Ev} {σ : Ms} {ℓ : Mz} {p0 : Int32} {out : Int32 × Mm}   (C : Cx cX9_ends 3 (some .int) wsX9_ends RX9 E p s m args meth c)  : ∀ (n9 : Nat) (τ : Mm) (v2 : Int32) (H : Heap) (locs : List Loc) (h : HI E (va_up σ 29 τ) ℓ s H locs) (ls : Array Slot) (hl : lv_has ls 3 [(0, .ref (Ea E 29 0)), (1, .int p0), (2, .int v2)]), f_X9_ends_18L p0  n9 τ v2 = some out → W p l e rm_X9_ends s m args below meth c H locs 0 0 (MQ below (Po E s.heap.size (some (.int out.1)) (va_up σ 29 out.2) ℓ) args s 0 0 (AA E s.heap.size)) (F0 m 18 ls []) := by
  intro n9
  induction n9 with
  | zero =>
    intro τ v2 H locs h ls hl hf
    cases (show (none : Option (Int32 × Mm)) = some out from hf)
  | succ n9 ih =>
    intro τ v2 H locs h ls hl hf
    exact w_X9_ends_18   C  ih τ v2 H locs h ls hl hf
set_option maxHeartbeats 4000000 in
set_option maxRecDepth 100000 in
theorem w_X9_ends_0 {p : Program} {l : Launch} {e : Env} {s : State} {m : MethodId} {args : Array Value} {below : List Frame} {meth : Method} {c : Code} {E : Ev} {σ : Ms} {ℓ : Mz} {p0 : Int32} {out : Int32 × Mm}   (C : Cx cX9_ends 3 (some .int) wsX9_ends RX9 E p s m args meth c)  : ∀ (τ : Mm) (H : Heap) (locs : List Loc) (h : HI E (va_up σ 29 τ) ℓ s H locs) (ls : Array Slot) (hl : lv_has ls 3 [(0, .ref (Ea E 29 0)), (1, .int p0)]), f_X9_ends_0 p0  τ = some out → W p l e rm_X9_ends s m args below meth c H locs 0 0 (MQ below (Po E s.heap.size (some (.int out.1)) (va_up σ 29 out.2) ℓ) args s 0 0 (AA E s.heap.size)) (F0 m 0 ls []) := by
  intro τ H locs h ls hl hf
  unfold f_X9_ends_0 at hf
  have C0 := C
  obtain ⟨hx, hb, hr, hml, hown, hts, hlk, hK, hSF⟩ := C0
  refine lv_aload_n hx hb dX9_ends_0 rfl (lv_at hl 0 rfl) ?_
  refine lv_iload_n hx hb dX9_ends_1 rfl (lv_at hl 1 rfl) ?_
  refine lv_iconst (v := (0 : Int32)) hx hb dX9_ends_2 (by decide) ?_
  refine lv_iconst (v := (1 : Int32)) hx hb dX9_ends_3 (by decide) ?_
  obtain ⟨u1, hu1, hf⟩ := bd_use hf
  refine r_cv_9 (rest := []) C h (c_X9_in  hu1) (rfl : Kd 29 = 9) gX9_ends_X9_in rfl ⟨rfl, rfl⟩ hdX9_in ⟨Nat.le_of_ble_eq_true rfl, Nat.le_of_ble_eq_true rfl⟩ ⟨Nat.zero_le _, Nat.zero_le _⟩ hl.1 rfl (Nat.le_of_ble_eq_true rfl) dX9_ends_4 (fun H locs h => ?_)
  refine lv_if_ne (tgt := 12) hx hb dX9_ends_7 (by decide) (fun c2 => ?_) (fun c2 => ?_)
  · replace hf := it_f c2 hf
    refine lv_aload_n hx hb dX9_ends_12 rfl (lv_at hl 0 rfl) ?_
    obtain ⟨u3, hu3, hf⟩ := bd_use hf
    refine r_cv_9 (rest := []) C h (c_X9_save  hu3) (rfl : Kd 29 = 9) gX9_ends_X9_save rfl ⟨rfl, rfl⟩ hdX9_save ⟨Nat.le_of_ble_eq_true rfl, Nat.le_of_ble_eq_true rfl⟩ ⟨Nat.zero_le _, Nat.zero_le _⟩ hl.1 rfl (Nat.le_of_ble_eq_true rfl) dX9_ends_13 (fun H locs h => ?_)
    refine lv_iconst (v := (0 : Int32)) hx hb dX9_ends_16 (by decide) ?_
    refine lv_istore_n (lv' := [(2, .int (0 : Int32)), (0, .ref (Ea E 29 0)), (1, .int p0)]) hx hb dX9_ends_17 rfl hl (by decide) rfl (fun ls hl => ?_)
    exact w_X9_ends_18L    C  _ _ _ _ _ h ls (lv_sub hl [1, 2, 0] rfl) hf
  replace hf := it_t c2 hf
  refine lv_iconst (v := (-1 : Int32)) hx hb dX9_ends_10 (by decide) ?_
  replace hf := Option.some.inj hf
  subst hf
  exact r_ire C h dX9_ends_11
theorem c_X9_ends {l : Launch} {E : Ev} {σ : Ms} {ℓ : Mz} {τ : Mm} {p0 : Int32} {out : Int32 × Mm} (hf : f_X9_ends τ p0 = some out) : Ct l yX9_ends wsX9_ends rm_X9_ends [.ref (Ea E 29 0), .int p0] E (va_up σ 29 τ) ℓ (some (.int out.1)) (va_up σ 29 out.2) ℓ := by
  refine Ct_mk (cc := cX9_ends) (mL := 3) (ret := (some .int)) (own := RX9) (by decide +kernel) rfl rfl (Nat.le_of_ble_eq_true rfl) (fun p e s m below meth c C h ls hl => ?_)
  exact w_X9_ends_0  C τ _ _ h ls (lv_sub hl [0, 1] rfl) hf
theorem k_X9_ends {l : Launch} {E : Ev} {σ : Ms} {ℓ : Mz} {τ : Mm} {p0 : Int32} (hτ : σ 29 = τ) {out : Int32 × Mm} (hf : f_X9_ends τ p0 = some out) : Ct l yX9_ends wsX9_ends rm_X9_ends [.ref (Ea E 29 0), .int p0] E σ ℓ (some (.int out.1)) (va_up σ 29 out.2) ℓ := by
  subst hτ
  have h := c_X9_ends (l := l) (E := E) (σ := σ) (ℓ := ℓ)  hf
  rw [up_id σ 29] at h
  exact h
theorem hdX9_book : yX9_book.cls = RX9 ∧ yX9_book.cls ≠ "java/lang/invoke/MethodHandle" ∧ yX9_book.cls ≠ "java/lang/invoke/VarHandle" ∧ (parseMethodDescriptor yX9_book.desc).map (fun d => d.parameters.length) = some 2 := by decide +kernel
def rm_X9_book : Room := { frames := 2, cells := 0, slots := 0, locals := 44 }
set_option maxRecDepth 100000 in
theorem inX9_book_9 : ∀ w ∈ wsX90, w ∈ wsX9_book := fun _ h => List.mem_cons_of_mem _ (List.mem_append_right _ h)
set_option maxRecDepth 100000 in
theorem lkX9_book_160 : Cond.fieldLink RX9 160 "BellsBelowModel" "books" "I" ∈ wsX9_book := by decide +kernel
set_option maxRecDepth 100000 in
theorem lkX9_book_169 : Cond.fieldLink RX9 169 "BellsBelowModel" "bookWho" "[I" ∈ wsX9_book := by decide +kernel
set_option maxRecDepth 100000 in
theorem lkX9_book_172 : Cond.fieldLink RX9 172 "BellsBelowModel" "bookFloor" "[I" ∈ wsX9_book := by decide +kernel
set_option maxHeartbeats 4000000 in
set_option maxRecDepth 100000 in
theorem w_X9_book_0 {p : Program} {l : Launch} {e : Env} {s : State} {m : MethodId} {args : Array Value} {below : List Frame} {meth : Method} {c : Code} {E : Ev} {σ : Ms} {ℓ : Mz} {p0 : Int32} {p1 : Int32} {out : Int32 × Mm}   (C : Cx cX9_book 3 (some .int) wsX9_book RX9 E p s m args meth c)  : ∀ (τ : Mm) (H : Heap) (locs : List Loc) (h : HI E (va_up σ 29 τ) ℓ s H locs) (ls : Array Slot) (hl : lv_has ls 3 [(0, .ref (Ea E 29 0)), (1, .int p0), (2, .int p1)]), f_X9_book_0 p0 p1  τ = some out → W p l e rm_X9_book s m args below meth c H locs 0 0 (MQ below (Po E s.heap.size (some (.int out.1)) (va_up σ 29 out.2) ℓ) args s 0 0 (AA E s.heap.size)) (F0 m 0 ls []) := by
  intro τ H locs h ls hl hf
  unfold f_X9_book_0 at hf
  have C0 := C
  obtain ⟨hx, hb, hr, hml, hown, hts, hlk, hK, hSF⟩ := C0
  refine lv_iload_n hx hb dX9_book_0 rfl (lv_at hl 1 rfl) ?_
  refine lv_iconst (v := (-1 : Int32)) hx hb dX9_book_1 (by decide) ?_
  refine lv_icmp_ne (tgt := 12) hx hb dX9_book_2 (by decide) (fun c1 => ?_) (fun c1 => ?_)
  · replace hf := it_f c1 hf
    refine lv_aload_n hx hb dX9_book_12 rfl (lv_at hl 0 rfl) ?_
    refine lv_iload_n hx hb dX9_book_13 rfl (lv_at hl 1 rfl) ?_
    obtain ⟨u2, hu2, hf⟩ := bd_use hf
    refine r_cv_9 (rest := []) C h (c_X9_isMaster up_eq hu2) (rfl : Kd 29 = 9) gX9_book_X9_isMaster rfl ⟨rfl, rfl⟩ hdX9_isMaster ⟨Nat.le_of_ble_eq_true rfl, Nat.le_of_ble_eq_true rfl⟩ ⟨Nat.zero_le _, Nat.zero_le _⟩ hl.1 rfl (Nat.le_of_ble_eq_true rfl) dX9_book_14 (fun H locs h => ?_)
    refine lv_if_eq (tgt := 28) hx hb dX9_book_17 (by decide) (fun c3 => ?_) (fun c3 => ?_)
    · replace hf := it_t c3 hf
      refine lv_iconst (v := (-1 : Int32)) hx hb dX9_book_28 (by decide) ?_
      replace hf := Option.some.inj hf
      subst hf
      exact r_ire C h dX9_book_29
    replace hf := it_f c3 hf
    refine lv_aload_n hx hb dX9_book_20 rfl (lv_at hl 0 rfl) ?_
    refine lv_iload_n hx hb dX9_book_21 rfl (lv_at hl 2 rfl) ?_
    obtain ⟨u4, hu4, hf⟩ := bd_use hf
    refine r_cv_9 (rest := []) C h (c_X9_isFloor  hu4) (rfl : Kd 29 = 9) gX9_book_X9_isFloor rfl ⟨rfl, rfl⟩ hdX9_isFloor ⟨Nat.le_of_ble_eq_true rfl, Nat.le_of_ble_eq_true rfl⟩ ⟨Nat.zero_le _, Nat.zero_le _⟩ hl.1 rfl (Nat.le_of_ble_eq_true rfl) dX9_book_22 (fun H locs h => ?_)
    refine lv_if_ne (tgt := 30) hx hb dX9_book_25 (by decide) (fun c5 => ?_) (fun c5 => ?_)
    · replace hf := it_f c5 hf
      refine lv_aload_n hx hb dX9_book_30 rfl (lv_at hl 0 rfl) ?_
      refine gf_9_49 C h (rfl : Kd 29 = 9) up_eq inX9_book_9 lkX9_book_160 dX9_book_31 ?_
      refine lv_bipush (v := (8 : Int32)) hx hb dX9_book_34 (by decide) ?_
      refine lv_icmp_ne (tgt := 42) hx hb dX9_book_36 (by decide) (fun c6 => ?_) (fun c6 => ?_)
      · replace hf := it_f c6 hf
        refine lv_aload_n hx hb dX9_book_42 rfl (lv_at hl 0 rfl) ?_
        refine gf_9_52 C h (rfl : Kd 29 = 9) up_eq inX9_book_9 lkX9_book_169 dX9_book_43 ?_
        refine lv_aload_n hx hb dX9_book_46 rfl (lv_at hl 0 rfl) ?_
        refine gf_9_49 C h (rfl : Kd 29 = 9) up_eq inX9_book_9 lkX9_book_160 dX9_book_47 ?_
        refine lv_iload_n hx hb dX9_book_50 rfl (lv_at hl 1 rfl) ?_
        obtain ⟨g7, hf⟩ := gd_use hf
        refine sa_9_31 C h (rfl : Kd 29 = 9) up_eq (F := fun t => va_up σ 29 t) (fun _ => up_up) (inB_in g7) dX9_book_51 (fun τ8 eτ8 H locs h => ?_)
        replace hf := lt_use eτ8 hf
        clear eτ8
        refine lv_aload_n hx hb dX9_book_52 rfl (lv_at hl 0 rfl) ?_
        refine gf_9_53 C h (rfl : Kd 29 = 9) up_eq inX9_book_9 lkX9_book_172 dX9_book_53 ?_
        refine lv_aload_n hx hb dX9_book_56 rfl (lv_at hl 0 rfl) ?_
        refine gf_9_49 C h (rfl : Kd 29 = 9) up_eq inX9_book_9 lkX9_book_160 dX9_book_57 ?_
        refine lv_iload_n hx hb dX9_book_60 rfl (lv_at hl 2 rfl) ?_
        obtain ⟨g9, hf⟩ := gd_use hf
        refine sa_9_32 C h (rfl : Kd 29 = 9) up_eq (F := fun t => va_up σ 29 t) (fun _ => up_up) (inB_in g9) dX9_book_61 (fun τ10 eτ10 H locs h => ?_)
        replace hf := lt_use eτ10 hf
        clear eτ10
        refine lv_aload_n hx hb dX9_book_62 rfl (lv_at hl 0 rfl) ?_
        refine lv_dup hx hb dX9_book_63 rfl ?_
        refine gf_9_49 C h (rfl : Kd 29 = 9) up_eq inX9_book_9 lkX9_book_160 dX9_book_64 ?_
        refine lv_iconst (v := (1 : Int32)) hx hb dX9_book_67 (by decide) ?_
        refine lv_iadd hx hb dX9_book_68 ?_
        refine pf_9_49 C h (rfl : Kd 29 = 9) up_eq (F := fun t => va_up σ 29 t) (fun _ => up_up) inX9_book_9 lkX9_book_160 dX9_book_69 (fun τ11 eτ11 H locs h => ?_)
        replace hf := lt_use eτ11 hf
        clear eτ11
        refine lv_aload_n hx hb dX9_book_72 rfl (lv_at hl 0 rfl) ?_
        refine gf_9_49 C h (rfl : Kd 29 = 9) up_eq inX9_book_9 lkX9_book_160 dX9_book_73 ?_
        replace hf := Option.some.inj hf
        subst hf
        exact r_ire C h dX9_book_76
      replace hf := it_t c6 hf
      refine lv_bipush (v := (-4 : Int32)) hx hb dX9_book_39 (by decide) ?_
      replace hf := Option.some.inj hf
      subst hf
      exact r_ire C h dX9_book_41
    replace hf := it_t c5 hf
    refine lv_iconst (v := (-1 : Int32)) hx hb dX9_book_28 (by decide) ?_
    replace hf := Option.some.inj hf
    subst hf
    exact r_ire C h dX9_book_29
  replace hf := it_t c1 hf
  refine lv_aload_n hx hb dX9_book_5 rfl (lv_at hl 0 rfl) ?_
  refine lv_iconst (v := (0 : Int32)) hx hb dX9_book_6 (by decide) ?_
  refine pf_9_49 C h (rfl : Kd 29 = 9) up_eq (F := fun t => va_up σ 29 t) (fun _ => up_up) inX9_book_9 lkX9_book_160 dX9_book_7 (fun τ12 eτ12 H locs h => ?_)
  replace hf := lt_use eτ12 hf
  clear eτ12
  refine lv_iconst (v := (0 : Int32)) hx hb dX9_book_10 (by decide) ?_
  replace hf := Option.some.inj hf
  subst hf
  exact r_ire C h dX9_book_11
theorem c_X9_book {l : Launch} {E : Ev} {σ : Ms} {ℓ : Mz} {τ : Mm} {p0 : Int32} {p1 : Int32} {out : Int32 × Mm} (hf : f_X9_book τ p0 p1 = some out) : Ct l yX9_book wsX9_book rm_X9_book [.ref (Ea E 29 0), .int p0, .int p1] E (va_up σ 29 τ) ℓ (some (.int out.1)) (va_up σ 29 out.2) ℓ := by
  refine Ct_mk (cc := cX9_book) (mL := 3) (ret := (some .int)) (own := RX9) (by decide +kernel) rfl rfl (Nat.le_of_ble_eq_true rfl) (fun p e s m below meth c C h ls hl => ?_)
  exact w_X9_book_0  C τ _ _ h ls (lv_sub hl [0, 1, 2] rfl) hf
theorem k_X9_book {l : Launch} {E : Ev} {σ : Ms} {ℓ : Mz} {τ : Mm} {p0 : Int32} {p1 : Int32} (hτ : σ 29 = τ) {out : Int32 × Mm} (hf : f_X9_book τ p0 p1 = some out) : Ct l yX9_book wsX9_book rm_X9_book [.ref (Ea E 29 0), .int p0, .int p1] E σ ℓ (some (.int out.1)) (va_up σ 29 out.2) ℓ := by
  subst hτ
  have h := c_X9_book (l := l) (E := E) (σ := σ) (ℓ := ℓ)  hf
  rw [up_id σ 29] at h
  exact h
theorem hdX9_looked : yX9_looked.cls = RX9 ∧ yX9_looked.cls ≠ "java/lang/invoke/MethodHandle" ∧ yX9_looked.cls ≠ "java/lang/invoke/VarHandle" ∧ (parseMethodDescriptor yX9_looked.desc).map (fun d => d.parameters.length) = some 0 := by decide +kernel
def rm_X9_looked : Room := { frames := 0, cells := 0, slots := 0, locals := 0 }
set_option maxRecDepth 100000 in
theorem inX9_looked_9 : ∀ w ∈ wsX90, w ∈ wsX9_looked := fun _ h => List.mem_cons_of_mem _ (List.mem_append_right _ h)
set_option maxRecDepth 100000 in
theorem lkX9_looked_160 : Cond.fieldLink RX9 160 "BellsBelowModel" "books" "I" ∈ wsX9_looked := by decide +kernel
set_option maxRecDepth 100000 in
theorem lkX9_looked_32 : Cond.fieldLink RX9 32 "BellsBelowModel" "floor" "[I" ∈ wsX9_looked := by decide +kernel
set_option maxRecDepth 100000 in
theorem lkX9_looked_169 : Cond.fieldLink RX9 169 "BellsBelowModel" "bookWho" "[I" ∈ wsX9_looked := by decide +kernel
set_option maxRecDepth 100000 in
theorem lkX9_looked_172 : Cond.fieldLink RX9 172 "BellsBelowModel" "bookFloor" "[I" ∈ wsX9_looked := by decide +kernel
set_option maxHeartbeats 4000000 in
set_option maxRecDepth 100000 in
theorem w_X9_looked_2 {p : Program} {l : Launch} {e : Env} {s : State} {m : MethodId} {args : Array Value} {below : List Frame} {meth : Method} {c : Code} {E : Ev} {σ : Ms} {ℓ : Mz} {τ : Mm} {out : Int32} (hτ : σ 29 = τ)   (C : Cx cX9_looked 2 (some .int) wsX9_looked RX9 E p s m args meth c) {k2 : Int32 → Option (Int32)} (hk2 : ∀ (v1 : Int32) (H : Heap) (locs : List Loc), HI E σ ℓ s H locs → ∀ ls : Array Slot, lv_has ls 2 [(0, .ref (Ea E 29 0)), (1, .int v1)] → k2 v1 = some out → W p l e rm_X9_looked s m args below meth c H locs 0 0 (MQ below (Po E s.heap.size (some (.int out)) σ ℓ) args s 0 0 (AA E s.heap.size)) (F0 m 2 ls [])) : ∀ (v1 : Int32) (H : Heap) (locs : List Loc) (h : HI E σ ℓ s H locs) (ls : Array Slot) (hl : lv_has ls 2 [(0, .ref (Ea E 29 0)), (1, .int v1)]), f_X9_looked_2 τ k2 v1 = some out → W p l e rm_X9_looked s m args below meth c H locs 0 0 (MQ below (Po E s.heap.size (some (.int out)) σ ℓ) args s 0 0 (AA E s.heap.size)) (F0 m 2 ls []) := by
  intro v1 H locs h ls hl hf
  unfold f_X9_looked_2 at hf
  have C0 := C
  obtain ⟨hx, hb, hr, hml, hown, hts, hlk, hK, hSF⟩ := C0
  refine lv_iload_n hx hb dX9_looked_2 rfl (lv_at hl 1 rfl) ?_
  refine lv_aload_n hx hb dX9_looked_3 rfl (lv_at hl 0 rfl) ?_
  refine gf_9_49 C h (rfl : Kd 29 = 9) hτ inX9_looked_9 lkX9_looked_160 dX9_looked_4 ?_
  refine lv_icmp_ge (tgt := 38) hx hb dX9_looked_7 (by decide) (fun c1 => ?_) (fun c1 => ?_)
  · replace hf := it_t c1 hf
    refine lv_bipush (v := (-5 : Int32)) hx hb dX9_looked_38 (by decide) ?_
    replace hf := Option.some.inj hf
    subst hf
    exact r_ire C h dX9_looked_40
  replace hf := it_f c1 hf
  refine lv_aload_n hx hb dX9_looked_10 rfl (lv_at hl 0 rfl) ?_
  refine gf_9_7 C h (rfl : Kd 29 = 9) hτ inX9_looked_9 lkX9_looked_32 dX9_looked_11 ?_
  refine lv_aload_n hx hb dX9_looked_14 rfl (lv_at hl 0 rfl) ?_
  refine gf_9_52 C h (rfl : Kd 29 = 9) hτ inX9_looked_9 lkX9_looked_169 dX9_looked_15 ?_
  refine lv_iload_n hx hb dX9_looked_18 rfl (lv_at hl 1 rfl) ?_
  obtain ⟨g2, hf⟩ := gd_use hf
  refine ld_9_31 C h (rfl : Kd 29 = 9) hτ (inB_in g2) dX9_looked_19 ?_
  obtain ⟨g3, hf⟩ := gd_use hf
  refine ld_9_3 C h (rfl : Kd 29 = 9) hτ (inB_in g3) dX9_looked_20 ?_
  refine lv_aload_n hx hb dX9_looked_21 rfl (lv_at hl 0 rfl) ?_
  refine gf_9_53 C h (rfl : Kd 29 = 9) hτ inX9_looked_9 lkX9_looked_172 dX9_looked_22 ?_
  refine lv_iload_n hx hb dX9_looked_25 rfl (lv_at hl 1 rfl) ?_
  obtain ⟨g4, hf⟩ := gd_use hf
  refine ld_9_32 C h (rfl : Kd 29 = 9) hτ (inB_in g4) dX9_looked_26 ?_
  refine lv_icmp_eq (tgt := 32) hx hb dX9_looked_27 (by decide) (fun c5 => ?_) (fun c5 => ?_)
  · replace hf := it_t c5 hf
    obtain ⟨x6, ex6⟩ : ∃ y : Int32, y = (v1 + (1 : Int32)) := ⟨_, rfl⟩
    refine lv_iinc (v := x6) (lv' := [(1, .int x6), (0, .ref (Ea E 29 0))]) hx hb dX9_looked_32 hl (k := 1) rfl (by rw [ex6]; rfl) (by decide) rfl (fun ls hl => ?_)
    replace hf := lt_use ex6 hf
    clear ex6
    refine lv_goto (tgt := 2) hx hb dX9_looked_35 (by decide) ?_
    exact hk2 _ _ _ h ls (lv_sub hl [1, 0] rfl) hf
  replace hf := it_f c5 hf
  refine lv_iload_n hx hb dX9_looked_30 rfl (lv_at hl 1 rfl) ?_
  replace hf := Option.some.inj hf
  subst hf
  exact r_ire C h dX9_looked_31
set_option maxHeartbeats 4000000 in
set_option maxRecDepth 100000 in
theorem w_X9_looked_2L {p : Program} {l : Launch} {e : Env} {s : State} {m : MethodId} {args : Array Value} {below : List Frame} {meth : Method} {c : Code} {E : Ev} {σ : Ms} {ℓ : Mz} {τ : Mm} {out : Int32} (hτ : σ 29 = τ)   (C : Cx cX9_looked 2 (some .int) wsX9_looked RX9 E p s m args meth c)  : ∀ (n9 : Nat) (v1 : Int32) (H : Heap) (locs : List Loc) (h : HI E σ ℓ s H locs) (ls : Array Slot) (hl : lv_has ls 2 [(0, .ref (Ea E 29 0)), (1, .int v1)]), f_X9_looked_2L τ  n9 v1 = some out → W p l e rm_X9_looked s m args below meth c H locs 0 0 (MQ below (Po E s.heap.size (some (.int out)) σ ℓ) args s 0 0 (AA E s.heap.size)) (F0 m 2 ls []) := by
  intro n9
  induction n9 with
  | zero =>
    intro v1 H locs h ls hl hf
    cases (show (none : Option (Int32)) = some out from hf)
  | succ n9 ih =>
    intro v1 H locs h ls hl hf
    exact w_X9_looked_2 hτ  C  ih v1 H locs h ls hl hf
set_option maxHeartbeats 4000000 in
set_option maxRecDepth 100000 in
theorem w_X9_looked_0 {p : Program} {l : Launch} {e : Env} {s : State} {m : MethodId} {args : Array Value} {below : List Frame} {meth : Method} {c : Code} {E : Ev} {σ : Ms} {ℓ : Mz} {τ : Mm} {out : Int32} (hτ : σ 29 = τ)   (C : Cx cX9_looked 2 (some .int) wsX9_looked RX9 E p s m args meth c)  : ∀  (H : Heap) (locs : List Loc) (h : HI E σ ℓ s H locs) (ls : Array Slot) (hl : lv_has ls 2 [(0, .ref (Ea E 29 0))]), f_X9_looked_0 τ   = some out → W p l e rm_X9_looked s m args below meth c H locs 0 0 (MQ below (Po E s.heap.size (some (.int out)) σ ℓ) args s 0 0 (AA E s.heap.size)) (F0 m 0 ls []) := by
  intro  H locs h ls hl hf
  unfold f_X9_looked_0 at hf
  have C0 := C
  obtain ⟨hx, hb, hr, hml, hown, hts, hlk, hK, hSF⟩ := C0
  refine lv_iconst (v := (0 : Int32)) hx hb dX9_looked_0 (by decide) ?_
  refine lv_istore_n (lv' := [(1, .int (0 : Int32)), (0, .ref (Ea E 29 0))]) hx hb dX9_looked_1 rfl hl (by decide) rfl (fun ls hl => ?_)
  exact w_X9_looked_2L hτ   C  _ _ _ _ h ls (lv_sub hl [1, 0] rfl) hf
theorem c_X9_looked {l : Launch} {E : Ev} {σ : Ms} {ℓ : Mz} {τ : Mm} (hτ : σ 29 = τ) {out : Int32} (hf : f_X9_looked τ = some out) : Ct l yX9_looked wsX9_looked rm_X9_looked [.ref (Ea E 29 0)] E σ ℓ (some (.int out)) σ ℓ := by
  refine Ct_mk (cc := cX9_looked) (mL := 2) (ret := (some .int)) (own := RX9) (by decide +kernel) rfl rfl (Nat.le_of_ble_eq_true rfl) (fun p e s m below meth c C h ls hl => ?_)
  exact w_X9_looked_0 hτ C  _ _ h ls (lv_sub hl [0] rfl) hf
theorem hdX9_isTape : yX9_isTape.cls = RX9 ∧ yX9_isTape.cls ≠ "java/lang/invoke/MethodHandle" ∧ yX9_isTape.cls ≠ "java/lang/invoke/VarHandle" ∧ (parseMethodDescriptor yX9_isTape.desc).map (fun d => d.parameters.length) = some 1 := by decide +kernel
def rm_X9_isTape : Room := { frames := 1, cells := 0, slots := 0, locals := 23 }
set_option maxHeartbeats 4000000 in
set_option maxRecDepth 100000 in
theorem w_X9_isTape_0 {p : Program} {l : Launch} {e : Env} {s : State} {m : MethodId} {args : Array Value} {below : List Frame} {meth : Method} {c : Code} {E : Ev} {σ : Ms} {ℓ : Mz} {p0 : Int32} {out : Int32}   (C : Cx cX9_isTape 2 (some .boolean) wsX9_isTape RX9 E p s m args meth c)  : ∀  (H : Heap) (locs : List Loc) (h : HI E σ ℓ s H locs) (ls : Array Slot) (hl : lv_has ls 2 [(0, .ref (Ea E 29 0)), (1, .int p0)]), f_X9_isTape_0 p0   = some out → W p l e rm_X9_isTape s m args below meth c H locs 0 0 (MQ below (Po E s.heap.size (some (.int out)) σ ℓ) args s 0 0 (AA E s.heap.size)) (F0 m 0 ls []) := by
  intro  H locs h ls hl hf
  unfold f_X9_isTape_0 at hf
  have C0 := C
  obtain ⟨hx, hb, hr, hml, hown, hts, hlk, hK, hSF⟩ := C0
  refine lv_aload_n hx hb dX9_isTape_0 rfl (lv_at hl 0 rfl) ?_
  refine lv_iload_n hx hb dX9_isTape_1 rfl (lv_at hl 1 rfl) ?_
  refine lv_iconst (v := (0 : Int32)) hx hb dX9_isTape_2 (by decide) ?_
  refine lv_iconst (v := (5 : Int32)) hx hb dX9_isTape_3 (by decide) ?_
  obtain ⟨u1, hu1, hf⟩ := bd_use hf
  refine r_cv_9 (rest := []) C h (c_X9_in  hu1) (rfl : Kd 29 = 9) gX9_isTape_X9_in rfl ⟨rfl, rfl⟩ hdX9_in ⟨Nat.le_of_ble_eq_true rfl, Nat.le_of_ble_eq_true rfl⟩ ⟨Nat.zero_le _, Nat.zero_le _⟩ hl.1 rfl (Nat.le_of_ble_eq_true rfl) dX9_isTape_4 (fun H locs h => ?_)
  obtain ⟨g2, hf⟩ := gd_use hf
  replace hf := Option.some.inj hf
  subst hf
  exact r_zre C h (isB_use g2) dX9_isTape_7
theorem c_X9_isTape {l : Launch} {E : Ev} {σ : Ms} {ℓ : Mz} {p0 : Int32} {out : Int32} (hf : f_X9_isTape p0 = some out) : Ct l yX9_isTape wsX9_isTape rm_X9_isTape [.ref (Ea E 29 0), .int p0] E σ ℓ (some (.int out)) σ ℓ := by
  refine Ct_mk (cc := cX9_isTape) (mL := 2) (ret := (some .boolean)) (own := RX9) (by decide +kernel) rfl rfl (Nat.le_of_ble_eq_true rfl) (fun p e s m below meth c C h ls hl => ?_)
  exact w_X9_isTape_0  C  _ _ h ls (lv_sub hl [0, 1] rfl) hf
theorem hdX9_judge : yX9_judge.cls = RX9 ∧ yX9_judge.cls ≠ "java/lang/invoke/MethodHandle" ∧ yX9_judge.cls ≠ "java/lang/invoke/VarHandle" ∧ (parseMethodDescriptor yX9_judge.desc).map (fun d => d.parameters.length) = some 2 := by decide +kernel
def rm_X9_judge : Room := { frames := 2, cells := 0, slots := 0, locals := 44 }
set_option maxRecDepth 100000 in
theorem inX9_judge_9 : ∀ w ∈ wsX90, w ∈ wsX9_judge := fun _ h => List.mem_cons_of_mem _ (List.mem_append_right _ h)
set_option maxRecDepth 100000 in
theorem lkX9_judge_257 : Cond.fieldLink RX9 257 "BellsBelowModel" "sort" "[I" ∈ wsX9_judge := by decide +kernel
set_option maxRecDepth 100000 in
theorem lkX9_judge_260 : Cond.fieldLink RX9 260 "BellsBelowModel" "length" "[I" ∈ wsX9_judge := by decide +kernel
set_option maxRecDepth 100000 in
theorem lkX9_judge_263 : Cond.fieldLink RX9 263 "BellsBelowModel" "item" "[J" ∈ wsX9_judge := by decide +kernel
set_option maxRecDepth 100000 in
theorem lkX9_judge_47 : Cond.fieldLink RX9 47 "BellsBelowModel" "wire" "[I" ∈ wsX9_judge := by decide +kernel
set_option maxHeartbeats 4000000 in
set_option maxRecDepth 100000 in
theorem w_X9_judge_57 {p : Program} {l : Launch} {e : Env} {s : State} {m : MethodId} {args : Array Value} {below : List Frame} {meth : Method} {c : Code} {E : Ev} {σ : Ms} {ℓ : Mz} {τ : Mm} {η : Mj} {p0 : Int32} {p1 : Int32} {out : Int32} (hτ : σ 29 = τ) (hη : ℓ 29 = η)   (C : Cx cX9_judge 4 (some .int) wsX9_judge RX9 E p s m args meth c)  : ∀ (v3 : Int32) (H : Heap) (locs : List Loc) (h : HI E σ ℓ s H locs) (ls : Array Slot) (hl : lv_has ls 4 [(3, .int v3)]), f_X9_judge_57 τ η p0 p1  v3 = some out → W p l e rm_X9_judge s m args below meth c H locs 0 0 (MQ below (Po E s.heap.size (some (.int out)) σ ℓ) args s 0 0 (AA E s.heap.size)) (F0 m 57 ls []) := by
  intro v3 H locs h ls hl hf
  unfold f_X9_judge_57 at hf
  have C0 := C
  obtain ⟨hx, hb, hr, hml, hown, hts, hlk, hK, hSF⟩ := C0
  refine lv_bipush (v := (100 : Int32)) hx hb dX9_judge_57 (by decide) ?_
  refine lv_iload_n hx hb dX9_judge_59 rfl (lv_at hl 0 rfl) ?_
  refine lv_iadd hx hb dX9_judge_60 ?_
  replace hf := Option.some.inj hf
  subst hf
  exact r_ire C h dX9_judge_61
set_option maxHeartbeats 4000000 in
set_option maxRecDepth 100000 in
theorem w_X9_judge_24 {p : Program} {l : Launch} {e : Env} {s : State} {m : MethodId} {args : Array Value} {below : List Frame} {meth : Method} {c : Code} {E : Ev} {σ : Ms} {ℓ : Mz} {τ : Mm} {η : Mj} {p0 : Int32} {p1 : Int32} {out : Int32} (hτ : σ 29 = τ) (hη : ℓ 29 = η)   (C : Cx cX9_judge 4 (some .int) wsX9_judge RX9 E p s m args meth c) {k24 : Int32 → Option (Int32)} (hk24 : ∀ (v3 : Int32) (H : Heap) (locs : List Loc), HI E σ ℓ s H locs → ∀ ls : Array Slot, lv_has ls 4 [(0, .ref (Ea E 29 0)), (1, .int p0), (2, .int p1), (3, .int v3)] → k24 v3 = some out → W p l e rm_X9_judge s m args below meth c H locs 0 0 (MQ below (Po E s.heap.size (some (.int out)) σ ℓ) args s 0 0 (AA E s.heap.size)) (F0 m 24 ls [])) : ∀ (v3 : Int32) (H : Heap) (locs : List Loc) (h : HI E σ ℓ s H locs) (ls : Array Slot) (hl : lv_has ls 4 [(0, .ref (Ea E 29 0)), (1, .int p0), (2, .int p1), (3, .int v3)]), f_X9_judge_24 τ η p0 p1 k24 v3 = some out → W p l e rm_X9_judge s m args below meth c H locs 0 0 (MQ below (Po E s.heap.size (some (.int out)) σ ℓ) args s 0 0 (AA E s.heap.size)) (F0 m 24 ls []) := by
  intro v3 H locs h ls hl hf
  unfold f_X9_judge_24 at hf
  have C0 := C
  obtain ⟨hx, hb, hr, hml, hown, hts, hlk, hK, hSF⟩ := C0
  refine lv_iload_n hx hb dX9_judge_24 rfl (lv_at hl 3 rfl) ?_
  refine lv_bipush (v := (10 : Int32)) hx hb dX9_judge_25 (by decide) ?_
  refine lv_icmp_ge (tgt := 94) hx hb dX9_judge_27 (by decide) (fun c5 => ?_) (fun c5 => ?_)
  · replace hf := it_t c5 hf
    refine lv_bipush (v := (-5 : Int32)) hx hb dX9_judge_94 (by decide) ?_
    replace hf := Option.some.inj hf
    subst hf
    exact r_ire C h dX9_judge_96
  replace hf := it_f c5 hf
  refine lv_aload_n hx hb dX9_judge_30 rfl (lv_at hl 0 rfl) ?_
  refine gf_9_81 C h (rfl : Kd 29 = 9) hτ inX9_judge_9 lkX9_judge_257 dX9_judge_31 ?_
  refine lv_iload_n hx hb dX9_judge_34 rfl (lv_at hl 1 rfl) ?_
  obtain ⟨g6, hf⟩ := gd_use hf
  refine ld_9_49 C h (rfl : Kd 29 = 9) hτ (inB_in g6) dX9_judge_35 ?_
  refine lv_if_lt (tgt := 57) hx hb dX9_judge_36 (by decide) (fun c7 => ?_) (fun c7 => ?_)
  · replace hf := it_t c7 hf
    exact w_X9_judge_57 hτ hη   C  _ _ _ h ls (lv_sub hl [3] rfl) hf
  replace hf := it_f c7 hf
  refine lv_iload_n hx hb dX9_judge_39 rfl (lv_at hl 2 rfl) ?_
  refine lv_if_lt (tgt := 57) hx hb dX9_judge_40 (by decide) (fun c8 => ?_) (fun c8 => ?_)
  · replace hf := it_t c8 hf
    exact w_X9_judge_57 hτ hη   C  _ _ _ h ls (lv_sub hl [3] rfl) hf
  replace hf := it_f c8 hf
  refine lv_iload_n hx hb dX9_judge_43 rfl (lv_at hl 2 rfl) ?_
  refine lv_aload_n hx hb dX9_judge_44 rfl (lv_at hl 0 rfl) ?_
  refine gf_9_82 C h (rfl : Kd 29 = 9) hτ inX9_judge_9 lkX9_judge_260 dX9_judge_45 ?_
  refine lv_iload_n hx hb dX9_judge_48 rfl (lv_at hl 1 rfl) ?_
  obtain ⟨g9, hf⟩ := gd_use hf
  refine ld_9_50 C h (rfl : Kd 29 = 9) hτ (inB_in g9) dX9_judge_49 ?_
  refine lv_iload_n hx hb dX9_judge_50 rfl (lv_at hl 3 rfl) ?_
  refine lv_isub hx hb dX9_judge_51 ?_
  refine lv_iconst (v := (1 : Int32)) hx hb dX9_judge_52 (by decide) ?_
  refine lv_isub hx hb dX9_judge_53 ?_
  refine lv_icmp_le (tgt := 62) hx hb dX9_judge_54 (by decide) (fun c10 => ?_) (fun c10 => ?_)
  · replace hf := it_t c10 hf
    refine lv_aload_n hx hb dX9_judge_62 rfl (lv_at hl 0 rfl) ?_
    refine gf_9_83 C h (rfl : Kd 29 = 9) hτ inX9_judge_9 lkX9_judge_263 dX9_judge_63 ?_
    refine lv_bipush (v := (60 : Int32)) hx hb dX9_judge_66 (by decide) ?_
    refine lv_iload_n hx hb dX9_judge_68 rfl (lv_at hl 1 rfl) ?_
    refine lv_imul hx hb dX9_judge_69 ?_
    refine lv_iload_n hx hb dX9_judge_70 rfl (lv_at hl 2 rfl) ?_
    refine lv_iadd hx hb dX9_judge_71 ?_
    refine lv_iload_n hx hb dX9_judge_72 rfl (lv_at hl 3 rfl) ?_
    refine lv_iadd hx hb dX9_judge_73 ?_
    obtain ⟨g11, hf⟩ := gd_use hf
    refine ld_9_51 C h (rfl : Kd 29 = 9) hη (inB_in g11) dX9_judge_74 ?_
    refine lv_aload_n hx hb dX9_judge_75 rfl (lv_at hl 0 rfl) ?_
    refine gf_9_12 C h (rfl : Kd 29 = 9) hτ inX9_judge_9 lkX9_judge_47 dX9_judge_76 ?_
    refine lv_iload_n hx hb dX9_judge_79 rfl (lv_at hl 3 rfl) ?_
    obtain ⟨g12, hf⟩ := gd_use hf
    refine ld_9_8 C h (rfl : Kd 29 = 9) hτ (inB_in g12) dX9_judge_80 ?_
    refine lv_i2l hx hb dX9_judge_81 rfl ?_
    refine W.lcmp hx hb dX9_judge_82 ?_
    refine lv_if_eq (tgt := 88) hx hb dX9_judge_83 (by decide) (fun c13 => ?_) (fun c13 => ?_)
    · replace hf := it_t c13 hf
      obtain ⟨x14, ex14⟩ : ∃ y : Int32, y = (v3 + (1 : Int32)) := ⟨_, rfl⟩
      refine lv_iinc (v := x14) (lv' := [(3, .int x14), (0, .ref (Ea E 29 0)), (1, .int p0), (2, .int p1)]) hx hb dX9_judge_88 hl (k := 3) rfl (by rw [ex14]; rfl) (by decide) rfl (fun ls hl => ?_)
      replace hf := lt_use ex14 hf
      clear ex14
      refine lv_goto (tgt := 24) hx hb dX9_judge_91 (by decide) ?_
      exact hk24 _ _ _ h ls (lv_sub hl [1, 2, 3, 0] rfl) hf
    replace hf := it_f c13 hf
    refine lv_iload_n hx hb dX9_judge_86 rfl (lv_at hl 3 rfl) ?_
    replace hf := Option.some.inj hf
    subst hf
    exact r_ire C h dX9_judge_87
  replace hf := it_f c10 hf
  exact w_X9_judge_57 hτ hη   C  _ _ _ h ls (lv_sub hl [3] rfl) hf
set_option maxHeartbeats 4000000 in
set_option maxRecDepth 100000 in
theorem w_X9_judge_24L {p : Program} {l : Launch} {e : Env} {s : State} {m : MethodId} {args : Array Value} {below : List Frame} {meth : Method} {c : Code} {E : Ev} {σ : Ms} {ℓ : Mz} {τ : Mm} {η : Mj} {p0 : Int32} {p1 : Int32} {out : Int32} (hτ : σ 29 = τ) (hη : ℓ 29 = η)   (C : Cx cX9_judge 4 (some .int) wsX9_judge RX9 E p s m args meth c)  : ∀ (n9 : Nat) (v3 : Int32) (H : Heap) (locs : List Loc) (h : HI E σ ℓ s H locs) (ls : Array Slot) (hl : lv_has ls 4 [(0, .ref (Ea E 29 0)), (1, .int p0), (2, .int p1), (3, .int v3)]), f_X9_judge_24L τ η p0 p1  n9 v3 = some out → W p l e rm_X9_judge s m args below meth c H locs 0 0 (MQ below (Po E s.heap.size (some (.int out)) σ ℓ) args s 0 0 (AA E s.heap.size)) (F0 m 24 ls []) := by
  intro n9
  induction n9 with
  | zero =>
    intro v3 H locs h ls hl hf
    cases (show (none : Option (Int32)) = some out from hf)
  | succ n9 ih =>
    intro v3 H locs h ls hl hf
    exact w_X9_judge_24 hτ hη  C  ih v3 H locs h ls hl hf
set_option maxHeartbeats 4000000 in
set_option maxRecDepth 100000 in
theorem w_X9_judge_0 {p : Program} {l : Launch} {e : Env} {s : State} {m : MethodId} {args : Array Value} {below : List Frame} {meth : Method} {c : Code} {E : Ev} {σ : Ms} {ℓ : Mz} {τ : Mm} {η : Mj} {p0 : Int32} {p1 : Int32} {out : Int32} (hτ : σ 29 = τ) (hη : ℓ 29 = η)   (C : Cx cX9_judge 4 (some .int) wsX9_judge RX9 E p s m args meth c)  : ∀  (H : Heap) (locs : List Loc) (h : HI E σ ℓ s H locs) (ls : Array Slot) (hl : lv_has ls 4 [(0, .ref (Ea E 29 0)), (1, .int p0), (2, .int p1)]), f_X9_judge_0 τ η p0 p1   = some out → W p l e rm_X9_judge s m args below meth c H locs 0 0 (MQ below (Po E s.heap.size (some (.int out)) σ ℓ) args s 0 0 (AA E s.heap.size)) (F0 m 0 ls []) := by
  intro  H locs h ls hl hf
  unfold f_X9_judge_0 at hf
  have C0 := C
  obtain ⟨hx, hb, hr, hml, hown, hts, hlk, hK, hSF⟩ := C0
  refine lv_aload_n hx hb dX9_judge_0 rfl (lv_at hl 0 rfl) ?_
  refine lv_iload_n hx hb dX9_judge_1 rfl (lv_at hl 1 rfl) ?_
  obtain ⟨u1, hu1, hf⟩ := bd_use hf
  refine r_cv_9 (rest := []) C h (c_X9_isTape  hu1) (rfl : Kd 29 = 9) gX9_judge_X9_isTape rfl ⟨rfl, rfl⟩ hdX9_isTape ⟨Nat.le_of_ble_eq_true rfl, Nat.le_of_ble_eq_true rfl⟩ ⟨Nat.zero_le _, Nat.zero_le _⟩ hl.1 rfl (Nat.le_of_ble_eq_true rfl) dX9_judge_2 (fun H locs h => ?_)
  refine lv_if_ne (tgt := 10) hx hb dX9_judge_5 (by decide) (fun c2 => ?_) (fun c2 => ?_)
  · replace hf := it_f c2 hf
    refine lv_aload_n hx hb dX9_judge_10 rfl (lv_at hl 0 rfl) ?_
    refine gf_9_81 C h (rfl : Kd 29 = 9) hτ inX9_judge_9 lkX9_judge_257 dX9_judge_11 ?_
    refine lv_iload_n hx hb dX9_judge_14 rfl (lv_at hl 1 rfl) ?_
    obtain ⟨g3, hf⟩ := gd_use hf
    refine ld_9_49 C h (rfl : Kd 29 = 9) hτ (inB_in g3) dX9_judge_15 ?_
    refine lv_if_le (tgt := 22) hx hb dX9_judge_16 (by decide) (fun c4 => ?_) (fun c4 => ?_)
    · replace hf := it_t c4 hf
      refine lv_iconst (v := (0 : Int32)) hx hb dX9_judge_22 (by decide) ?_
      refine lv_istore_n (lv' := [(3, .int (0 : Int32)), (0, .ref (Ea E 29 0)), (1, .int p0), (2, .int p1)]) hx hb dX9_judge_23 rfl hl (by decide) rfl (fun ls hl => ?_)
      exact w_X9_judge_24L hτ hη   C  _ _ _ _ h ls (lv_sub hl [1, 2, 3, 0] rfl) hf
    replace hf := it_f c4 hf
    refine lv_bipush (v := (-12 : Int32)) hx hb dX9_judge_19 (by decide) ?_
    replace hf := Option.some.inj hf
    subst hf
    exact r_ire C h dX9_judge_21
  replace hf := it_t c2 hf
  refine lv_iconst (v := (-1 : Int32)) hx hb dX9_judge_8 (by decide) ?_
  replace hf := Option.some.inj hf
  subst hf
  exact r_ire C h dX9_judge_9
theorem c_X9_judge {l : Launch} {E : Ev} {σ : Ms} {ℓ : Mz} {τ : Mm} {η : Mj} {p0 : Int32} {p1 : Int32} (hτ : σ 29 = τ) (hη : ℓ 29 = η) {out : Int32} (hf : f_X9_judge τ η p0 p1 = some out) : Ct l yX9_judge wsX9_judge rm_X9_judge [.ref (Ea E 29 0), .int p0, .int p1] E σ ℓ (some (.int out)) σ ℓ := by
  refine Ct_mk (cc := cX9_judge) (mL := 4) (ret := (some .int)) (own := RX9) (by decide +kernel) rfl rfl (Nat.le_of_ble_eq_true rfl) (fun p e s m below meth c C h ls hl => ?_)
  exact w_X9_judge_0 hτ hη C  _ _ h ls (lv_sub hl [0, 1, 2] rfl) hf
theorem hdX9_image : yX9_image.cls = RX9 ∧ yX9_image.cls ≠ "java/lang/invoke/MethodHandle" ∧ yX9_image.cls ≠ "java/lang/invoke/VarHandle" ∧ (parseMethodDescriptor yX9_image.desc).map (fun d => d.parameters.length) = some 0 := by decide +kernel
def rm_X9_image : Room := { frames := 0, cells := 0, slots := 0, locals := 0 }
set_option maxRecDepth 100000 in
theorem inX9_image_9 : ∀ w ∈ wsX90, w ∈ wsX9_image := fun _ h => List.mem_cons_of_mem _ (List.mem_append_right _ h)
set_option maxRecDepth 100000 in
theorem lkX9_image_175 : Cond.fieldLink RX9 175 "BellsBelowModel" "hasImage" "Z" ∈ wsX9_image := by decide +kernel
set_option maxRecDepth 100000 in
theorem lkX9_image_53 : Cond.fieldLink RX9 53 "BellsBelowModel" "the" "I" ∈ wsX9_image := by decide +kernel
set_option maxRecDepth 100000 in
theorem lkX9_image_179 : Cond.fieldLink RX9 179 "BellsBelowModel" "imageThe" "I" ∈ wsX9_image := by decide +kernel
set_option maxRecDepth 100000 in
theorem lkX9_image_7 : Cond.fieldLink RX9 7 "BellsBelowModel" "masters" "I" ∈ wsX9_image := by decide +kernel
set_option maxRecDepth 100000 in
theorem lkX9_image_182 : Cond.fieldLink RX9 182 "BellsBelowModel" "imageMasters" "I" ∈ wsX9_image := by decide +kernel
set_option maxRecDepth 100000 in
theorem lkX9_image_13 : Cond.fieldLink RX9 13 "BellsBelowModel" "absent" "I" ∈ wsX9_image := by decide +kernel
set_option maxRecDepth 100000 in
theorem lkX9_image_185 : Cond.fieldLink RX9 185 "BellsBelowModel" "imageAbsent" "I" ∈ wsX9_image := by decide +kernel
set_option maxRecDepth 100000 in
theorem lkX9_image_16 : Cond.fieldLink RX9 16 "BellsBelowModel" "rung" "I" ∈ wsX9_image := by decide +kernel
set_option maxRecDepth 100000 in
theorem lkX9_image_188 : Cond.fieldLink RX9 188 "BellsBelowModel" "imageRung" "I" ∈ wsX9_image := by decide +kernel
set_option maxRecDepth 100000 in
theorem lkX9_image_19 : Cond.fieldLink RX9 19 "BellsBelowModel" "waited" "I" ∈ wsX9_image := by decide +kernel
set_option maxRecDepth 100000 in
theorem lkX9_image_191 : Cond.fieldLink RX9 191 "BellsBelowModel" "imageWaited" "I" ∈ wsX9_image := by decide +kernel
set_option maxRecDepth 100000 in
theorem lkX9_image_22 : Cond.fieldLink RX9 22 "BellsBelowModel" "minute" "I" ∈ wsX9_image := by decide +kernel
set_option maxRecDepth 100000 in
theorem lkX9_image_194 : Cond.fieldLink RX9 194 "BellsBelowModel" "imageMinute" "I" ∈ wsX9_image := by decide +kernel
set_option maxRecDepth 100000 in
theorem lkX9_image_145 : Cond.fieldLink RX9 145 "BellsBelowModel" "seen" "I" ∈ wsX9_image := by decide +kernel
set_option maxRecDepth 100000 in
theorem lkX9_image_197 : Cond.fieldLink RX9 197 "BellsBelowModel" "imageSeen" "I" ∈ wsX9_image := by decide +kernel
set_option maxRecDepth 100000 in
theorem lkX9_image_157 : Cond.fieldLink RX9 157 "BellsBelowModel" "plans" "I" ∈ wsX9_image := by decide +kernel
set_option maxRecDepth 100000 in
theorem lkX9_image_200 : Cond.fieldLink RX9 200 "BellsBelowModel" "imagePlans" "I" ∈ wsX9_image := by decide +kernel
set_option maxRecDepth 100000 in
theorem lkX9_image_160 : Cond.fieldLink RX9 160 "BellsBelowModel" "books" "I" ∈ wsX9_image := by decide +kernel
set_option maxRecDepth 100000 in
theorem lkX9_image_203 : Cond.fieldLink RX9 203 "BellsBelowModel" "imageBooks" "I" ∈ wsX9_image := by decide +kernel
set_option maxRecDepth 100000 in
theorem lkX9_image_245 : Cond.fieldLink RX9 245 "BellsBelowModel" "imageBookWho" "[I" ∈ wsX9_image := by decide +kernel
set_option maxRecDepth 100000 in
theorem lkX9_image_169 : Cond.fieldLink RX9 169 "BellsBelowModel" "bookWho" "[I" ∈ wsX9_image := by decide +kernel
set_option maxRecDepth 100000 in
theorem lkX9_image_248 : Cond.fieldLink RX9 248 "BellsBelowModel" "imageBookFloor" "[I" ∈ wsX9_image := by decide +kernel
set_option maxRecDepth 100000 in
theorem lkX9_image_172 : Cond.fieldLink RX9 172 "BellsBelowModel" "bookFloor" "[I" ∈ wsX9_image := by decide +kernel
set_option maxRecDepth 100000 in
theorem lkX9_image_227 : Cond.fieldLink RX9 227 "BellsBelowModel" "imageWire" "[I" ∈ wsX9_image := by decide +kernel
set_option maxRecDepth 100000 in
theorem lkX9_image_47 : Cond.fieldLink RX9 47 "BellsBelowModel" "wire" "[I" ∈ wsX9_image := by decide +kernel
set_option maxRecDepth 100000 in
theorem lkX9_image_239 : Cond.fieldLink RX9 239 "BellsBelowModel" "imageWhat" "[I" ∈ wsX9_image := by decide +kernel
set_option maxRecDepth 100000 in
theorem lkX9_image_163 : Cond.fieldLink RX9 163 "BellsBelowModel" "planWhat" "[I" ∈ wsX9_image := by decide +kernel
set_option maxRecDepth 100000 in
theorem lkX9_image_242 : Cond.fieldLink RX9 242 "BellsBelowModel" "imageNumber" "[I" ∈ wsX9_image := by decide +kernel
set_option maxRecDepth 100000 in
theorem lkX9_image_166 : Cond.fieldLink RX9 166 "BellsBelowModel" "planNumber" "[I" ∈ wsX9_image := by decide +kernel
set_option maxRecDepth 100000 in
theorem lkX9_image_230 : Cond.fieldLink RX9 230 "BellsBelowModel" "imageWho" "[I" ∈ wsX9_image := by decide +kernel
set_option maxRecDepth 100000 in
theorem lkX9_image_148 : Cond.fieldLink RX9 148 "BellsBelowModel" "seenWho" "[I" ∈ wsX9_image := by decide +kernel
set_option maxRecDepth 100000 in
theorem lkX9_image_233 : Cond.fieldLink RX9 233 "BellsBelowModel" "imageWhen" "[I" ∈ wsX9_image := by decide +kernel
set_option maxRecDepth 100000 in
theorem lkX9_image_151 : Cond.fieldLink RX9 151 "BellsBelowModel" "seenWhen" "[I" ∈ wsX9_image := by decide +kernel
set_option maxRecDepth 100000 in
theorem lkX9_image_236 : Cond.fieldLink RX9 236 "BellsBelowModel" "imageSeenFloor" "[I" ∈ wsX9_image := by decide +kernel
set_option maxRecDepth 100000 in
theorem lkX9_image_154 : Cond.fieldLink RX9 154 "BellsBelowModel" "seenFloor" "[I" ∈ wsX9_image := by decide +kernel
set_option maxRecDepth 100000 in
theorem lkX9_image_224 : Cond.fieldLink RX9 224 "BellsBelowModel" "imageRows" "[I" ∈ wsX9_image := by decide +kernel
set_option maxRecDepth 100000 in
theorem lkX9_image_44 : Cond.fieldLink RX9 44 "BellsBelowModel" "rows" "[I" ∈ wsX9_image := by decide +kernel
set_option maxRecDepth 100000 in
theorem lkX9_image_206 : Cond.fieldLink RX9 206 "BellsBelowModel" "imageKind" "[I" ∈ wsX9_image := by decide +kernel
set_option maxRecDepth 100000 in
theorem lkX9_image_25 : Cond.fieldLink RX9 25 "BellsBelowModel" "kind" "[I" ∈ wsX9_image := by decide +kernel
set_option maxRecDepth 100000 in
theorem lkX9_image_209 : Cond.fieldLink RX9 209 "BellsBelowModel" "imageV" "[I" ∈ wsX9_image := by decide +kernel
set_option maxRecDepth 100000 in
theorem lkX9_image_29 : Cond.fieldLink RX9 29 "BellsBelowModel" "v" "[I" ∈ wsX9_image := by decide +kernel
set_option maxRecDepth 100000 in
theorem lkX9_image_212 : Cond.fieldLink RX9 212 "BellsBelowModel" "imageFloor" "[I" ∈ wsX9_image := by decide +kernel
set_option maxRecDepth 100000 in
theorem lkX9_image_32 : Cond.fieldLink RX9 32 "BellsBelowModel" "floor" "[I" ∈ wsX9_image := by decide +kernel
set_option maxRecDepth 100000 in
theorem lkX9_image_215 : Cond.fieldLink RX9 215 "BellsBelowModel" "imageGoal" "[I" ∈ wsX9_image := by decide +kernel
set_option maxRecDepth 100000 in
theorem lkX9_image_35 : Cond.fieldLink RX9 35 "BellsBelowModel" "goal" "[I" ∈ wsX9_image := by decide +kernel
set_option maxRecDepth 100000 in
theorem lkX9_image_218 : Cond.fieldLink RX9 218 "BellsBelowModel" "imageRests" "[I" ∈ wsX9_image := by decide +kernel
set_option maxRecDepth 100000 in
theorem lkX9_image_38 : Cond.fieldLink RX9 38 "BellsBelowModel" "rests" "[I" ∈ wsX9_image := by decide +kernel
set_option maxRecDepth 100000 in
theorem lkX9_image_221 : Cond.fieldLink RX9 221 "BellsBelowModel" "imageCame" "[I" ∈ wsX9_image := by decide +kernel
set_option maxRecDepth 100000 in
theorem lkX9_image_41 : Cond.fieldLink RX9 41 "BellsBelowModel" "came" "[I" ∈ wsX9_image := by decide +kernel
set_option maxHeartbeats 4000000 in
set_option maxRecDepth 100000 in
theorem w_X9_image_290 {p : Program} {l : Launch} {e : Env} {s : State} {m : MethodId} {args : Array Value} {below : List Frame} {meth : Method} {c : Code} {E : Ev} {σ : Ms} {ℓ : Mz} {out : Int32 × Mm}   (C : Cx cX9_image 2 (some .int) wsX9_image RX9 E p s m args meth c) {k290 : Mm → Int32 → Option (Int32 × Mm)} (hk290 : ∀ (τ : Mm) (v1 : Int32) (H : Heap) (locs : List Loc), HI E (va_up σ 29 τ) ℓ s H locs → ∀ ls : Array Slot, lv_has ls 2 [(0, .ref (Ea E 29 0)), (1, .int v1)] → k290 τ v1 = some out → W p l e rm_X9_image s m args below meth c H locs 0 0 (MQ below (Po E s.heap.size (some (.int out.1)) (va_up σ 29 out.2) ℓ) args s 0 0 (AA E s.heap.size)) (F0 m 290 ls [])) : ∀ (τ : Mm) (v1 : Int32) (H : Heap) (locs : List Loc) (h : HI E (va_up σ 29 τ) ℓ s H locs) (ls : Array Slot) (hl : lv_has ls 2 [(0, .ref (Ea E 29 0)), (1, .int v1)]), f_X9_image_290  k290 τ v1 = some out → W p l e rm_X9_image s m args below meth c H locs 0 0 (MQ below (Po E s.heap.size (some (.int out.1)) (va_up σ 29 out.2) ℓ) args s 0 0 (AA E s.heap.size)) (F0 m 290 ls []) := by
  intro τ v1 H locs h ls hl hf
  unfold f_X9_image_290 at hf
  have C0 := C
  obtain ⟨hx, hb, hr, hml, hown, hts, hlk, hK, hSF⟩ := C0
  refine lv_iload_n hx hb dX9_image_290 rfl (lv_at hl 1 rfl) ?_
  refine lv_bipush (v := (8 : Int32)) hx hb dX9_image_291 (by decide) ?_
  refine lv_icmp_ge (tgt := 326) hx hb dX9_image_293 (by decide) (fun c15 => ?_) (fun c15 => ?_)
  · replace hf := it_t c15 hf
    refine lv_aload_n hx hb dX9_image_326 rfl (lv_at hl 0 rfl) ?_
    refine gf_9_0 C h (rfl : Kd 29 = 9) up_eq inX9_image_9 lkX9_image_7 dX9_image_327 ?_
    replace hf := Option.some.inj hf
    subst hf
    exact r_ire C h dX9_image_330
  replace hf := it_f c15 hf
  refine lv_aload_n hx hb dX9_image_296 rfl (lv_at hl 0 rfl) ?_
  refine gf_9_77 C h (rfl : Kd 29 = 9) up_eq inX9_image_9 lkX9_image_245 dX9_image_297 ?_
  refine lv_iload_n hx hb dX9_image_300 rfl (lv_at hl 1 rfl) ?_
  refine lv_aload_n hx hb dX9_image_301 rfl (lv_at hl 0 rfl) ?_
  refine gf_9_52 C h (rfl : Kd 29 = 9) up_eq inX9_image_9 lkX9_image_169 dX9_image_302 ?_
  refine lv_iload_n hx hb dX9_image_305 rfl (lv_at hl 1 rfl) ?_
  obtain ⟨g16, hf⟩ := gd_use hf
  refine ld_9_31 C h (rfl : Kd 29 = 9) up_eq (inB_in g16) dX9_image_306 ?_
  obtain ⟨g17, hf⟩ := gd_use hf
  refine sa_9_46 C h (rfl : Kd 29 = 9) up_eq (F := fun t => va_up σ 29 t) (fun _ => up_up) (inB_in g17) dX9_image_307 (fun τ18 eτ18 H locs h => ?_)
  replace hf := lt_use eτ18 hf
  clear eτ18
  refine lv_aload_n hx hb dX9_image_308 rfl (lv_at hl 0 rfl) ?_
  refine gf_9_78 C h (rfl : Kd 29 = 9) up_eq inX9_image_9 lkX9_image_248 dX9_image_309 ?_
  refine lv_iload_n hx hb dX9_image_312 rfl (lv_at hl 1 rfl) ?_
  refine lv_aload_n hx hb dX9_image_313 rfl (lv_at hl 0 rfl) ?_
  refine gf_9_53 C h (rfl : Kd 29 = 9) up_eq inX9_image_9 lkX9_image_172 dX9_image_314 ?_
  refine lv_iload_n hx hb dX9_image_317 rfl (lv_at hl 1 rfl) ?_
  obtain ⟨g19, hf⟩ := gd_use hf
  refine ld_9_32 C h (rfl : Kd 29 = 9) up_eq (inB_in g19) dX9_image_318 ?_
  obtain ⟨g20, hf⟩ := gd_use hf
  refine sa_9_47 C h (rfl : Kd 29 = 9) up_eq (F := fun t => va_up σ 29 t) (fun _ => up_up) (inB_in g20) dX9_image_319 (fun τ21 eτ21 H locs h => ?_)
  replace hf := lt_use eτ21 hf
  clear eτ21
  obtain ⟨x22, ex22⟩ : ∃ y : Int32, y = (v1 + (1 : Int32)) := ⟨_, rfl⟩
  refine lv_iinc (v := x22) (lv' := [(1, .int x22), (0, .ref (Ea E 29 0))]) hx hb dX9_image_320 hl (k := 1) rfl (by rw [ex22]; rfl) (by decide) rfl (fun ls hl => ?_)
  replace hf := lt_use ex22 hf
  clear ex22
  refine lv_goto (tgt := 290) hx hb dX9_image_323 (by decide) ?_
  exact hk290 _ _ _ _ h ls (lv_sub hl [1, 0] rfl) hf
set_option maxHeartbeats 4000000 in
set_option maxRecDepth 100000 in
theorem w_X9_image_290L {p : Program} {l : Launch} {e : Env} {s : State} {m : MethodId} {args : Array Value} {below : List Frame} {meth : Method} {c : Code} {E : Ev} {σ : Ms} {ℓ : Mz} {out : Int32 × Mm}   (C : Cx cX9_image 2 (some .int) wsX9_image RX9 E p s m args meth c)  : ∀ (n9 : Nat) (τ : Mm) (v1 : Int32) (H : Heap) (locs : List Loc) (h : HI E (va_up σ 29 τ) ℓ s H locs) (ls : Array Slot) (hl : lv_has ls 2 [(0, .ref (Ea E 29 0)), (1, .int v1)]), f_X9_image_290L   n9 τ v1 = some out → W p l e rm_X9_image s m args below meth c H locs 0 0 (MQ below (Po E s.heap.size (some (.int out.1)) (va_up σ 29 out.2) ℓ) args s 0 0 (AA E s.heap.size)) (F0 m 290 ls []) := by
  intro n9
  induction n9 with
  | zero =>
    intro τ v1 H locs h ls hl hf
    cases (show (none : Option (Int32 × Mm)) = some out from hf)
  | succ n9 ih =>
    intro τ v1 H locs h ls hl hf
    exact w_X9_image_290   C  ih τ v1 H locs h ls hl hf
set_option maxHeartbeats 4000000 in
set_option maxRecDepth 100000 in
theorem w_X9_image_240 {p : Program} {l : Launch} {e : Env} {s : State} {m : MethodId} {args : Array Value} {below : List Frame} {meth : Method} {c : Code} {E : Ev} {σ : Ms} {ℓ : Mz} {out : Int32 × Mm}   (C : Cx cX9_image 2 (some .int) wsX9_image RX9 E p s m args meth c) {k240 : Mm → Int32 → Option (Int32 × Mm)} (hk240 : ∀ (τ : Mm) (v1 : Int32) (H : Heap) (locs : List Loc), HI E (va_up σ 29 τ) ℓ s H locs → ∀ ls : Array Slot, lv_has ls 2 [(0, .ref (Ea E 29 0)), (1, .int v1)] → k240 τ v1 = some out → W p l e rm_X9_image s m args below meth c H locs 0 0 (MQ below (Po E s.heap.size (some (.int out.1)) (va_up σ 29 out.2) ℓ) args s 0 0 (AA E s.heap.size)) (F0 m 240 ls [])) : ∀ (τ : Mm) (v1 : Int32) (H : Heap) (locs : List Loc) (h : HI E (va_up σ 29 τ) ℓ s H locs) (ls : Array Slot) (hl : lv_has ls 2 [(0, .ref (Ea E 29 0)), (1, .int v1)]), f_X9_image_240  k240 τ v1 = some out → W p l e rm_X9_image s m args below meth c H locs 0 0 (MQ below (Po E s.heap.size (some (.int out.1)) (va_up σ 29 out.2) ℓ) args s 0 0 (AA E s.heap.size)) (F0 m 240 ls []) := by
  intro τ v1 H locs h ls hl hf
  unfold f_X9_image_240 at hf
  have C0 := C
  obtain ⟨hx, hb, hr, hml, hown, hts, hlk, hK, hSF⟩ := C0
  refine lv_iload_n hx hb dX9_image_240 rfl (lv_at hl 1 rfl) ?_
  refine lv_bipush (v := (10 : Int32)) hx hb dX9_image_241 (by decide) ?_
  refine lv_icmp_ge (tgt := 288) hx hb dX9_image_243 (by decide) (fun c14 => ?_) (fun c14 => ?_)
  · replace hf := it_t c14 hf
    refine lv_iconst (v := (0 : Int32)) hx hb dX9_image_288 (by decide) ?_
    refine lv_istore_n (lv' := [(1, .int (0 : Int32)), (0, .ref (Ea E 29 0))]) hx hb dX9_image_289 rfl hl (by decide) rfl (fun ls hl => ?_)
    exact w_X9_image_290L    C  _ _ _ _ _ h ls (lv_sub hl [1, 0] rfl) hf
  replace hf := it_f c14 hf
  refine lv_aload_n hx hb dX9_image_246 rfl (lv_at hl 0 rfl) ?_
  refine gf_9_71 C h (rfl : Kd 29 = 9) up_eq inX9_image_9 lkX9_image_227 dX9_image_247 ?_
  refine lv_iload_n hx hb dX9_image_250 rfl (lv_at hl 1 rfl) ?_
  refine lv_aload_n hx hb dX9_image_251 rfl (lv_at hl 0 rfl) ?_
  refine gf_9_12 C h (rfl : Kd 29 = 9) up_eq inX9_image_9 lkX9_image_47 dX9_image_252 ?_
  refine lv_iload_n hx hb dX9_image_255 rfl (lv_at hl 1 rfl) ?_
  obtain ⟨g23, hf⟩ := gd_use hf
  refine ld_9_8 C h (rfl : Kd 29 = 9) up_eq (inB_in g23) dX9_image_256 ?_
  obtain ⟨g24, hf⟩ := gd_use hf
  refine sa_9_40 C h (rfl : Kd 29 = 9) up_eq (F := fun t => va_up σ 29 t) (fun _ => up_up) (inB_in g24) dX9_image_257 (fun τ25 eτ25 H locs h => ?_)
  replace hf := lt_use eτ25 hf
  clear eτ25
  refine lv_aload_n hx hb dX9_image_258 rfl (lv_at hl 0 rfl) ?_
  refine gf_9_75 C h (rfl : Kd 29 = 9) up_eq inX9_image_9 lkX9_image_239 dX9_image_259 ?_
  refine lv_iload_n hx hb dX9_image_262 rfl (lv_at hl 1 rfl) ?_
  refine lv_aload_n hx hb dX9_image_263 rfl (lv_at hl 0 rfl) ?_
  refine gf_9_50 C h (rfl : Kd 29 = 9) up_eq inX9_image_9 lkX9_image_163 dX9_image_264 ?_
  refine lv_iload_n hx hb dX9_image_267 rfl (lv_at hl 1 rfl) ?_
  obtain ⟨g26, hf⟩ := gd_use hf
  refine ld_9_29 C h (rfl : Kd 29 = 9) up_eq (inB_in g26) dX9_image_268 ?_
  obtain ⟨g27, hf⟩ := gd_use hf
  refine sa_9_44 C h (rfl : Kd 29 = 9) up_eq (F := fun t => va_up σ 29 t) (fun _ => up_up) (inB_in g27) dX9_image_269 (fun τ28 eτ28 H locs h => ?_)
  replace hf := lt_use eτ28 hf
  clear eτ28
  refine lv_aload_n hx hb dX9_image_270 rfl (lv_at hl 0 rfl) ?_
  refine gf_9_76 C h (rfl : Kd 29 = 9) up_eq inX9_image_9 lkX9_image_242 dX9_image_271 ?_
  refine lv_iload_n hx hb dX9_image_274 rfl (lv_at hl 1 rfl) ?_
  refine lv_aload_n hx hb dX9_image_275 rfl (lv_at hl 0 rfl) ?_
  refine gf_9_51 C h (rfl : Kd 29 = 9) up_eq inX9_image_9 lkX9_image_166 dX9_image_276 ?_
  refine lv_iload_n hx hb dX9_image_279 rfl (lv_at hl 1 rfl) ?_
  obtain ⟨g29, hf⟩ := gd_use hf
  refine ld_9_30 C h (rfl : Kd 29 = 9) up_eq (inB_in g29) dX9_image_280 ?_
  obtain ⟨g30, hf⟩ := gd_use hf
  refine sa_9_45 C h (rfl : Kd 29 = 9) up_eq (F := fun t => va_up σ 29 t) (fun _ => up_up) (inB_in g30) dX9_image_281 (fun τ31 eτ31 H locs h => ?_)
  replace hf := lt_use eτ31 hf
  clear eτ31
  obtain ⟨x32, ex32⟩ : ∃ y : Int32, y = (v1 + (1 : Int32)) := ⟨_, rfl⟩
  refine lv_iinc (v := x32) (lv' := [(1, .int x32), (0, .ref (Ea E 29 0))]) hx hb dX9_image_282 hl (k := 1) rfl (by rw [ex32]; rfl) (by decide) rfl (fun ls hl => ?_)
  replace hf := lt_use ex32 hf
  clear ex32
  refine lv_goto (tgt := 240) hx hb dX9_image_285 (by decide) ?_
  exact hk240 _ _ _ _ h ls (lv_sub hl [1, 0] rfl) hf
set_option maxHeartbeats 4000000 in
set_option maxRecDepth 100000 in
theorem w_X9_image_240L {p : Program} {l : Launch} {e : Env} {s : State} {m : MethodId} {args : Array Value} {below : List Frame} {meth : Method} {c : Code} {E : Ev} {σ : Ms} {ℓ : Mz} {out : Int32 × Mm}   (C : Cx cX9_image 2 (some .int) wsX9_image RX9 E p s m args meth c)  : ∀ (n9 : Nat) (τ : Mm) (v1 : Int32) (H : Heap) (locs : List Loc) (h : HI E (va_up σ 29 τ) ℓ s H locs) (ls : Array Slot) (hl : lv_has ls 2 [(0, .ref (Ea E 29 0)), (1, .int v1)]), f_X9_image_240L   n9 τ v1 = some out → W p l e rm_X9_image s m args below meth c H locs 0 0 (MQ below (Po E s.heap.size (some (.int out.1)) (va_up σ 29 out.2) ℓ) args s 0 0 (AA E s.heap.size)) (F0 m 240 ls []) := by
  intro n9
  induction n9 with
  | zero =>
    intro τ v1 H locs h ls hl hf
    cases (show (none : Option (Int32 × Mm)) = some out from hf)
  | succ n9 ih =>
    intro τ v1 H locs h ls hl hf
    exact w_X9_image_240   C  ih τ v1 H locs h ls hl hf
set_option maxHeartbeats 4000000 in
set_option maxRecDepth 100000 in
theorem w_X9_image_191 {p : Program} {l : Launch} {e : Env} {s : State} {m : MethodId} {args : Array Value} {below : List Frame} {meth : Method} {c : Code} {E : Ev} {σ : Ms} {ℓ : Mz} {out : Int32 × Mm}   (C : Cx cX9_image 2 (some .int) wsX9_image RX9 E p s m args meth c) {k191 : Mm → Int32 → Option (Int32 × Mm)} (hk191 : ∀ (τ : Mm) (v1 : Int32) (H : Heap) (locs : List Loc), HI E (va_up σ 29 τ) ℓ s H locs → ∀ ls : Array Slot, lv_has ls 2 [(0, .ref (Ea E 29 0)), (1, .int v1)] → k191 τ v1 = some out → W p l e rm_X9_image s m args below meth c H locs 0 0 (MQ below (Po E s.heap.size (some (.int out.1)) (va_up σ 29 out.2) ℓ) args s 0 0 (AA E s.heap.size)) (F0 m 191 ls [])) : ∀ (τ : Mm) (v1 : Int32) (H : Heap) (locs : List Loc) (h : HI E (va_up σ 29 τ) ℓ s H locs) (ls : Array Slot) (hl : lv_has ls 2 [(0, .ref (Ea E 29 0)), (1, .int v1)]), f_X9_image_191  k191 τ v1 = some out → W p l e rm_X9_image s m args below meth c H locs 0 0 (MQ below (Po E s.heap.size (some (.int out.1)) (va_up σ 29 out.2) ℓ) args s 0 0 (AA E s.heap.size)) (F0 m 191 ls []) := by
  intro τ v1 H locs h ls hl hf
  unfold f_X9_image_191 at hf
  have C0 := C
  obtain ⟨hx, hb, hr, hml, hown, hts, hlk, hK, hSF⟩ := C0
  refine lv_iload_n hx hb dX9_image_191 rfl (lv_at hl 1 rfl) ?_
  refine lv_iconst (v := (5 : Int32)) hx hb dX9_image_192 (by decide) ?_
  refine lv_icmp_ge (tgt := 238) hx hb dX9_image_193 (by decide) (fun c13 => ?_) (fun c13 => ?_)
  · replace hf := it_t c13 hf
    refine lv_iconst (v := (0 : Int32)) hx hb dX9_image_238 (by decide) ?_
    refine lv_istore_n (lv' := [(1, .int (0 : Int32)), (0, .ref (Ea E 29 0))]) hx hb dX9_image_239 rfl hl (by decide) rfl (fun ls hl => ?_)
    exact w_X9_image_240L    C  _ _ _ _ _ h ls (lv_sub hl [1, 0] rfl) hf
  replace hf := it_f c13 hf
  refine lv_aload_n hx hb dX9_image_196 rfl (lv_at hl 0 rfl) ?_
  refine gf_9_72 C h (rfl : Kd 29 = 9) up_eq inX9_image_9 lkX9_image_230 dX9_image_197 ?_
  refine lv_iload_n hx hb dX9_image_200 rfl (lv_at hl 1 rfl) ?_
  refine lv_aload_n hx hb dX9_image_201 rfl (lv_at hl 0 rfl) ?_
  refine gf_9_45 C h (rfl : Kd 29 = 9) up_eq inX9_image_9 lkX9_image_148 dX9_image_202 ?_
  refine lv_iload_n hx hb dX9_image_205 rfl (lv_at hl 1 rfl) ?_
  obtain ⟨g33, hf⟩ := gd_use hf
  refine ld_9_26 C h (rfl : Kd 29 = 9) up_eq (inB_in g33) dX9_image_206 ?_
  obtain ⟨g34, hf⟩ := gd_use hf
  refine sa_9_41 C h (rfl : Kd 29 = 9) up_eq (F := fun t => va_up σ 29 t) (fun _ => up_up) (inB_in g34) dX9_image_207 (fun τ35 eτ35 H locs h => ?_)
  replace hf := lt_use eτ35 hf
  clear eτ35
  refine lv_aload_n hx hb dX9_image_208 rfl (lv_at hl 0 rfl) ?_
  refine gf_9_73 C h (rfl : Kd 29 = 9) up_eq inX9_image_9 lkX9_image_233 dX9_image_209 ?_
  refine lv_iload_n hx hb dX9_image_212 rfl (lv_at hl 1 rfl) ?_
  refine lv_aload_n hx hb dX9_image_213 rfl (lv_at hl 0 rfl) ?_
  refine gf_9_46 C h (rfl : Kd 29 = 9) up_eq inX9_image_9 lkX9_image_151 dX9_image_214 ?_
  refine lv_iload_n hx hb dX9_image_217 rfl (lv_at hl 1 rfl) ?_
  obtain ⟨g36, hf⟩ := gd_use hf
  refine ld_9_27 C h (rfl : Kd 29 = 9) up_eq (inB_in g36) dX9_image_218 ?_
  obtain ⟨g37, hf⟩ := gd_use hf
  refine sa_9_42 C h (rfl : Kd 29 = 9) up_eq (F := fun t => va_up σ 29 t) (fun _ => up_up) (inB_in g37) dX9_image_219 (fun τ38 eτ38 H locs h => ?_)
  replace hf := lt_use eτ38 hf
  clear eτ38
  refine lv_aload_n hx hb dX9_image_220 rfl (lv_at hl 0 rfl) ?_
  refine gf_9_74 C h (rfl : Kd 29 = 9) up_eq inX9_image_9 lkX9_image_236 dX9_image_221 ?_
  refine lv_iload_n hx hb dX9_image_224 rfl (lv_at hl 1 rfl) ?_
  refine lv_aload_n hx hb dX9_image_225 rfl (lv_at hl 0 rfl) ?_
  refine gf_9_47 C h (rfl : Kd 29 = 9) up_eq inX9_image_9 lkX9_image_154 dX9_image_226 ?_
  refine lv_iload_n hx hb dX9_image_229 rfl (lv_at hl 1 rfl) ?_
  obtain ⟨g39, hf⟩ := gd_use hf
  refine ld_9_28 C h (rfl : Kd 29 = 9) up_eq (inB_in g39) dX9_image_230 ?_
  obtain ⟨g40, hf⟩ := gd_use hf
  refine sa_9_43 C h (rfl : Kd 29 = 9) up_eq (F := fun t => va_up σ 29 t) (fun _ => up_up) (inB_in g40) dX9_image_231 (fun τ41 eτ41 H locs h => ?_)
  replace hf := lt_use eτ41 hf
  clear eτ41
  obtain ⟨x42, ex42⟩ : ∃ y : Int32, y = (v1 + (1 : Int32)) := ⟨_, rfl⟩
  refine lv_iinc (v := x42) (lv' := [(1, .int x42), (0, .ref (Ea E 29 0))]) hx hb dX9_image_232 hl (k := 1) rfl (by rw [ex42]; rfl) (by decide) rfl (fun ls hl => ?_)
  replace hf := lt_use ex42 hf
  clear ex42
  refine lv_goto (tgt := 191) hx hb dX9_image_235 (by decide) ?_
  exact hk191 _ _ _ _ h ls (lv_sub hl [1, 0] rfl) hf
set_option maxHeartbeats 4000000 in
set_option maxRecDepth 100000 in
theorem w_X9_image_191L {p : Program} {l : Launch} {e : Env} {s : State} {m : MethodId} {args : Array Value} {below : List Frame} {meth : Method} {c : Code} {E : Ev} {σ : Ms} {ℓ : Mz} {out : Int32 × Mm}   (C : Cx cX9_image 2 (some .int) wsX9_image RX9 E p s m args meth c)  : ∀ (n9 : Nat) (τ : Mm) (v1 : Int32) (H : Heap) (locs : List Loc) (h : HI E (va_up σ 29 τ) ℓ s H locs) (ls : Array Slot) (hl : lv_has ls 2 [(0, .ref (Ea E 29 0)), (1, .int v1)]), f_X9_image_191L   n9 τ v1 = some out → W p l e rm_X9_image s m args below meth c H locs 0 0 (MQ below (Po E s.heap.size (some (.int out.1)) (va_up σ 29 out.2) ℓ) args s 0 0 (AA E s.heap.size)) (F0 m 191 ls []) := by
  intro n9
  induction n9 with
  | zero =>
    intro τ v1 H locs h ls hl hf
    cases (show (none : Option (Int32 × Mm)) = some out from hf)
  | succ n9 ih =>
    intro τ v1 H locs h ls hl hf
    exact w_X9_image_191   C  ih τ v1 H locs h ls hl hf
set_option maxHeartbeats 4000000 in
set_option maxRecDepth 100000 in
theorem w_X9_image_165 {p : Program} {l : Launch} {e : Env} {s : State} {m : MethodId} {args : Array Value} {below : List Frame} {meth : Method} {c : Code} {E : Ev} {σ : Ms} {ℓ : Mz} {out : Int32 × Mm}   (C : Cx cX9_image 2 (some .int) wsX9_image RX9 E p s m args meth c) {k165 : Mm → Int32 → Option (Int32 × Mm)} (hk165 : ∀ (τ : Mm) (v1 : Int32) (H : Heap) (locs : List Loc), HI E (va_up σ 29 τ) ℓ s H locs → ∀ ls : Array Slot, lv_has ls 2 [(0, .ref (Ea E 29 0)), (1, .int v1)] → k165 τ v1 = some out → W p l e rm_X9_image s m args below meth c H locs 0 0 (MQ below (Po E s.heap.size (some (.int out.1)) (va_up σ 29 out.2) ℓ) args s 0 0 (AA E s.heap.size)) (F0 m 165 ls [])) : ∀ (τ : Mm) (v1 : Int32) (H : Heap) (locs : List Loc) (h : HI E (va_up σ 29 τ) ℓ s H locs) (ls : Array Slot) (hl : lv_has ls 2 [(0, .ref (Ea E 29 0)), (1, .int v1)]), f_X9_image_165  k165 τ v1 = some out → W p l e rm_X9_image s m args below meth c H locs 0 0 (MQ below (Po E s.heap.size (some (.int out.1)) (va_up σ 29 out.2) ℓ) args s 0 0 (AA E s.heap.size)) (F0 m 165 ls []) := by
  intro τ v1 H locs h ls hl hf
  unfold f_X9_image_165 at hf
  have C0 := C
  obtain ⟨hx, hb, hr, hml, hown, hts, hlk, hK, hSF⟩ := C0
  refine lv_iload_n hx hb dX9_image_165 rfl (lv_at hl 1 rfl) ?_
  refine lv_bipush (v := (24 : Int32)) hx hb dX9_image_166 (by decide) ?_
  refine lv_icmp_ge (tgt := 189) hx hb dX9_image_168 (by decide) (fun c12 => ?_) (fun c12 => ?_)
  · replace hf := it_t c12 hf
    refine lv_iconst (v := (0 : Int32)) hx hb dX9_image_189 (by decide) ?_
    refine lv_istore_n (lv' := [(1, .int (0 : Int32)), (0, .ref (Ea E 29 0))]) hx hb dX9_image_190 rfl hl (by decide) rfl (fun ls hl => ?_)
    exact w_X9_image_191L    C  _ _ _ _ _ h ls (lv_sub hl [1, 0] rfl) hf
  replace hf := it_f c12 hf
  refine lv_aload_n hx hb dX9_image_171 rfl (lv_at hl 0 rfl) ?_
  refine gf_9_70 C h (rfl : Kd 29 = 9) up_eq inX9_image_9 lkX9_image_224 dX9_image_172 ?_
  refine lv_iload_n hx hb dX9_image_175 rfl (lv_at hl 1 rfl) ?_
  refine lv_aload_n hx hb dX9_image_176 rfl (lv_at hl 0 rfl) ?_
  refine gf_9_11 C h (rfl : Kd 29 = 9) up_eq inX9_image_9 lkX9_image_44 dX9_image_177 ?_
  refine lv_iload_n hx hb dX9_image_180 rfl (lv_at hl 1 rfl) ?_
  obtain ⟨g43, hf⟩ := gd_use hf
  refine ld_9_7 C h (rfl : Kd 29 = 9) up_eq (inB_in g43) dX9_image_181 ?_
  obtain ⟨g44, hf⟩ := gd_use hf
  refine sa_9_39 C h (rfl : Kd 29 = 9) up_eq (F := fun t => va_up σ 29 t) (fun _ => up_up) (inB_in g44) dX9_image_182 (fun τ45 eτ45 H locs h => ?_)
  replace hf := lt_use eτ45 hf
  clear eτ45
  obtain ⟨x46, ex46⟩ : ∃ y : Int32, y = (v1 + (1 : Int32)) := ⟨_, rfl⟩
  refine lv_iinc (v := x46) (lv' := [(1, .int x46), (0, .ref (Ea E 29 0))]) hx hb dX9_image_183 hl (k := 1) rfl (by rw [ex46]; rfl) (by decide) rfl (fun ls hl => ?_)
  replace hf := lt_use ex46 hf
  clear ex46
  refine lv_goto (tgt := 165) hx hb dX9_image_186 (by decide) ?_
  exact hk165 _ _ _ _ h ls (lv_sub hl [1, 0] rfl) hf
set_option maxHeartbeats 4000000 in
set_option maxRecDepth 100000 in
theorem w_X9_image_165L {p : Program} {l : Launch} {e : Env} {s : State} {m : MethodId} {args : Array Value} {below : List Frame} {meth : Method} {c : Code} {E : Ev} {σ : Ms} {ℓ : Mz} {out : Int32 × Mm}   (C : Cx cX9_image 2 (some .int) wsX9_image RX9 E p s m args meth c)  : ∀ (n9 : Nat) (τ : Mm) (v1 : Int32) (H : Heap) (locs : List Loc) (h : HI E (va_up σ 29 τ) ℓ s H locs) (ls : Array Slot) (hl : lv_has ls 2 [(0, .ref (Ea E 29 0)), (1, .int v1)]), f_X9_image_165L   n9 τ v1 = some out → W p l e rm_X9_image s m args below meth c H locs 0 0 (MQ below (Po E s.heap.size (some (.int out.1)) (va_up σ 29 out.2) ℓ) args s 0 0 (AA E s.heap.size)) (F0 m 165 ls []) := by
  intro n9
  induction n9 with
  | zero =>
    intro τ v1 H locs h ls hl hf
    cases (show (none : Option (Int32 × Mm)) = some out from hf)
  | succ n9 ih =>
    intro τ v1 H locs h ls hl hf
    exact w_X9_image_165   C  ih τ v1 H locs h ls hl hf
set_option maxHeartbeats 4000000 in
set_option maxRecDepth 100000 in
theorem w_X9_image_79 {p : Program} {l : Launch} {e : Env} {s : State} {m : MethodId} {args : Array Value} {below : List Frame} {meth : Method} {c : Code} {E : Ev} {σ : Ms} {ℓ : Mz} {out : Int32 × Mm}   (C : Cx cX9_image 2 (some .int) wsX9_image RX9 E p s m args meth c) {k79 : Mm → Int32 → Option (Int32 × Mm)} (hk79 : ∀ (τ : Mm) (v1 : Int32) (H : Heap) (locs : List Loc), HI E (va_up σ 29 τ) ℓ s H locs → ∀ ls : Array Slot, lv_has ls 2 [(0, .ref (Ea E 29 0)), (1, .int v1)] → k79 τ v1 = some out → W p l e rm_X9_image s m args below meth c H locs 0 0 (MQ below (Po E s.heap.size (some (.int out.1)) (va_up σ 29 out.2) ℓ) args s 0 0 (AA E s.heap.size)) (F0 m 79 ls [])) : ∀ (τ : Mm) (v1 : Int32) (H : Heap) (locs : List Loc) (h : HI E (va_up σ 29 τ) ℓ s H locs) (ls : Array Slot) (hl : lv_has ls 2 [(0, .ref (Ea E 29 0)), (1, .int v1)]), f_X9_image_79  k79 τ v1 = some out → W p l e rm_X9_image s m args below meth c H locs 0 0 (MQ below (Po E s.heap.size (some (.int out.1)) (va_up σ 29 out.2) ℓ) args s 0 0 (AA E s.heap.size)) (F0 m 79 ls []) := by
  intro τ v1 H locs h ls hl hf
  unfold f_X9_image_79 at hf
  have C0 := C
  obtain ⟨hx, hb, hr, hml, hown, hts, hlk, hK, hSF⟩ := C0
  refine lv_iload_n hx hb dX9_image_79 rfl (lv_at hl 1 rfl) ?_
  refine lv_bipush (v := (6 : Int32)) hx hb dX9_image_80 (by decide) ?_
  refine lv_icmp_ge (tgt := 163) hx hb dX9_image_82 (by decide) (fun c11 => ?_) (fun c11 => ?_)
  · replace hf := it_t c11 hf
    refine lv_iconst (v := (0 : Int32)) hx hb dX9_image_163 (by decide) ?_
    refine lv_istore_n (lv' := [(1, .int (0 : Int32)), (0, .ref (Ea E 29 0))]) hx hb dX9_image_164 rfl hl (by decide) rfl (fun ls hl => ?_)
    exact w_X9_image_165L    C  _ _ _ _ _ h ls (lv_sub hl [1, 0] rfl) hf
  replace hf := it_f c11 hf
  refine lv_aload_n hx hb dX9_image_85 rfl (lv_at hl 0 rfl) ?_
  refine gf_9_64 C h (rfl : Kd 29 = 9) up_eq inX9_image_9 lkX9_image_206 dX9_image_86 ?_
  refine lv_iload_n hx hb dX9_image_89 rfl (lv_at hl 1 rfl) ?_
  refine lv_aload_n hx hb dX9_image_90 rfl (lv_at hl 0 rfl) ?_
  refine gf_9_5 C h (rfl : Kd 29 = 9) up_eq inX9_image_9 lkX9_image_25 dX9_image_91 ?_
  refine lv_iload_n hx hb dX9_image_94 rfl (lv_at hl 1 rfl) ?_
  obtain ⟨g47, hf⟩ := gd_use hf
  refine ld_9_1 C h (rfl : Kd 29 = 9) up_eq (inB_in g47) dX9_image_95 ?_
  obtain ⟨g48, hf⟩ := gd_use hf
  refine sa_9_33 C h (rfl : Kd 29 = 9) up_eq (F := fun t => va_up σ 29 t) (fun _ => up_up) (inB_in g48) dX9_image_96 (fun τ49 eτ49 H locs h => ?_)
  replace hf := lt_use eτ49 hf
  clear eτ49
  refine lv_aload_n hx hb dX9_image_97 rfl (lv_at hl 0 rfl) ?_
  refine gf_9_65 C h (rfl : Kd 29 = 9) up_eq inX9_image_9 lkX9_image_209 dX9_image_98 ?_
  refine lv_iload_n hx hb dX9_image_101 rfl (lv_at hl 1 rfl) ?_
  refine lv_aload_n hx hb dX9_image_102 rfl (lv_at hl 0 rfl) ?_
  refine gf_9_6 C h (rfl : Kd 29 = 9) up_eq inX9_image_9 lkX9_image_29 dX9_image_103 ?_
  refine lv_iload_n hx hb dX9_image_106 rfl (lv_at hl 1 rfl) ?_
  obtain ⟨g50, hf⟩ := gd_use hf
  refine ld_9_2 C h (rfl : Kd 29 = 9) up_eq (inB_in g50) dX9_image_107 ?_
  obtain ⟨g51, hf⟩ := gd_use hf
  refine sa_9_34 C h (rfl : Kd 29 = 9) up_eq (F := fun t => va_up σ 29 t) (fun _ => up_up) (inB_in g51) dX9_image_108 (fun τ52 eτ52 H locs h => ?_)
  replace hf := lt_use eτ52 hf
  clear eτ52
  refine lv_aload_n hx hb dX9_image_109 rfl (lv_at hl 0 rfl) ?_
  refine gf_9_66 C h (rfl : Kd 29 = 9) up_eq inX9_image_9 lkX9_image_212 dX9_image_110 ?_
  refine lv_iload_n hx hb dX9_image_113 rfl (lv_at hl 1 rfl) ?_
  refine lv_aload_n hx hb dX9_image_114 rfl (lv_at hl 0 rfl) ?_
  refine gf_9_7 C h (rfl : Kd 29 = 9) up_eq inX9_image_9 lkX9_image_32 dX9_image_115 ?_
  refine lv_iload_n hx hb dX9_image_118 rfl (lv_at hl 1 rfl) ?_
  obtain ⟨g53, hf⟩ := gd_use hf
  refine ld_9_3 C h (rfl : Kd 29 = 9) up_eq (inB_in g53) dX9_image_119 ?_
  obtain ⟨g54, hf⟩ := gd_use hf
  refine sa_9_35 C h (rfl : Kd 29 = 9) up_eq (F := fun t => va_up σ 29 t) (fun _ => up_up) (inB_in g54) dX9_image_120 (fun τ55 eτ55 H locs h => ?_)
  replace hf := lt_use eτ55 hf
  clear eτ55
  refine lv_aload_n hx hb dX9_image_121 rfl (lv_at hl 0 rfl) ?_
  refine gf_9_67 C h (rfl : Kd 29 = 9) up_eq inX9_image_9 lkX9_image_215 dX9_image_122 ?_
  refine lv_iload_n hx hb dX9_image_125 rfl (lv_at hl 1 rfl) ?_
  refine lv_aload_n hx hb dX9_image_126 rfl (lv_at hl 0 rfl) ?_
  refine gf_9_8 C h (rfl : Kd 29 = 9) up_eq inX9_image_9 lkX9_image_35 dX9_image_127 ?_
  refine lv_iload_n hx hb dX9_image_130 rfl (lv_at hl 1 rfl) ?_
  obtain ⟨g56, hf⟩ := gd_use hf
  refine ld_9_4 C h (rfl : Kd 29 = 9) up_eq (inB_in g56) dX9_image_131 ?_
  obtain ⟨g57, hf⟩ := gd_use hf
  refine sa_9_36 C h (rfl : Kd 29 = 9) up_eq (F := fun t => va_up σ 29 t) (fun _ => up_up) (inB_in g57) dX9_image_132 (fun τ58 eτ58 H locs h => ?_)
  replace hf := lt_use eτ58 hf
  clear eτ58
  refine lv_aload_n hx hb dX9_image_133 rfl (lv_at hl 0 rfl) ?_
  refine gf_9_68 C h (rfl : Kd 29 = 9) up_eq inX9_image_9 lkX9_image_218 dX9_image_134 ?_
  refine lv_iload_n hx hb dX9_image_137 rfl (lv_at hl 1 rfl) ?_
  refine lv_aload_n hx hb dX9_image_138 rfl (lv_at hl 0 rfl) ?_
  refine gf_9_9 C h (rfl : Kd 29 = 9) up_eq inX9_image_9 lkX9_image_38 dX9_image_139 ?_
  refine lv_iload_n hx hb dX9_image_142 rfl (lv_at hl 1 rfl) ?_
  obtain ⟨g59, hf⟩ := gd_use hf
  refine ld_9_5 C h (rfl : Kd 29 = 9) up_eq (inB_in g59) dX9_image_143 ?_
  obtain ⟨g60, hf⟩ := gd_use hf
  refine sa_9_37 C h (rfl : Kd 29 = 9) up_eq (F := fun t => va_up σ 29 t) (fun _ => up_up) (inB_in g60) dX9_image_144 (fun τ61 eτ61 H locs h => ?_)
  replace hf := lt_use eτ61 hf
  clear eτ61
  refine lv_aload_n hx hb dX9_image_145 rfl (lv_at hl 0 rfl) ?_
  refine gf_9_69 C h (rfl : Kd 29 = 9) up_eq inX9_image_9 lkX9_image_221 dX9_image_146 ?_
  refine lv_iload_n hx hb dX9_image_149 rfl (lv_at hl 1 rfl) ?_
  refine lv_aload_n hx hb dX9_image_150 rfl (lv_at hl 0 rfl) ?_
  refine gf_9_10 C h (rfl : Kd 29 = 9) up_eq inX9_image_9 lkX9_image_41 dX9_image_151 ?_
  refine lv_iload_n hx hb dX9_image_154 rfl (lv_at hl 1 rfl) ?_
  obtain ⟨g62, hf⟩ := gd_use hf
  refine ld_9_6 C h (rfl : Kd 29 = 9) up_eq (inB_in g62) dX9_image_155 ?_
  obtain ⟨g63, hf⟩ := gd_use hf
  refine sa_9_38 C h (rfl : Kd 29 = 9) up_eq (F := fun t => va_up σ 29 t) (fun _ => up_up) (inB_in g63) dX9_image_156 (fun τ64 eτ64 H locs h => ?_)
  replace hf := lt_use eτ64 hf
  clear eτ64
  obtain ⟨x65, ex65⟩ : ∃ y : Int32, y = (v1 + (1 : Int32)) := ⟨_, rfl⟩
  refine lv_iinc (v := x65) (lv' := [(1, .int x65), (0, .ref (Ea E 29 0))]) hx hb dX9_image_157 hl (k := 1) rfl (by rw [ex65]; rfl) (by decide) rfl (fun ls hl => ?_)
  replace hf := lt_use ex65 hf
  clear ex65
  refine lv_goto (tgt := 79) hx hb dX9_image_160 (by decide) ?_
  exact hk79 _ _ _ _ h ls (lv_sub hl [1, 0] rfl) hf
set_option maxHeartbeats 4000000 in
set_option maxRecDepth 100000 in
theorem w_X9_image_79L {p : Program} {l : Launch} {e : Env} {s : State} {m : MethodId} {args : Array Value} {below : List Frame} {meth : Method} {c : Code} {E : Ev} {σ : Ms} {ℓ : Mz} {out : Int32 × Mm}   (C : Cx cX9_image 2 (some .int) wsX9_image RX9 E p s m args meth c)  : ∀ (n9 : Nat) (τ : Mm) (v1 : Int32) (H : Heap) (locs : List Loc) (h : HI E (va_up σ 29 τ) ℓ s H locs) (ls : Array Slot) (hl : lv_has ls 2 [(0, .ref (Ea E 29 0)), (1, .int v1)]), f_X9_image_79L   n9 τ v1 = some out → W p l e rm_X9_image s m args below meth c H locs 0 0 (MQ below (Po E s.heap.size (some (.int out.1)) (va_up σ 29 out.2) ℓ) args s 0 0 (AA E s.heap.size)) (F0 m 79 ls []) := by
  intro n9
  induction n9 with
  | zero =>
    intro τ v1 H locs h ls hl hf
    cases (show (none : Option (Int32 × Mm)) = some out from hf)
  | succ n9 ih =>
    intro τ v1 H locs h ls hl hf
    exact w_X9_image_79   C  ih τ v1 H locs h ls hl hf
set_option maxHeartbeats 4000000 in
set_option maxRecDepth 100000 in
theorem w_X9_image_0 {p : Program} {l : Launch} {e : Env} {s : State} {m : MethodId} {args : Array Value} {below : List Frame} {meth : Method} {c : Code} {E : Ev} {σ : Ms} {ℓ : Mz} {out : Int32 × Mm}   (C : Cx cX9_image 2 (some .int) wsX9_image RX9 E p s m args meth c)  : ∀ (τ : Mm) (H : Heap) (locs : List Loc) (h : HI E (va_up σ 29 τ) ℓ s H locs) (ls : Array Slot) (hl : lv_has ls 2 [(0, .ref (Ea E 29 0))]), f_X9_image_0   τ = some out → W p l e rm_X9_image s m args below meth c H locs 0 0 (MQ below (Po E s.heap.size (some (.int out.1)) (va_up σ 29 out.2) ℓ) args s 0 0 (AA E s.heap.size)) (F0 m 0 ls []) := by
  intro τ H locs h ls hl hf
  unfold f_X9_image_0 at hf
  have C0 := C
  obtain ⟨hx, hb, hr, hml, hown, hts, hlk, hK, hSF⟩ := C0
  refine lv_aload_n hx hb dX9_image_0 rfl (lv_at hl 0 rfl) ?_
  refine lv_iconst (v := (1 : Int32)) hx hb dX9_image_1 (by decide) ?_
  refine pf_9_54 C h (rfl : Kd 29 = 9) up_eq (F := fun t => va_up σ 29 t) (fun _ => up_up) inX9_image_9 lkX9_image_175 (Or.inr rfl) dX9_image_2 (fun τ1 eτ1 H locs h => ?_)
  replace hf := lt_use eτ1 hf
  clear eτ1
  refine lv_aload_n hx hb dX9_image_5 rfl (lv_at hl 0 rfl) ?_
  refine lv_aload_n hx hb dX9_image_6 rfl (lv_at hl 0 rfl) ?_
  refine gf_9_14 C h (rfl : Kd 29 = 9) up_eq inX9_image_9 lkX9_image_53 dX9_image_7 ?_
  refine pf_9_55 C h (rfl : Kd 29 = 9) up_eq (F := fun t => va_up σ 29 t) (fun _ => up_up) inX9_image_9 lkX9_image_179 dX9_image_10 (fun τ2 eτ2 H locs h => ?_)
  replace hf := lt_use eτ2 hf
  clear eτ2
  refine lv_aload_n hx hb dX9_image_13 rfl (lv_at hl 0 rfl) ?_
  refine lv_aload_n hx hb dX9_image_14 rfl (lv_at hl 0 rfl) ?_
  refine gf_9_0 C h (rfl : Kd 29 = 9) up_eq inX9_image_9 lkX9_image_7 dX9_image_15 ?_
  refine pf_9_56 C h (rfl : Kd 29 = 9) up_eq (F := fun t => va_up σ 29 t) (fun _ => up_up) inX9_image_9 lkX9_image_182 dX9_image_18 (fun τ3 eτ3 H locs h => ?_)
  replace hf := lt_use eτ3 hf
  clear eτ3
  refine lv_aload_n hx hb dX9_image_21 rfl (lv_at hl 0 rfl) ?_
  refine lv_aload_n hx hb dX9_image_22 rfl (lv_at hl 0 rfl) ?_
  refine gf_9_1 C h (rfl : Kd 29 = 9) up_eq inX9_image_9 lkX9_image_13 dX9_image_23 ?_
  refine pf_9_57 C h (rfl : Kd 29 = 9) up_eq (F := fun t => va_up σ 29 t) (fun _ => up_up) inX9_image_9 lkX9_image_185 dX9_image_26 (fun τ4 eτ4 H locs h => ?_)
  replace hf := lt_use eτ4 hf
  clear eτ4
  refine lv_aload_n hx hb dX9_image_29 rfl (lv_at hl 0 rfl) ?_
  refine lv_aload_n hx hb dX9_image_30 rfl (lv_at hl 0 rfl) ?_
  refine gf_9_2 C h (rfl : Kd 29 = 9) up_eq inX9_image_9 lkX9_image_16 dX9_image_31 ?_
  refine pf_9_58 C h (rfl : Kd 29 = 9) up_eq (F := fun t => va_up σ 29 t) (fun _ => up_up) inX9_image_9 lkX9_image_188 dX9_image_34 (fun τ5 eτ5 H locs h => ?_)
  replace hf := lt_use eτ5 hf
  clear eτ5
  refine lv_aload_n hx hb dX9_image_37 rfl (lv_at hl 0 rfl) ?_
  refine lv_aload_n hx hb dX9_image_38 rfl (lv_at hl 0 rfl) ?_
  refine gf_9_3 C h (rfl : Kd 29 = 9) up_eq inX9_image_9 lkX9_image_19 dX9_image_39 ?_
  refine pf_9_59 C h (rfl : Kd 29 = 9) up_eq (F := fun t => va_up σ 29 t) (fun _ => up_up) inX9_image_9 lkX9_image_191 dX9_image_42 (fun τ6 eτ6 H locs h => ?_)
  replace hf := lt_use eτ6 hf
  clear eτ6
  refine lv_aload_n hx hb dX9_image_45 rfl (lv_at hl 0 rfl) ?_
  refine lv_aload_n hx hb dX9_image_46 rfl (lv_at hl 0 rfl) ?_
  refine gf_9_4 C h (rfl : Kd 29 = 9) up_eq inX9_image_9 lkX9_image_22 dX9_image_47 ?_
  refine pf_9_60 C h (rfl : Kd 29 = 9) up_eq (F := fun t => va_up σ 29 t) (fun _ => up_up) inX9_image_9 lkX9_image_194 dX9_image_50 (fun τ7 eτ7 H locs h => ?_)
  replace hf := lt_use eτ7 hf
  clear eτ7
  refine lv_aload_n hx hb dX9_image_53 rfl (lv_at hl 0 rfl) ?_
  refine lv_aload_n hx hb dX9_image_54 rfl (lv_at hl 0 rfl) ?_
  refine gf_9_44 C h (rfl : Kd 29 = 9) up_eq inX9_image_9 lkX9_image_145 dX9_image_55 ?_
  refine pf_9_61 C h (rfl : Kd 29 = 9) up_eq (F := fun t => va_up σ 29 t) (fun _ => up_up) inX9_image_9 lkX9_image_197 dX9_image_58 (fun τ8 eτ8 H locs h => ?_)
  replace hf := lt_use eτ8 hf
  clear eτ8
  refine lv_aload_n hx hb dX9_image_61 rfl (lv_at hl 0 rfl) ?_
  refine lv_aload_n hx hb dX9_image_62 rfl (lv_at hl 0 rfl) ?_
  refine gf_9_48 C h (rfl : Kd 29 = 9) up_eq inX9_image_9 lkX9_image_157 dX9_image_63 ?_
  refine pf_9_62 C h (rfl : Kd 29 = 9) up_eq (F := fun t => va_up σ 29 t) (fun _ => up_up) inX9_image_9 lkX9_image_200 dX9_image_66 (fun τ9 eτ9 H locs h => ?_)
  replace hf := lt_use eτ9 hf
  clear eτ9
  refine lv_aload_n hx hb dX9_image_69 rfl (lv_at hl 0 rfl) ?_
  refine lv_aload_n hx hb dX9_image_70 rfl (lv_at hl 0 rfl) ?_
  refine gf_9_49 C h (rfl : Kd 29 = 9) up_eq inX9_image_9 lkX9_image_160 dX9_image_71 ?_
  refine pf_9_63 C h (rfl : Kd 29 = 9) up_eq (F := fun t => va_up σ 29 t) (fun _ => up_up) inX9_image_9 lkX9_image_203 dX9_image_74 (fun τ10 eτ10 H locs h => ?_)
  replace hf := lt_use eτ10 hf
  clear eτ10
  refine lv_iconst (v := (0 : Int32)) hx hb dX9_image_77 (by decide) ?_
  refine lv_istore_n (lv' := [(1, .int (0 : Int32)), (0, .ref (Ea E 29 0))]) hx hb dX9_image_78 rfl hl (by decide) rfl (fun ls hl => ?_)
  exact w_X9_image_79L    C  _ _ _ _ _ h ls (lv_sub hl [1, 0] rfl) hf
theorem c_X9_image {l : Launch} {E : Ev} {σ : Ms} {ℓ : Mz} {τ : Mm} {out : Int32 × Mm} (hf : f_X9_image τ = some out) : Ct l yX9_image wsX9_image rm_X9_image [.ref (Ea E 29 0)] E (va_up σ 29 τ) ℓ (some (.int out.1)) (va_up σ 29 out.2) ℓ := by
  refine Ct_mk (cc := cX9_image) (mL := 2) (ret := (some .int)) (own := RX9) (by decide +kernel) rfl rfl (Nat.le_of_ble_eq_true rfl) (fun p e s m below meth c C h ls hl => ?_)
  exact w_X9_image_0  C τ _ _ h ls (lv_sub hl [0] rfl) hf
theorem k_X9_image {l : Launch} {E : Ev} {σ : Ms} {ℓ : Mz} {τ : Mm} (hτ : σ 29 = τ) {out : Int32 × Mm} (hf : f_X9_image τ = some out) : Ct l yX9_image wsX9_image rm_X9_image [.ref (Ea E 29 0)] E σ ℓ (some (.int out.1)) (va_up σ 29 out.2) ℓ := by
  subst hτ
  have h := c_X9_image (l := l) (E := E) (σ := σ) (ℓ := ℓ)  hf
  rw [up_id σ 29] at h
  exact h
theorem hdX9_undo : yX9_undo.cls = RX9 ∧ yX9_undo.cls ≠ "java/lang/invoke/MethodHandle" ∧ yX9_undo.cls ≠ "java/lang/invoke/VarHandle" ∧ (parseMethodDescriptor yX9_undo.desc).map (fun d => d.parameters.length) = some 0 := by decide +kernel
def rm_X9_undo : Room := { frames := 0, cells := 0, slots := 0, locals := 0 }
set_option maxRecDepth 100000 in
theorem inX9_undo_9 : ∀ w ∈ wsX90, w ∈ wsX9_undo := fun _ h => List.mem_cons_of_mem _ (List.mem_append_right _ h)
set_option maxRecDepth 100000 in
theorem lkX9_undo_175 : Cond.fieldLink RX9 175 "BellsBelowModel" "hasImage" "Z" ∈ wsX9_undo := by decide +kernel
set_option maxRecDepth 100000 in
theorem lkX9_undo_179 : Cond.fieldLink RX9 179 "BellsBelowModel" "imageThe" "I" ∈ wsX9_undo := by decide +kernel
set_option maxRecDepth 100000 in
theorem lkX9_undo_53 : Cond.fieldLink RX9 53 "BellsBelowModel" "the" "I" ∈ wsX9_undo := by decide +kernel
set_option maxRecDepth 100000 in
theorem lkX9_undo_182 : Cond.fieldLink RX9 182 "BellsBelowModel" "imageMasters" "I" ∈ wsX9_undo := by decide +kernel
set_option maxRecDepth 100000 in
theorem lkX9_undo_7 : Cond.fieldLink RX9 7 "BellsBelowModel" "masters" "I" ∈ wsX9_undo := by decide +kernel
set_option maxRecDepth 100000 in
theorem lkX9_undo_185 : Cond.fieldLink RX9 185 "BellsBelowModel" "imageAbsent" "I" ∈ wsX9_undo := by decide +kernel
set_option maxRecDepth 100000 in
theorem lkX9_undo_13 : Cond.fieldLink RX9 13 "BellsBelowModel" "absent" "I" ∈ wsX9_undo := by decide +kernel
set_option maxRecDepth 100000 in
theorem lkX9_undo_188 : Cond.fieldLink RX9 188 "BellsBelowModel" "imageRung" "I" ∈ wsX9_undo := by decide +kernel
set_option maxRecDepth 100000 in
theorem lkX9_undo_16 : Cond.fieldLink RX9 16 "BellsBelowModel" "rung" "I" ∈ wsX9_undo := by decide +kernel
set_option maxRecDepth 100000 in
theorem lkX9_undo_191 : Cond.fieldLink RX9 191 "BellsBelowModel" "imageWaited" "I" ∈ wsX9_undo := by decide +kernel
set_option maxRecDepth 100000 in
theorem lkX9_undo_19 : Cond.fieldLink RX9 19 "BellsBelowModel" "waited" "I" ∈ wsX9_undo := by decide +kernel
set_option maxRecDepth 100000 in
theorem lkX9_undo_194 : Cond.fieldLink RX9 194 "BellsBelowModel" "imageMinute" "I" ∈ wsX9_undo := by decide +kernel
set_option maxRecDepth 100000 in
theorem lkX9_undo_22 : Cond.fieldLink RX9 22 "BellsBelowModel" "minute" "I" ∈ wsX9_undo := by decide +kernel
set_option maxRecDepth 100000 in
theorem lkX9_undo_197 : Cond.fieldLink RX9 197 "BellsBelowModel" "imageSeen" "I" ∈ wsX9_undo := by decide +kernel
set_option maxRecDepth 100000 in
theorem lkX9_undo_145 : Cond.fieldLink RX9 145 "BellsBelowModel" "seen" "I" ∈ wsX9_undo := by decide +kernel
set_option maxRecDepth 100000 in
theorem lkX9_undo_200 : Cond.fieldLink RX9 200 "BellsBelowModel" "imagePlans" "I" ∈ wsX9_undo := by decide +kernel
set_option maxRecDepth 100000 in
theorem lkX9_undo_157 : Cond.fieldLink RX9 157 "BellsBelowModel" "plans" "I" ∈ wsX9_undo := by decide +kernel
set_option maxRecDepth 100000 in
theorem lkX9_undo_203 : Cond.fieldLink RX9 203 "BellsBelowModel" "imageBooks" "I" ∈ wsX9_undo := by decide +kernel
set_option maxRecDepth 100000 in
theorem lkX9_undo_160 : Cond.fieldLink RX9 160 "BellsBelowModel" "books" "I" ∈ wsX9_undo := by decide +kernel
set_option maxRecDepth 100000 in
theorem lkX9_undo_169 : Cond.fieldLink RX9 169 "BellsBelowModel" "bookWho" "[I" ∈ wsX9_undo := by decide +kernel
set_option maxRecDepth 100000 in
theorem lkX9_undo_245 : Cond.fieldLink RX9 245 "BellsBelowModel" "imageBookWho" "[I" ∈ wsX9_undo := by decide +kernel
set_option maxRecDepth 100000 in
theorem lkX9_undo_172 : Cond.fieldLink RX9 172 "BellsBelowModel" "bookFloor" "[I" ∈ wsX9_undo := by decide +kernel
set_option maxRecDepth 100000 in
theorem lkX9_undo_248 : Cond.fieldLink RX9 248 "BellsBelowModel" "imageBookFloor" "[I" ∈ wsX9_undo := by decide +kernel
set_option maxRecDepth 100000 in
theorem lkX9_undo_47 : Cond.fieldLink RX9 47 "BellsBelowModel" "wire" "[I" ∈ wsX9_undo := by decide +kernel
set_option maxRecDepth 100000 in
theorem lkX9_undo_227 : Cond.fieldLink RX9 227 "BellsBelowModel" "imageWire" "[I" ∈ wsX9_undo := by decide +kernel
set_option maxRecDepth 100000 in
theorem lkX9_undo_163 : Cond.fieldLink RX9 163 "BellsBelowModel" "planWhat" "[I" ∈ wsX9_undo := by decide +kernel
set_option maxRecDepth 100000 in
theorem lkX9_undo_239 : Cond.fieldLink RX9 239 "BellsBelowModel" "imageWhat" "[I" ∈ wsX9_undo := by decide +kernel
set_option maxRecDepth 100000 in
theorem lkX9_undo_166 : Cond.fieldLink RX9 166 "BellsBelowModel" "planNumber" "[I" ∈ wsX9_undo := by decide +kernel
set_option maxRecDepth 100000 in
theorem lkX9_undo_242 : Cond.fieldLink RX9 242 "BellsBelowModel" "imageNumber" "[I" ∈ wsX9_undo := by decide +kernel
set_option maxRecDepth 100000 in
theorem lkX9_undo_148 : Cond.fieldLink RX9 148 "BellsBelowModel" "seenWho" "[I" ∈ wsX9_undo := by decide +kernel
set_option maxRecDepth 100000 in
theorem lkX9_undo_230 : Cond.fieldLink RX9 230 "BellsBelowModel" "imageWho" "[I" ∈ wsX9_undo := by decide +kernel
set_option maxRecDepth 100000 in
theorem lkX9_undo_151 : Cond.fieldLink RX9 151 "BellsBelowModel" "seenWhen" "[I" ∈ wsX9_undo := by decide +kernel
set_option maxRecDepth 100000 in
theorem lkX9_undo_233 : Cond.fieldLink RX9 233 "BellsBelowModel" "imageWhen" "[I" ∈ wsX9_undo := by decide +kernel
set_option maxRecDepth 100000 in
theorem lkX9_undo_154 : Cond.fieldLink RX9 154 "BellsBelowModel" "seenFloor" "[I" ∈ wsX9_undo := by decide +kernel
set_option maxRecDepth 100000 in
theorem lkX9_undo_236 : Cond.fieldLink RX9 236 "BellsBelowModel" "imageSeenFloor" "[I" ∈ wsX9_undo := by decide +kernel
set_option maxRecDepth 100000 in
theorem lkX9_undo_44 : Cond.fieldLink RX9 44 "BellsBelowModel" "rows" "[I" ∈ wsX9_undo := by decide +kernel
set_option maxRecDepth 100000 in
theorem lkX9_undo_224 : Cond.fieldLink RX9 224 "BellsBelowModel" "imageRows" "[I" ∈ wsX9_undo := by decide +kernel
set_option maxRecDepth 100000 in
theorem lkX9_undo_25 : Cond.fieldLink RX9 25 "BellsBelowModel" "kind" "[I" ∈ wsX9_undo := by decide +kernel
set_option maxRecDepth 100000 in
theorem lkX9_undo_206 : Cond.fieldLink RX9 206 "BellsBelowModel" "imageKind" "[I" ∈ wsX9_undo := by decide +kernel
set_option maxRecDepth 100000 in
theorem lkX9_undo_29 : Cond.fieldLink RX9 29 "BellsBelowModel" "v" "[I" ∈ wsX9_undo := by decide +kernel
set_option maxRecDepth 100000 in
theorem lkX9_undo_209 : Cond.fieldLink RX9 209 "BellsBelowModel" "imageV" "[I" ∈ wsX9_undo := by decide +kernel
set_option maxRecDepth 100000 in
theorem lkX9_undo_32 : Cond.fieldLink RX9 32 "BellsBelowModel" "floor" "[I" ∈ wsX9_undo := by decide +kernel
set_option maxRecDepth 100000 in
theorem lkX9_undo_212 : Cond.fieldLink RX9 212 "BellsBelowModel" "imageFloor" "[I" ∈ wsX9_undo := by decide +kernel
set_option maxRecDepth 100000 in
theorem lkX9_undo_35 : Cond.fieldLink RX9 35 "BellsBelowModel" "goal" "[I" ∈ wsX9_undo := by decide +kernel
set_option maxRecDepth 100000 in
theorem lkX9_undo_215 : Cond.fieldLink RX9 215 "BellsBelowModel" "imageGoal" "[I" ∈ wsX9_undo := by decide +kernel
set_option maxRecDepth 100000 in
theorem lkX9_undo_38 : Cond.fieldLink RX9 38 "BellsBelowModel" "rests" "[I" ∈ wsX9_undo := by decide +kernel
set_option maxRecDepth 100000 in
theorem lkX9_undo_218 : Cond.fieldLink RX9 218 "BellsBelowModel" "imageRests" "[I" ∈ wsX9_undo := by decide +kernel
set_option maxRecDepth 100000 in
theorem lkX9_undo_41 : Cond.fieldLink RX9 41 "BellsBelowModel" "came" "[I" ∈ wsX9_undo := by decide +kernel
set_option maxRecDepth 100000 in
theorem lkX9_undo_221 : Cond.fieldLink RX9 221 "BellsBelowModel" "imageCame" "[I" ∈ wsX9_undo := by decide +kernel
set_option maxHeartbeats 4000000 in
set_option maxRecDepth 100000 in
theorem w_X9_undo_295 {p : Program} {l : Launch} {e : Env} {s : State} {m : MethodId} {args : Array Value} {below : List Frame} {meth : Method} {c : Code} {E : Ev} {σ : Ms} {ℓ : Mz} {out : Int32 × Mm}   (C : Cx cX9_undo 2 (some .int) wsX9_undo RX9 E p s m args meth c) {k295 : Mm → Int32 → Option (Int32 × Mm)} (hk295 : ∀ (τ : Mm) (v1 : Int32) (H : Heap) (locs : List Loc), HI E (va_up σ 29 τ) ℓ s H locs → ∀ ls : Array Slot, lv_has ls 2 [(0, .ref (Ea E 29 0)), (1, .int v1)] → k295 τ v1 = some out → W p l e rm_X9_undo s m args below meth c H locs 0 0 (MQ below (Po E s.heap.size (some (.int out.1)) (va_up σ 29 out.2) ℓ) args s 0 0 (AA E s.heap.size)) (F0 m 295 ls [])) : ∀ (τ : Mm) (v1 : Int32) (H : Heap) (locs : List Loc) (h : HI E (va_up σ 29 τ) ℓ s H locs) (ls : Array Slot) (hl : lv_has ls 2 [(0, .ref (Ea E 29 0)), (1, .int v1)]), f_X9_undo_295  k295 τ v1 = some out → W p l e rm_X9_undo s m args below meth c H locs 0 0 (MQ below (Po E s.heap.size (some (.int out.1)) (va_up σ 29 out.2) ℓ) args s 0 0 (AA E s.heap.size)) (F0 m 295 ls []) := by
  intro τ v1 H locs h ls hl hf
  unfold f_X9_undo_295 at hf
  have C0 := C
  obtain ⟨hx, hb, hr, hml, hown, hts, hlk, hK, hSF⟩ := C0
  refine lv_iload_n hx hb dX9_undo_295 rfl (lv_at hl 1 rfl) ?_
  refine lv_bipush (v := (8 : Int32)) hx hb dX9_undo_296 (by decide) ?_
  refine lv_icmp_ge (tgt := 331) hx hb dX9_undo_298 (by decide) (fun c15 => ?_) (fun c15 => ?_)
  · replace hf := it_t c15 hf
    refine lv_aload_n hx hb dX9_undo_331 rfl (lv_at hl 0 rfl) ?_
    refine gf_9_0 C h (rfl : Kd 29 = 9) up_eq inX9_undo_9 lkX9_undo_7 dX9_undo_332 ?_
    replace hf := Option.some.inj hf
    subst hf
    exact r_ire C h dX9_undo_335
  replace hf := it_f c15 hf
  refine lv_aload_n hx hb dX9_undo_301 rfl (lv_at hl 0 rfl) ?_
  refine gf_9_52 C h (rfl : Kd 29 = 9) up_eq inX9_undo_9 lkX9_undo_169 dX9_undo_302 ?_
  refine lv_iload_n hx hb dX9_undo_305 rfl (lv_at hl 1 rfl) ?_
  refine lv_aload_n hx hb dX9_undo_306 rfl (lv_at hl 0 rfl) ?_
  refine gf_9_77 C h (rfl : Kd 29 = 9) up_eq inX9_undo_9 lkX9_undo_245 dX9_undo_307 ?_
  refine lv_iload_n hx hb dX9_undo_310 rfl (lv_at hl 1 rfl) ?_
  obtain ⟨g16, hf⟩ := gd_use hf
  refine ld_9_46 C h (rfl : Kd 29 = 9) up_eq (inB_in g16) dX9_undo_311 ?_
  obtain ⟨g17, hf⟩ := gd_use hf
  refine sa_9_31 C h (rfl : Kd 29 = 9) up_eq (F := fun t => va_up σ 29 t) (fun _ => up_up) (inB_in g17) dX9_undo_312 (fun τ18 eτ18 H locs h => ?_)
  replace hf := lt_use eτ18 hf
  clear eτ18
  refine lv_aload_n hx hb dX9_undo_313 rfl (lv_at hl 0 rfl) ?_
  refine gf_9_53 C h (rfl : Kd 29 = 9) up_eq inX9_undo_9 lkX9_undo_172 dX9_undo_314 ?_
  refine lv_iload_n hx hb dX9_undo_317 rfl (lv_at hl 1 rfl) ?_
  refine lv_aload_n hx hb dX9_undo_318 rfl (lv_at hl 0 rfl) ?_
  refine gf_9_78 C h (rfl : Kd 29 = 9) up_eq inX9_undo_9 lkX9_undo_248 dX9_undo_319 ?_
  refine lv_iload_n hx hb dX9_undo_322 rfl (lv_at hl 1 rfl) ?_
  obtain ⟨g19, hf⟩ := gd_use hf
  refine ld_9_47 C h (rfl : Kd 29 = 9) up_eq (inB_in g19) dX9_undo_323 ?_
  obtain ⟨g20, hf⟩ := gd_use hf
  refine sa_9_32 C h (rfl : Kd 29 = 9) up_eq (F := fun t => va_up σ 29 t) (fun _ => up_up) (inB_in g20) dX9_undo_324 (fun τ21 eτ21 H locs h => ?_)
  replace hf := lt_use eτ21 hf
  clear eτ21
  obtain ⟨x22, ex22⟩ : ∃ y : Int32, y = (v1 + (1 : Int32)) := ⟨_, rfl⟩
  refine lv_iinc (v := x22) (lv' := [(1, .int x22), (0, .ref (Ea E 29 0))]) hx hb dX9_undo_325 hl (k := 1) rfl (by rw [ex22]; rfl) (by decide) rfl (fun ls hl => ?_)
  replace hf := lt_use ex22 hf
  clear ex22
  refine lv_goto (tgt := 295) hx hb dX9_undo_328 (by decide) ?_
  exact hk295 _ _ _ _ h ls (lv_sub hl [1, 0] rfl) hf
set_option maxHeartbeats 4000000 in
set_option maxRecDepth 100000 in
theorem w_X9_undo_295L {p : Program} {l : Launch} {e : Env} {s : State} {m : MethodId} {args : Array Value} {below : List Frame} {meth : Method} {c : Code} {E : Ev} {σ : Ms} {ℓ : Mz} {out : Int32 × Mm}   (C : Cx cX9_undo 2 (some .int) wsX9_undo RX9 E p s m args meth c)  : ∀ (n9 : Nat) (τ : Mm) (v1 : Int32) (H : Heap) (locs : List Loc) (h : HI E (va_up σ 29 τ) ℓ s H locs) (ls : Array Slot) (hl : lv_has ls 2 [(0, .ref (Ea E 29 0)), (1, .int v1)]), f_X9_undo_295L   n9 τ v1 = some out → W p l e rm_X9_undo s m args below meth c H locs 0 0 (MQ below (Po E s.heap.size (some (.int out.1)) (va_up σ 29 out.2) ℓ) args s 0 0 (AA E s.heap.size)) (F0 m 295 ls []) := by
  intro n9
  induction n9 with
  | zero =>
    intro τ v1 H locs h ls hl hf
    cases (show (none : Option (Int32 × Mm)) = some out from hf)
  | succ n9 ih =>
    intro τ v1 H locs h ls hl hf
    exact w_X9_undo_295   C  ih τ v1 H locs h ls hl hf
set_option maxHeartbeats 4000000 in
set_option maxRecDepth 100000 in
theorem w_X9_undo_245 {p : Program} {l : Launch} {e : Env} {s : State} {m : MethodId} {args : Array Value} {below : List Frame} {meth : Method} {c : Code} {E : Ev} {σ : Ms} {ℓ : Mz} {out : Int32 × Mm}   (C : Cx cX9_undo 2 (some .int) wsX9_undo RX9 E p s m args meth c) {k245 : Mm → Int32 → Option (Int32 × Mm)} (hk245 : ∀ (τ : Mm) (v1 : Int32) (H : Heap) (locs : List Loc), HI E (va_up σ 29 τ) ℓ s H locs → ∀ ls : Array Slot, lv_has ls 2 [(0, .ref (Ea E 29 0)), (1, .int v1)] → k245 τ v1 = some out → W p l e rm_X9_undo s m args below meth c H locs 0 0 (MQ below (Po E s.heap.size (some (.int out.1)) (va_up σ 29 out.2) ℓ) args s 0 0 (AA E s.heap.size)) (F0 m 245 ls [])) : ∀ (τ : Mm) (v1 : Int32) (H : Heap) (locs : List Loc) (h : HI E (va_up σ 29 τ) ℓ s H locs) (ls : Array Slot) (hl : lv_has ls 2 [(0, .ref (Ea E 29 0)), (1, .int v1)]), f_X9_undo_245  k245 τ v1 = some out → W p l e rm_X9_undo s m args below meth c H locs 0 0 (MQ below (Po E s.heap.size (some (.int out.1)) (va_up σ 29 out.2) ℓ) args s 0 0 (AA E s.heap.size)) (F0 m 245 ls []) := by
  intro τ v1 H locs h ls hl hf
  unfold f_X9_undo_245 at hf
  have C0 := C
  obtain ⟨hx, hb, hr, hml, hown, hts, hlk, hK, hSF⟩ := C0
  refine lv_iload_n hx hb dX9_undo_245 rfl (lv_at hl 1 rfl) ?_
  refine lv_bipush (v := (10 : Int32)) hx hb dX9_undo_246 (by decide) ?_
  refine lv_icmp_ge (tgt := 293) hx hb dX9_undo_248 (by decide) (fun c14 => ?_) (fun c14 => ?_)
  · replace hf := it_t c14 hf
    refine lv_iconst (v := (0 : Int32)) hx hb dX9_undo_293 (by decide) ?_
    refine lv_istore_n (lv' := [(1, .int (0 : Int32)), (0, .ref (Ea E 29 0))]) hx hb dX9_undo_294 rfl hl (by decide) rfl (fun ls hl => ?_)
    exact w_X9_undo_295L    C  _ _ _ _ _ h ls (lv_sub hl [1, 0] rfl) hf
  replace hf := it_f c14 hf
  refine lv_aload_n hx hb dX9_undo_251 rfl (lv_at hl 0 rfl) ?_
  refine gf_9_12 C h (rfl : Kd 29 = 9) up_eq inX9_undo_9 lkX9_undo_47 dX9_undo_252 ?_
  refine lv_iload_n hx hb dX9_undo_255 rfl (lv_at hl 1 rfl) ?_
  refine lv_aload_n hx hb dX9_undo_256 rfl (lv_at hl 0 rfl) ?_
  refine gf_9_71 C h (rfl : Kd 29 = 9) up_eq inX9_undo_9 lkX9_undo_227 dX9_undo_257 ?_
  refine lv_iload_n hx hb dX9_undo_260 rfl (lv_at hl 1 rfl) ?_
  obtain ⟨g23, hf⟩ := gd_use hf
  refine ld_9_40 C h (rfl : Kd 29 = 9) up_eq (inB_in g23) dX9_undo_261 ?_
  obtain ⟨g24, hf⟩ := gd_use hf
  refine sa_9_8 C h (rfl : Kd 29 = 9) up_eq (F := fun t => va_up σ 29 t) (fun _ => up_up) (inB_in g24) dX9_undo_262 (fun τ25 eτ25 H locs h => ?_)
  replace hf := lt_use eτ25 hf
  clear eτ25
  refine lv_aload_n hx hb dX9_undo_263 rfl (lv_at hl 0 rfl) ?_
  refine gf_9_50 C h (rfl : Kd 29 = 9) up_eq inX9_undo_9 lkX9_undo_163 dX9_undo_264 ?_
  refine lv_iload_n hx hb dX9_undo_267 rfl (lv_at hl 1 rfl) ?_
  refine lv_aload_n hx hb dX9_undo_268 rfl (lv_at hl 0 rfl) ?_
  refine gf_9_75 C h (rfl : Kd 29 = 9) up_eq inX9_undo_9 lkX9_undo_239 dX9_undo_269 ?_
  refine lv_iload_n hx hb dX9_undo_272 rfl (lv_at hl 1 rfl) ?_
  obtain ⟨g26, hf⟩ := gd_use hf
  refine ld_9_44 C h (rfl : Kd 29 = 9) up_eq (inB_in g26) dX9_undo_273 ?_
  obtain ⟨g27, hf⟩ := gd_use hf
  refine sa_9_29 C h (rfl : Kd 29 = 9) up_eq (F := fun t => va_up σ 29 t) (fun _ => up_up) (inB_in g27) dX9_undo_274 (fun τ28 eτ28 H locs h => ?_)
  replace hf := lt_use eτ28 hf
  clear eτ28
  refine lv_aload_n hx hb dX9_undo_275 rfl (lv_at hl 0 rfl) ?_
  refine gf_9_51 C h (rfl : Kd 29 = 9) up_eq inX9_undo_9 lkX9_undo_166 dX9_undo_276 ?_
  refine lv_iload_n hx hb dX9_undo_279 rfl (lv_at hl 1 rfl) ?_
  refine lv_aload_n hx hb dX9_undo_280 rfl (lv_at hl 0 rfl) ?_
  refine gf_9_76 C h (rfl : Kd 29 = 9) up_eq inX9_undo_9 lkX9_undo_242 dX9_undo_281 ?_
  refine lv_iload_n hx hb dX9_undo_284 rfl (lv_at hl 1 rfl) ?_
  obtain ⟨g29, hf⟩ := gd_use hf
  refine ld_9_45 C h (rfl : Kd 29 = 9) up_eq (inB_in g29) dX9_undo_285 ?_
  obtain ⟨g30, hf⟩ := gd_use hf
  refine sa_9_30 C h (rfl : Kd 29 = 9) up_eq (F := fun t => va_up σ 29 t) (fun _ => up_up) (inB_in g30) dX9_undo_286 (fun τ31 eτ31 H locs h => ?_)
  replace hf := lt_use eτ31 hf
  clear eτ31
  obtain ⟨x32, ex32⟩ : ∃ y : Int32, y = (v1 + (1 : Int32)) := ⟨_, rfl⟩
  refine lv_iinc (v := x32) (lv' := [(1, .int x32), (0, .ref (Ea E 29 0))]) hx hb dX9_undo_287 hl (k := 1) rfl (by rw [ex32]; rfl) (by decide) rfl (fun ls hl => ?_)
  replace hf := lt_use ex32 hf
  clear ex32
  refine lv_goto (tgt := 245) hx hb dX9_undo_290 (by decide) ?_
  exact hk245 _ _ _ _ h ls (lv_sub hl [1, 0] rfl) hf
set_option maxHeartbeats 4000000 in
set_option maxRecDepth 100000 in
theorem w_X9_undo_245L {p : Program} {l : Launch} {e : Env} {s : State} {m : MethodId} {args : Array Value} {below : List Frame} {meth : Method} {c : Code} {E : Ev} {σ : Ms} {ℓ : Mz} {out : Int32 × Mm}   (C : Cx cX9_undo 2 (some .int) wsX9_undo RX9 E p s m args meth c)  : ∀ (n9 : Nat) (τ : Mm) (v1 : Int32) (H : Heap) (locs : List Loc) (h : HI E (va_up σ 29 τ) ℓ s H locs) (ls : Array Slot) (hl : lv_has ls 2 [(0, .ref (Ea E 29 0)), (1, .int v1)]), f_X9_undo_245L   n9 τ v1 = some out → W p l e rm_X9_undo s m args below meth c H locs 0 0 (MQ below (Po E s.heap.size (some (.int out.1)) (va_up σ 29 out.2) ℓ) args s 0 0 (AA E s.heap.size)) (F0 m 245 ls []) := by
  intro n9
  induction n9 with
  | zero =>
    intro τ v1 H locs h ls hl hf
    cases (show (none : Option (Int32 × Mm)) = some out from hf)
  | succ n9 ih =>
    intro τ v1 H locs h ls hl hf
    exact w_X9_undo_245   C  ih τ v1 H locs h ls hl hf
set_option maxHeartbeats 4000000 in
set_option maxRecDepth 100000 in
theorem w_X9_undo_196 {p : Program} {l : Launch} {e : Env} {s : State} {m : MethodId} {args : Array Value} {below : List Frame} {meth : Method} {c : Code} {E : Ev} {σ : Ms} {ℓ : Mz} {out : Int32 × Mm}   (C : Cx cX9_undo 2 (some .int) wsX9_undo RX9 E p s m args meth c) {k196 : Mm → Int32 → Option (Int32 × Mm)} (hk196 : ∀ (τ : Mm) (v1 : Int32) (H : Heap) (locs : List Loc), HI E (va_up σ 29 τ) ℓ s H locs → ∀ ls : Array Slot, lv_has ls 2 [(0, .ref (Ea E 29 0)), (1, .int v1)] → k196 τ v1 = some out → W p l e rm_X9_undo s m args below meth c H locs 0 0 (MQ below (Po E s.heap.size (some (.int out.1)) (va_up σ 29 out.2) ℓ) args s 0 0 (AA E s.heap.size)) (F0 m 196 ls [])) : ∀ (τ : Mm) (v1 : Int32) (H : Heap) (locs : List Loc) (h : HI E (va_up σ 29 τ) ℓ s H locs) (ls : Array Slot) (hl : lv_has ls 2 [(0, .ref (Ea E 29 0)), (1, .int v1)]), f_X9_undo_196  k196 τ v1 = some out → W p l e rm_X9_undo s m args below meth c H locs 0 0 (MQ below (Po E s.heap.size (some (.int out.1)) (va_up σ 29 out.2) ℓ) args s 0 0 (AA E s.heap.size)) (F0 m 196 ls []) := by
  intro τ v1 H locs h ls hl hf
  unfold f_X9_undo_196 at hf
  have C0 := C
  obtain ⟨hx, hb, hr, hml, hown, hts, hlk, hK, hSF⟩ := C0
  refine lv_iload_n hx hb dX9_undo_196 rfl (lv_at hl 1 rfl) ?_
  refine lv_iconst (v := (5 : Int32)) hx hb dX9_undo_197 (by decide) ?_
  refine lv_icmp_ge (tgt := 243) hx hb dX9_undo_198 (by decide) (fun c13 => ?_) (fun c13 => ?_)
  · replace hf := it_t c13 hf
    refine lv_iconst (v := (0 : Int32)) hx hb dX9_undo_243 (by decide) ?_
    refine lv_istore_n (lv' := [(1, .int (0 : Int32)), (0, .ref (Ea E 29 0))]) hx hb dX9_undo_244 rfl hl (by decide) rfl (fun ls hl => ?_)
    exact w_X9_undo_245L    C  _ _ _ _ _ h ls (lv_sub hl [1, 0] rfl) hf
  replace hf := it_f c13 hf
  refine lv_aload_n hx hb dX9_undo_201 rfl (lv_at hl 0 rfl) ?_
  refine gf_9_45 C h (rfl : Kd 29 = 9) up_eq inX9_undo_9 lkX9_undo_148 dX9_undo_202 ?_
  refine lv_iload_n hx hb dX9_undo_205 rfl (lv_at hl 1 rfl) ?_
  refine lv_aload_n hx hb dX9_undo_206 rfl (lv_at hl 0 rfl) ?_
  refine gf_9_72 C h (rfl : Kd 29 = 9) up_eq inX9_undo_9 lkX9_undo_230 dX9_undo_207 ?_
  refine lv_iload_n hx hb dX9_undo_210 rfl (lv_at hl 1 rfl) ?_
  obtain ⟨g33, hf⟩ := gd_use hf
  refine ld_9_41 C h (rfl : Kd 29 = 9) up_eq (inB_in g33) dX9_undo_211 ?_
  obtain ⟨g34, hf⟩ := gd_use hf
  refine sa_9_26 C h (rfl : Kd 29 = 9) up_eq (F := fun t => va_up σ 29 t) (fun _ => up_up) (inB_in g34) dX9_undo_212 (fun τ35 eτ35 H locs h => ?_)
  replace hf := lt_use eτ35 hf
  clear eτ35
  refine lv_aload_n hx hb dX9_undo_213 rfl (lv_at hl 0 rfl) ?_
  refine gf_9_46 C h (rfl : Kd 29 = 9) up_eq inX9_undo_9 lkX9_undo_151 dX9_undo_214 ?_
  refine lv_iload_n hx hb dX9_undo_217 rfl (lv_at hl 1 rfl) ?_
  refine lv_aload_n hx hb dX9_undo_218 rfl (lv_at hl 0 rfl) ?_
  refine gf_9_73 C h (rfl : Kd 29 = 9) up_eq inX9_undo_9 lkX9_undo_233 dX9_undo_219 ?_
  refine lv_iload_n hx hb dX9_undo_222 rfl (lv_at hl 1 rfl) ?_
  obtain ⟨g36, hf⟩ := gd_use hf
  refine ld_9_42 C h (rfl : Kd 29 = 9) up_eq (inB_in g36) dX9_undo_223 ?_
  obtain ⟨g37, hf⟩ := gd_use hf
  refine sa_9_27 C h (rfl : Kd 29 = 9) up_eq (F := fun t => va_up σ 29 t) (fun _ => up_up) (inB_in g37) dX9_undo_224 (fun τ38 eτ38 H locs h => ?_)
  replace hf := lt_use eτ38 hf
  clear eτ38
  refine lv_aload_n hx hb dX9_undo_225 rfl (lv_at hl 0 rfl) ?_
  refine gf_9_47 C h (rfl : Kd 29 = 9) up_eq inX9_undo_9 lkX9_undo_154 dX9_undo_226 ?_
  refine lv_iload_n hx hb dX9_undo_229 rfl (lv_at hl 1 rfl) ?_
  refine lv_aload_n hx hb dX9_undo_230 rfl (lv_at hl 0 rfl) ?_
  refine gf_9_74 C h (rfl : Kd 29 = 9) up_eq inX9_undo_9 lkX9_undo_236 dX9_undo_231 ?_
  refine lv_iload_n hx hb dX9_undo_234 rfl (lv_at hl 1 rfl) ?_
  obtain ⟨g39, hf⟩ := gd_use hf
  refine ld_9_43 C h (rfl : Kd 29 = 9) up_eq (inB_in g39) dX9_undo_235 ?_
  obtain ⟨g40, hf⟩ := gd_use hf
  refine sa_9_28 C h (rfl : Kd 29 = 9) up_eq (F := fun t => va_up σ 29 t) (fun _ => up_up) (inB_in g40) dX9_undo_236 (fun τ41 eτ41 H locs h => ?_)
  replace hf := lt_use eτ41 hf
  clear eτ41
  obtain ⟨x42, ex42⟩ : ∃ y : Int32, y = (v1 + (1 : Int32)) := ⟨_, rfl⟩
  refine lv_iinc (v := x42) (lv' := [(1, .int x42), (0, .ref (Ea E 29 0))]) hx hb dX9_undo_237 hl (k := 1) rfl (by rw [ex42]; rfl) (by decide) rfl (fun ls hl => ?_)
  replace hf := lt_use ex42 hf
  clear ex42
  refine lv_goto (tgt := 196) hx hb dX9_undo_240 (by decide) ?_
  exact hk196 _ _ _ _ h ls (lv_sub hl [1, 0] rfl) hf
set_option maxHeartbeats 4000000 in
set_option maxRecDepth 100000 in
theorem w_X9_undo_196L {p : Program} {l : Launch} {e : Env} {s : State} {m : MethodId} {args : Array Value} {below : List Frame} {meth : Method} {c : Code} {E : Ev} {σ : Ms} {ℓ : Mz} {out : Int32 × Mm}   (C : Cx cX9_undo 2 (some .int) wsX9_undo RX9 E p s m args meth c)  : ∀ (n9 : Nat) (τ : Mm) (v1 : Int32) (H : Heap) (locs : List Loc) (h : HI E (va_up σ 29 τ) ℓ s H locs) (ls : Array Slot) (hl : lv_has ls 2 [(0, .ref (Ea E 29 0)), (1, .int v1)]), f_X9_undo_196L   n9 τ v1 = some out → W p l e rm_X9_undo s m args below meth c H locs 0 0 (MQ below (Po E s.heap.size (some (.int out.1)) (va_up σ 29 out.2) ℓ) args s 0 0 (AA E s.heap.size)) (F0 m 196 ls []) := by
  intro n9
  induction n9 with
  | zero =>
    intro τ v1 H locs h ls hl hf
    cases (show (none : Option (Int32 × Mm)) = some out from hf)
  | succ n9 ih =>
    intro τ v1 H locs h ls hl hf
    exact w_X9_undo_196   C  ih τ v1 H locs h ls hl hf
set_option maxHeartbeats 4000000 in
set_option maxRecDepth 100000 in
theorem w_X9_undo_170 {p : Program} {l : Launch} {e : Env} {s : State} {m : MethodId} {args : Array Value} {below : List Frame} {meth : Method} {c : Code} {E : Ev} {σ : Ms} {ℓ : Mz} {out : Int32 × Mm}   (C : Cx cX9_undo 2 (some .int) wsX9_undo RX9 E p s m args meth c) {k170 : Mm → Int32 → Option (Int32 × Mm)} (hk170 : ∀ (τ : Mm) (v1 : Int32) (H : Heap) (locs : List Loc), HI E (va_up σ 29 τ) ℓ s H locs → ∀ ls : Array Slot, lv_has ls 2 [(0, .ref (Ea E 29 0)), (1, .int v1)] → k170 τ v1 = some out → W p l e rm_X9_undo s m args below meth c H locs 0 0 (MQ below (Po E s.heap.size (some (.int out.1)) (va_up σ 29 out.2) ℓ) args s 0 0 (AA E s.heap.size)) (F0 m 170 ls [])) : ∀ (τ : Mm) (v1 : Int32) (H : Heap) (locs : List Loc) (h : HI E (va_up σ 29 τ) ℓ s H locs) (ls : Array Slot) (hl : lv_has ls 2 [(0, .ref (Ea E 29 0)), (1, .int v1)]), f_X9_undo_170  k170 τ v1 = some out → W p l e rm_X9_undo s m args below meth c H locs 0 0 (MQ below (Po E s.heap.size (some (.int out.1)) (va_up σ 29 out.2) ℓ) args s 0 0 (AA E s.heap.size)) (F0 m 170 ls []) := by
  intro τ v1 H locs h ls hl hf
  unfold f_X9_undo_170 at hf
  have C0 := C
  obtain ⟨hx, hb, hr, hml, hown, hts, hlk, hK, hSF⟩ := C0
  refine lv_iload_n hx hb dX9_undo_170 rfl (lv_at hl 1 rfl) ?_
  refine lv_bipush (v := (24 : Int32)) hx hb dX9_undo_171 (by decide) ?_
  refine lv_icmp_ge (tgt := 194) hx hb dX9_undo_173 (by decide) (fun c12 => ?_) (fun c12 => ?_)
  · replace hf := it_t c12 hf
    refine lv_iconst (v := (0 : Int32)) hx hb dX9_undo_194 (by decide) ?_
    refine lv_istore_n (lv' := [(1, .int (0 : Int32)), (0, .ref (Ea E 29 0))]) hx hb dX9_undo_195 rfl hl (by decide) rfl (fun ls hl => ?_)
    exact w_X9_undo_196L    C  _ _ _ _ _ h ls (lv_sub hl [1, 0] rfl) hf
  replace hf := it_f c12 hf
  refine lv_aload_n hx hb dX9_undo_176 rfl (lv_at hl 0 rfl) ?_
  refine gf_9_11 C h (rfl : Kd 29 = 9) up_eq inX9_undo_9 lkX9_undo_44 dX9_undo_177 ?_
  refine lv_iload_n hx hb dX9_undo_180 rfl (lv_at hl 1 rfl) ?_
  refine lv_aload_n hx hb dX9_undo_181 rfl (lv_at hl 0 rfl) ?_
  refine gf_9_70 C h (rfl : Kd 29 = 9) up_eq inX9_undo_9 lkX9_undo_224 dX9_undo_182 ?_
  refine lv_iload_n hx hb dX9_undo_185 rfl (lv_at hl 1 rfl) ?_
  obtain ⟨g43, hf⟩ := gd_use hf
  refine ld_9_39 C h (rfl : Kd 29 = 9) up_eq (inB_in g43) dX9_undo_186 ?_
  obtain ⟨g44, hf⟩ := gd_use hf
  refine sa_9_7 C h (rfl : Kd 29 = 9) up_eq (F := fun t => va_up σ 29 t) (fun _ => up_up) (inB_in g44) dX9_undo_187 (fun τ45 eτ45 H locs h => ?_)
  replace hf := lt_use eτ45 hf
  clear eτ45
  obtain ⟨x46, ex46⟩ : ∃ y : Int32, y = (v1 + (1 : Int32)) := ⟨_, rfl⟩
  refine lv_iinc (v := x46) (lv' := [(1, .int x46), (0, .ref (Ea E 29 0))]) hx hb dX9_undo_188 hl (k := 1) rfl (by rw [ex46]; rfl) (by decide) rfl (fun ls hl => ?_)
  replace hf := lt_use ex46 hf
  clear ex46
  refine lv_goto (tgt := 170) hx hb dX9_undo_191 (by decide) ?_
  exact hk170 _ _ _ _ h ls (lv_sub hl [1, 0] rfl) hf
set_option maxHeartbeats 4000000 in
set_option maxRecDepth 100000 in
theorem w_X9_undo_170L {p : Program} {l : Launch} {e : Env} {s : State} {m : MethodId} {args : Array Value} {below : List Frame} {meth : Method} {c : Code} {E : Ev} {σ : Ms} {ℓ : Mz} {out : Int32 × Mm}   (C : Cx cX9_undo 2 (some .int) wsX9_undo RX9 E p s m args meth c)  : ∀ (n9 : Nat) (τ : Mm) (v1 : Int32) (H : Heap) (locs : List Loc) (h : HI E (va_up σ 29 τ) ℓ s H locs) (ls : Array Slot) (hl : lv_has ls 2 [(0, .ref (Ea E 29 0)), (1, .int v1)]), f_X9_undo_170L   n9 τ v1 = some out → W p l e rm_X9_undo s m args below meth c H locs 0 0 (MQ below (Po E s.heap.size (some (.int out.1)) (va_up σ 29 out.2) ℓ) args s 0 0 (AA E s.heap.size)) (F0 m 170 ls []) := by
  intro n9
  induction n9 with
  | zero =>
    intro τ v1 H locs h ls hl hf
    cases (show (none : Option (Int32 × Mm)) = some out from hf)
  | succ n9 ih =>
    intro τ v1 H locs h ls hl hf
    exact w_X9_undo_170   C  ih τ v1 H locs h ls hl hf
set_option maxHeartbeats 4000000 in
set_option maxRecDepth 100000 in
theorem w_X9_undo_84 {p : Program} {l : Launch} {e : Env} {s : State} {m : MethodId} {args : Array Value} {below : List Frame} {meth : Method} {c : Code} {E : Ev} {σ : Ms} {ℓ : Mz} {out : Int32 × Mm}   (C : Cx cX9_undo 2 (some .int) wsX9_undo RX9 E p s m args meth c) {k84 : Mm → Int32 → Option (Int32 × Mm)} (hk84 : ∀ (τ : Mm) (v1 : Int32) (H : Heap) (locs : List Loc), HI E (va_up σ 29 τ) ℓ s H locs → ∀ ls : Array Slot, lv_has ls 2 [(0, .ref (Ea E 29 0)), (1, .int v1)] → k84 τ v1 = some out → W p l e rm_X9_undo s m args below meth c H locs 0 0 (MQ below (Po E s.heap.size (some (.int out.1)) (va_up σ 29 out.2) ℓ) args s 0 0 (AA E s.heap.size)) (F0 m 84 ls [])) : ∀ (τ : Mm) (v1 : Int32) (H : Heap) (locs : List Loc) (h : HI E (va_up σ 29 τ) ℓ s H locs) (ls : Array Slot) (hl : lv_has ls 2 [(0, .ref (Ea E 29 0)), (1, .int v1)]), f_X9_undo_84  k84 τ v1 = some out → W p l e rm_X9_undo s m args below meth c H locs 0 0 (MQ below (Po E s.heap.size (some (.int out.1)) (va_up σ 29 out.2) ℓ) args s 0 0 (AA E s.heap.size)) (F0 m 84 ls []) := by
  intro τ v1 H locs h ls hl hf
  unfold f_X9_undo_84 at hf
  have C0 := C
  obtain ⟨hx, hb, hr, hml, hown, hts, hlk, hK, hSF⟩ := C0
  refine lv_iload_n hx hb dX9_undo_84 rfl (lv_at hl 1 rfl) ?_
  refine lv_bipush (v := (6 : Int32)) hx hb dX9_undo_85 (by decide) ?_
  refine lv_icmp_ge (tgt := 168) hx hb dX9_undo_87 (by decide) (fun c11 => ?_) (fun c11 => ?_)
  · replace hf := it_t c11 hf
    refine lv_iconst (v := (0 : Int32)) hx hb dX9_undo_168 (by decide) ?_
    refine lv_istore_n (lv' := [(1, .int (0 : Int32)), (0, .ref (Ea E 29 0))]) hx hb dX9_undo_169 rfl hl (by decide) rfl (fun ls hl => ?_)
    exact w_X9_undo_170L    C  _ _ _ _ _ h ls (lv_sub hl [1, 0] rfl) hf
  replace hf := it_f c11 hf
  refine lv_aload_n hx hb dX9_undo_90 rfl (lv_at hl 0 rfl) ?_
  refine gf_9_5 C h (rfl : Kd 29 = 9) up_eq inX9_undo_9 lkX9_undo_25 dX9_undo_91 ?_
  refine lv_iload_n hx hb dX9_undo_94 rfl (lv_at hl 1 rfl) ?_
  refine lv_aload_n hx hb dX9_undo_95 rfl (lv_at hl 0 rfl) ?_
  refine gf_9_64 C h (rfl : Kd 29 = 9) up_eq inX9_undo_9 lkX9_undo_206 dX9_undo_96 ?_
  refine lv_iload_n hx hb dX9_undo_99 rfl (lv_at hl 1 rfl) ?_
  obtain ⟨g47, hf⟩ := gd_use hf
  refine ld_9_33 C h (rfl : Kd 29 = 9) up_eq (inB_in g47) dX9_undo_100 ?_
  obtain ⟨g48, hf⟩ := gd_use hf
  refine sa_9_1 C h (rfl : Kd 29 = 9) up_eq (F := fun t => va_up σ 29 t) (fun _ => up_up) (inB_in g48) dX9_undo_101 (fun τ49 eτ49 H locs h => ?_)
  replace hf := lt_use eτ49 hf
  clear eτ49
  refine lv_aload_n hx hb dX9_undo_102 rfl (lv_at hl 0 rfl) ?_
  refine gf_9_6 C h (rfl : Kd 29 = 9) up_eq inX9_undo_9 lkX9_undo_29 dX9_undo_103 ?_
  refine lv_iload_n hx hb dX9_undo_106 rfl (lv_at hl 1 rfl) ?_
  refine lv_aload_n hx hb dX9_undo_107 rfl (lv_at hl 0 rfl) ?_
  refine gf_9_65 C h (rfl : Kd 29 = 9) up_eq inX9_undo_9 lkX9_undo_209 dX9_undo_108 ?_
  refine lv_iload_n hx hb dX9_undo_111 rfl (lv_at hl 1 rfl) ?_
  obtain ⟨g50, hf⟩ := gd_use hf
  refine ld_9_34 C h (rfl : Kd 29 = 9) up_eq (inB_in g50) dX9_undo_112 ?_
  obtain ⟨g51, hf⟩ := gd_use hf
  refine sa_9_2 C h (rfl : Kd 29 = 9) up_eq (F := fun t => va_up σ 29 t) (fun _ => up_up) (inB_in g51) dX9_undo_113 (fun τ52 eτ52 H locs h => ?_)
  replace hf := lt_use eτ52 hf
  clear eτ52
  refine lv_aload_n hx hb dX9_undo_114 rfl (lv_at hl 0 rfl) ?_
  refine gf_9_7 C h (rfl : Kd 29 = 9) up_eq inX9_undo_9 lkX9_undo_32 dX9_undo_115 ?_
  refine lv_iload_n hx hb dX9_undo_118 rfl (lv_at hl 1 rfl) ?_
  refine lv_aload_n hx hb dX9_undo_119 rfl (lv_at hl 0 rfl) ?_
  refine gf_9_66 C h (rfl : Kd 29 = 9) up_eq inX9_undo_9 lkX9_undo_212 dX9_undo_120 ?_
  refine lv_iload_n hx hb dX9_undo_123 rfl (lv_at hl 1 rfl) ?_
  obtain ⟨g53, hf⟩ := gd_use hf
  refine ld_9_35 C h (rfl : Kd 29 = 9) up_eq (inB_in g53) dX9_undo_124 ?_
  obtain ⟨g54, hf⟩ := gd_use hf
  refine sa_9_3 C h (rfl : Kd 29 = 9) up_eq (F := fun t => va_up σ 29 t) (fun _ => up_up) (inB_in g54) dX9_undo_125 (fun τ55 eτ55 H locs h => ?_)
  replace hf := lt_use eτ55 hf
  clear eτ55
  refine lv_aload_n hx hb dX9_undo_126 rfl (lv_at hl 0 rfl) ?_
  refine gf_9_8 C h (rfl : Kd 29 = 9) up_eq inX9_undo_9 lkX9_undo_35 dX9_undo_127 ?_
  refine lv_iload_n hx hb dX9_undo_130 rfl (lv_at hl 1 rfl) ?_
  refine lv_aload_n hx hb dX9_undo_131 rfl (lv_at hl 0 rfl) ?_
  refine gf_9_67 C h (rfl : Kd 29 = 9) up_eq inX9_undo_9 lkX9_undo_215 dX9_undo_132 ?_
  refine lv_iload_n hx hb dX9_undo_135 rfl (lv_at hl 1 rfl) ?_
  obtain ⟨g56, hf⟩ := gd_use hf
  refine ld_9_36 C h (rfl : Kd 29 = 9) up_eq (inB_in g56) dX9_undo_136 ?_
  obtain ⟨g57, hf⟩ := gd_use hf
  refine sa_9_4 C h (rfl : Kd 29 = 9) up_eq (F := fun t => va_up σ 29 t) (fun _ => up_up) (inB_in g57) dX9_undo_137 (fun τ58 eτ58 H locs h => ?_)
  replace hf := lt_use eτ58 hf
  clear eτ58
  refine lv_aload_n hx hb dX9_undo_138 rfl (lv_at hl 0 rfl) ?_
  refine gf_9_9 C h (rfl : Kd 29 = 9) up_eq inX9_undo_9 lkX9_undo_38 dX9_undo_139 ?_
  refine lv_iload_n hx hb dX9_undo_142 rfl (lv_at hl 1 rfl) ?_
  refine lv_aload_n hx hb dX9_undo_143 rfl (lv_at hl 0 rfl) ?_
  refine gf_9_68 C h (rfl : Kd 29 = 9) up_eq inX9_undo_9 lkX9_undo_218 dX9_undo_144 ?_
  refine lv_iload_n hx hb dX9_undo_147 rfl (lv_at hl 1 rfl) ?_
  obtain ⟨g59, hf⟩ := gd_use hf
  refine ld_9_37 C h (rfl : Kd 29 = 9) up_eq (inB_in g59) dX9_undo_148 ?_
  obtain ⟨g60, hf⟩ := gd_use hf
  refine sa_9_5 C h (rfl : Kd 29 = 9) up_eq (F := fun t => va_up σ 29 t) (fun _ => up_up) (inB_in g60) dX9_undo_149 (fun τ61 eτ61 H locs h => ?_)
  replace hf := lt_use eτ61 hf
  clear eτ61
  refine lv_aload_n hx hb dX9_undo_150 rfl (lv_at hl 0 rfl) ?_
  refine gf_9_10 C h (rfl : Kd 29 = 9) up_eq inX9_undo_9 lkX9_undo_41 dX9_undo_151 ?_
  refine lv_iload_n hx hb dX9_undo_154 rfl (lv_at hl 1 rfl) ?_
  refine lv_aload_n hx hb dX9_undo_155 rfl (lv_at hl 0 rfl) ?_
  refine gf_9_69 C h (rfl : Kd 29 = 9) up_eq inX9_undo_9 lkX9_undo_221 dX9_undo_156 ?_
  refine lv_iload_n hx hb dX9_undo_159 rfl (lv_at hl 1 rfl) ?_
  obtain ⟨g62, hf⟩ := gd_use hf
  refine ld_9_38 C h (rfl : Kd 29 = 9) up_eq (inB_in g62) dX9_undo_160 ?_
  obtain ⟨g63, hf⟩ := gd_use hf
  refine sa_9_6 C h (rfl : Kd 29 = 9) up_eq (F := fun t => va_up σ 29 t) (fun _ => up_up) (inB_in g63) dX9_undo_161 (fun τ64 eτ64 H locs h => ?_)
  replace hf := lt_use eτ64 hf
  clear eτ64
  obtain ⟨x65, ex65⟩ : ∃ y : Int32, y = (v1 + (1 : Int32)) := ⟨_, rfl⟩
  refine lv_iinc (v := x65) (lv' := [(1, .int x65), (0, .ref (Ea E 29 0))]) hx hb dX9_undo_162 hl (k := 1) rfl (by rw [ex65]; rfl) (by decide) rfl (fun ls hl => ?_)
  replace hf := lt_use ex65 hf
  clear ex65
  refine lv_goto (tgt := 84) hx hb dX9_undo_165 (by decide) ?_
  exact hk84 _ _ _ _ h ls (lv_sub hl [1, 0] rfl) hf
set_option maxHeartbeats 4000000 in
set_option maxRecDepth 100000 in
theorem w_X9_undo_84L {p : Program} {l : Launch} {e : Env} {s : State} {m : MethodId} {args : Array Value} {below : List Frame} {meth : Method} {c : Code} {E : Ev} {σ : Ms} {ℓ : Mz} {out : Int32 × Mm}   (C : Cx cX9_undo 2 (some .int) wsX9_undo RX9 E p s m args meth c)  : ∀ (n9 : Nat) (τ : Mm) (v1 : Int32) (H : Heap) (locs : List Loc) (h : HI E (va_up σ 29 τ) ℓ s H locs) (ls : Array Slot) (hl : lv_has ls 2 [(0, .ref (Ea E 29 0)), (1, .int v1)]), f_X9_undo_84L   n9 τ v1 = some out → W p l e rm_X9_undo s m args below meth c H locs 0 0 (MQ below (Po E s.heap.size (some (.int out.1)) (va_up σ 29 out.2) ℓ) args s 0 0 (AA E s.heap.size)) (F0 m 84 ls []) := by
  intro n9
  induction n9 with
  | zero =>
    intro τ v1 H locs h ls hl hf
    cases (show (none : Option (Int32 × Mm)) = some out from hf)
  | succ n9 ih =>
    intro τ v1 H locs h ls hl hf
    exact w_X9_undo_84   C  ih τ v1 H locs h ls hl hf
set_option maxHeartbeats 4000000 in
set_option maxRecDepth 100000 in
theorem w_X9_undo_0 {p : Program} {l : Launch} {e : Env} {s : State} {m : MethodId} {args : Array Value} {below : List Frame} {meth : Method} {c : Code} {E : Ev} {σ : Ms} {ℓ : Mz} {out : Int32 × Mm}   (C : Cx cX9_undo 2 (some .int) wsX9_undo RX9 E p s m args meth c)  : ∀ (τ : Mm) (H : Heap) (locs : List Loc) (h : HI E (va_up σ 29 τ) ℓ s H locs) (ls : Array Slot) (hl : lv_has ls 2 [(0, .ref (Ea E 29 0))]), f_X9_undo_0   τ = some out → W p l e rm_X9_undo s m args below meth c H locs 0 0 (MQ below (Po E s.heap.size (some (.int out.1)) (va_up σ 29 out.2) ℓ) args s 0 0 (AA E s.heap.size)) (F0 m 0 ls []) := by
  intro τ H locs h ls hl hf
  unfold f_X9_undo_0 at hf
  have C0 := C
  obtain ⟨hx, hb, hr, hml, hown, hts, hlk, hK, hSF⟩ := C0
  refine lv_aload_n hx hb dX9_undo_0 rfl (lv_at hl 0 rfl) ?_
  refine gf_9_54 C h (rfl : Kd 29 = 9) up_eq inX9_undo_9 lkX9_undo_175 dX9_undo_1 ?_
  refine lv_if_ne (tgt := 10) hx hb dX9_undo_4 (by decide) (fun c1 => ?_) (fun c1 => ?_)
  · replace hf := it_f c1 hf
    refine lv_aload_n hx hb dX9_undo_10 rfl (lv_at hl 0 rfl) ?_
    refine lv_aload_n hx hb dX9_undo_11 rfl (lv_at hl 0 rfl) ?_
    refine gf_9_55 C h (rfl : Kd 29 = 9) up_eq inX9_undo_9 lkX9_undo_179 dX9_undo_12 ?_
    refine pf_9_14 C h (rfl : Kd 29 = 9) up_eq (F := fun t => va_up σ 29 t) (fun _ => up_up) inX9_undo_9 lkX9_undo_53 dX9_undo_15 (fun τ2 eτ2 H locs h => ?_)
    replace hf := lt_use eτ2 hf
    clear eτ2
    refine lv_aload_n hx hb dX9_undo_18 rfl (lv_at hl 0 rfl) ?_
    refine lv_aload_n hx hb dX9_undo_19 rfl (lv_at hl 0 rfl) ?_
    refine gf_9_56 C h (rfl : Kd 29 = 9) up_eq inX9_undo_9 lkX9_undo_182 dX9_undo_20 ?_
    refine pf_9_0 C h (rfl : Kd 29 = 9) up_eq (F := fun t => va_up σ 29 t) (fun _ => up_up) inX9_undo_9 lkX9_undo_7 dX9_undo_23 (fun τ3 eτ3 H locs h => ?_)
    replace hf := lt_use eτ3 hf
    clear eτ3
    refine lv_aload_n hx hb dX9_undo_26 rfl (lv_at hl 0 rfl) ?_
    refine lv_aload_n hx hb dX9_undo_27 rfl (lv_at hl 0 rfl) ?_
    refine gf_9_57 C h (rfl : Kd 29 = 9) up_eq inX9_undo_9 lkX9_undo_185 dX9_undo_28 ?_
    refine pf_9_1 C h (rfl : Kd 29 = 9) up_eq (F := fun t => va_up σ 29 t) (fun _ => up_up) inX9_undo_9 lkX9_undo_13 dX9_undo_31 (fun τ4 eτ4 H locs h => ?_)
    replace hf := lt_use eτ4 hf
    clear eτ4
    refine lv_aload_n hx hb dX9_undo_34 rfl (lv_at hl 0 rfl) ?_
    refine lv_aload_n hx hb dX9_undo_35 rfl (lv_at hl 0 rfl) ?_
    refine gf_9_58 C h (rfl : Kd 29 = 9) up_eq inX9_undo_9 lkX9_undo_188 dX9_undo_36 ?_
    refine pf_9_2 C h (rfl : Kd 29 = 9) up_eq (F := fun t => va_up σ 29 t) (fun _ => up_up) inX9_undo_9 lkX9_undo_16 dX9_undo_39 (fun τ5 eτ5 H locs h => ?_)
    replace hf := lt_use eτ5 hf
    clear eτ5
    refine lv_aload_n hx hb dX9_undo_42 rfl (lv_at hl 0 rfl) ?_
    refine lv_aload_n hx hb dX9_undo_43 rfl (lv_at hl 0 rfl) ?_
    refine gf_9_59 C h (rfl : Kd 29 = 9) up_eq inX9_undo_9 lkX9_undo_191 dX9_undo_44 ?_
    refine pf_9_3 C h (rfl : Kd 29 = 9) up_eq (F := fun t => va_up σ 29 t) (fun _ => up_up) inX9_undo_9 lkX9_undo_19 dX9_undo_47 (fun τ6 eτ6 H locs h => ?_)
    replace hf := lt_use eτ6 hf
    clear eτ6
    refine lv_aload_n hx hb dX9_undo_50 rfl (lv_at hl 0 rfl) ?_
    refine lv_aload_n hx hb dX9_undo_51 rfl (lv_at hl 0 rfl) ?_
    refine gf_9_60 C h (rfl : Kd 29 = 9) up_eq inX9_undo_9 lkX9_undo_194 dX9_undo_52 ?_
    refine pf_9_4 C h (rfl : Kd 29 = 9) up_eq (F := fun t => va_up σ 29 t) (fun _ => up_up) inX9_undo_9 lkX9_undo_22 dX9_undo_55 (fun τ7 eτ7 H locs h => ?_)
    replace hf := lt_use eτ7 hf
    clear eτ7
    refine lv_aload_n hx hb dX9_undo_58 rfl (lv_at hl 0 rfl) ?_
    refine lv_aload_n hx hb dX9_undo_59 rfl (lv_at hl 0 rfl) ?_
    refine gf_9_61 C h (rfl : Kd 29 = 9) up_eq inX9_undo_9 lkX9_undo_197 dX9_undo_60 ?_
    refine pf_9_44 C h (rfl : Kd 29 = 9) up_eq (F := fun t => va_up σ 29 t) (fun _ => up_up) inX9_undo_9 lkX9_undo_145 dX9_undo_63 (fun τ8 eτ8 H locs h => ?_)
    replace hf := lt_use eτ8 hf
    clear eτ8
    refine lv_aload_n hx hb dX9_undo_66 rfl (lv_at hl 0 rfl) ?_
    refine lv_aload_n hx hb dX9_undo_67 rfl (lv_at hl 0 rfl) ?_
    refine gf_9_62 C h (rfl : Kd 29 = 9) up_eq inX9_undo_9 lkX9_undo_200 dX9_undo_68 ?_
    refine pf_9_48 C h (rfl : Kd 29 = 9) up_eq (F := fun t => va_up σ 29 t) (fun _ => up_up) inX9_undo_9 lkX9_undo_157 dX9_undo_71 (fun τ9 eτ9 H locs h => ?_)
    replace hf := lt_use eτ9 hf
    clear eτ9
    refine lv_aload_n hx hb dX9_undo_74 rfl (lv_at hl 0 rfl) ?_
    refine lv_aload_n hx hb dX9_undo_75 rfl (lv_at hl 0 rfl) ?_
    refine gf_9_63 C h (rfl : Kd 29 = 9) up_eq inX9_undo_9 lkX9_undo_203 dX9_undo_76 ?_
    refine pf_9_49 C h (rfl : Kd 29 = 9) up_eq (F := fun t => va_up σ 29 t) (fun _ => up_up) inX9_undo_9 lkX9_undo_160 dX9_undo_79 (fun τ10 eτ10 H locs h => ?_)
    replace hf := lt_use eτ10 hf
    clear eτ10
    refine lv_iconst (v := (0 : Int32)) hx hb dX9_undo_82 (by decide) ?_
    refine lv_istore_n (lv' := [(1, .int (0 : Int32)), (0, .ref (Ea E 29 0))]) hx hb dX9_undo_83 rfl hl (by decide) rfl (fun ls hl => ?_)
    exact w_X9_undo_84L    C  _ _ _ _ _ h ls (lv_sub hl [1, 0] rfl) hf
  replace hf := it_t c1 hf
  refine lv_bipush (v := (-3 : Int32)) hx hb dX9_undo_7 (by decide) ?_
  replace hf := Option.some.inj hf
  subst hf
  exact r_ire C h dX9_undo_9
theorem c_X9_undo {l : Launch} {E : Ev} {σ : Ms} {ℓ : Mz} {τ : Mm} {out : Int32 × Mm} (hf : f_X9_undo τ = some out) : Ct l yX9_undo wsX9_undo rm_X9_undo [.ref (Ea E 29 0)] E (va_up σ 29 τ) ℓ (some (.int out.1)) (va_up σ 29 out.2) ℓ := by
  refine Ct_mk (cc := cX9_undo) (mL := 2) (ret := (some .int)) (own := RX9) (by decide +kernel) rfl rfl (Nat.le_of_ble_eq_true rfl) (fun p e s m below meth c C h ls hl => ?_)
  exact w_X9_undo_0  C τ _ _ h ls (lv_sub hl [0] rfl) hf
theorem k_X9_undo {l : Launch} {E : Ev} {σ : Ms} {ℓ : Mz} {τ : Mm} (hτ : σ 29 = τ) {out : Int32 × Mm} (hf : f_X9_undo τ = some out) : Ct l yX9_undo wsX9_undo rm_X9_undo [.ref (Ea E 29 0)] E σ ℓ (some (.int out.1)) (va_up σ 29 out.2) ℓ := by
  subst hτ
  have h := c_X9_undo (l := l) (E := E) (σ := σ) (ℓ := ℓ)  hf
  rw [up_id σ 29] at h
  exact h
theorem hdX9_body : yX9_body.cls = RX9 ∧ yX9_body.cls ≠ "java/lang/invoke/MethodHandle" ∧ yX9_body.cls ≠ "java/lang/invoke/VarHandle" ∧ (parseMethodDescriptor yX9_body.desc).map (fun d => d.parameters.length) = some 1 := by decide +kernel
def rm_X9_body : Room := { frames := 0, cells := 0, slots := 0, locals := 0 }
set_option maxRecDepth 100000 in
theorem inX9_body_9 : ∀ w ∈ wsX90, w ∈ wsX9_body := fun _ h => List.mem_cons_of_mem _ (List.mem_append_right _ h)
set_option maxRecDepth 100000 in
theorem lkX9_body_251 : Cond.fieldLink RX9 251 "BellsBelowModel" "ran" "I" ∈ wsX9_body := by decide +kernel
set_option maxRecDepth 100000 in
theorem lkX9_body_254 : Cond.fieldLink RX9 254 "BellsBelowModel" "bodies" "[I" ∈ wsX9_body := by decide +kernel
set_option maxHeartbeats 4000000 in
set_option maxRecDepth 100000 in
theorem w_X9_body_19 {p : Program} {l : Launch} {e : Env} {s : State} {m : MethodId} {args : Array Value} {below : List Frame} {meth : Method} {c : Code} {E : Ev} {σ : Ms} {ℓ : Mz} {p0 : Int32} {out : Mm}   (C : Cx cX9_body 2 none wsX9_body RX9 E p s m args meth c)  : ∀ (τ : Mm) (H : Heap) (locs : List Loc) (h : HI E (va_up σ 29 τ) ℓ s H locs) (ls : Array Slot) (hl : lv_has ls 2 [(0, .ref (Ea E 29 0))]), f_X9_body_19 p0  τ = some out → W p l e rm_X9_body s m args below meth c H locs 0 0 (MQ below (Po E s.heap.size none (va_up σ 29 out) ℓ) args s 0 0 (AA E s.heap.size)) (F0 m 19 ls []) := by
  intro τ H locs h ls hl hf
  unfold f_X9_body_19 at hf
  have C0 := C
  obtain ⟨hx, hb, hr, hml, hown, hts, hlk, hK, hSF⟩ := C0
  refine lv_aload_n hx hb dX9_body_19 rfl (lv_at hl 0 rfl) ?_
  refine lv_dup hx hb dX9_body_20 rfl ?_
  refine gf_9_79 C h (rfl : Kd 29 = 9) up_eq inX9_body_9 lkX9_body_251 dX9_body_21 ?_
  refine lv_iconst (v := (1 : Int32)) hx hb dX9_body_24 (by decide) ?_
  refine lv_iadd hx hb dX9_body_25 ?_
  refine pf_9_79 C h (rfl : Kd 29 = 9) up_eq (F := fun t => va_up σ 29 t) (fun _ => up_up) inX9_body_9 lkX9_body_251 dX9_body_26 (fun τ2 eτ2 H locs h => ?_)
  replace hf := lt_use eτ2 hf
  clear eτ2
  replace hf := Option.some.inj hf
  subst hf
  exact r_vre C h dX9_body_29
set_option maxHeartbeats 4000000 in
set_option maxRecDepth 100000 in
theorem w_X9_body_0 {p : Program} {l : Launch} {e : Env} {s : State} {m : MethodId} {args : Array Value} {below : List Frame} {meth : Method} {c : Code} {E : Ev} {σ : Ms} {ℓ : Mz} {p0 : Int32} {out : Mm}   (C : Cx cX9_body 2 none wsX9_body RX9 E p s m args meth c)  : ∀ (τ : Mm) (H : Heap) (locs : List Loc) (h : HI E (va_up σ 29 τ) ℓ s H locs) (ls : Array Slot) (hl : lv_has ls 2 [(0, .ref (Ea E 29 0)), (1, .int p0)]), f_X9_body_0 p0  τ = some out → W p l e rm_X9_body s m args below meth c H locs 0 0 (MQ below (Po E s.heap.size none (va_up σ 29 out) ℓ) args s 0 0 (AA E s.heap.size)) (F0 m 0 ls []) := by
  intro τ H locs h ls hl hf
  unfold f_X9_body_0 at hf
  have C0 := C
  obtain ⟨hx, hb, hr, hml, hown, hts, hlk, hK, hSF⟩ := C0
  refine lv_aload_n hx hb dX9_body_0 rfl (lv_at hl 0 rfl) ?_
  refine gf_9_79 C h (rfl : Kd 29 = 9) up_eq inX9_body_9 lkX9_body_251 dX9_body_1 ?_
  refine lv_bipush (v := (20 : Int32)) hx hb dX9_body_4 (by decide) ?_
  refine lv_icmp_ge (tgt := 19) hx hb dX9_body_6 (by decide) (fun c1 => ?_) (fun c1 => ?_)
  · replace hf := it_t c1 hf
    exact w_X9_body_19    C  _ _ _ h ls (lv_sub hl [0] rfl) hf
  replace hf := it_f c1 hf
  refine lv_aload_n hx hb dX9_body_9 rfl (lv_at hl 0 rfl) ?_
  refine gf_9_80 C h (rfl : Kd 29 = 9) up_eq inX9_body_9 lkX9_body_254 dX9_body_10 ?_
  refine lv_aload_n hx hb dX9_body_13 rfl (lv_at hl 0 rfl) ?_
  refine gf_9_79 C h (rfl : Kd 29 = 9) up_eq inX9_body_9 lkX9_body_251 dX9_body_14 ?_
  refine lv_iload_n hx hb dX9_body_17 rfl (lv_at hl 1 rfl) ?_
  obtain ⟨g3, hf⟩ := gd_use hf
  refine sa_9_48 C h (rfl : Kd 29 = 9) up_eq (F := fun t => va_up σ 29 t) (fun _ => up_up) (inB_in g3) dX9_body_18 (fun τ4 eτ4 H locs h => ?_)
  replace hf := lt_use eτ4 hf
  clear eτ4
  exact w_X9_body_19    C  _ _ _ h ls (lv_sub hl [0] rfl) hf
theorem c_X9_body {l : Launch} {E : Ev} {σ : Ms} {ℓ : Mz} {τ : Mm} {p0 : Int32} {out : Mm} (hf : f_X9_body τ p0 = some out) : Ct l yX9_body wsX9_body rm_X9_body [.ref (Ea E 29 0), .int p0] E (va_up σ 29 τ) ℓ none (va_up σ 29 out) ℓ := by
  refine Ct_mk (cc := cX9_body) (mL := 2) (ret := none) (own := RX9) (by decide +kernel) rfl rfl (Nat.le_of_ble_eq_true rfl) (fun p e s m below meth c C h ls hl => ?_)
  exact w_X9_body_0  C τ _ _ h ls (lv_sub hl [0, 1] rfl) hf
theorem k_X9_body {l : Launch} {E : Ev} {σ : Ms} {ℓ : Mz} {τ : Mm} {p0 : Int32} (hτ : σ 29 = τ) {out : Mm} (hf : f_X9_body τ p0 = some out) : Ct l yX9_body wsX9_body rm_X9_body [.ref (Ea E 29 0), .int p0] E σ ℓ none (va_up σ 29 out) ℓ := by
  subst hτ
  have h := c_X9_body (l := l) (E := E) (σ := σ) (ℓ := ℓ)  hf
  rw [up_id σ 29] at h
  exact h
theorem hdX9_masterClimbs : yX9_masterClimbs.cls = RX9 ∧ yX9_masterClimbs.cls ≠ "java/lang/invoke/MethodHandle" ∧ yX9_masterClimbs.cls ≠ "java/lang/invoke/VarHandle" ∧ (parseMethodDescriptor yX9_masterClimbs.desc).map (fun d => d.parameters.length) = some 2 := by decide +kernel
def rm_X9_masterClimbs : Room := { frames := 1, cells := 0, slots := 0, locals := 21 }
set_option maxHeartbeats 4000000 in
set_option maxRecDepth 100000 in
theorem w_X9_masterClimbs_0 {p : Program} {l : Launch} {e : Env} {s : State} {m : MethodId} {args : Array Value} {below : List Frame} {meth : Method} {c : Code} {E : Ev} {σ : Ms} {ℓ : Mz} {p0 : Int32} {p1 : Int32} {out : Int32 × Mm}   (C : Cx cX9_masterClimbs 3 (some .int) wsX9_masterClimbs RX9 E p s m args meth c)  : ∀ (τ : Mm) (H : Heap) (locs : List Loc) (h : HI E (va_up σ 29 τ) ℓ s H locs) (ls : Array Slot) (hl : lv_has ls 3 [(0, .ref (Ea E 29 0)), (1, .int p0), (2, .int p1)]), f_X9_masterClimbs_0 p0 p1  τ = some out → W p l e rm_X9_masterClimbs s m args below meth c H locs 0 0 (MQ below (Po E s.heap.size (some (.int out.1)) (va_up σ 29 out.2) ℓ) args s 0 0 (AA E s.heap.size)) (F0 m 0 ls []) := by
  intro τ H locs h ls hl hf
  unfold f_X9_masterClimbs_0 at hf
  have C0 := C
  obtain ⟨hx, hb, hr, hml, hown, hts, hlk, hK, hSF⟩ := C0
  refine lv_aload_n hx hb dX9_masterClimbs_0 rfl (lv_at hl 0 rfl) ?_
  refine lv_bipush (v := (10 : Int32)) hx hb dX9_masterClimbs_1 (by decide) ?_
  obtain ⟨u1, hu1, hf⟩ := bd_use hf
  refine r_cv_9 (rest := []) C h (c_X9_body  hu1) (rfl : Kd 29 = 9) gX9_masterClimbs_X9_body rfl ⟨rfl, rfl⟩ hdX9_body ⟨Nat.le_of_ble_eq_true rfl, Nat.le_of_ble_eq_true rfl⟩ ⟨Nat.zero_le _, Nat.zero_le _⟩ hl.1 rfl (Nat.le_of_ble_eq_true rfl) dX9_masterClimbs_3 (fun H locs h => ?_)
  refine lv_iload_n hx hb dX9_masterClimbs_6 rfl (lv_at hl 2 rfl) ?_
  refine lv_iload_n hx hb dX9_masterClimbs_7 rfl (lv_at hl 1 rfl) ?_
  refine lv_iadd hx hb dX9_masterClimbs_8 ?_
  replace hf := Option.some.inj hf
  subst hf
  exact r_ire C h dX9_masterClimbs_9
theorem c_X9_masterClimbs {l : Launch} {E : Ev} {σ : Ms} {ℓ : Mz} {τ : Mm} {p0 : Int32} {p1 : Int32} {out : Int32 × Mm} (hf : f_X9_masterClimbs τ p0 p1 = some out) : Ct l yX9_masterClimbs wsX9_masterClimbs rm_X9_masterClimbs [.ref (Ea E 29 0), .int p0, .int p1] E (va_up σ 29 τ) ℓ (some (.int out.1)) (va_up σ 29 out.2) ℓ := by
  refine Ct_mk (cc := cX9_masterClimbs) (mL := 3) (ret := (some .int)) (own := RX9) (by decide +kernel) rfl rfl (Nat.le_of_ble_eq_true rfl) (fun p e s m below meth c C h ls hl => ?_)
  exact w_X9_masterClimbs_0  C τ _ _ h ls (lv_sub hl [0, 1, 2] rfl) hf
theorem k_X9_masterClimbs {l : Launch} {E : Ev} {σ : Ms} {ℓ : Mz} {τ : Mm} {p0 : Int32} {p1 : Int32} (hτ : σ 29 = τ) {out : Int32 × Mm} (hf : f_X9_masterClimbs τ p0 p1 = some out) : Ct l yX9_masterClimbs wsX9_masterClimbs rm_X9_masterClimbs [.ref (Ea E 29 0), .int p0, .int p1] E σ ℓ (some (.int out.1)) (va_up σ 29 out.2) ℓ := by
  subst hτ
  have h := c_X9_masterClimbs (l := l) (E := E) (σ := σ) (ℓ := ℓ)  hf
  rw [up_id σ 29] at h
  exact h
theorem hdX9_climbsAct : yX9_climbsAct.cls = RX9 ∧ yX9_climbsAct.cls ≠ "java/lang/invoke/MethodHandle" ∧ yX9_climbsAct.cls ≠ "java/lang/invoke/VarHandle" ∧ (parseMethodDescriptor yX9_climbsAct.desc).map (fun d => d.parameters.length) = some 2 := by decide +kernel
def rm_X9_climbsAct : Room := { frames := 2, cells := 0, slots := 0, locals := 43 }
set_option maxRecDepth 100000 in
theorem inX9_climbsAct_9 : ∀ w ∈ wsX90, w ∈ wsX9_climbsAct := fun _ h => List.mem_cons_of_mem _ (List.mem_append_right _ h)
set_option maxRecDepth 100000 in
theorem lkX9_climbsAct_25 : Cond.fieldLink RX9 25 "BellsBelowModel" "kind" "[I" ∈ wsX9_climbsAct := by decide +kernel
set_option maxRecDepth 100000 in
theorem lkX9_climbsAct_29 : Cond.fieldLink RX9 29 "BellsBelowModel" "v" "[I" ∈ wsX9_climbsAct := by decide +kernel
set_option maxHeartbeats 4000000 in
set_option maxRecDepth 100000 in
theorem w_X9_climbsAct_40 {p : Program} {l : Launch} {e : Env} {s : State} {m : MethodId} {args : Array Value} {below : List Frame} {meth : Method} {c : Code} {E : Ev} {σ : Ms} {ℓ : Mz} {p0 : Int32} {p1 : Int32} {out : Int32 × Mm}   (C : Cx cX9_climbsAct 3 (some .int) wsX9_climbsAct RX9 E p s m args meth c)  : ∀ (τ : Mm) (H : Heap) (locs : List Loc) (h : HI E (va_up σ 29 τ) ℓ s H locs) (ls : Array Slot) (hl : lv_has ls 3 [(0, .ref (Ea E 29 0)), (1, .int p0), (2, .int p1)]), f_X9_climbsAct_40 p0 p1  τ = some out → W p l e rm_X9_climbsAct s m args below meth c H locs 0 0 (MQ below (Po E s.heap.size (some (.int out.1)) (va_up σ 29 out.2) ℓ) args s 0 0 (AA E s.heap.size)) (F0 m 40 ls []) := by
  intro τ H locs h ls hl hf
  unfold f_X9_climbsAct_40 at hf
  have C0 := C
  obtain ⟨hx, hb, hr, hml, hown, hts, hlk, hK, hSF⟩ := C0
  refine lv_aload_n hx hb dX9_climbsAct_40 rfl (lv_at hl 0 rfl) ?_
  refine lv_bipush (v := (30 : Int32)) hx hb dX9_climbsAct_41 (by decide) ?_
  obtain ⟨u3, hu3, hf⟩ := bd_use hf
  refine r_cv_9 (rest := []) C h (c_X9_body  hu3) (rfl : Kd 29 = 9) gX9_climbsAct_X9_body rfl ⟨rfl, rfl⟩ hdX9_body ⟨Nat.le_of_ble_eq_true rfl, Nat.le_of_ble_eq_true rfl⟩ ⟨Nat.zero_le _, Nat.zero_le _⟩ hl.1 rfl (Nat.le_of_ble_eq_true rfl) dX9_climbsAct_43 (fun H locs h => ?_)
  refine lv_aload_n hx hb dX9_climbsAct_46 rfl (lv_at hl 0 rfl) ?_
  refine lv_iload_n hx hb dX9_climbsAct_47 rfl (lv_at hl 1 rfl) ?_
  refine lv_iload_n hx hb dX9_climbsAct_48 rfl (lv_at hl 2 rfl) ?_
  refine lv_iconst (v := (3 : Int32)) hx hb dX9_climbsAct_49 (by decide) ?_
  refine lv_imul hx hb dX9_climbsAct_50 ?_
  obtain ⟨u4, hu4, hf⟩ := bd_use hf
  refine r_cv_9 (rest := []) C h (c_X9_masterClimbs  hu4) (rfl : Kd 29 = 9) gX9_climbsAct_X9_masterClimbs rfl ⟨rfl, rfl⟩ hdX9_masterClimbs ⟨Nat.le_of_ble_eq_true rfl, Nat.le_of_ble_eq_true rfl⟩ ⟨Nat.zero_le _, Nat.zero_le _⟩ hl.1 rfl (Nat.le_of_ble_eq_true rfl) dX9_climbsAct_51 (fun H locs h => ?_)
  replace hf := Option.some.inj hf
  subst hf
  exact r_ire C h dX9_climbsAct_54
set_option maxHeartbeats 4000000 in
set_option maxRecDepth 100000 in
theorem w_X9_climbsAct_89 {p : Program} {l : Launch} {e : Env} {s : State} {m : MethodId} {args : Array Value} {below : List Frame} {meth : Method} {c : Code} {E : Ev} {σ : Ms} {ℓ : Mz} {p0 : Int32} {p1 : Int32} {out : Int32 × Mm}   (C : Cx cX9_climbsAct 3 (some .int) wsX9_climbsAct RX9 E p s m args meth c)  : ∀ (τ : Mm) (H : Heap) (locs : List Loc) (h : HI E (va_up σ 29 τ) ℓ s H locs) (ls : Array Slot) (hl : lv_has ls 3 [(0, .ref (Ea E 29 0)), (1, .int p0), (2, .int p1)]), f_X9_climbsAct_89 p0 p1  τ = some out → W p l e rm_X9_climbsAct s m args below meth c H locs 0 0 (MQ below (Po E s.heap.size (some (.int out.1)) (va_up σ 29 out.2) ℓ) args s 0 0 (AA E s.heap.size)) (F0 m 89 ls []) := by
  intro τ H locs h ls hl hf
  unfold f_X9_climbsAct_89 at hf
  have C0 := C
  obtain ⟨hx, hb, hr, hml, hown, hts, hlk, hK, hSF⟩ := C0
  refine lv_aload_n hx hb dX9_climbsAct_89 rfl (lv_at hl 0 rfl) ?_
  refine lv_iload_n hx hb dX9_climbsAct_90 rfl (lv_at hl 1 rfl) ?_
  refine lv_iload_n hx hb dX9_climbsAct_91 rfl (lv_at hl 2 rfl) ?_
  obtain ⟨u6, hu6, hf⟩ := bd_use hf
  refine r_cv_9 (rest := []) C h (c_X9_masterClimbs  hu6) (rfl : Kd 29 = 9) gX9_climbsAct_X9_masterClimbs rfl ⟨rfl, rfl⟩ hdX9_masterClimbs ⟨Nat.le_of_ble_eq_true rfl, Nat.le_of_ble_eq_true rfl⟩ ⟨Nat.zero_le _, Nat.zero_le _⟩ hl.1 rfl (Nat.le_of_ble_eq_true rfl) dX9_climbsAct_92 (fun H locs h => ?_)
  replace hf := Option.some.inj hf
  subst hf
  exact r_ire C h dX9_climbsAct_95
set_option maxHeartbeats 4000000 in
set_option maxRecDepth 100000 in
theorem w_X9_climbsAct_0 {p : Program} {l : Launch} {e : Env} {s : State} {m : MethodId} {args : Array Value} {below : List Frame} {meth : Method} {c : Code} {E : Ev} {σ : Ms} {ℓ : Mz} {p0 : Int32} {p1 : Int32} {out : Int32 × Mm}   (C : Cx cX9_climbsAct 3 (some .int) wsX9_climbsAct RX9 E p s m args meth c)  : ∀ (τ : Mm) (H : Heap) (locs : List Loc) (h : HI E (va_up σ 29 τ) ℓ s H locs) (ls : Array Slot) (hl : lv_has ls 3 [(0, .ref (Ea E 29 0)), (1, .int p0), (2, .int p1)]), f_X9_climbsAct_0 p0 p1  τ = some out → W p l e rm_X9_climbsAct s m args below meth c H locs 0 0 (MQ below (Po E s.heap.size (some (.int out.1)) (va_up σ 29 out.2) ℓ) args s 0 0 (AA E s.heap.size)) (F0 m 0 ls []) := by
  intro τ H locs h ls hl hf
  unfold f_X9_climbsAct_0 at hf
  have C0 := C
  obtain ⟨hx, hb, hr, hml, hown, hts, hlk, hK, hSF⟩ := C0
  refine lv_aload_n hx hb dX9_climbsAct_0 rfl (lv_at hl 0 rfl) ?_
  refine gf_9_5 C h (rfl : Kd 29 = 9) up_eq inX9_climbsAct_9 lkX9_climbsAct_25 dX9_climbsAct_1 ?_
  refine lv_iload_n hx hb dX9_climbsAct_4 rfl (lv_at hl 1 rfl) ?_
  obtain ⟨g1, hf⟩ := gd_use hf
  refine ld_9_1 C h (rfl : Kd 29 = 9) up_eq (inB_in g1) dX9_climbsAct_5 ?_
  by_cases c2 : (τ 5 p0.toNatClampNeg) = (2 : Int32)
  · replace hf := it_t c2 hf
    refine r_tin (v := (2 : Int32)) (off := 34) (tgt := 40) hx hb c2 dX9_climbsAct_6 (by decide) (by decide) (by decide) (by decide) ?_
    exact w_X9_climbsAct_40    C  _ _ _ h ls (lv_sub hl [0, 1, 2] rfl) hf
  replace hf := it_f c2 hf
  by_cases c5 : (τ 5 p0.toNatClampNeg) = (3 : Int32)
  · replace hf := it_t c5 hf
    refine r_tin (v := (3 : Int32)) (off := 83) (tgt := 89) hx hb c5 dX9_climbsAct_6 (by decide) (by decide) (by decide) (by decide) ?_
    exact w_X9_climbsAct_89    C  _ _ _ h ls (lv_sub hl [0, 1, 2] rfl) hf
  replace hf := it_f c5 hf
  by_cases c7 : (τ 5 p0.toNatClampNeg) = (4 : Int32)
  · replace hf := it_t c7 hf
    refine r_tin (v := (4 : Int32)) (off := 49) (tgt := 55) hx hb c7 dX9_climbsAct_6 (by decide) (by decide) (by decide) (by decide) ?_
    refine lv_aload_n hx hb dX9_climbsAct_55 rfl (lv_at hl 0 rfl) ?_
    refine lv_bipush (v := (50 : Int32)) hx hb dX9_climbsAct_56 (by decide) ?_
    obtain ⟨u8, hu8, hf⟩ := bd_use hf
    refine r_cv_9 (rest := []) C h (c_X9_body  hu8) (rfl : Kd 29 = 9) gX9_climbsAct_X9_body rfl ⟨rfl, rfl⟩ hdX9_body ⟨Nat.le_of_ble_eq_true rfl, Nat.le_of_ble_eq_true rfl⟩ ⟨Nat.zero_le _, Nat.zero_le _⟩ hl.1 rfl (Nat.le_of_ble_eq_true rfl) dX9_climbsAct_58 (fun H locs h => ?_)
    refine lv_aload_n hx hb dX9_climbsAct_61 rfl (lv_at hl 0 rfl) ?_
    refine lv_iload_n hx hb dX9_climbsAct_62 rfl (lv_at hl 1 rfl) ?_
    refine lv_iload_n hx hb dX9_climbsAct_63 rfl (lv_at hl 2 rfl) ?_
    obtain ⟨u9, hu9, hf⟩ := bd_use hf
    refine r_cv_9 (rest := []) C h (c_X9_masterClimbs  hu9) (rfl : Kd 29 = 9) gX9_climbsAct_X9_masterClimbs rfl ⟨rfl, rfl⟩ hdX9_masterClimbs ⟨Nat.le_of_ble_eq_true rfl, Nat.le_of_ble_eq_true rfl⟩ ⟨Nat.zero_le _, Nat.zero_le _⟩ hl.1 rfl (Nat.le_of_ble_eq_true rfl) dX9_climbsAct_64 (fun H locs h => ?_)
    refine lv_ineg hx hb dX9_climbsAct_67 ?_
    replace hf := Option.some.inj hf
    subst hf
    exact r_ire C h dX9_climbsAct_68
  replace hf := it_f c7 hf
  by_cases c10 : (τ 5 p0.toNatClampNeg) = (5 : Int32)
  · replace hf := it_t c10 hf
    refine r_tin (v := (5 : Int32)) (off := 34) (tgt := 40) hx hb c10 dX9_climbsAct_6 (by decide) (by decide) (by decide) (by decide) ?_
    exact w_X9_climbsAct_40    C  _ _ _ h ls (lv_sub hl [0, 1, 2] rfl) hf
  replace hf := it_f c10 hf
  by_cases c11 : (τ 5 p0.toNatClampNeg) = (6 : Int32)
  · replace hf := it_t c11 hf
    refine r_tin (v := (6 : Int32)) (off := 63) (tgt := 69) hx hb c11 dX9_climbsAct_6 (by decide) (by decide) (by decide) (by decide) ?_
    refine lv_aload_n hx hb dX9_climbsAct_69 rfl (lv_at hl 0 rfl) ?_
    refine lv_bipush (v := (71 : Int32)) hx hb dX9_climbsAct_70 (by decide) ?_
    obtain ⟨u12, hu12, hf⟩ := bd_use hf
    refine r_cv_9 (rest := []) C h (c_X9_body  hu12) (rfl : Kd 29 = 9) gX9_climbsAct_X9_body rfl ⟨rfl, rfl⟩ hdX9_body ⟨Nat.le_of_ble_eq_true rfl, Nat.le_of_ble_eq_true rfl⟩ ⟨Nat.zero_le _, Nat.zero_le _⟩ hl.1 rfl (Nat.le_of_ble_eq_true rfl) dX9_climbsAct_72 (fun H locs h => ?_)
    refine lv_aload_n hx hb dX9_climbsAct_75 rfl (lv_at hl 0 rfl) ?_
    refine lv_iload_n hx hb dX9_climbsAct_76 rfl (lv_at hl 1 rfl) ?_
    refine lv_iload_n hx hb dX9_climbsAct_77 rfl (lv_at hl 2 rfl) ?_
    obtain ⟨u13, hu13, hf⟩ := bd_use hf
    refine r_cv_9 (rest := []) C h (c_X9_masterClimbs  hu13) (rfl : Kd 29 = 9) gX9_climbsAct_X9_masterClimbs rfl ⟨rfl, rfl⟩ hdX9_masterClimbs ⟨Nat.le_of_ble_eq_true rfl, Nat.le_of_ble_eq_true rfl⟩ ⟨Nat.zero_le _, Nat.zero_le _⟩ hl.1 rfl (Nat.le_of_ble_eq_true rfl) dX9_climbsAct_78 (fun H locs h => ?_)
    refine lv_aload_n hx hb dX9_climbsAct_81 rfl (lv_at hl 0 rfl) ?_
    refine gf_9_6 C h (rfl : Kd 29 = 9) up_eq inX9_climbsAct_9 lkX9_climbsAct_29 dX9_climbsAct_82 ?_
    refine lv_iload_n hx hb dX9_climbsAct_85 rfl (lv_at hl 1 rfl) ?_
    obtain ⟨g14, hf⟩ := gd_use hf
    refine ld_9_2 C h (rfl : Kd 29 = 9) up_eq (inB_in g14) dX9_climbsAct_86 ?_
    refine lv_ixor hx hb dX9_climbsAct_87 ?_
    replace hf := Option.some.inj hf
    subst hf
    exact r_ire C h dX9_climbsAct_88
  replace hf := it_f c11 hf
  refine lv_tableOut (tgt := 89) hx hb dX9_climbsAct_6 (tsw_out [2, 3, 4, 5, 6] (List.forall_mem_cons.mpr ⟨c2, (List.forall_mem_cons.mpr ⟨c5, (List.forall_mem_cons.mpr ⟨c7, (List.forall_mem_cons.mpr ⟨c10, (List.forall_mem_cons.mpr ⟨c11, (fun _ h => absurd h List.not_mem_nil)⟩)⟩)⟩)⟩)⟩) rfl) (by decide) ?_
  exact w_X9_climbsAct_89    C  _ _ _ h ls (lv_sub hl [0, 1, 2] rfl) hf
theorem c_X9_climbsAct {l : Launch} {E : Ev} {σ : Ms} {ℓ : Mz} {τ : Mm} {p0 : Int32} {p1 : Int32} {out : Int32 × Mm} (hf : f_X9_climbsAct τ p0 p1 = some out) : Ct l yX9_climbsAct wsX9_climbsAct rm_X9_climbsAct [.ref (Ea E 29 0), .int p0, .int p1] E (va_up σ 29 τ) ℓ (some (.int out.1)) (va_up σ 29 out.2) ℓ := by
  refine Ct_mk (cc := cX9_climbsAct) (mL := 3) (ret := (some .int)) (own := RX9) (by decide +kernel) rfl rfl (Nat.le_of_ble_eq_true rfl) (fun p e s m below meth c C h ls hl => ?_)
  exact w_X9_climbsAct_0  C τ _ _ h ls (lv_sub hl [0, 1, 2] rfl) hf
theorem k_X9_climbsAct {l : Launch} {E : Ev} {σ : Ms} {ℓ : Mz} {τ : Mm} {p0 : Int32} {p1 : Int32} (hτ : σ 29 = τ) {out : Int32 × Mm} (hf : f_X9_climbsAct τ p0 p1 = some out) : Ct l yX9_climbsAct wsX9_climbsAct rm_X9_climbsAct [.ref (Ea E 29 0), .int p0, .int p1] E σ ℓ (some (.int out.1)) (va_up σ 29 out.2) ℓ := by
  subst hτ
  have h := c_X9_climbsAct (l := l) (E := E) (σ := σ) (ℓ := ℓ)  hf
  rw [up_id σ 29] at h
  exact h
theorem hdX9_masterYawns : yX9_masterYawns.cls = RX9 ∧ yX9_masterYawns.cls ≠ "java/lang/invoke/MethodHandle" ∧ yX9_masterYawns.cls ≠ "java/lang/invoke/VarHandle" ∧ (parseMethodDescriptor yX9_masterYawns.desc).map (fun d => d.parameters.length) = some 2 := by decide +kernel
def rm_X9_masterYawns : Room := { frames := 3, cells := 0, slots := 0, locals := 65 }
set_option maxRecDepth 100000 in
theorem inX9_masterYawns_9 : ∀ w ∈ wsX90, w ∈ wsX9_masterYawns := fun _ h => List.mem_cons_of_mem _ (List.mem_append_right _ h)
set_option maxRecDepth 100000 in
theorem lkX9_masterYawns_29 : Cond.fieldLink RX9 29 "BellsBelowModel" "v" "[I" ∈ wsX9_masterYawns := by decide +kernel
set_option maxHeartbeats 4000000 in
set_option maxRecDepth 100000 in
theorem w_X9_masterYawns_0 {p : Program} {l : Launch} {e : Env} {s : State} {m : MethodId} {args : Array Value} {below : List Frame} {meth : Method} {c : Code} {E : Ev} {σ : Ms} {ℓ : Mz} {p0 : Int32} {p1 : Int32} {out : Int32 × Mm}   (C : Cx cX9_masterYawns 3 (some .int) wsX9_masterYawns RX9 E p s m args meth c)  : ∀ (τ : Mm) (H : Heap) (locs : List Loc) (h : HI E (va_up σ 29 τ) ℓ s H locs) (ls : Array Slot) (hl : lv_has ls 3 [(0, .ref (Ea E 29 0)), (1, .int p0), (2, .int p1)]), f_X9_masterYawns_0 p0 p1  τ = some out → W p l e rm_X9_masterYawns s m args below meth c H locs 0 0 (MQ below (Po E s.heap.size (some (.int out.1)) (va_up σ 29 out.2) ℓ) args s 0 0 (AA E s.heap.size)) (F0 m 0 ls []) := by
  intro τ H locs h ls hl hf
  unfold f_X9_masterYawns_0 at hf
  have C0 := C
  obtain ⟨hx, hb, hr, hml, hown, hts, hlk, hK, hSF⟩ := C0
  refine lv_aload_n hx hb dX9_masterYawns_0 rfl (lv_at hl 0 rfl) ?_
  refine lv_bipush (v := (11 : Int32)) hx hb dX9_masterYawns_1 (by decide) ?_
  obtain ⟨u1, hu1, hf⟩ := bd_use hf
  refine r_cv_9 (rest := []) C h (c_X9_body  hu1) (rfl : Kd 29 = 9) gX9_masterYawns_X9_body rfl ⟨rfl, rfl⟩ hdX9_body ⟨Nat.le_of_ble_eq_true rfl, Nat.le_of_ble_eq_true rfl⟩ ⟨Nat.zero_le _, Nat.zero_le _⟩ hl.1 rfl (Nat.le_of_ble_eq_true rfl) dX9_masterYawns_3 (fun H locs h => ?_)
  refine lv_aload_n hx hb dX9_masterYawns_6 rfl (lv_at hl 0 rfl) ?_
  refine lv_iload_n hx hb dX9_masterYawns_7 rfl (lv_at hl 1 rfl) ?_
  refine lv_iload_n hx hb dX9_masterYawns_8 rfl (lv_at hl 2 rfl) ?_
  obtain ⟨u2, hu2, hf⟩ := bd_use hf
  refine r_cv_9 (rest := []) C h (c_X9_climbsAct  hu2) (rfl : Kd 29 = 9) gX9_masterYawns_X9_climbsAct rfl ⟨rfl, rfl⟩ hdX9_climbsAct ⟨Nat.le_of_ble_eq_true rfl, Nat.le_of_ble_eq_true rfl⟩ ⟨Nat.zero_le _, Nat.zero_le _⟩ hl.1 rfl (Nat.le_of_ble_eq_true rfl) dX9_masterYawns_9 (fun H locs h => ?_)
  refine lv_aload_n hx hb dX9_masterYawns_12 rfl (lv_at hl 0 rfl) ?_
  refine gf_9_6 C h (rfl : Kd 29 = 9) up_eq inX9_masterYawns_9 lkX9_masterYawns_29 dX9_masterYawns_13 ?_
  refine lv_iload_n hx hb dX9_masterYawns_16 rfl (lv_at hl 1 rfl) ?_
  obtain ⟨g3, hf⟩ := gd_use hf
  refine ld_9_2 C h (rfl : Kd 29 = 9) up_eq (inB_in g3) dX9_masterYawns_17 ?_
  refine lv_isub hx hb dX9_masterYawns_18 ?_
  replace hf := Option.some.inj hf
  subst hf
  exact r_ire C h dX9_masterYawns_19
theorem c_X9_masterYawns {l : Launch} {E : Ev} {σ : Ms} {ℓ : Mz} {τ : Mm} {p0 : Int32} {p1 : Int32} {out : Int32 × Mm} (hf : f_X9_masterYawns τ p0 p1 = some out) : Ct l yX9_masterYawns wsX9_masterYawns rm_X9_masterYawns [.ref (Ea E 29 0), .int p0, .int p1] E (va_up σ 29 τ) ℓ (some (.int out.1)) (va_up σ 29 out.2) ℓ := by
  refine Ct_mk (cc := cX9_masterYawns) (mL := 3) (ret := (some .int)) (own := RX9) (by decide +kernel) rfl rfl (Nat.le_of_ble_eq_true rfl) (fun p e s m below meth c C h ls hl => ?_)
  exact w_X9_masterYawns_0  C τ _ _ h ls (lv_sub hl [0, 1, 2] rfl) hf
theorem k_X9_masterYawns {l : Launch} {E : Ev} {σ : Ms} {ℓ : Mz} {τ : Mm} {p0 : Int32} {p1 : Int32} (hτ : σ 29 = τ) {out : Int32 × Mm} (hf : f_X9_masterYawns τ p0 p1 = some out) : Ct l yX9_masterYawns wsX9_masterYawns rm_X9_masterYawns [.ref (Ea E 29 0), .int p0, .int p1] E σ ℓ (some (.int out.1)) (va_up σ 29 out.2) ℓ := by
  subst hτ
  have h := c_X9_masterYawns (l := l) (E := E) (σ := σ) (ℓ := ℓ)  hf
  rw [up_id σ 29] at h
  exact h
theorem hdX9_dukeYawns : yX9_dukeYawns.cls = RX9 ∧ yX9_dukeYawns.cls ≠ "java/lang/invoke/MethodHandle" ∧ yX9_dukeYawns.cls ≠ "java/lang/invoke/VarHandle" ∧ (parseMethodDescriptor yX9_dukeYawns.desc).map (fun d => d.parameters.length) = some 2 := by decide +kernel
def rm_X9_dukeYawns : Room := { frames := 4, cells := 0, slots := 0, locals := 87 }
set_option maxHeartbeats 4000000 in
set_option maxRecDepth 100000 in
theorem w_X9_dukeYawns_0 {p : Program} {l : Launch} {e : Env} {s : State} {m : MethodId} {args : Array Value} {below : List Frame} {meth : Method} {c : Code} {E : Ev} {σ : Ms} {ℓ : Mz} {p0 : Int32} {p1 : Int32} {out : Int32 × Mm}   (C : Cx cX9_dukeYawns 3 (some .int) wsX9_dukeYawns RX9 E p s m args meth c)  : ∀ (τ : Mm) (H : Heap) (locs : List Loc) (h : HI E (va_up σ 29 τ) ℓ s H locs) (ls : Array Slot) (hl : lv_has ls 3 [(0, .ref (Ea E 29 0)), (1, .int p0), (2, .int p1)]), f_X9_dukeYawns_0 p0 p1  τ = some out → W p l e rm_X9_dukeYawns s m args below meth c H locs 0 0 (MQ below (Po E s.heap.size (some (.int out.1)) (va_up σ 29 out.2) ℓ) args s 0 0 (AA E s.heap.size)) (F0 m 0 ls []) := by
  intro τ H locs h ls hl hf
  unfold f_X9_dukeYawns_0 at hf
  have C0 := C
  obtain ⟨hx, hb, hr, hml, hown, hts, hlk, hK, hSF⟩ := C0
  refine lv_aload_n hx hb dX9_dukeYawns_0 rfl (lv_at hl 0 rfl) ?_
  refine lv_bipush (v := (20 : Int32)) hx hb dX9_dukeYawns_1 (by decide) ?_
  obtain ⟨u1, hu1, hf⟩ := bd_use hf
  refine r_cv_9 (rest := []) C h (c_X9_body  hu1) (rfl : Kd 29 = 9) gX9_dukeYawns_X9_body rfl ⟨rfl, rfl⟩ hdX9_body ⟨Nat.le_of_ble_eq_true rfl, Nat.le_of_ble_eq_true rfl⟩ ⟨Nat.zero_le _, Nat.zero_le _⟩ hl.1 rfl (Nat.le_of_ble_eq_true rfl) dX9_dukeYawns_3 (fun H locs h => ?_)
  refine lv_aload_n hx hb dX9_dukeYawns_6 rfl (lv_at hl 0 rfl) ?_
  refine lv_iload_n hx hb dX9_dukeYawns_7 rfl (lv_at hl 1 rfl) ?_
  refine lv_iload_n hx hb dX9_dukeYawns_8 rfl (lv_at hl 2 rfl) ?_
  obtain ⟨u2, hu2, hf⟩ := bd_use hf
  refine r_cv_9 (rest := []) C h (c_X9_masterYawns  hu2) (rfl : Kd 29 = 9) gX9_dukeYawns_X9_masterYawns rfl ⟨rfl, rfl⟩ hdX9_masterYawns ⟨Nat.le_of_ble_eq_true rfl, Nat.le_of_ble_eq_true rfl⟩ ⟨Nat.zero_le _, Nat.zero_le _⟩ hl.1 rfl (Nat.le_of_ble_eq_true rfl) dX9_dukeYawns_9 (fun H locs h => ?_)
  refine lv_bipush (v := (6 : Int32)) hx hb dX9_dukeYawns_12 (by decide) ?_
  refine lv_ixor hx hb dX9_dukeYawns_14 ?_
  replace hf := Option.some.inj hf
  subst hf
  exact r_ire C h dX9_dukeYawns_15
theorem c_X9_dukeYawns {l : Launch} {E : Ev} {σ : Ms} {ℓ : Mz} {τ : Mm} {p0 : Int32} {p1 : Int32} {out : Int32 × Mm} (hf : f_X9_dukeYawns τ p0 p1 = some out) : Ct l yX9_dukeYawns wsX9_dukeYawns rm_X9_dukeYawns [.ref (Ea E 29 0), .int p0, .int p1] E (va_up σ 29 τ) ℓ (some (.int out.1)) (va_up σ 29 out.2) ℓ := by
  refine Ct_mk (cc := cX9_dukeYawns) (mL := 3) (ret := (some .int)) (own := RX9) (by decide +kernel) rfl rfl (Nat.le_of_ble_eq_true rfl) (fun p e s m below meth c C h ls hl => ?_)
  exact w_X9_dukeYawns_0  C τ _ _ h ls (lv_sub hl [0, 1, 2] rfl) hf
theorem k_X9_dukeYawns {l : Launch} {E : Ev} {σ : Ms} {ℓ : Mz} {τ : Mm} {p0 : Int32} {p1 : Int32} (hτ : σ 29 = τ) {out : Int32 × Mm} (hf : f_X9_dukeYawns τ p0 p1 = some out) : Ct l yX9_dukeYawns wsX9_dukeYawns rm_X9_dukeYawns [.ref (Ea E 29 0), .int p0, .int p1] E σ ℓ (some (.int out.1)) (va_up σ 29 out.2) ℓ := by
  subst hτ
  have h := c_X9_dukeYawns (l := l) (E := E) (σ := σ) (ℓ := ℓ)  hf
  rw [up_id σ 29] at h
  exact h
