/-! WALKS: made by wip/whole/gen -/
theorem hdX9_bell : yX9_bell.cls = RX9 ∧ yX9_bell.cls ≠ "java/lang/invoke/MethodHandle" ∧ yX9_bell.cls ≠ "java/lang/invoke/VarHandle" ∧ (parseMethodDescriptor yX9_bell.desc).map (fun d => d.parameters.length) = some 2 := by decide +kernel
def rm_X9_bell : Room := { frames := 9, cells := 0, slots := 0, locals := 211 }
set_option maxRecDepth 100000 in
theorem inX9_bell_9 : ∀ w ∈ wsX90, w ∈ wsX9_bell := fun _ h => List.mem_cons_of_mem _ (List.mem_append_right _ h)
set_option maxRecDepth 100000 in
theorem lkX9_bell_47 : Cond.fieldLink RX9 47 "BellsBelowModel" "wire" "[I" ∈ wsX9_bell := by decide +kernel
set_option maxHeartbeats 4000000 in
set_option maxRecDepth 100000 in
theorem w_X9_bell_0 {p : Program} {l : Launch} {e : Env} {s : State} {m : MethodId} {args : Array Value} {below : List Frame} {meth : Method} {c : Code} {E : Ev} {σ : Ms} {ℓ : Mz} {p0 : Int32} {p1 : Int32} {out : Int32 × Mm}   (C : Cx cX9_bell 3 (some .int) wsX9_bell RX9 E p s m args meth c)  : ∀ (τ : Mm) (H : Heap) (locs : List Loc) (h : HI E (va_up σ 29 τ) ℓ s H locs) (ls : Array Slot) (hl : lv_has ls 3 [(0, .ref (Ea E 29 0)), (1, .int p0), (2, .int p1)]), f_X9_bell_0 p0 p1  τ = some out → W p l e rm_X9_bell s m args below meth c H locs 0 0 (MQ below (Po E s.heap.size (some (.int out.1)) (va_up σ 29 out.2) ℓ) args s 0 0 (AA E s.heap.size)) (F0 m 0 ls []) := by
  intro τ H locs h ls hl hf
  unfold f_X9_bell_0 at hf
  have C0 := C
  obtain ⟨hx, hb, hr, hml, hown, hts, hlk, hK, hSF⟩ := C0
  refine lv_aload_n hx hb dX9_bell_0 rfl (lv_at hl 0 rfl) ?_
  refine lv_iload_n hx hb dX9_bell_1 rfl (lv_at hl 1 rfl) ?_
  obtain ⟨u1, hu1, hf⟩ := bd_use hf
  refine r_cv_9 (rest := []) C h (c_X9_isFloor  hu1) (rfl : Kd 29 = 9) gX9_bell_X9_isFloor rfl ⟨rfl, rfl⟩ hdX9_isFloor ⟨Nat.le_of_ble_eq_true rfl, Nat.le_of_ble_eq_true rfl⟩ ⟨Nat.zero_le _, Nat.zero_le _⟩ hl.1 rfl (Nat.le_of_ble_eq_true rfl) dX9_bell_2 (fun H locs h => ?_)
  refine lv_if_eq (tgt := 18) hx hb dX9_bell_5 (by decide) (fun c2 => ?_) (fun c2 => ?_)
  · replace hf := it_t c2 hf
    refine lv_iconst (v := (-1 : Int32)) hx hb dX9_bell_18 (by decide) ?_
    replace hf := Option.some.inj hf
    subst hf
    exact r_ire C h dX9_bell_19
  replace hf := it_f c2 hf
  refine lv_aload_n hx hb dX9_bell_8 rfl (lv_at hl 0 rfl) ?_
  refine lv_iload_n hx hb dX9_bell_9 rfl (lv_at hl 2 rfl) ?_
  refine lv_iconst (v := (0 : Int32)) hx hb dX9_bell_10 (by decide) ?_
  refine lv_iconst (v := (1 : Int32)) hx hb dX9_bell_11 (by decide) ?_
  obtain ⟨u3, hu3, hf⟩ := bd_use hf
  refine r_cv_9 (rest := []) C h (c_X9_in  hu3) (rfl : Kd 29 = 9) gX9_bell_X9_in rfl ⟨rfl, rfl⟩ hdX9_in ⟨Nat.le_of_ble_eq_true rfl, Nat.le_of_ble_eq_true rfl⟩ ⟨Nat.zero_le _, Nat.zero_le _⟩ hl.1 rfl (Nat.le_of_ble_eq_true rfl) dX9_bell_12 (fun H locs h => ?_)
  refine lv_if_ne (tgt := 20) hx hb dX9_bell_15 (by decide) (fun c4 => ?_) (fun c4 => ?_)
  · replace hf := it_f c4 hf
    refine lv_iload_n hx hb dX9_bell_20 rfl (lv_at hl 2 rfl) ?_
    refine lv_if_ne (tgt := 37) hx hb dX9_bell_21 (by decide) (fun c5 => ?_) (fun c5 => ?_)
    · replace hf := it_f c5 hf
      refine lv_aload_n hx hb dX9_bell_37 rfl (lv_at hl 0 rfl) ?_
      refine lv_aload_n hx hb dX9_bell_38 rfl (lv_at hl 0 rfl) ?_
      refine gf_9_12 C h (rfl : Kd 29 = 9) up_eq inX9_bell_9 lkX9_bell_47 dX9_bell_39 ?_
      refine lv_iload_n hx hb dX9_bell_42 rfl (lv_at hl 1 rfl) ?_
      obtain ⟨g6, hf⟩ := gd_use hf
      refine ld_9_8 C h (rfl : Kd 29 = 9) up_eq (inB_in g6) dX9_bell_43 ?_
      obtain ⟨u7, hu7, hf⟩ := bd_use hf
      refine r_cv_9 (rest := []) C h (c_X9_whoIfRung  hu7) (rfl : Kd 29 = 9) gX9_bell_X9_whoIfRung rfl ⟨rfl, rfl⟩ hdX9_whoIfRung ⟨Nat.le_of_ble_eq_true rfl, Nat.le_of_ble_eq_true rfl⟩ ⟨Nat.zero_le _, Nat.zero_le _⟩ hl.1 rfl (Nat.le_of_ble_eq_true rfl) dX9_bell_44 (fun H locs h => ?_)
      replace hf := Option.some.inj hf
      subst hf
      exact r_ire C h dX9_bell_47
    replace hf := it_t c5 hf
    refine lv_aload_n hx hb dX9_bell_24 rfl (lv_at hl 0 rfl) ?_
    refine lv_aload_n hx hb dX9_bell_25 rfl (lv_at hl 0 rfl) ?_
    refine gf_9_12 C h (rfl : Kd 29 = 9) up_eq inX9_bell_9 lkX9_bell_47 dX9_bell_26 ?_
    refine lv_iload_n hx hb dX9_bell_29 rfl (lv_at hl 1 rfl) ?_
    obtain ⟨g8, hf⟩ := gd_use hf
    refine ld_9_8 C h (rfl : Kd 29 = 9) up_eq (inB_in g8) dX9_bell_30 ?_
    obtain ⟨u9, hu9, hf⟩ := bd_use hf
    refine r_cv_9 (rest := []) C h (c_X9_soonIfRung  hu9) (rfl : Kd 29 = 9) gX9_bell_X9_soonIfRung rfl ⟨rfl, rfl⟩ hdX9_soonIfRung ⟨Nat.le_of_ble_eq_true rfl, Nat.le_of_ble_eq_true rfl⟩ ⟨Nat.zero_le _, Nat.zero_le _⟩ hl.1 rfl (Nat.le_of_ble_eq_true rfl) dX9_bell_31 (fun H locs h => ?_)
    refine lv_goto (tgt := 47) hx hb dX9_bell_34 (by decide) ?_
    replace hf := Option.some.inj hf
    subst hf
    exact r_ire C h dX9_bell_47
  replace hf := it_t c4 hf
  refine lv_iconst (v := (-1 : Int32)) hx hb dX9_bell_18 (by decide) ?_
  replace hf := Option.some.inj hf
  subst hf
  exact r_ire C h dX9_bell_19
theorem c_X9_bell {l : Launch} {E : Ev} {σ : Ms} {ℓ : Mz} {τ : Mm} {p0 : Int32} {p1 : Int32} {out : Int32 × Mm} (hf : f_X9_bell τ p0 p1 = some out) : Ct l yX9_bell wsX9_bell rm_X9_bell [.ref (Ea E 29 0), .int p0, .int p1] E (va_up σ 29 τ) ℓ (some (.int out.1)) (va_up σ 29 out.2) ℓ := by
  refine Ct_mk (cc := cX9_bell) (mL := 3) (ret := (some .int)) (own := RX9) (by decide +kernel) rfl rfl (Nat.le_of_ble_eq_true rfl) (fun p e s m below meth c C h ls hl => ?_)
  exact w_X9_bell_0  C τ _ _ h ls (lv_sub hl [0, 1, 2] rfl) hf
theorem k_X9_bell {l : Launch} {E : Ev} {σ : Ms} {ℓ : Mz} {τ : Mm} {p0 : Int32} {p1 : Int32} (hτ : σ 29 = τ) {out : Int32 × Mm} (hf : f_X9_bell τ p0 p1 = some out) : Ct l yX9_bell wsX9_bell rm_X9_bell [.ref (Ea E 29 0), .int p0, .int p1] E σ ℓ (some (.int out.1)) (va_up σ 29 out.2) ℓ := by
  subst hτ
  have h := c_X9_bell (l := l) (E := E) (σ := σ) (ℓ := ℓ)  hf
  rw [up_id σ 29] at h
  exact h
theorem hdX9_layFloor : yX9_layFloor.cls = RX9 ∧ yX9_layFloor.cls ≠ "java/lang/invoke/MethodHandle" ∧ yX9_layFloor.cls ≠ "java/lang/invoke/VarHandle" ∧ (parseMethodDescriptor yX9_layFloor.desc).map (fun d => d.parameters.length) = some 2 := by decide +kernel
def rm_X9_layFloor : Room := { frames := 2, cells := 0, slots := 0, locals := 43 }
set_option maxRecDepth 100000 in
theorem inX9_layFloor_9 : ∀ w ∈ wsX90, w ∈ wsX9_layFloor := fun _ h => List.mem_cons_of_mem _ (List.mem_append_right _ h)
set_option maxRecDepth 100000 in
theorem lkX9_layFloor_136 : Cond.fieldLink RX9 136 "BellsBelowModel" "most" "[I" ∈ wsX9_layFloor := by decide +kernel
set_option maxRecDepth 100000 in
theorem lkX9_layFloor_139 : Cond.fieldLink RX9 139 "BellsBelowModel" "cheap" "[I" ∈ wsX9_layFloor := by decide +kernel
set_option maxRecDepth 100000 in
theorem lkX9_layFloor_7 : Cond.fieldLink RX9 7 "BellsBelowModel" "masters" "I" ∈ wsX9_layFloor := by decide +kernel
set_option maxRecDepth 100000 in
theorem lkX9_layFloor_142 : Cond.fieldLink RX9 142 "BellsBelowModel" "laid" "[I" ∈ wsX9_layFloor := by decide +kernel
set_option maxHeartbeats 4000000 in
set_option maxRecDepth 100000 in
theorem w_X9_layFloor_180 {p : Program} {l : Launch} {e : Env} {s : State} {m : MethodId} {args : Array Value} {below : List Frame} {meth : Method} {c : Code} {E : Ev} {σ : Ms} {ℓ : Mz} {p0 : Int32} {p1 : Int32} {out : Mm}   (C : Cx cX9_layFloor 8 none wsX9_layFloor RX9 E p s m args meth c) {k40 : Mm → Int32 → Int32 → Option (Mm)} (hk40 : ∀ (τ : Mm) (v3 : Int32) (v4 : Int32) (H : Heap) (locs : List Loc), HI E (va_up σ 29 τ) ℓ s H locs → ∀ ls : Array Slot, lv_has ls 8 [(0, .ref (Ea E 29 0)), (1, .int p0), (2, .int p1), (3, .int v3), (4, .int v4)] → k40 τ v3 v4 = some out → W p l e rm_X9_layFloor s m args below meth c H locs 0 0 (MQ below (Po E s.heap.size none (va_up σ 29 out) ℓ) args s 0 0 (AA E s.heap.size)) (F0 m 40 ls [])) : ∀ (τ : Mm) (v3 : Int32) (v4 : Int32) (H : Heap) (locs : List Loc) (h : HI E (va_up σ 29 τ) ℓ s H locs) (ls : Array Slot) (hl : lv_has ls 8 [(0, .ref (Ea E 29 0)), (1, .int p0), (2, .int p1), (3, .int v3), (4, .int v4)]), f_X9_layFloor_180 p0 p1 k40 τ v3 v4 = some out → W p l e rm_X9_layFloor s m args below meth c H locs 0 0 (MQ below (Po E s.heap.size none (va_up σ 29 out) ℓ) args s 0 0 (AA E s.heap.size)) (F0 m 180 ls []) := by
  intro τ v3 v4 H locs h ls hl hf
  unfold f_X9_layFloor_180 at hf
  have C0 := C
  obtain ⟨hx, hb, hr, hml, hown, hts, hlk, hK, hSF⟩ := C0
  obtain ⟨x13, ex13⟩ : ∃ y : Int32, y = (v4 + (1 : Int32)) := ⟨_, rfl⟩
  refine lv_iinc (v := x13) (lv' := [(4, .int x13), (0, .ref (Ea E 29 0)), (1, .int p0), (2, .int p1), (3, .int v3)]) hx hb dX9_layFloor_180 hl (k := 4) rfl (by rw [ex13]; rfl) (by decide) rfl (fun ls hl => ?_)
  replace hf := lt_use ex13 hf
  clear ex13
  refine lv_goto (tgt := 40) hx hb dX9_layFloor_183 (by decide) ?_
  exact hk40 _ _ _ _ _ h ls (lv_sub hl [1, 2, 3, 4, 0] rfl) hf
set_option maxHeartbeats 4000000 in
set_option maxRecDepth 100000 in
theorem w_X9_layFloor_164 {p : Program} {l : Launch} {e : Env} {s : State} {m : MethodId} {args : Array Value} {below : List Frame} {meth : Method} {c : Code} {E : Ev} {σ : Ms} {ℓ : Mz} {p0 : Int32} {p1 : Int32} {out : Mm}   (C : Cx cX9_layFloor 8 none wsX9_layFloor RX9 E p s m args meth c) {k40 : Mm → Int32 → Int32 → Option (Mm)} (hk40 : ∀ (τ : Mm) (v3 : Int32) (v4 : Int32) (H : Heap) (locs : List Loc), HI E (va_up σ 29 τ) ℓ s H locs → ∀ ls : Array Slot, lv_has ls 8 [(0, .ref (Ea E 29 0)), (1, .int p0), (2, .int p1), (3, .int v3), (4, .int v4)] → k40 τ v3 v4 = some out → W p l e rm_X9_layFloor s m args below meth c H locs 0 0 (MQ below (Po E s.heap.size none (va_up σ 29 out) ℓ) args s 0 0 (AA E s.heap.size)) (F0 m 40 ls [])) : ∀ (τ : Mm) (v3 : Int32) (v4 : Int32) (v6 : Int32) (v7 : Int32) (H : Heap) (locs : List Loc) (h : HI E (va_up σ 29 τ) ℓ s H locs) (ls : Array Slot) (hl : lv_has ls 8 [(0, .ref (Ea E 29 0)), (1, .int p0), (2, .int p1), (3, .int v3), (4, .int v4), (6, .int v6), (7, .int v7)]), f_X9_layFloor_164 p0 p1 k40 τ v3 v4 v6 v7 = some out → W p l e rm_X9_layFloor s m args below meth c H locs 0 0 (MQ below (Po E s.heap.size none (va_up σ 29 out) ℓ) args s 0 0 (AA E s.heap.size)) (F0 m 164 ls []) := by
  intro τ v3 v4 v6 v7 H locs h ls hl hf
  unfold f_X9_layFloor_164 at hf
  have C0 := C
  obtain ⟨hx, hb, hr, hml, hown, hts, hlk, hK, hSF⟩ := C0
  refine lv_aload_n hx hb dX9_layFloor_164 rfl (lv_at hl 0 rfl) ?_
  refine gf_9_41 C h (rfl : Kd 29 = 9) up_eq inX9_layFloor_9 lkX9_layFloor_136 dX9_layFloor_165 ?_
  refine lv_iload_n hx hb dX9_layFloor_168 rfl (lv_at hl 3 rfl) ?_
  refine lv_iload hx hb dX9_layFloor_169 (lv_at hl 5 rfl) ?_
  obtain ⟨g26, hf⟩ := gd_use hf
  refine sa_9_23 C h (rfl : Kd 29 = 9) up_eq (F := fun t => va_up σ 29 t) (fun _ => up_up) (inB_in g26) dX9_layFloor_171 (fun τ27 eτ27 H locs h => ?_)
  replace hf := lt_use eτ27 hf
  clear eτ27
  refine lv_aload_n hx hb dX9_layFloor_172 rfl (lv_at hl 0 rfl) ?_
  refine gf_9_42 C h (rfl : Kd 29 = 9) up_eq inX9_layFloor_9 lkX9_layFloor_139 dX9_layFloor_173 ?_
  refine lv_iload_n hx hb dX9_layFloor_176 rfl (lv_at hl 3 rfl) ?_
  refine lv_iload hx hb dX9_layFloor_177 (lv_at hl 6 rfl) ?_
  obtain ⟨g28, hf⟩ := gd_use hf
  refine sa_9_24 C h (rfl : Kd 29 = 9) up_eq (F := fun t => va_up σ 29 t) (fun _ => up_up) (inB_in g28) dX9_layFloor_179 (fun τ29 eτ29 H locs h => ?_)
  replace hf := lt_use eτ29 hf
  clear eτ29
  exact w_X9_layFloor_180    C hk40 _ _ _ _ _ h ls (lv_sub hl [0, 1, 2, 3, 4] rfl) hf
set_option maxHeartbeats 4000000 in
set_option maxRecDepth 100000 in
theorem w_X9_layFloor_40 {p : Program} {l : Launch} {e : Env} {s : State} {m : MethodId} {args : Array Value} {below : List Frame} {meth : Method} {c : Code} {E : Ev} {σ : Ms} {ℓ : Mz} {p0 : Int32} {p1 : Int32} {out : Mm}   (C : Cx cX9_layFloor 8 none wsX9_layFloor RX9 E p s m args meth c) {k40 : Mm → Int32 → Int32 → Option (Mm)} (hk40 : ∀ (τ : Mm) (v3 : Int32) (v4 : Int32) (H : Heap) (locs : List Loc), HI E (va_up σ 29 τ) ℓ s H locs → ∀ ls : Array Slot, lv_has ls 8 [(0, .ref (Ea E 29 0)), (1, .int p0), (2, .int p1), (3, .int v3), (4, .int v4)] → k40 τ v3 v4 = some out → W p l e rm_X9_layFloor s m args below meth c H locs 0 0 (MQ below (Po E s.heap.size none (va_up σ 29 out) ℓ) args s 0 0 (AA E s.heap.size)) (F0 m 40 ls [])) : ∀ (τ : Mm) (v3 : Int32) (v4 : Int32) (H : Heap) (locs : List Loc) (h : HI E (va_up σ 29 τ) ℓ s H locs) (ls : Array Slot) (hl : lv_has ls 8 [(0, .ref (Ea E 29 0)), (1, .int p0), (2, .int p1), (3, .int v3), (4, .int v4)]), f_X9_layFloor_40 p0 p1 k40 τ v3 v4 = some out → W p l e rm_X9_layFloor s m args below meth c H locs 0 0 (MQ below (Po E s.heap.size none (va_up σ 29 out) ℓ) args s 0 0 (AA E s.heap.size)) (F0 m 40 ls []) := by
  intro τ v3 v4 H locs h ls hl hf
  unfold f_X9_layFloor_40 at hf
  have C0 := C
  obtain ⟨hx, hb, hr, hml, hown, hts, hlk, hK, hSF⟩ := C0
  refine lv_iload hx hb dX9_layFloor_40 (lv_at hl 4 rfl) ?_
  refine lv_aload_n hx hb dX9_layFloor_42 rfl (lv_at hl 0 rfl) ?_
  refine gf_9_0 C h (rfl : Kd 29 = 9) up_eq inX9_layFloor_9 lkX9_layFloor_7 dX9_layFloor_43 ?_
  refine lv_icmp_ge (tgt := 186) hx hb dX9_layFloor_46 (by decide) (fun c8 => ?_) (fun c8 => ?_)
  · replace hf := it_t c8 hf
    replace hf := Option.some.inj hf
    subst hf
    exact r_vre C h dX9_layFloor_186
  replace hf := it_f c8 hf
  refine lv_aload_n hx hb dX9_layFloor_49 rfl (lv_at hl 0 rfl) ?_
  refine lv_iload_n hx hb dX9_layFloor_50 rfl (lv_at hl 1 rfl) ?_
  obtain ⟨u9, hu9, hf⟩ := bd_use hf
  refine r_cv_9 (rest := []) C h (c_X9_isOpen up_eq hu9) (rfl : Kd 29 = 9) gX9_layFloor_X9_isOpen rfl ⟨rfl, rfl⟩ hdX9_isOpen ⟨Nat.le_of_ble_eq_true rfl, Nat.le_of_ble_eq_true rfl⟩ ⟨Nat.zero_le _, Nat.zero_le _⟩ hl.1 rfl (Nat.le_of_ble_eq_true rfl) dX9_layFloor_51 (fun H locs h => ?_)
  refine lv_if_eq (tgt := 186) hx hb dX9_layFloor_54 (by decide) (fun c10 => ?_) (fun c10 => ?_)
  · replace hf := it_t c10 hf
    replace hf := Option.some.inj hf
    subst hf
    exact r_vre C h dX9_layFloor_186
  replace hf := it_f c10 hf
  refine lv_aload_n hx hb dX9_layFloor_57 rfl (lv_at hl 0 rfl) ?_
  refine lv_iload_n hx hb dX9_layFloor_58 rfl (lv_at hl 2 rfl) ?_
  refine lv_iload hx hb dX9_layFloor_59 (lv_at hl 4 rfl) ?_
  obtain ⟨u11, hu11, hf⟩ := bd_use hf
  refine r_cv_9 (rest := []) C h (c_X9_has  hu11) (rfl : Kd 29 = 9) gX9_layFloor_X9_has rfl ⟨rfl, rfl⟩ hdX9_has ⟨Nat.le_of_ble_eq_true rfl, Nat.le_of_ble_eq_true rfl⟩ ⟨Nat.zero_le _, Nat.zero_le _⟩ hl.1 rfl (Nat.le_of_ble_eq_true rfl) dX9_layFloor_61 (fun H locs h => ?_)
  refine lv_if_ne (tgt := 180) hx hb dX9_layFloor_64 (by decide) (fun c12 => ?_) (fun c12 => ?_)
  · replace hf := it_f c12 hf
    exact w_X9_layFloor_180    C hk40 _ _ _ _ _ h ls (lv_sub hl [0, 1, 2, 3, 4] rfl) hf
  replace hf := it_t c12 hf
  refine lv_aload_n hx hb dX9_layFloor_67 rfl (lv_at hl 0 rfl) ?_
  refine lv_iload hx hb dX9_layFloor_68 (lv_at hl 4 rfl) ?_
  obtain ⟨u14, hu14, hf⟩ := bd_use hf
  refine r_cv_9 (rest := []) C h (c_X9_isFree up_eq hu14) (rfl : Kd 29 = 9) gX9_layFloor_X9_isFree rfl ⟨rfl, rfl⟩ hdX9_isFree ⟨Nat.le_of_ble_eq_true rfl, Nat.le_of_ble_eq_true rfl⟩ ⟨Nat.zero_le _, Nat.zero_le _⟩ hl.1 rfl (Nat.le_of_ble_eq_true rfl) dX9_layFloor_70 (fun H locs h => ?_)
  refine lv_if_ne (tgt := 79) hx hb dX9_layFloor_73 (by decide) (fun c15 => ?_) (fun c15 => ?_)
  · replace hf := it_f c15 hf
    refine lv_bipush (v := (64 : Int32)) hx hb dX9_layFloor_79 (by decide) ?_
    refine lv_iload_n hx hb dX9_layFloor_81 rfl (lv_at hl 1 rfl) ?_
    refine lv_imul hx hb dX9_layFloor_82 ?_
    refine lv_bipush (v := (64 : Int32)) hx hb dX9_layFloor_83 (by decide) ?_
    refine lv_iadd hx hb dX9_layFloor_85 ?_
    refine lv_iload_n hx hb dX9_layFloor_86 rfl (lv_at hl 2 rfl) ?_
    refine lv_iconst (v := (1 : Int32)) hx hb dX9_layFloor_87 (by decide) ?_
    refine lv_iload hx hb dX9_layFloor_88 (lv_at hl 4 rfl) ?_
    refine lv_ishl hx hb dX9_layFloor_90 ?_
    refine lv_ior hx hb dX9_layFloor_91 ?_
    refine lv_iadd hx hb dX9_layFloor_92 ?_
    refine lv_topi (fun x16 ex16 => ?_)
    replace hf := lt_use ex16 hf
    clear ex16
    refine lv_istore (lv' := [(5, .int x16), (0, .ref (Ea E 29 0)), (1, .int p0), (2, .int p1), (3, .int v3), (4, .int v4)]) hx hb dX9_layFloor_93 hl (by decide) rfl (fun ls hl => ?_)
    refine lv_aload_n hx hb dX9_layFloor_95 rfl (lv_at hl 1 rfl) ?_
    refine gf_9_41 C h (rfl : Kd 29 = 9) up_eq inX9_layFloor_9 lkX9_layFloor_136 dX9_layFloor_96 ?_
    refine lv_iload hx hb dX9_layFloor_99 (lv_at hl 0 rfl) ?_
    obtain ⟨g17, hf⟩ := gd_use hf
    refine ld_9_23 C h (rfl : Kd 29 = 9) up_eq (inB_in g17) dX9_layFloor_101 ?_
    refine lv_iconst (v := (1 : Int32)) hx hb dX9_layFloor_102 (by decide) ?_
    refine lv_iadd hx hb dX9_layFloor_103 ?_
    refine lv_topi (fun x18 ex18 => ?_)
    replace hf := lt_use ex18 hf
    clear ex18
    refine lv_istore (lv' := [(6, .int x18), (5, .int x16), (0, .ref (Ea E 29 0)), (1, .int p0), (2, .int p1), (3, .int v3), (4, .int v4)]) hx hb dX9_layFloor_104 hl (by decide) rfl (fun ls hl => ?_)
    refine lv_aload_n hx hb dX9_layFloor_106 rfl (lv_at hl 2 rfl) ?_
    refine gf_9_42 C h (rfl : Kd 29 = 9) up_eq inX9_layFloor_9 lkX9_layFloor_139 dX9_layFloor_107 ?_
    refine lv_iload hx hb dX9_layFloor_110 (lv_at hl 1 rfl) ?_
    obtain ⟨g19, hf⟩ := gd_use hf
    refine ld_9_24 C h (rfl : Kd 29 = 9) up_eq (inB_in g19) dX9_layFloor_112 ?_
    refine lv_aload_n hx hb dX9_layFloor_113 rfl (lv_at hl 2 rfl) ?_
    refine gf_9_43 C h (rfl : Kd 29 = 9) up_eq inX9_layFloor_9 lkX9_layFloor_142 dX9_layFloor_114 ?_
    refine lv_bipush (v := (6 : Int32)) hx hb dX9_layFloor_117 (by decide) ?_
    refine lv_iload_n hx hb dX9_layFloor_119 rfl (lv_at hl 3 rfl) ?_
    refine lv_imul hx hb dX9_layFloor_120 ?_
    refine lv_iload hx hb dX9_layFloor_121 (lv_at hl 6 rfl) ?_
    refine lv_iadd hx hb dX9_layFloor_123 ?_
    obtain ⟨g20, hf⟩ := gd_use hf
    refine ld_9_25 C h (rfl : Kd 29 = 9) up_eq (inB_in g20) dX9_layFloor_124 ?_
    refine lv_iadd hx hb dX9_layFloor_125 ?_
    refine lv_topi (fun x21 ex21 => ?_)
    replace hf := lt_use ex21 hf
    clear ex21
    refine lv_istore (lv' := [(7, .int x21), (6, .int x18), (5, .int x16), (0, .ref (Ea E 29 0)), (1, .int p0), (2, .int p1), (3, .int v3), (4, .int v4)]) hx hb dX9_layFloor_126 hl (by decide) rfl (fun ls hl => ?_)
    refine lv_iload hx hb dX9_layFloor_128 (lv_at hl 1 rfl) ?_
    refine lv_aload_n hx hb dX9_layFloor_130 rfl (lv_at hl 3 rfl) ?_
    refine gf_9_41 C h (rfl : Kd 29 = 9) up_eq inX9_layFloor_9 lkX9_layFloor_136 dX9_layFloor_131 ?_
    refine lv_iload_n hx hb dX9_layFloor_134 rfl (lv_at hl 6 rfl) ?_
    obtain ⟨g22, hf⟩ := gd_use hf
    refine ld_9_23 C h (rfl : Kd 29 = 9) up_eq (inB_in g22) dX9_layFloor_135 ?_
    refine lv_icmp_lt (tgt := 180) hx hb dX9_layFloor_136 (by decide) (fun c23 => ?_) (fun c23 => ?_)
    · replace hf := it_t c23 hf
      exact w_X9_layFloor_180    C hk40 _ _ _ _ _ h ls (lv_sub hl [3, 4, 5, 6, 7] rfl) hf
    replace hf := it_f c23 hf
    refine lv_iload hx hb dX9_layFloor_139 (lv_at hl 1 rfl) ?_
    refine lv_aload_n hx hb dX9_layFloor_141 rfl (lv_at hl 3 rfl) ?_
    refine gf_9_41 C h (rfl : Kd 29 = 9) up_eq inX9_layFloor_9 lkX9_layFloor_136 dX9_layFloor_142 ?_
    refine lv_iload_n hx hb dX9_layFloor_145 rfl (lv_at hl 6 rfl) ?_
    obtain ⟨g24, hf⟩ := gd_use hf
    refine ld_9_23 C h (rfl : Kd 29 = 9) up_eq (inB_in g24) dX9_layFloor_146 ?_
    refine lv_icmp_ne (tgt := 164) hx hb dX9_layFloor_147 (by decide) (fun c25 => ?_) (fun c25 => ?_)
    · replace hf := it_f c25 hf
      exact w_X9_layFloor_164    C hk40 _ _ _ _ _ _ _ h ls (lv_sub hl [3, 4, 5, 6, 7, 1, 0] rfl) hf
    replace hf := it_t c25 hf
    refine lv_iload hx hb dX9_layFloor_150 (lv_at hl 0 rfl) ?_
    refine lv_aload_n hx hb dX9_layFloor_152 rfl (lv_at hl 3 rfl) ?_
    refine gf_9_42 C h (rfl : Kd 29 = 9) up_eq inX9_layFloor_9 lkX9_layFloor_139 dX9_layFloor_153 ?_
    refine lv_iload_n hx hb dX9_layFloor_156 rfl (lv_at hl 6 rfl) ?_
    obtain ⟨g30, hf⟩ := gd_use hf
    refine ld_9_24 C h (rfl : Kd 29 = 9) up_eq (inB_in g30) dX9_layFloor_157 ?_
    refine lv_icmp_lt (tgt := 164) hx hb dX9_layFloor_158 (by decide) (fun c31 => ?_) (fun c31 => ?_)
    · replace hf := it_t c31 hf
      exact w_X9_layFloor_164    C hk40 _ _ _ _ _ _ _ h ls (lv_sub hl [3, 4, 5, 6, 7, 1, 0] rfl) hf
    replace hf := it_f c31 hf
    refine lv_goto (tgt := 180) hx hb dX9_layFloor_161 (by decide) ?_
    exact w_X9_layFloor_180    C hk40 _ _ _ _ _ h ls (lv_sub hl [3, 4, 5, 6, 7] rfl) hf
  replace hf := it_t c15 hf
  refine lv_goto (tgt := 180) hx hb dX9_layFloor_76 (by decide) ?_
  exact w_X9_layFloor_180    C hk40 _ _ _ _ _ h ls (lv_sub hl [0, 1, 2, 3, 4] rfl) hf
set_option maxHeartbeats 4000000 in
set_option maxRecDepth 100000 in
theorem w_X9_layFloor_40L {p : Program} {l : Launch} {e : Env} {s : State} {m : MethodId} {args : Array Value} {below : List Frame} {meth : Method} {c : Code} {E : Ev} {σ : Ms} {ℓ : Mz} {p0 : Int32} {p1 : Int32} {out : Mm}   (C : Cx cX9_layFloor 8 none wsX9_layFloor RX9 E p s m args meth c)  : ∀ (n9 : Nat) (τ : Mm) (v3 : Int32) (v4 : Int32) (H : Heap) (locs : List Loc) (h : HI E (va_up σ 29 τ) ℓ s H locs) (ls : Array Slot) (hl : lv_has ls 8 [(0, .ref (Ea E 29 0)), (1, .int p0), (2, .int p1), (3, .int v3), (4, .int v4)]), f_X9_layFloor_40L p0 p1  n9 τ v3 v4 = some out → W p l e rm_X9_layFloor s m args below meth c H locs 0 0 (MQ below (Po E s.heap.size none (va_up σ 29 out) ℓ) args s 0 0 (AA E s.heap.size)) (F0 m 40 ls []) := by
  intro n9
  induction n9 with
  | zero =>
    intro τ v3 v4 H locs h ls hl hf
    cases (show (none : Option (Mm)) = some out from hf)
  | succ n9 ih =>
    intro τ v3 v4 H locs h ls hl hf
    exact w_X9_layFloor_40   C  ih τ v3 v4 H locs h ls hl hf
set_option maxHeartbeats 4000000 in
set_option maxRecDepth 100000 in
theorem w_X9_layFloor_0 {p : Program} {l : Launch} {e : Env} {s : State} {m : MethodId} {args : Array Value} {below : List Frame} {meth : Method} {c : Code} {E : Ev} {σ : Ms} {ℓ : Mz} {p0 : Int32} {p1 : Int32} {out : Mm}   (C : Cx cX9_layFloor 8 none wsX9_layFloor RX9 E p s m args meth c)  : ∀ (τ : Mm) (H : Heap) (locs : List Loc) (h : HI E (va_up σ 29 τ) ℓ s H locs) (ls : Array Slot) (hl : lv_has ls 8 [(0, .ref (Ea E 29 0)), (1, .int p0), (2, .int p1)]), f_X9_layFloor_0 p0 p1  τ = some out → W p l e rm_X9_layFloor s m args below meth c H locs 0 0 (MQ below (Po E s.heap.size none (va_up σ 29 out) ℓ) args s 0 0 (AA E s.heap.size)) (F0 m 0 ls []) := by
  intro τ H locs h ls hl hf
  unfold f_X9_layFloor_0 at hf
  have C0 := C
  obtain ⟨hx, hb, hr, hml, hown, hts, hlk, hK, hSF⟩ := C0
  refine lv_bipush (v := (64 : Int32)) hx hb dX9_layFloor_0 (by decide) ?_
  refine lv_iload_n hx hb dX9_layFloor_2 rfl (lv_at hl 1 rfl) ?_
  refine lv_imul hx hb dX9_layFloor_3 ?_
  refine lv_iload_n hx hb dX9_layFloor_4 rfl (lv_at hl 2 rfl) ?_
  refine lv_iadd hx hb dX9_layFloor_5 ?_
  refine lv_topi (fun x1 ex1 => ?_)
  replace hf := lt_use ex1 hf
  clear ex1
  refine lv_istore_n (lv' := [(3, .int x1), (0, .ref (Ea E 29 0)), (1, .int p0), (2, .int p1)]) hx hb dX9_layFloor_6 rfl hl (by decide) rfl (fun ls hl => ?_)
  refine lv_aload_n hx hb dX9_layFloor_7 rfl (lv_at hl 1 rfl) ?_
  refine gf_9_41 C h (rfl : Kd 29 = 9) up_eq inX9_layFloor_9 lkX9_layFloor_136 dX9_layFloor_8 ?_
  refine lv_iload_n hx hb dX9_layFloor_11 rfl (lv_at hl 0 rfl) ?_
  refine lv_aload_n hx hb dX9_layFloor_12 rfl (lv_at hl 1 rfl) ?_
  refine gf_9_41 C h (rfl : Kd 29 = 9) up_eq inX9_layFloor_9 lkX9_layFloor_136 dX9_layFloor_13 ?_
  refine lv_iload_n hx hb dX9_layFloor_16 rfl (lv_at hl 0 rfl) ?_
  refine lv_bipush (v := (64 : Int32)) hx hb dX9_layFloor_17 (by decide) ?_
  refine lv_iadd hx hb dX9_layFloor_19 ?_
  obtain ⟨g2, hf⟩ := gd_use hf
  refine ld_9_23 C h (rfl : Kd 29 = 9) up_eq (inB_in g2) dX9_layFloor_20 ?_
  obtain ⟨g3, hf⟩ := gd_use hf
  refine sa_9_23 C h (rfl : Kd 29 = 9) up_eq (F := fun t => va_up σ 29 t) (fun _ => up_up) (inB_in g3) dX9_layFloor_21 (fun τ4 eτ4 H locs h => ?_)
  replace hf := lt_use eτ4 hf
  clear eτ4
  refine lv_aload_n hx hb dX9_layFloor_22 rfl (lv_at hl 1 rfl) ?_
  refine gf_9_42 C h (rfl : Kd 29 = 9) up_eq inX9_layFloor_9 lkX9_layFloor_139 dX9_layFloor_23 ?_
  refine lv_iload_n hx hb dX9_layFloor_26 rfl (lv_at hl 0 rfl) ?_
  refine lv_aload_n hx hb dX9_layFloor_27 rfl (lv_at hl 1 rfl) ?_
  refine gf_9_42 C h (rfl : Kd 29 = 9) up_eq inX9_layFloor_9 lkX9_layFloor_139 dX9_layFloor_28 ?_
  refine lv_iload_n hx hb dX9_layFloor_31 rfl (lv_at hl 0 rfl) ?_
  refine lv_bipush (v := (64 : Int32)) hx hb dX9_layFloor_32 (by decide) ?_
  refine lv_iadd hx hb dX9_layFloor_34 ?_
  obtain ⟨g5, hf⟩ := gd_use hf
  refine ld_9_24 C h (rfl : Kd 29 = 9) up_eq (inB_in g5) dX9_layFloor_35 ?_
  obtain ⟨g6, hf⟩ := gd_use hf
  refine sa_9_24 C h (rfl : Kd 29 = 9) up_eq (F := fun t => va_up σ 29 t) (fun _ => up_up) (inB_in g6) dX9_layFloor_36 (fun τ7 eτ7 H locs h => ?_)
  replace hf := lt_use eτ7 hf
  clear eτ7
  refine lv_iconst (v := (0 : Int32)) hx hb dX9_layFloor_37 (by decide) ?_
  refine lv_istore (lv' := [(4, .int (0 : Int32)), (3, .int x1), (0, .ref (Ea E 29 0)), (1, .int p0), (2, .int p1)]) hx hb dX9_layFloor_38 hl (by decide) rfl (fun ls hl => ?_)
  exact w_X9_layFloor_40L    C  _ _ _ _ _ _ h ls (lv_sub hl [2, 3, 4, 1, 0] rfl) hf
theorem c_X9_layFloor {l : Launch} {E : Ev} {σ : Ms} {ℓ : Mz} {τ : Mm} {p0 : Int32} {p1 : Int32} {out : Mm} (hf : f_X9_layFloor τ p0 p1 = some out) : Ct l yX9_layFloor wsX9_layFloor rm_X9_layFloor [.ref (Ea E 29 0), .int p0, .int p1] E (va_up σ 29 τ) ℓ none (va_up σ 29 out) ℓ := by
  refine Ct_mk (cc := cX9_layFloor) (mL := 8) (ret := none) (own := RX9) (by decide +kernel) rfl rfl (Nat.le_of_ble_eq_true rfl) (fun p e s m below meth c C h ls hl => ?_)
  exact w_X9_layFloor_0  C τ _ _ h ls (lv_sub hl [0, 1, 2] rfl) hf
theorem k_X9_layFloor {l : Launch} {E : Ev} {σ : Ms} {ℓ : Mz} {τ : Mm} {p0 : Int32} {p1 : Int32} (hτ : σ 29 = τ) {out : Mm} (hf : f_X9_layFloor τ p0 p1 = some out) : Ct l yX9_layFloor wsX9_layFloor rm_X9_layFloor [.ref (Ea E 29 0), .int p0, .int p1] E σ ℓ none (va_up σ 29 out) ℓ := by
  subst hτ
  have h := c_X9_layFloor (l := l) (E := E) (σ := σ) (ℓ := ℓ)  hf
  rw [up_id σ 29] at h
  exact h
theorem hdX9_layShared : yX9_layShared.cls = RX9 ∧ yX9_layShared.cls ≠ "java/lang/invoke/MethodHandle" ∧ yX9_layShared.cls ≠ "java/lang/invoke/VarHandle" ∧ (parseMethodDescriptor yX9_layShared.desc).map (fun d => d.parameters.length) = some 0 := by decide +kernel
def rm_X9_layShared : Room := { frames := 5, cells := 0, slots := 0, locals := 121 }
set_option maxRecDepth 100000 in
theorem inX9_layShared_9 : ∀ w ∈ wsX90, w ∈ wsX9_layShared := fun _ h => List.mem_cons_of_mem _ (List.mem_append_right _ h)
set_option maxRecDepth 100000 in
theorem lkX9_layShared_136 : Cond.fieldLink RX9 136 "BellsBelowModel" "most" "[I" ∈ wsX9_layShared := by decide +kernel
set_option maxRecDepth 100000 in
theorem lkX9_layShared_139 : Cond.fieldLink RX9 139 "BellsBelowModel" "cheap" "[I" ∈ wsX9_layShared := by decide +kernel
set_option maxRecDepth 100000 in
theorem lkX9_layShared_7 : Cond.fieldLink RX9 7 "BellsBelowModel" "masters" "I" ∈ wsX9_layShared := by decide +kernel
set_option maxRecDepth 100000 in
theorem lkX9_layShared_142 : Cond.fieldLink RX9 142 "BellsBelowModel" "laid" "[I" ∈ wsX9_layShared := by decide +kernel
set_option maxHeartbeats 4000000 in
set_option maxRecDepth 100000 in
theorem w_X9_layShared_92 {p : Program} {l : Launch} {e : Env} {s : State} {m : MethodId} {args : Array Value} {below : List Frame} {meth : Method} {c : Code} {E : Ev} {σ : Ms} {ℓ : Mz} {out : Mm}   (C : Cx cX9_layShared 3 none wsX9_layShared RX9 E p s m args meth c) {k86 : Mm → Int32 → Option (Mm)} (hk86 : ∀ (τ : Mm) (v1 : Int32) (H : Heap) (locs : List Loc), HI E (va_up σ 29 τ) ℓ s H locs → ∀ ls : Array Slot, lv_has ls 3 [(0, .ref (Ea E 29 0)), (1, .int v1)] → k86 τ v1 = some out → W p l e rm_X9_layShared s m args below meth c H locs 0 0 (MQ below (Po E s.heap.size none (va_up σ 29 out) ℓ) args s 0 0 (AA E s.heap.size)) (F0 m 86 ls [])) {k92 : Mm → Int32 → Int32 → Option (Mm)} (hk92 : ∀ (τ : Mm) (v1 : Int32) (v2 : Int32) (H : Heap) (locs : List Loc), HI E (va_up σ 29 τ) ℓ s H locs → ∀ ls : Array Slot, lv_has ls 3 [(0, .ref (Ea E 29 0)), (1, .int v1), (2, .int v2)] → k92 τ v1 v2 = some out → W p l e rm_X9_layShared s m args below meth c H locs 0 0 (MQ below (Po E s.heap.size none (va_up σ 29 out) ℓ) args s 0 0 (AA E s.heap.size)) (F0 m 92 ls [])) : ∀ (τ : Mm) (v1 : Int32) (v2 : Int32) (H : Heap) (locs : List Loc) (h : HI E (va_up σ 29 τ) ℓ s H locs) (ls : Array Slot) (hl : lv_has ls 3 [(0, .ref (Ea E 29 0)), (1, .int v1), (2, .int v2)]), f_X9_layShared_92  k86 k92 τ v1 v2 = some out → W p l e rm_X9_layShared s m args below meth c H locs 0 0 (MQ below (Po E s.heap.size none (va_up σ 29 out) ℓ) args s 0 0 (AA E s.heap.size)) (F0 m 92 ls []) := by
  intro τ v1 v2 H locs h ls hl hf
  unfold f_X9_layShared_92 at hf
  have C0 := C
  obtain ⟨hx, hb, hr, hml, hown, hts, hlk, hK, hSF⟩ := C0
  refine lv_iload_n hx hb dX9_layShared_92 rfl (lv_at hl 2 rfl) ?_
  refine lv_bipush (v := (64 : Int32)) hx hb dX9_layShared_93 (by decide) ?_
  refine lv_icmp_ge (tgt := 110) hx hb dX9_layShared_95 (by decide) (fun c4 => ?_) (fun c4 => ?_)
  · replace hf := it_t c4 hf
    obtain ⟨x5, ex5⟩ : ∃ y : Int32, y = (v1 + (-1 : Int32)) := ⟨_, rfl⟩
    refine lv_iinc (v := x5) (lv' := [(1, .int x5), (0, .ref (Ea E 29 0)), (2, .int v2)]) hx hb dX9_layShared_110 hl (k := 1) rfl (by rw [ex5]; rfl) (by decide) rfl (fun ls hl => ?_)
    replace hf := lt_use ex5 hf
    clear ex5
    refine lv_goto (tgt := 86) hx hb dX9_layShared_113 (by decide) ?_
    exact hk86 _ _ _ _ h ls (lv_sub hl [1, 0] rfl) hf
  replace hf := it_f c4 hf
  refine lv_aload_n hx hb dX9_layShared_98 rfl (lv_at hl 0 rfl) ?_
  refine lv_iload_n hx hb dX9_layShared_99 rfl (lv_at hl 1 rfl) ?_
  refine lv_iload_n hx hb dX9_layShared_100 rfl (lv_at hl 2 rfl) ?_
  obtain ⟨u6, hu6, hf⟩ := bd_use hf
  refine r_cv_9 (rest := []) C h (c_X9_layFloor  hu6) (rfl : Kd 29 = 9) gX9_layShared_X9_layFloor rfl ⟨rfl, rfl⟩ hdX9_layFloor ⟨Nat.le_of_ble_eq_true rfl, Nat.le_of_ble_eq_true rfl⟩ ⟨Nat.zero_le _, Nat.zero_le _⟩ hl.1 rfl (Nat.le_of_ble_eq_true rfl) dX9_layShared_101 (fun H locs h => ?_)
  obtain ⟨x7, ex7⟩ : ∃ y : Int32, y = (v2 + (1 : Int32)) := ⟨_, rfl⟩
  refine lv_iinc (v := x7) (lv' := [(2, .int x7), (0, .ref (Ea E 29 0)), (1, .int v1)]) hx hb dX9_layShared_104 hl (k := 2) rfl (by rw [ex7]; rfl) (by decide) rfl (fun ls hl => ?_)
  replace hf := lt_use ex7 hf
  clear ex7
  refine lv_goto (tgt := 92) hx hb dX9_layShared_107 (by decide) ?_
  exact hk92 _ _ _ _ _ h ls (lv_sub hl [1, 2, 0] rfl) hf
set_option maxHeartbeats 4000000 in
set_option maxRecDepth 100000 in
theorem w_X9_layShared_92L {p : Program} {l : Launch} {e : Env} {s : State} {m : MethodId} {args : Array Value} {below : List Frame} {meth : Method} {c : Code} {E : Ev} {σ : Ms} {ℓ : Mz} {out : Mm}   (C : Cx cX9_layShared 3 none wsX9_layShared RX9 E p s m args meth c) {k86 : Mm → Int32 → Option (Mm)} (hk86 : ∀ (τ : Mm) (v1 : Int32) (H : Heap) (locs : List Loc), HI E (va_up σ 29 τ) ℓ s H locs → ∀ ls : Array Slot, lv_has ls 3 [(0, .ref (Ea E 29 0)), (1, .int v1)] → k86 τ v1 = some out → W p l e rm_X9_layShared s m args below meth c H locs 0 0 (MQ below (Po E s.heap.size none (va_up σ 29 out) ℓ) args s 0 0 (AA E s.heap.size)) (F0 m 86 ls [])) : ∀ (n9 : Nat) (τ : Mm) (v1 : Int32) (v2 : Int32) (H : Heap) (locs : List Loc) (h : HI E (va_up σ 29 τ) ℓ s H locs) (ls : Array Slot) (hl : lv_has ls 3 [(0, .ref (Ea E 29 0)), (1, .int v1), (2, .int v2)]), f_X9_layShared_92L  k86 n9 τ v1 v2 = some out → W p l e rm_X9_layShared s m args below meth c H locs 0 0 (MQ below (Po E s.heap.size none (va_up σ 29 out) ℓ) args s 0 0 (AA E s.heap.size)) (F0 m 92 ls []) := by
  intro n9
  induction n9 with
  | zero =>
    intro τ v1 v2 H locs h ls hl hf
    cases (show (none : Option (Mm)) = some out from hf)
  | succ n9 ih =>
    intro τ v1 v2 H locs h ls hl hf
    exact w_X9_layShared_92   C hk86 ih τ v1 v2 H locs h ls hl hf
set_option maxHeartbeats 4000000 in
set_option maxRecDepth 100000 in
theorem w_X9_layShared_86 {p : Program} {l : Launch} {e : Env} {s : State} {m : MethodId} {args : Array Value} {below : List Frame} {meth : Method} {c : Code} {E : Ev} {σ : Ms} {ℓ : Mz} {out : Mm}   (C : Cx cX9_layShared 3 none wsX9_layShared RX9 E p s m args meth c) {k86 : Mm → Int32 → Option (Mm)} (hk86 : ∀ (τ : Mm) (v1 : Int32) (H : Heap) (locs : List Loc), HI E (va_up σ 29 τ) ℓ s H locs → ∀ ls : Array Slot, lv_has ls 3 [(0, .ref (Ea E 29 0)), (1, .int v1)] → k86 τ v1 = some out → W p l e rm_X9_layShared s m args below meth c H locs 0 0 (MQ below (Po E s.heap.size none (va_up σ 29 out) ℓ) args s 0 0 (AA E s.heap.size)) (F0 m 86 ls [])) : ∀ (τ : Mm) (v1 : Int32) (H : Heap) (locs : List Loc) (h : HI E (va_up σ 29 τ) ℓ s H locs) (ls : Array Slot) (hl : lv_has ls 3 [(0, .ref (Ea E 29 0)), (1, .int v1)]), f_X9_layShared_86  k86 τ v1 = some out → W p l e rm_X9_layShared s m args below meth c H locs 0 0 (MQ below (Po E s.heap.size none (va_up σ 29 out) ℓ) args s 0 0 (AA E s.heap.size)) (F0 m 86 ls []) := by
  intro τ v1 H locs h ls hl hf
  unfold f_X9_layShared_86 at hf
  have C0 := C
  obtain ⟨hx, hb, hr, hml, hown, hts, hlk, hK, hSF⟩ := C0
  refine lv_iload_n hx hb dX9_layShared_86 rfl (lv_at hl 1 rfl) ?_
  refine lv_if_lt (tgt := 116) hx hb dX9_layShared_87 (by decide) (fun c3 => ?_) (fun c3 => ?_)
  · replace hf := it_t c3 hf
    replace hf := Option.some.inj hf
    subst hf
    exact r_vre C h dX9_layShared_116
  replace hf := it_f c3 hf
  refine lv_iconst (v := (0 : Int32)) hx hb dX9_layShared_90 (by decide) ?_
  refine lv_istore_n (lv' := [(2, .int (0 : Int32)), (0, .ref (Ea E 29 0)), (1, .int v1)]) hx hb dX9_layShared_91 rfl hl (by decide) rfl (fun ls hl => ?_)
  exact w_X9_layShared_92L    C hk86 _ _ _ _ _ _ h ls (lv_sub hl [1, 2, 0] rfl) hf
set_option maxHeartbeats 4000000 in
set_option maxRecDepth 100000 in
theorem w_X9_layShared_86L {p : Program} {l : Launch} {e : Env} {s : State} {m : MethodId} {args : Array Value} {below : List Frame} {meth : Method} {c : Code} {E : Ev} {σ : Ms} {ℓ : Mz} {out : Mm}   (C : Cx cX9_layShared 3 none wsX9_layShared RX9 E p s m args meth c)  : ∀ (n9 : Nat) (τ : Mm) (v1 : Int32) (H : Heap) (locs : List Loc) (h : HI E (va_up σ 29 τ) ℓ s H locs) (ls : Array Slot) (hl : lv_has ls 3 [(0, .ref (Ea E 29 0)), (1, .int v1)]), f_X9_layShared_86L   n9 τ v1 = some out → W p l e rm_X9_layShared s m args below meth c H locs 0 0 (MQ below (Po E s.heap.size none (va_up σ 29 out) ℓ) args s 0 0 (AA E s.heap.size)) (F0 m 86 ls []) := by
  intro n9
  induction n9 with
  | zero =>
    intro τ v1 H locs h ls hl hf
    cases (show (none : Option (Mm)) = some out from hf)
  | succ n9 ih =>
    intro τ v1 H locs h ls hl hf
    exact w_X9_layShared_86   C  ih τ v1 H locs h ls hl hf
set_option maxHeartbeats 4000000 in
set_option maxRecDepth 100000 in
theorem w_X9_layShared_49 {p : Program} {l : Launch} {e : Env} {s : State} {m : MethodId} {args : Array Value} {below : List Frame} {meth : Method} {c : Code} {E : Ev} {σ : Ms} {ℓ : Mz} {out : Mm}   (C : Cx cX9_layShared 3 none wsX9_layShared RX9 E p s m args meth c) {k49 : Mm → Int32 → Option (Mm)} (hk49 : ∀ (τ : Mm) (v1 : Int32) (H : Heap) (locs : List Loc), HI E (va_up σ 29 τ) ℓ s H locs → ∀ ls : Array Slot, lv_has ls 3 [(0, .ref (Ea E 29 0)), (1, .int v1)] → k49 τ v1 = some out → W p l e rm_X9_layShared s m args below meth c H locs 0 0 (MQ below (Po E s.heap.size none (va_up σ 29 out) ℓ) args s 0 0 (AA E s.heap.size)) (F0 m 49 ls [])) : ∀ (τ : Mm) (v1 : Int32) (H : Heap) (locs : List Loc) (h : HI E (va_up σ 29 τ) ℓ s H locs) (ls : Array Slot) (hl : lv_has ls 3 [(0, .ref (Ea E 29 0)), (1, .int v1)]), f_X9_layShared_49  k49 τ v1 = some out → W p l e rm_X9_layShared s m args below meth c H locs 0 0 (MQ below (Po E s.heap.size none (va_up σ 29 out) ℓ) args s 0 0 (AA E s.heap.size)) (F0 m 49 ls []) := by
  intro τ v1 H locs h ls hl hf
  unfold f_X9_layShared_49 at hf
  have C0 := C
  obtain ⟨hx, hb, hr, hml, hown, hts, hlk, hK, hSF⟩ := C0
  refine lv_iload_n hx hb dX9_layShared_49 rfl (lv_at hl 1 rfl) ?_
  refine lv_bipush (v := (64 : Int32)) hx hb dX9_layShared_50 (by decide) ?_
  refine lv_icmp_ge (tgt := 83) hx hb dX9_layShared_52 (by decide) (fun c2 => ?_) (fun c2 => ?_)
  · replace hf := it_t c2 hf
    refine lv_bipush (v := (9 : Int32)) hx hb dX9_layShared_83 (by decide) ?_
    refine lv_istore_n (lv' := [(1, .int (9 : Int32)), (0, .ref (Ea E 29 0))]) hx hb dX9_layShared_85 rfl hl (by decide) rfl (fun ls hl => ?_)
    exact w_X9_layShared_86L    C  _ _ _ _ _ h ls (lv_sub hl [1, 0] rfl) hf
  replace hf := it_f c2 hf
  refine lv_aload_n hx hb dX9_layShared_55 rfl (lv_at hl 0 rfl) ?_
  refine gf_9_41 C h (rfl : Kd 29 = 9) up_eq inX9_layShared_9 lkX9_layShared_136 dX9_layShared_56 ?_
  refine lv_sipush (v := (640 : Int32)) hx hb dX9_layShared_59 (by decide) ?_
  refine lv_iload_n hx hb dX9_layShared_62 rfl (lv_at hl 1 rfl) ?_
  refine lv_iadd hx hb dX9_layShared_63 ?_
  refine lv_iconst (v := (0 : Int32)) hx hb dX9_layShared_64 (by decide) ?_
  obtain ⟨g8, hf⟩ := gd_use hf
  refine sa_9_23 C h (rfl : Kd 29 = 9) up_eq (F := fun t => va_up σ 29 t) (fun _ => up_up) (inB_in g8) dX9_layShared_65 (fun τ9 eτ9 H locs h => ?_)
  replace hf := lt_use eτ9 hf
  clear eτ9
  refine lv_aload_n hx hb dX9_layShared_66 rfl (lv_at hl 0 rfl) ?_
  refine gf_9_42 C h (rfl : Kd 29 = 9) up_eq inX9_layShared_9 lkX9_layShared_139 dX9_layShared_67 ?_
  refine lv_sipush (v := (640 : Int32)) hx hb dX9_layShared_70 (by decide) ?_
  refine lv_iload_n hx hb dX9_layShared_73 rfl (lv_at hl 1 rfl) ?_
  refine lv_iadd hx hb dX9_layShared_74 ?_
  refine lv_iconst (v := (0 : Int32)) hx hb dX9_layShared_75 (by decide) ?_
  obtain ⟨g10, hf⟩ := gd_use hf
  refine sa_9_24 C h (rfl : Kd 29 = 9) up_eq (F := fun t => va_up σ 29 t) (fun _ => up_up) (inB_in g10) dX9_layShared_76 (fun τ11 eτ11 H locs h => ?_)
  replace hf := lt_use eτ11 hf
  clear eτ11
  obtain ⟨x12, ex12⟩ : ∃ y : Int32, y = (v1 + (1 : Int32)) := ⟨_, rfl⟩
  refine lv_iinc (v := x12) (lv' := [(1, .int x12), (0, .ref (Ea E 29 0))]) hx hb dX9_layShared_77 hl (k := 1) rfl (by rw [ex12]; rfl) (by decide) rfl (fun ls hl => ?_)
  replace hf := lt_use ex12 hf
  clear ex12
  refine lv_goto (tgt := 49) hx hb dX9_layShared_80 (by decide) ?_
  exact hk49 _ _ _ _ h ls (lv_sub hl [1, 0] rfl) hf
set_option maxHeartbeats 4000000 in
set_option maxRecDepth 100000 in
theorem w_X9_layShared_49L {p : Program} {l : Launch} {e : Env} {s : State} {m : MethodId} {args : Array Value} {below : List Frame} {meth : Method} {c : Code} {E : Ev} {σ : Ms} {ℓ : Mz} {out : Mm}   (C : Cx cX9_layShared 3 none wsX9_layShared RX9 E p s m args meth c)  : ∀ (n9 : Nat) (τ : Mm) (v1 : Int32) (H : Heap) (locs : List Loc) (h : HI E (va_up σ 29 τ) ℓ s H locs) (ls : Array Slot) (hl : lv_has ls 3 [(0, .ref (Ea E 29 0)), (1, .int v1)]), f_X9_layShared_49L   n9 τ v1 = some out → W p l e rm_X9_layShared s m args below meth c H locs 0 0 (MQ below (Po E s.heap.size none (va_up σ 29 out) ℓ) args s 0 0 (AA E s.heap.size)) (F0 m 49 ls []) := by
  intro n9
  induction n9 with
  | zero =>
    intro τ v1 H locs h ls hl hf
    cases (show (none : Option (Mm)) = some out from hf)
  | succ n9 ih =>
    intro τ v1 H locs h ls hl hf
    exact w_X9_layShared_49   C  ih τ v1 H locs h ls hl hf
set_option maxHeartbeats 4000000 in
set_option maxRecDepth 100000 in
theorem w_X9_layShared_10 {p : Program} {l : Launch} {e : Env} {s : State} {m : MethodId} {args : Array Value} {below : List Frame} {meth : Method} {c : Code} {E : Ev} {σ : Ms} {ℓ : Mz} {out : Mm}   (C : Cx cX9_layShared 3 none wsX9_layShared RX9 E p s m args meth c) {k2 : Mm → Int32 → Option (Mm)} (hk2 : ∀ (τ : Mm) (v1 : Int32) (H : Heap) (locs : List Loc), HI E (va_up σ 29 τ) ℓ s H locs → ∀ ls : Array Slot, lv_has ls 3 [(0, .ref (Ea E 29 0)), (1, .int v1)] → k2 τ v1 = some out → W p l e rm_X9_layShared s m args below meth c H locs 0 0 (MQ below (Po E s.heap.size none (va_up σ 29 out) ℓ) args s 0 0 (AA E s.heap.size)) (F0 m 2 ls [])) {k10 : Mm → Int32 → Int32 → Option (Mm)} (hk10 : ∀ (τ : Mm) (v1 : Int32) (v2 : Int32) (H : Heap) (locs : List Loc), HI E (va_up σ 29 τ) ℓ s H locs → ∀ ls : Array Slot, lv_has ls 3 [(0, .ref (Ea E 29 0)), (1, .int v1), (2, .int v2)] → k10 τ v1 v2 = some out → W p l e rm_X9_layShared s m args below meth c H locs 0 0 (MQ below (Po E s.heap.size none (va_up σ 29 out) ℓ) args s 0 0 (AA E s.heap.size)) (F0 m 10 ls [])) : ∀ (τ : Mm) (v1 : Int32) (v2 : Int32) (H : Heap) (locs : List Loc) (h : HI E (va_up σ 29 τ) ℓ s H locs) (ls : Array Slot) (hl : lv_has ls 3 [(0, .ref (Ea E 29 0)), (1, .int v1), (2, .int v2)]), f_X9_layShared_10  k2 k10 τ v1 v2 = some out → W p l e rm_X9_layShared s m args below meth c H locs 0 0 (MQ below (Po E s.heap.size none (va_up σ 29 out) ℓ) args s 0 0 (AA E s.heap.size)) (F0 m 10 ls []) := by
  intro τ v1 v2 H locs h ls hl hf
  unfold f_X9_layShared_10 at hf
  have C0 := C
  obtain ⟨hx, hb, hr, hml, hown, hts, hlk, hK, hSF⟩ := C0
  refine lv_iload_n hx hb dX9_layShared_10 rfl (lv_at hl 2 rfl) ?_
  refine lv_aload_n hx hb dX9_layShared_11 rfl (lv_at hl 0 rfl) ?_
  refine gf_9_0 C h (rfl : Kd 29 = 9) up_eq inX9_layShared_9 lkX9_layShared_7 dX9_layShared_12 ?_
  refine lv_icmp_ge (tgt := 41) hx hb dX9_layShared_15 (by decide) (fun c13 => ?_) (fun c13 => ?_)
  · replace hf := it_t c13 hf
    obtain ⟨x14, ex14⟩ : ∃ y : Int32, y = (v1 + (1 : Int32)) := ⟨_, rfl⟩
    refine lv_iinc (v := x14) (lv' := [(1, .int x14), (0, .ref (Ea E 29 0)), (2, .int v2)]) hx hb dX9_layShared_41 hl (k := 1) rfl (by rw [ex14]; rfl) (by decide) rfl (fun ls hl => ?_)
    replace hf := lt_use ex14 hf
    clear ex14
    refine lv_goto (tgt := 2) hx hb dX9_layShared_44 (by decide) ?_
    exact hk2 _ _ _ _ h ls (lv_sub hl [1, 0] rfl) hf
  replace hf := it_f c13 hf
  refine lv_aload_n hx hb dX9_layShared_18 rfl (lv_at hl 0 rfl) ?_
  refine gf_9_43 C h (rfl : Kd 29 = 9) up_eq inX9_layShared_9 lkX9_layShared_142 dX9_layShared_19 ?_
  refine lv_bipush (v := (6 : Int32)) hx hb dX9_layShared_22 (by decide) ?_
  refine lv_iload_n hx hb dX9_layShared_24 rfl (lv_at hl 1 rfl) ?_
  refine lv_imul hx hb dX9_layShared_25 ?_
  refine lv_iload_n hx hb dX9_layShared_26 rfl (lv_at hl 2 rfl) ?_
  refine lv_iadd hx hb dX9_layShared_27 ?_
  refine lv_aload_n hx hb dX9_layShared_28 rfl (lv_at hl 0 rfl) ?_
  refine lv_iload_n hx hb dX9_layShared_29 rfl (lv_at hl 2 rfl) ?_
  refine lv_iload_n hx hb dX9_layShared_30 rfl (lv_at hl 1 rfl) ?_
  obtain ⟨u15, hu15, hf⟩ := bd_use hf
  refine r_cv_9 (rest := [.int (((6 : Int32) * v1) + v2), .ref (Ea E 29 25)]) C h (c_X9_cost  hu15) (rfl : Kd 29 = 9) gX9_layShared_X9_cost rfl ⟨rfl, rfl⟩ hdX9_cost ⟨Nat.le_of_ble_eq_true rfl, Nat.le_of_ble_eq_true rfl⟩ ⟨Nat.zero_le _, Nat.zero_le _⟩ hl.1 rfl (Nat.le_of_ble_eq_true rfl) dX9_layShared_31 (fun H locs h => ?_)
  obtain ⟨g16, hf⟩ := gd_use hf
  refine sa_9_25 C h (rfl : Kd 29 = 9) up_eq (F := fun t => va_up σ 29 t) (fun _ => up_up) (inB_in g16) dX9_layShared_34 (fun τ17 eτ17 H locs h => ?_)
  replace hf := lt_use eτ17 hf
  clear eτ17
  obtain ⟨x18, ex18⟩ : ∃ y : Int32, y = (v2 + (1 : Int32)) := ⟨_, rfl⟩
  refine lv_iinc (v := x18) (lv' := [(2, .int x18), (0, .ref (Ea E 29 0)), (1, .int v1)]) hx hb dX9_layShared_35 hl (k := 2) rfl (by rw [ex18]; rfl) (by decide) rfl (fun ls hl => ?_)
  replace hf := lt_use ex18 hf
  clear ex18
  refine lv_goto (tgt := 10) hx hb dX9_layShared_38 (by decide) ?_
  exact hk10 _ _ _ _ _ h ls (lv_sub hl [1, 2, 0] rfl) hf
set_option maxHeartbeats 4000000 in
set_option maxRecDepth 100000 in
theorem w_X9_layShared_10L {p : Program} {l : Launch} {e : Env} {s : State} {m : MethodId} {args : Array Value} {below : List Frame} {meth : Method} {c : Code} {E : Ev} {σ : Ms} {ℓ : Mz} {out : Mm}   (C : Cx cX9_layShared 3 none wsX9_layShared RX9 E p s m args meth c) {k2 : Mm → Int32 → Option (Mm)} (hk2 : ∀ (τ : Mm) (v1 : Int32) (H : Heap) (locs : List Loc), HI E (va_up σ 29 τ) ℓ s H locs → ∀ ls : Array Slot, lv_has ls 3 [(0, .ref (Ea E 29 0)), (1, .int v1)] → k2 τ v1 = some out → W p l e rm_X9_layShared s m args below meth c H locs 0 0 (MQ below (Po E s.heap.size none (va_up σ 29 out) ℓ) args s 0 0 (AA E s.heap.size)) (F0 m 2 ls [])) : ∀ (n9 : Nat) (τ : Mm) (v1 : Int32) (v2 : Int32) (H : Heap) (locs : List Loc) (h : HI E (va_up σ 29 τ) ℓ s H locs) (ls : Array Slot) (hl : lv_has ls 3 [(0, .ref (Ea E 29 0)), (1, .int v1), (2, .int v2)]), f_X9_layShared_10L  k2 n9 τ v1 v2 = some out → W p l e rm_X9_layShared s m args below meth c H locs 0 0 (MQ below (Po E s.heap.size none (va_up σ 29 out) ℓ) args s 0 0 (AA E s.heap.size)) (F0 m 10 ls []) := by
  intro n9
  induction n9 with
  | zero =>
    intro τ v1 v2 H locs h ls hl hf
    cases (show (none : Option (Mm)) = some out from hf)
  | succ n9 ih =>
    intro τ v1 v2 H locs h ls hl hf
    exact w_X9_layShared_10   C hk2 ih τ v1 v2 H locs h ls hl hf
set_option maxHeartbeats 4000000 in
set_option maxRecDepth 100000 in
theorem w_X9_layShared_2 {p : Program} {l : Launch} {e : Env} {s : State} {m : MethodId} {args : Array Value} {below : List Frame} {meth : Method} {c : Code} {E : Ev} {σ : Ms} {ℓ : Mz} {out : Mm}   (C : Cx cX9_layShared 3 none wsX9_layShared RX9 E p s m args meth c) {k2 : Mm → Int32 → Option (Mm)} (hk2 : ∀ (τ : Mm) (v1 : Int32) (H : Heap) (locs : List Loc), HI E (va_up σ 29 τ) ℓ s H locs → ∀ ls : Array Slot, lv_has ls 3 [(0, .ref (Ea E 29 0)), (1, .int v1)] → k2 τ v1 = some out → W p l e rm_X9_layShared s m args below meth c H locs 0 0 (MQ below (Po E s.heap.size none (va_up σ 29 out) ℓ) args s 0 0 (AA E s.heap.size)) (F0 m 2 ls [])) : ∀ (τ : Mm) (v1 : Int32) (H : Heap) (locs : List Loc) (h : HI E (va_up σ 29 τ) ℓ s H locs) (ls : Array Slot) (hl : lv_has ls 3 [(0, .ref (Ea E 29 0)), (1, .int v1)]), f_X9_layShared_2  k2 τ v1 = some out → W p l e rm_X9_layShared s m args below meth c H locs 0 0 (MQ below (Po E s.heap.size none (va_up σ 29 out) ℓ) args s 0 0 (AA E s.heap.size)) (F0 m 2 ls []) := by
  intro τ v1 H locs h ls hl hf
  unfold f_X9_layShared_2 at hf
  have C0 := C
  obtain ⟨hx, hb, hr, hml, hown, hts, hlk, hK, hSF⟩ := C0
  refine lv_iload_n hx hb dX9_layShared_2 rfl (lv_at hl 1 rfl) ?_
  refine lv_bipush (v := (10 : Int32)) hx hb dX9_layShared_3 (by decide) ?_
  refine lv_icmp_ge (tgt := 47) hx hb dX9_layShared_5 (by decide) (fun c1 => ?_) (fun c1 => ?_)
  · replace hf := it_t c1 hf
    refine lv_iconst (v := (0 : Int32)) hx hb dX9_layShared_47 (by decide) ?_
    refine lv_istore_n (lv' := [(1, .int (0 : Int32)), (0, .ref (Ea E 29 0))]) hx hb dX9_layShared_48 rfl hl (by decide) rfl (fun ls hl => ?_)
    exact w_X9_layShared_49L    C  _ _ _ _ _ h ls (lv_sub hl [1, 0] rfl) hf
  replace hf := it_f c1 hf
  refine lv_iconst (v := (0 : Int32)) hx hb dX9_layShared_8 (by decide) ?_
  refine lv_istore_n (lv' := [(2, .int (0 : Int32)), (0, .ref (Ea E 29 0)), (1, .int v1)]) hx hb dX9_layShared_9 rfl hl (by decide) rfl (fun ls hl => ?_)
  exact w_X9_layShared_10L    C hk2 _ _ _ _ _ _ h ls (lv_sub hl [1, 2, 0] rfl) hf
set_option maxHeartbeats 4000000 in
set_option maxRecDepth 100000 in
theorem w_X9_layShared_2L {p : Program} {l : Launch} {e : Env} {s : State} {m : MethodId} {args : Array Value} {below : List Frame} {meth : Method} {c : Code} {E : Ev} {σ : Ms} {ℓ : Mz} {out : Mm}   (C : Cx cX9_layShared 3 none wsX9_layShared RX9 E p s m args meth c)  : ∀ (n9 : Nat) (τ : Mm) (v1 : Int32) (H : Heap) (locs : List Loc) (h : HI E (va_up σ 29 τ) ℓ s H locs) (ls : Array Slot) (hl : lv_has ls 3 [(0, .ref (Ea E 29 0)), (1, .int v1)]), f_X9_layShared_2L   n9 τ v1 = some out → W p l e rm_X9_layShared s m args below meth c H locs 0 0 (MQ below (Po E s.heap.size none (va_up σ 29 out) ℓ) args s 0 0 (AA E s.heap.size)) (F0 m 2 ls []) := by
  intro n9
  induction n9 with
  | zero =>
    intro τ v1 H locs h ls hl hf
    cases (show (none : Option (Mm)) = some out from hf)
  | succ n9 ih =>
    intro τ v1 H locs h ls hl hf
    exact w_X9_layShared_2   C  ih τ v1 H locs h ls hl hf
set_option maxHeartbeats 4000000 in
set_option maxRecDepth 100000 in
theorem w_X9_layShared_0 {p : Program} {l : Launch} {e : Env} {s : State} {m : MethodId} {args : Array Value} {below : List Frame} {meth : Method} {c : Code} {E : Ev} {σ : Ms} {ℓ : Mz} {out : Mm}   (C : Cx cX9_layShared 3 none wsX9_layShared RX9 E p s m args meth c)  : ∀ (τ : Mm) (H : Heap) (locs : List Loc) (h : HI E (va_up σ 29 τ) ℓ s H locs) (ls : Array Slot) (hl : lv_has ls 3 [(0, .ref (Ea E 29 0))]), f_X9_layShared_0   τ = some out → W p l e rm_X9_layShared s m args below meth c H locs 0 0 (MQ below (Po E s.heap.size none (va_up σ 29 out) ℓ) args s 0 0 (AA E s.heap.size)) (F0 m 0 ls []) := by
  intro τ H locs h ls hl hf
  unfold f_X9_layShared_0 at hf
  have C0 := C
  obtain ⟨hx, hb, hr, hml, hown, hts, hlk, hK, hSF⟩ := C0
  refine lv_iconst (v := (0 : Int32)) hx hb dX9_layShared_0 (by decide) ?_
  refine lv_istore_n (lv' := [(1, .int (0 : Int32)), (0, .ref (Ea E 29 0))]) hx hb dX9_layShared_1 rfl hl (by decide) rfl (fun ls hl => ?_)
  exact w_X9_layShared_2L    C  _ _ _ _ _ h ls (lv_sub hl [1, 0] rfl) hf
theorem c_X9_layShared {l : Launch} {E : Ev} {σ : Ms} {ℓ : Mz} {τ : Mm} {out : Mm} (hf : f_X9_layShared τ = some out) : Ct l yX9_layShared wsX9_layShared rm_X9_layShared [.ref (Ea E 29 0)] E (va_up σ 29 τ) ℓ none (va_up σ 29 out) ℓ := by
  refine Ct_mk (cc := cX9_layShared) (mL := 3) (ret := none) (own := RX9) (by decide +kernel) rfl rfl (Nat.le_of_ble_eq_true rfl) (fun p e s m below meth c C h ls hl => ?_)
  exact w_X9_layShared_0  C τ _ _ h ls (lv_sub hl [0] rfl) hf
theorem k_X9_layShared {l : Launch} {E : Ev} {σ : Ms} {ℓ : Mz} {τ : Mm} (hτ : σ 29 = τ) {out : Mm} (hf : f_X9_layShared τ = some out) : Ct l yX9_layShared wsX9_layShared rm_X9_layShared [.ref (Ea E 29 0)] E σ ℓ none (va_up σ 29 out) ℓ := by
  subst hτ
  have h := c_X9_layShared (l := l) (E := E) (σ := σ) (ℓ := ℓ)  hf
  rw [up_id σ 29] at h
  exact h
theorem hdX9_whoShared : yX9_whoShared.cls = RX9 ∧ yX9_whoShared.cls ≠ "java/lang/invoke/MethodHandle" ∧ yX9_whoShared.cls ≠ "java/lang/invoke/VarHandle" ∧ (parseMethodDescriptor yX9_whoShared.desc).map (fun d => d.parameters.length) = some 2 := by decide +kernel
def rm_X9_whoShared : Room := { frames := 2, cells := 0, slots := 0, locals := 43 }
set_option maxRecDepth 100000 in
theorem inX9_whoShared_9 : ∀ w ∈ wsX90, w ∈ wsX9_whoShared := fun _ h => List.mem_cons_of_mem _ (List.mem_append_right _ h)
set_option maxRecDepth 100000 in
theorem lkX9_whoShared_7 : Cond.fieldLink RX9 7 "BellsBelowModel" "masters" "I" ∈ wsX9_whoShared := by decide +kernel
set_option maxRecDepth 100000 in
theorem lkX9_whoShared_136 : Cond.fieldLink RX9 136 "BellsBelowModel" "most" "[I" ∈ wsX9_whoShared := by decide +kernel
set_option maxRecDepth 100000 in
theorem lkX9_whoShared_139 : Cond.fieldLink RX9 139 "BellsBelowModel" "cheap" "[I" ∈ wsX9_whoShared := by decide +kernel
set_option maxRecDepth 100000 in
theorem lkX9_whoShared_142 : Cond.fieldLink RX9 142 "BellsBelowModel" "laid" "[I" ∈ wsX9_whoShared := by decide +kernel
set_option maxHeartbeats 4000000 in
set_option maxRecDepth 100000 in
theorem w_X9_whoShared_115 {p : Program} {l : Launch} {e : Env} {s : State} {m : MethodId} {args : Array Value} {below : List Frame} {meth : Method} {c : Code} {E : Ev} {σ : Ms} {ℓ : Mz} {τ : Mm} {p0 : Int32} {p1 : Int32} {out : Int32} (hτ : σ 29 = τ)   (C : Cx cX9_whoShared 6 (some .int) wsX9_whoShared RX9 E p s m args meth c) {k10 : Int32 → Int32 → Option (Int32)} (hk10 : ∀ (v3 : Int32) (v4 : Int32) (H : Heap) (locs : List Loc), HI E σ ℓ s H locs → ∀ ls : Array Slot, lv_has ls 6 [(0, .ref (Ea E 29 0)), (1, .int p0), (2, .int p1), (3, .int v3), (4, .int v4)] → k10 v3 v4 = some out → W p l e rm_X9_whoShared s m args below meth c H locs 0 0 (MQ below (Po E s.heap.size (some (.int out)) σ ℓ) args s 0 0 (AA E s.heap.size)) (F0 m 10 ls [])) : ∀ (v3 : Int32) (v4 : Int32) (H : Heap) (locs : List Loc) (h : HI E σ ℓ s H locs) (ls : Array Slot) (hl : lv_has ls 6 [(0, .ref (Ea E 29 0)), (1, .int p0), (2, .int p1), (3, .int v3), (4, .int v4)]), f_X9_whoShared_115 τ p0 p1 k10 v3 v4 = some out → W p l e rm_X9_whoShared s m args below meth c H locs 0 0 (MQ below (Po E s.heap.size (some (.int out)) σ ℓ) args s 0 0 (AA E s.heap.size)) (F0 m 115 ls []) := by
  intro v3 v4 H locs h ls hl hf
  unfold f_X9_whoShared_115 at hf
  have C0 := C
  obtain ⟨hx, hb, hr, hml, hown, hts, hlk, hK, hSF⟩ := C0
  obtain ⟨x7, ex7⟩ : ∃ y : Int32, y = (v4 + (1 : Int32)) := ⟨_, rfl⟩
  refine lv_iinc (v := x7) (lv' := [(4, .int x7), (0, .ref (Ea E 29 0)), (1, .int p0), (2, .int p1), (3, .int v3)]) hx hb dX9_whoShared_115 hl (k := 4) rfl (by rw [ex7]; rfl) (by decide) rfl (fun ls hl => ?_)
  replace hf := lt_use ex7 hf
  clear ex7
  refine lv_goto (tgt := 10) hx hb dX9_whoShared_118 (by decide) ?_
  exact hk10 _ _ _ _ h ls (lv_sub hl [1, 2, 3, 4, 0] rfl) hf
set_option maxHeartbeats 4000000 in
set_option maxRecDepth 100000 in
theorem w_X9_whoShared_10 {p : Program} {l : Launch} {e : Env} {s : State} {m : MethodId} {args : Array Value} {below : List Frame} {meth : Method} {c : Code} {E : Ev} {σ : Ms} {ℓ : Mz} {τ : Mm} {p0 : Int32} {p1 : Int32} {out : Int32} (hτ : σ 29 = τ)   (C : Cx cX9_whoShared 6 (some .int) wsX9_whoShared RX9 E p s m args meth c) {k10 : Int32 → Int32 → Option (Int32)} (hk10 : ∀ (v3 : Int32) (v4 : Int32) (H : Heap) (locs : List Loc), HI E σ ℓ s H locs → ∀ ls : Array Slot, lv_has ls 6 [(0, .ref (Ea E 29 0)), (1, .int p0), (2, .int p1), (3, .int v3), (4, .int v4)] → k10 v3 v4 = some out → W p l e rm_X9_whoShared s m args below meth c H locs 0 0 (MQ below (Po E s.heap.size (some (.int out)) σ ℓ) args s 0 0 (AA E s.heap.size)) (F0 m 10 ls [])) : ∀ (v3 : Int32) (v4 : Int32) (H : Heap) (locs : List Loc) (h : HI E σ ℓ s H locs) (ls : Array Slot) (hl : lv_has ls 6 [(0, .ref (Ea E 29 0)), (1, .int p0), (2, .int p1), (3, .int v3), (4, .int v4)]), f_X9_whoShared_10 τ p0 p1 k10 v3 v4 = some out → W p l e rm_X9_whoShared s m args below meth c H locs 0 0 (MQ below (Po E s.heap.size (some (.int out)) σ ℓ) args s 0 0 (AA E s.heap.size)) (F0 m 10 ls []) := by
  intro v3 v4 H locs h ls hl hf
  unfold f_X9_whoShared_10 at hf
  have C0 := C
  obtain ⟨hx, hb, hr, hml, hown, hts, hlk, hK, hSF⟩ := C0
  refine lv_iload hx hb dX9_whoShared_10 (lv_at hl 4 rfl) ?_
  refine lv_aload_n hx hb dX9_whoShared_12 rfl (lv_at hl 0 rfl) ?_
  refine gf_9_0 C h (rfl : Kd 29 = 9) hτ inX9_whoShared_9 lkX9_whoShared_7 dX9_whoShared_13 ?_
  refine lv_icmp_ge (tgt := 121) hx hb dX9_whoShared_16 (by decide) (fun c2 => ?_) (fun c2 => ?_)
  · replace hf := it_t c2 hf
    refine lv_bipush (v := (-5 : Int32)) hx hb dX9_whoShared_121 (by decide) ?_
    replace hf := Option.some.inj hf
    subst hf
    exact r_ire C h dX9_whoShared_123
  replace hf := it_f c2 hf
  refine lv_aload_n hx hb dX9_whoShared_19 rfl (lv_at hl 0 rfl) ?_
  refine lv_iload_n hx hb dX9_whoShared_20 rfl (lv_at hl 1 rfl) ?_
  obtain ⟨u3, hu3, hf⟩ := bd_use hf
  refine r_cv_9 (rest := []) C h (c_X9_isOpen hτ hu3) (rfl : Kd 29 = 9) gX9_whoShared_X9_isOpen rfl ⟨rfl, rfl⟩ hdX9_isOpen ⟨Nat.le_of_ble_eq_true rfl, Nat.le_of_ble_eq_true rfl⟩ ⟨Nat.zero_le _, Nat.zero_le _⟩ hl.1 rfl (Nat.le_of_ble_eq_true rfl) dX9_whoShared_21 (fun H locs h => ?_)
  refine lv_if_eq (tgt := 121) hx hb dX9_whoShared_24 (by decide) (fun c4 => ?_) (fun c4 => ?_)
  · replace hf := it_t c4 hf
    refine lv_bipush (v := (-5 : Int32)) hx hb dX9_whoShared_121 (by decide) ?_
    replace hf := Option.some.inj hf
    subst hf
    exact r_ire C h dX9_whoShared_123
  replace hf := it_f c4 hf
  refine lv_aload_n hx hb dX9_whoShared_27 rfl (lv_at hl 0 rfl) ?_
  refine lv_iload_n hx hb dX9_whoShared_28 rfl (lv_at hl 2 rfl) ?_
  refine lv_iload hx hb dX9_whoShared_29 (lv_at hl 4 rfl) ?_
  obtain ⟨u5, hu5, hf⟩ := bd_use hf
  refine r_cv_9 (rest := []) C h (c_X9_has  hu5) (rfl : Kd 29 = 9) gX9_whoShared_X9_has rfl ⟨rfl, rfl⟩ hdX9_has ⟨Nat.le_of_ble_eq_true rfl, Nat.le_of_ble_eq_true rfl⟩ ⟨Nat.zero_le _, Nat.zero_le _⟩ hl.1 rfl (Nat.le_of_ble_eq_true rfl) dX9_whoShared_31 (fun H locs h => ?_)
  refine lv_if_ne (tgt := 115) hx hb dX9_whoShared_34 (by decide) (fun c6 => ?_) (fun c6 => ?_)
  · replace hf := it_f c6 hf
    exact w_X9_whoShared_115 hτ   C hk10 _ _ _ _ h ls (lv_sub hl [0, 1, 2, 3, 4] rfl) hf
  replace hf := it_t c6 hf
  refine lv_aload_n hx hb dX9_whoShared_37 rfl (lv_at hl 0 rfl) ?_
  refine lv_iload hx hb dX9_whoShared_38 (lv_at hl 4 rfl) ?_
  obtain ⟨u8, hu8, hf⟩ := bd_use hf
  refine r_cv_9 (rest := []) C h (c_X9_isFree hτ hu8) (rfl : Kd 29 = 9) gX9_whoShared_X9_isFree rfl ⟨rfl, rfl⟩ hdX9_isFree ⟨Nat.le_of_ble_eq_true rfl, Nat.le_of_ble_eq_true rfl⟩ ⟨Nat.zero_le _, Nat.zero_le _⟩ hl.1 rfl (Nat.le_of_ble_eq_true rfl) dX9_whoShared_40 (fun H locs h => ?_)
  refine lv_if_ne (tgt := 49) hx hb dX9_whoShared_43 (by decide) (fun c9 => ?_) (fun c9 => ?_)
  · replace hf := it_f c9 hf
    refine lv_bipush (v := (64 : Int32)) hx hb dX9_whoShared_49 (by decide) ?_
    refine lv_iload_n hx hb dX9_whoShared_51 rfl (lv_at hl 1 rfl) ?_
    refine lv_imul hx hb dX9_whoShared_52 ?_
    refine lv_bipush (v := (64 : Int32)) hx hb dX9_whoShared_53 (by decide) ?_
    refine lv_iadd hx hb dX9_whoShared_55 ?_
    refine lv_iload_n hx hb dX9_whoShared_56 rfl (lv_at hl 2 rfl) ?_
    refine lv_iconst (v := (1 : Int32)) hx hb dX9_whoShared_57 (by decide) ?_
    refine lv_iload hx hb dX9_whoShared_58 (lv_at hl 4 rfl) ?_
    refine lv_ishl hx hb dX9_whoShared_60 ?_
    refine lv_ior hx hb dX9_whoShared_61 ?_
    refine lv_iadd hx hb dX9_whoShared_62 ?_
    refine lv_topi (fun x10 ex10 => ?_)
    replace hf := lt_use ex10 hf
    clear ex10
    refine lv_istore (lv' := [(5, .int x10), (0, .ref (Ea E 29 0)), (1, .int p0), (2, .int p1), (3, .int v3), (4, .int v4)]) hx hb dX9_whoShared_63 hl (by decide) rfl (fun ls hl => ?_)
    refine lv_aload_n hx hb dX9_whoShared_65 rfl (lv_at hl 1 rfl) ?_
    refine gf_9_41 C h (rfl : Kd 29 = 9) hτ inX9_whoShared_9 lkX9_whoShared_136 dX9_whoShared_66 ?_
    refine lv_iload hx hb dX9_whoShared_69 (lv_at hl 0 rfl) ?_
    obtain ⟨g11, hf⟩ := gd_use hf
    refine ld_9_23 C h (rfl : Kd 29 = 9) hτ (inB_in g11) dX9_whoShared_71 ?_
    refine lv_iconst (v := (1 : Int32)) hx hb dX9_whoShared_72 (by decide) ?_
    refine lv_iadd hx hb dX9_whoShared_73 ?_
    refine lv_aload_n hx hb dX9_whoShared_74 rfl (lv_at hl 1 rfl) ?_
    refine gf_9_41 C h (rfl : Kd 29 = 9) hτ inX9_whoShared_9 lkX9_whoShared_136 dX9_whoShared_75 ?_
    refine lv_iload_n hx hb dX9_whoShared_78 rfl (lv_at hl 4 rfl) ?_
    obtain ⟨g12, hf⟩ := gd_use hf
    refine ld_9_23 C h (rfl : Kd 29 = 9) hτ (inB_in g12) dX9_whoShared_79 ?_
    refine lv_icmp_ne (tgt := 115) hx hb dX9_whoShared_80 (by decide) (fun c13 => ?_) (fun c13 => ?_)
    · replace hf := it_f c13 hf
      exact w_X9_whoShared_115 hτ   C hk10 _ _ _ _ h ls (lv_sub hl [1, 2, 3, 4, 5] rfl) hf
    replace hf := it_t c13 hf
    refine lv_aload_n hx hb dX9_whoShared_83 rfl (lv_at hl 1 rfl) ?_
    refine gf_9_42 C h (rfl : Kd 29 = 9) hτ inX9_whoShared_9 lkX9_whoShared_139 dX9_whoShared_84 ?_
    refine lv_iload hx hb dX9_whoShared_87 (lv_at hl 0 rfl) ?_
    obtain ⟨g14, hf⟩ := gd_use hf
    refine ld_9_24 C h (rfl : Kd 29 = 9) hτ (inB_in g14) dX9_whoShared_89 ?_
    refine lv_aload_n hx hb dX9_whoShared_90 rfl (lv_at hl 1 rfl) ?_
    refine gf_9_43 C h (rfl : Kd 29 = 9) hτ inX9_whoShared_9 lkX9_whoShared_142 dX9_whoShared_91 ?_
    refine lv_bipush (v := (6 : Int32)) hx hb dX9_whoShared_94 (by decide) ?_
    refine lv_iload_n hx hb dX9_whoShared_96 rfl (lv_at hl 2 rfl) ?_
    refine lv_imul hx hb dX9_whoShared_97 ?_
    refine lv_iload hx hb dX9_whoShared_98 (lv_at hl 5 rfl) ?_
    refine lv_iadd hx hb dX9_whoShared_100 ?_
    obtain ⟨g15, hf⟩ := gd_use hf
    refine ld_9_25 C h (rfl : Kd 29 = 9) hτ (inB_in g15) dX9_whoShared_101 ?_
    refine lv_iadd hx hb dX9_whoShared_102 ?_
    refine lv_aload_n hx hb dX9_whoShared_103 rfl (lv_at hl 1 rfl) ?_
    refine gf_9_42 C h (rfl : Kd 29 = 9) hτ inX9_whoShared_9 lkX9_whoShared_139 dX9_whoShared_104 ?_
    refine lv_iload_n hx hb dX9_whoShared_107 rfl (lv_at hl 4 rfl) ?_
    obtain ⟨g16, hf⟩ := gd_use hf
    refine ld_9_24 C h (rfl : Kd 29 = 9) hτ (inB_in g16) dX9_whoShared_108 ?_
    refine lv_icmp_ne (tgt := 115) hx hb dX9_whoShared_109 (by decide) (fun c17 => ?_) (fun c17 => ?_)
    · replace hf := it_f c17 hf
      exact w_X9_whoShared_115 hτ   C hk10 _ _ _ _ h ls (lv_sub hl [1, 2, 3, 4, 5] rfl) hf
    replace hf := it_t c17 hf
    refine lv_iload hx hb dX9_whoShared_112 (lv_at hl 5 rfl) ?_
    replace hf := Option.some.inj hf
    subst hf
    exact r_ire C h dX9_whoShared_114
  replace hf := it_t c9 hf
  refine lv_goto (tgt := 115) hx hb dX9_whoShared_46 (by decide) ?_
  exact w_X9_whoShared_115 hτ   C hk10 _ _ _ _ h ls (lv_sub hl [0, 1, 2, 3, 4] rfl) hf
set_option maxHeartbeats 4000000 in
set_option maxRecDepth 100000 in
theorem w_X9_whoShared_10L {p : Program} {l : Launch} {e : Env} {s : State} {m : MethodId} {args : Array Value} {below : List Frame} {meth : Method} {c : Code} {E : Ev} {σ : Ms} {ℓ : Mz} {τ : Mm} {p0 : Int32} {p1 : Int32} {out : Int32} (hτ : σ 29 = τ)   (C : Cx cX9_whoShared 6 (some .int) wsX9_whoShared RX9 E p s m args meth c)  : ∀ (n9 : Nat) (v3 : Int32) (v4 : Int32) (H : Heap) (locs : List Loc) (h : HI E σ ℓ s H locs) (ls : Array Slot) (hl : lv_has ls 6 [(0, .ref (Ea E 29 0)), (1, .int p0), (2, .int p1), (3, .int v3), (4, .int v4)]), f_X9_whoShared_10L τ p0 p1  n9 v3 v4 = some out → W p l e rm_X9_whoShared s m args below meth c H locs 0 0 (MQ below (Po E s.heap.size (some (.int out)) σ ℓ) args s 0 0 (AA E s.heap.size)) (F0 m 10 ls []) := by
  intro n9
  induction n9 with
  | zero =>
    intro v3 v4 H locs h ls hl hf
    cases (show (none : Option (Int32)) = some out from hf)
  | succ n9 ih =>
    intro v3 v4 H locs h ls hl hf
    exact w_X9_whoShared_10 hτ  C  ih v3 v4 H locs h ls hl hf
set_option maxHeartbeats 4000000 in
set_option maxRecDepth 100000 in
theorem w_X9_whoShared_0 {p : Program} {l : Launch} {e : Env} {s : State} {m : MethodId} {args : Array Value} {below : List Frame} {meth : Method} {c : Code} {E : Ev} {σ : Ms} {ℓ : Mz} {τ : Mm} {p0 : Int32} {p1 : Int32} {out : Int32} (hτ : σ 29 = τ)   (C : Cx cX9_whoShared 6 (some .int) wsX9_whoShared RX9 E p s m args meth c)  : ∀  (H : Heap) (locs : List Loc) (h : HI E σ ℓ s H locs) (ls : Array Slot) (hl : lv_has ls 6 [(0, .ref (Ea E 29 0)), (1, .int p0), (2, .int p1)]), f_X9_whoShared_0 τ p0 p1   = some out → W p l e rm_X9_whoShared s m args below meth c H locs 0 0 (MQ below (Po E s.heap.size (some (.int out)) σ ℓ) args s 0 0 (AA E s.heap.size)) (F0 m 0 ls []) := by
  intro  H locs h ls hl hf
  unfold f_X9_whoShared_0 at hf
  have C0 := C
  obtain ⟨hx, hb, hr, hml, hown, hts, hlk, hK, hSF⟩ := C0
  refine lv_bipush (v := (64 : Int32)) hx hb dX9_whoShared_0 (by decide) ?_
  refine lv_iload_n hx hb dX9_whoShared_2 rfl (lv_at hl 1 rfl) ?_
  refine lv_imul hx hb dX9_whoShared_3 ?_
  refine lv_iload_n hx hb dX9_whoShared_4 rfl (lv_at hl 2 rfl) ?_
  refine lv_iadd hx hb dX9_whoShared_5 ?_
  refine lv_topi (fun x1 ex1 => ?_)
  replace hf := lt_use ex1 hf
  clear ex1
  refine lv_istore_n (lv' := [(3, .int x1), (0, .ref (Ea E 29 0)), (1, .int p0), (2, .int p1)]) hx hb dX9_whoShared_6 rfl hl (by decide) rfl (fun ls hl => ?_)
  refine lv_iconst (v := (0 : Int32)) hx hb dX9_whoShared_7 (by decide) ?_
  refine lv_istore (lv' := [(4, .int (0 : Int32)), (3, .int x1), (0, .ref (Ea E 29 0)), (1, .int p0), (2, .int p1)]) hx hb dX9_whoShared_8 hl (by decide) rfl (fun ls hl => ?_)
  exact w_X9_whoShared_10L hτ   C  _ _ _ _ _ h ls (lv_sub hl [2, 3, 4, 1, 0] rfl) hf
theorem c_X9_whoShared {l : Launch} {E : Ev} {σ : Ms} {ℓ : Mz} {τ : Mm} {p0 : Int32} {p1 : Int32} (hτ : σ 29 = τ) {out : Int32} (hf : f_X9_whoShared τ p0 p1 = some out) : Ct l yX9_whoShared wsX9_whoShared rm_X9_whoShared [.ref (Ea E 29 0), .int p0, .int p1] E σ ℓ (some (.int out)) σ ℓ := by
  refine Ct_mk (cc := cX9_whoShared) (mL := 6) (ret := (some .int)) (own := RX9) (by decide +kernel) rfl rfl (Nat.le_of_ble_eq_true rfl) (fun p e s m below meth c C h ls hl => ?_)
  exact w_X9_whoShared_0 hτ C  _ _ h ls (lv_sub hl [0, 1, 2] rfl) hf
theorem hdX9_shared : yX9_shared.cls = RX9 ∧ yX9_shared.cls ≠ "java/lang/invoke/MethodHandle" ∧ yX9_shared.cls ≠ "java/lang/invoke/VarHandle" ∧ (parseMethodDescriptor yX9_shared.desc).map (fun d => d.parameters.length) = some 1 := by decide +kernel
def rm_X9_shared : Room := { frames := 6, cells := 0, slots := 0, locals := 143 }
set_option maxRecDepth 100000 in
theorem inX9_shared_9 : ∀ w ∈ wsX90, w ∈ wsX9_shared := fun _ h => List.mem_cons_of_mem _ (List.mem_append_right _ h)
set_option maxRecDepth 100000 in
theorem lkX9_shared_139 : Cond.fieldLink RX9 139 "BellsBelowModel" "cheap" "[I" ∈ wsX9_shared := by decide +kernel
set_option maxRecDepth 100000 in
theorem lkX9_shared_136 : Cond.fieldLink RX9 136 "BellsBelowModel" "most" "[I" ∈ wsX9_shared := by decide +kernel
set_option maxHeartbeats 4000000 in
set_option maxRecDepth 100000 in
theorem w_X9_shared_92 {p : Program} {l : Launch} {e : Env} {s : State} {m : MethodId} {args : Array Value} {below : List Frame} {meth : Method} {c : Code} {E : Ev} {σ : Ms} {ℓ : Mz} {p0 : Int32} {out : Int32 × Mm}   (C : Cx cX9_shared 5 (some .int) wsX9_shared RX9 E p s m args meth c) {k63 : Mm → Int32 → Int32 → Int32 → Option (Int32 × Mm)} (hk63 : ∀ (τ : Mm) (v2 : Int32) (v3 : Int32) (v4 : Int32) (H : Heap) (locs : List Loc), HI E (va_up σ 29 τ) ℓ s H locs → ∀ ls : Array Slot, lv_has ls 5 [(0, .ref (Ea E 29 0)), (1, .int p0), (2, .int v2), (3, .int v3), (4, .int v4)] → k63 τ v2 v3 v4 = some out → W p l e rm_X9_shared s m args below meth c H locs 0 0 (MQ below (Po E s.heap.size (some (.int out.1)) (va_up σ 29 out.2) ℓ) args s 0 0 (AA E s.heap.size)) (F0 m 63 ls [])) : ∀ (τ : Mm) (v3 : Int32) (v4 : Int32) (w0 : Int32) (w1 : Int32) (H : Heap) (locs : List Loc) (h : HI E (va_up σ 29 τ) ℓ s H locs) (ls : Array Slot) (hl : lv_has ls 5 [(0, .ref (Ea E 29 0)), (1, .int p0), (3, .int v3), (4, .int v4)]), f_X9_shared_92 p0 k63 τ v3 v4 w0 w1 = some out → W p l e rm_X9_shared s m args below meth c H locs 0 0 (MQ below (Po E s.heap.size (some (.int out.1)) (va_up σ 29 out.2) ℓ) args s 0 0 (AA E s.heap.size)) (F0 m 92 ls [.int w1, .int w0]) := by
  intro τ v3 v4 w0 w1 H locs h ls hl hf
  unfold f_X9_shared_92 at hf
  have C0 := C
  obtain ⟨hx, hb, hr, hml, hown, hts, hlk, hK, hSF⟩ := C0
  refine lv_ior hx hb dX9_shared_92 ?_
  refine lv_topi (fun x8 ex8 => ?_)
  replace hf := lt_use ex8 hf
  clear ex8
  refine lv_istore_n (lv' := [(2, .int x8), (0, .ref (Ea E 29 0)), (1, .int p0), (3, .int v3), (4, .int v4)]) hx hb dX9_shared_93 rfl hl (by decide) rfl (fun ls hl => ?_)
  obtain ⟨x9, ex9⟩ : ∃ y : Int32, y = (v4 + (1 : Int32)) := ⟨_, rfl⟩
  refine lv_iinc (v := x9) (lv' := [(4, .int x9), (2, .int x8), (0, .ref (Ea E 29 0)), (1, .int p0), (3, .int v3)]) hx hb dX9_shared_94 hl (k := 4) rfl (by rw [ex9]; rfl) (by decide) rfl (fun ls hl => ?_)
  replace hf := lt_use ex9 hf
  clear ex9
  refine lv_goto (tgt := 63) hx hb dX9_shared_97 (by decide) ?_
  exact hk63 _ _ _ _ _ _ h ls (lv_sub hl [2, 3, 1, 4, 0] rfl) hf
set_option maxHeartbeats 4000000 in
set_option maxRecDepth 100000 in
theorem w_X9_shared_63 {p : Program} {l : Launch} {e : Env} {s : State} {m : MethodId} {args : Array Value} {below : List Frame} {meth : Method} {c : Code} {E : Ev} {σ : Ms} {ℓ : Mz} {p0 : Int32} {out : Int32 × Mm}   (C : Cx cX9_shared 5 (some .int) wsX9_shared RX9 E p s m args meth c) {k63 : Mm → Int32 → Int32 → Int32 → Option (Int32 × Mm)} (hk63 : ∀ (τ : Mm) (v2 : Int32) (v3 : Int32) (v4 : Int32) (H : Heap) (locs : List Loc), HI E (va_up σ 29 τ) ℓ s H locs → ∀ ls : Array Slot, lv_has ls 5 [(0, .ref (Ea E 29 0)), (1, .int p0), (2, .int v2), (3, .int v3), (4, .int v4)] → k63 τ v2 v3 v4 = some out → W p l e rm_X9_shared s m args below meth c H locs 0 0 (MQ below (Po E s.heap.size (some (.int out.1)) (va_up σ 29 out.2) ℓ) args s 0 0 (AA E s.heap.size)) (F0 m 63 ls [])) : ∀ (τ : Mm) (v2 : Int32) (v3 : Int32) (v4 : Int32) (H : Heap) (locs : List Loc) (h : HI E (va_up σ 29 τ) ℓ s H locs) (ls : Array Slot) (hl : lv_has ls 5 [(0, .ref (Ea E 29 0)), (1, .int p0), (2, .int v2), (3, .int v3), (4, .int v4)]), f_X9_shared_63 p0 k63 τ v2 v3 v4 = some out → W p l e rm_X9_shared s m args below meth c H locs 0 0 (MQ below (Po E s.heap.size (some (.int out.1)) (va_up σ 29 out.2) ℓ) args s 0 0 (AA E s.heap.size)) (F0 m 63 ls []) := by
  intro τ v2 v3 v4 H locs h ls hl hf
  unfold f_X9_shared_63 at hf
  have C0 := C
  obtain ⟨hx, hb, hr, hml, hown, hts, hlk, hK, hSF⟩ := C0
  refine lv_iload hx hb dX9_shared_63 (lv_at hl 4 rfl) ?_
  refine lv_iload_n hx hb dX9_shared_65 rfl (lv_at hl 1 rfl) ?_
  refine lv_bipush (v := (10 : Int32)) hx hb dX9_shared_66 (by decide) ?_
  refine lv_isub hx hb dX9_shared_68 ?_
  refine lv_icmp_gt (tgt := 100) hx hb dX9_shared_69 (by decide) (fun c5 => ?_) (fun c5 => ?_)
  · replace hf := it_t c5 hf
    refine lv_iload_n hx hb dX9_shared_100 rfl (lv_at hl 3 rfl) ?_
    replace hf := Option.some.inj hf
    subst hf
    exact r_ire C h dX9_shared_101
  replace hf := it_f c5 hf
  refine lv_aload_n hx hb dX9_shared_72 rfl (lv_at hl 0 rfl) ?_
  refine lv_iload hx hb dX9_shared_73 (lv_at hl 4 rfl) ?_
  refine lv_iload_n hx hb dX9_shared_75 rfl (lv_at hl 2 rfl) ?_
  obtain ⟨u6, hu6, hf⟩ := bd_use hf
  refine r_cv_9 (rest := []) C h (c_X9_whoShared up_eq hu6) (rfl : Kd 29 = 9) gX9_shared_X9_whoShared rfl ⟨rfl, rfl⟩ hdX9_whoShared ⟨Nat.le_of_ble_eq_true rfl, Nat.le_of_ble_eq_true rfl⟩ ⟨Nat.zero_le _, Nat.zero_le _⟩ hl.1 rfl (Nat.le_of_ble_eq_true rfl) dX9_shared_76 (fun H locs h => ?_)
  refine lv_istore_n (lv' := [(3, .int u6), (0, .ref (Ea E 29 0)), (1, .int p0), (2, .int v2), (4, .int v4)]) hx hb dX9_shared_79 rfl hl (by decide) rfl (fun ls hl => ?_)
  refine lv_iload_n hx hb dX9_shared_80 rfl (lv_at hl 3 rfl) ?_
  refine lv_iload_n hx hb dX9_shared_81 rfl (lv_at hl 0 rfl) ?_
  refine lv_if_lt (tgt := 91) hx hb dX9_shared_82 (by decide) (fun c7 => ?_) (fun c7 => ?_)
  · replace hf := it_t c7 hf
    refine lv_iconst (v := (0 : Int32)) hx hb dX9_shared_91 (by decide) ?_
    exact w_X9_shared_92    C hk63 _ _ _ _ _ _ _ h ls (lv_sub hl [1, 2, 0, 4] rfl) hf
  replace hf := it_f c7 hf
  refine lv_iconst (v := (1 : Int32)) hx hb dX9_shared_85 (by decide) ?_
  refine lv_iload_n hx hb dX9_shared_86 rfl (lv_at hl 0 rfl) ?_
  refine lv_ishl hx hb dX9_shared_87 ?_
  refine lv_goto (tgt := 92) hx hb dX9_shared_88 (by decide) ?_
  exact w_X9_shared_92    C hk63 _ _ _ _ _ _ _ h ls (lv_sub hl [1, 2, 0, 4] rfl) hf
set_option maxHeartbeats 4000000 in
set_option maxRecDepth 100000 in
theorem w_X9_shared_63L {p : Program} {l : Launch} {e : Env} {s : State} {m : MethodId} {args : Array Value} {below : List Frame} {meth : Method} {c : Code} {E : Ev} {σ : Ms} {ℓ : Mz} {p0 : Int32} {out : Int32 × Mm}   (C : Cx cX9_shared 5 (some .int) wsX9_shared RX9 E p s m args meth c)  : ∀ (n9 : Nat) (τ : Mm) (v2 : Int32) (v3 : Int32) (v4 : Int32) (H : Heap) (locs : List Loc) (h : HI E (va_up σ 29 τ) ℓ s H locs) (ls : Array Slot) (hl : lv_has ls 5 [(0, .ref (Ea E 29 0)), (1, .int p0), (2, .int v2), (3, .int v3), (4, .int v4)]), f_X9_shared_63L p0  n9 τ v2 v3 v4 = some out → W p l e rm_X9_shared s m args below meth c H locs 0 0 (MQ below (Po E s.heap.size (some (.int out.1)) (va_up σ 29 out.2) ℓ) args s 0 0 (AA E s.heap.size)) (F0 m 63 ls []) := by
  intro n9
  induction n9 with
  | zero =>
    intro τ v2 v3 v4 H locs h ls hl hf
    cases (show (none : Option (Int32 × Mm)) = some out from hf)
  | succ n9 ih =>
    intro τ v2 v3 v4 H locs h ls hl hf
    exact w_X9_shared_63   C  ih τ v2 v3 v4 H locs h ls hl hf
set_option maxHeartbeats 4000000 in
set_option maxRecDepth 100000 in
theorem w_X9_shared_26 {p : Program} {l : Launch} {e : Env} {s : State} {m : MethodId} {args : Array Value} {below : List Frame} {meth : Method} {c : Code} {E : Ev} {σ : Ms} {ℓ : Mz} {p0 : Int32} {out : Int32 × Mm}   (C : Cx cX9_shared 5 (some .int) wsX9_shared RX9 E p s m args meth c)  : ∀ (τ : Mm) (H : Heap) (locs : List Loc) (h : HI E (va_up σ 29 τ) ℓ s H locs) (ls : Array Slot) (hl : lv_has ls 5 [(0, .ref (Ea E 29 0)), (1, .int p0)]), f_X9_shared_26 p0  τ = some out → W p l e rm_X9_shared s m args below meth c H locs 0 0 (MQ below (Po E s.heap.size (some (.int out.1)) (va_up σ 29 out.2) ℓ) args s 0 0 (AA E s.heap.size)) (F0 m 26 ls []) := by
  intro τ H locs h ls hl hf
  unfold f_X9_shared_26 at hf
  have C0 := C
  obtain ⟨hx, hb, hr, hml, hown, hts, hlk, hK, hSF⟩ := C0
  refine lv_aload_n hx hb dX9_shared_26 rfl (lv_at hl 0 rfl) ?_
  obtain ⟨u3, hu3, hf⟩ := bd_use hf
  refine r_cv_9 (rest := []) C h (c_X9_layShared  hu3) (rfl : Kd 29 = 9) gX9_shared_X9_layShared rfl ⟨rfl, rfl⟩ hdX9_layShared ⟨Nat.le_of_ble_eq_true rfl, Nat.le_of_ble_eq_true rfl⟩ ⟨Nat.zero_le _, Nat.zero_le _⟩ hl.1 rfl (Nat.le_of_ble_eq_true rfl) dX9_shared_27 (fun H locs h => ?_)
  refine lv_iload_n hx hb dX9_shared_30 rfl (lv_at hl 1 rfl) ?_
  refine lv_iconst (v := (2 : Int32)) hx hb dX9_shared_31 (by decide) ?_
  refine lv_icmp_ge (tgt := 55) hx hb dX9_shared_32 (by decide) (fun c4 => ?_) (fun c4 => ?_)
  · replace hf := it_t c4 hf
    refine lv_iconst (v := (0 : Int32)) hx hb dX9_shared_55 (by decide) ?_
    refine lv_istore_n (lv' := [(2, .int (0 : Int32)), (0, .ref (Ea E 29 0)), (1, .int p0)]) hx hb dX9_shared_56 rfl hl (by decide) rfl (fun ls hl => ?_)
    refine lv_bipush (v := (-5 : Int32)) hx hb dX9_shared_57 (by decide) ?_
    refine lv_istore_n (lv' := [(3, .int (-5 : Int32)), (2, .int (0 : Int32)), (0, .ref (Ea E 29 0)), (1, .int p0)]) hx hb dX9_shared_59 rfl hl (by decide) rfl (fun ls hl => ?_)
    refine lv_iconst (v := (0 : Int32)) hx hb dX9_shared_60 (by decide) ?_
    refine lv_istore (lv' := [(4, .int (0 : Int32)), (3, .int (-5 : Int32)), (2, .int (0 : Int32)), (0, .ref (Ea E 29 0)), (1, .int p0)]) hx hb dX9_shared_61 hl (by decide) rfl (fun ls hl => ?_)
    exact w_X9_shared_63L    C  _ _ _ _ _ _ _ h ls (lv_sub hl [3, 4, 2, 1, 0] rfl) hf
  replace hf := it_f c4 hf
  refine lv_iload_n hx hb dX9_shared_35 rfl (lv_at hl 1 rfl) ?_
  refine lv_if_ne (tgt := 48) hx hb dX9_shared_36 (by decide) (fun c10 => ?_) (fun c10 => ?_)
  · replace hf := it_f c10 hf
    refine lv_aload_n hx hb dX9_shared_48 rfl (lv_at hl 0 rfl) ?_
    refine gf_9_42 C h (rfl : Kd 29 = 9) up_eq inX9_shared_9 lkX9_shared_139 dX9_shared_49 ?_
    refine lv_iconst (v := (0 : Int32)) hx hb dX9_shared_52 (by decide) ?_
    obtain ⟨g11, hf⟩ := gd_use hf
    refine ld_9_24 C h (rfl : Kd 29 = 9) up_eq (inB_in g11) dX9_shared_53 ?_
    replace hf := Option.some.inj hf
    subst hf
    exact r_ire C h dX9_shared_54
  replace hf := it_t c10 hf
  refine lv_aload_n hx hb dX9_shared_39 rfl (lv_at hl 0 rfl) ?_
  refine gf_9_41 C h (rfl : Kd 29 = 9) up_eq inX9_shared_9 lkX9_shared_136 dX9_shared_40 ?_
  refine lv_iconst (v := (0 : Int32)) hx hb dX9_shared_43 (by decide) ?_
  obtain ⟨g12, hf⟩ := gd_use hf
  refine ld_9_23 C h (rfl : Kd 29 = 9) up_eq (inB_in g12) dX9_shared_44 ?_
  refine lv_goto (tgt := 54) hx hb dX9_shared_45 (by decide) ?_
  replace hf := Option.some.inj hf
  subst hf
  exact r_ire C h dX9_shared_54
set_option maxHeartbeats 4000000 in
set_option maxRecDepth 100000 in
theorem w_X9_shared_0 {p : Program} {l : Launch} {e : Env} {s : State} {m : MethodId} {args : Array Value} {below : List Frame} {meth : Method} {c : Code} {E : Ev} {σ : Ms} {ℓ : Mz} {p0 : Int32} {out : Int32 × Mm}   (C : Cx cX9_shared 5 (some .int) wsX9_shared RX9 E p s m args meth c)  : ∀ (τ : Mm) (H : Heap) (locs : List Loc) (h : HI E (va_up σ 29 τ) ℓ s H locs) (ls : Array Slot) (hl : lv_has ls 5 [(0, .ref (Ea E 29 0)), (1, .int p0)]), f_X9_shared_0 p0  τ = some out → W p l e rm_X9_shared s m args below meth c H locs 0 0 (MQ below (Po E s.heap.size (some (.int out.1)) (va_up σ 29 out.2) ℓ) args s 0 0 (AA E s.heap.size)) (F0 m 0 ls []) := by
  intro τ H locs h ls hl hf
  unfold f_X9_shared_0 at hf
  have C0 := C
  obtain ⟨hx, hb, hr, hml, hown, hts, hlk, hK, hSF⟩ := C0
  refine lv_aload_n hx hb dX9_shared_0 rfl (lv_at hl 0 rfl) ?_
  refine lv_iload_n hx hb dX9_shared_1 rfl (lv_at hl 1 rfl) ?_
  refine lv_iconst (v := (0 : Int32)) hx hb dX9_shared_2 (by decide) ?_
  refine lv_iconst (v := (1 : Int32)) hx hb dX9_shared_3 (by decide) ?_
  obtain ⟨u1, hu1, hf⟩ := bd_use hf
  refine r_cv_9 (rest := []) C h (c_X9_in  hu1) (rfl : Kd 29 = 9) gX9_shared_X9_in rfl ⟨rfl, rfl⟩ hdX9_in ⟨Nat.le_of_ble_eq_true rfl, Nat.le_of_ble_eq_true rfl⟩ ⟨Nat.zero_le _, Nat.zero_le _⟩ hl.1 rfl (Nat.le_of_ble_eq_true rfl) dX9_shared_4 (fun H locs h => ?_)
  refine lv_if_ne (tgt := 26) hx hb dX9_shared_7 (by decide) (fun c2 => ?_) (fun c2 => ?_)
  · replace hf := it_f c2 hf
    exact w_X9_shared_26    C  _ _ _ h ls (lv_sub hl [0, 1] rfl) hf
  replace hf := it_t c2 hf
  refine lv_aload_n hx hb dX9_shared_10 rfl (lv_at hl 0 rfl) ?_
  refine lv_iload_n hx hb dX9_shared_11 rfl (lv_at hl 1 rfl) ?_
  refine lv_bipush (v := (10 : Int32)) hx hb dX9_shared_12 (by decide) ?_
  refine lv_bipush (v := (19 : Int32)) hx hb dX9_shared_14 (by decide) ?_
  obtain ⟨u13, hu13, hf⟩ := bd_use hf
  refine r_cv_9 (rest := []) C h (c_X9_in  hu13) (rfl : Kd 29 = 9) gX9_shared_X9_in rfl ⟨rfl, rfl⟩ hdX9_in ⟨Nat.le_of_ble_eq_true rfl, Nat.le_of_ble_eq_true rfl⟩ ⟨Nat.zero_le _, Nat.zero_le _⟩ hl.1 rfl (Nat.le_of_ble_eq_true rfl) dX9_shared_16 (fun H locs h => ?_)
  refine lv_if_ne (tgt := 26) hx hb dX9_shared_19 (by decide) (fun c14 => ?_) (fun c14 => ?_)
  · replace hf := it_f c14 hf
    exact w_X9_shared_26    C  _ _ _ h ls (lv_sub hl [0, 1] rfl) hf
  replace hf := it_t c14 hf
  refine lv_sipush (v := (-10001 : Int32)) hx hb dX9_shared_22 (by decide) ?_
  replace hf := Option.some.inj hf
  subst hf
  exact r_ire C h dX9_shared_25
theorem c_X9_shared {l : Launch} {E : Ev} {σ : Ms} {ℓ : Mz} {τ : Mm} {p0 : Int32} {out : Int32 × Mm} (hf : f_X9_shared τ p0 = some out) : Ct l yX9_shared wsX9_shared rm_X9_shared [.ref (Ea E 29 0), .int p0] E (va_up σ 29 τ) ℓ (some (.int out.1)) (va_up σ 29 out.2) ℓ := by
  refine Ct_mk (cc := cX9_shared) (mL := 5) (ret := (some .int)) (own := RX9) (by decide +kernel) rfl rfl (Nat.le_of_ble_eq_true rfl) (fun p e s m below meth c C h ls hl => ?_)
  exact w_X9_shared_0  C τ _ _ h ls (lv_sub hl [0, 1] rfl) hf
theorem k_X9_shared {l : Launch} {E : Ev} {σ : Ms} {ℓ : Mz} {τ : Mm} {p0 : Int32} (hτ : σ 29 = τ) {out : Int32 × Mm} (hf : f_X9_shared τ p0 = some out) : Ct l yX9_shared wsX9_shared rm_X9_shared [.ref (Ea E 29 0), .int p0] E σ ℓ (some (.int out.1)) (va_up σ 29 out.2) ℓ := by
  subst hτ
  have h := c_X9_shared (l := l) (E := E) (σ := σ) (ℓ := ℓ)  hf
  rw [up_id σ 29] at h
  exact h
theorem hdX9_see : yX9_see.cls = RX9 ∧ yX9_see.cls ≠ "java/lang/invoke/MethodHandle" ∧ yX9_see.cls ≠ "java/lang/invoke/VarHandle" ∧ (parseMethodDescriptor yX9_see.desc).map (fun d => d.parameters.length) = some 3 := by decide +kernel
def rm_X9_see : Room := { frames := 2, cells := 0, slots := 0, locals := 44 }
set_option maxRecDepth 100000 in
theorem inX9_see_9 : ∀ w ∈ wsX90, w ∈ wsX9_see := fun _ h => List.mem_cons_of_mem _ (List.mem_append_right _ h)
set_option maxRecDepth 100000 in
theorem lkX9_see_145 : Cond.fieldLink RX9 145 "BellsBelowModel" "seen" "I" ∈ wsX9_see := by decide +kernel
set_option maxRecDepth 100000 in
theorem lkX9_see_148 : Cond.fieldLink RX9 148 "BellsBelowModel" "seenWho" "[I" ∈ wsX9_see := by decide +kernel
set_option maxRecDepth 100000 in
theorem lkX9_see_151 : Cond.fieldLink RX9 151 "BellsBelowModel" "seenWhen" "[I" ∈ wsX9_see := by decide +kernel
set_option maxRecDepth 100000 in
theorem lkX9_see_154 : Cond.fieldLink RX9 154 "BellsBelowModel" "seenFloor" "[I" ∈ wsX9_see := by decide +kernel
set_option maxHeartbeats 4000000 in
set_option maxRecDepth 100000 in
theorem w_X9_see_0 {p : Program} {l : Launch} {e : Env} {s : State} {m : MethodId} {args : Array Value} {below : List Frame} {meth : Method} {c : Code} {E : Ev} {σ : Ms} {ℓ : Mz} {p0 : Int32} {p1 : Int32} {p2 : Int32} {out : Int32 × Mm}   (C : Cx cX9_see 4 (some .int) wsX9_see RX9 E p s m args meth c)  : ∀ (τ : Mm) (H : Heap) (locs : List Loc) (h : HI E (va_up σ 29 τ) ℓ s H locs) (ls : Array Slot) (hl : lv_has ls 4 [(0, .ref (Ea E 29 0)), (1, .int p0), (2, .int p1), (3, .int p2)]), f_X9_see_0 p0 p1 p2  τ = some out → W p l e rm_X9_see s m args below meth c H locs 0 0 (MQ below (Po E s.heap.size (some (.int out.1)) (va_up σ 29 out.2) ℓ) args s 0 0 (AA E s.heap.size)) (F0 m 0 ls []) := by
  intro τ H locs h ls hl hf
  unfold f_X9_see_0 at hf
  have C0 := C
  obtain ⟨hx, hb, hr, hml, hown, hts, hlk, hK, hSF⟩ := C0
  refine lv_iload_n hx hb dX9_see_0 rfl (lv_at hl 1 rfl) ?_
  refine lv_iconst (v := (-1 : Int32)) hx hb dX9_see_1 (by decide) ?_
  refine lv_icmp_ne (tgt := 12) hx hb dX9_see_2 (by decide) (fun c1 => ?_) (fun c1 => ?_)
  · replace hf := it_f c1 hf
    refine lv_aload_n hx hb dX9_see_12 rfl (lv_at hl 0 rfl) ?_
    refine lv_iload_n hx hb dX9_see_13 rfl (lv_at hl 1 rfl) ?_
    obtain ⟨u2, hu2, hf⟩ := bd_use hf
    refine r_cv_9 (rest := []) C h (c_X9_isMaster up_eq hu2) (rfl : Kd 29 = 9) gX9_see_X9_isMaster rfl ⟨rfl, rfl⟩ hdX9_isMaster ⟨Nat.le_of_ble_eq_true rfl, Nat.le_of_ble_eq_true rfl⟩ ⟨Nat.zero_le _, Nat.zero_le _⟩ hl.1 rfl (Nat.le_of_ble_eq_true rfl) dX9_see_14 (fun H locs h => ?_)
    refine lv_if_eq (tgt := 28) hx hb dX9_see_17 (by decide) (fun c3 => ?_) (fun c3 => ?_)
    · replace hf := it_t c3 hf
      refine lv_iconst (v := (-1 : Int32)) hx hb dX9_see_28 (by decide) ?_
      replace hf := Option.some.inj hf
      subst hf
      exact r_ire C h dX9_see_29
    replace hf := it_f c3 hf
    refine lv_aload_n hx hb dX9_see_20 rfl (lv_at hl 0 rfl) ?_
    refine lv_iload_n hx hb dX9_see_21 rfl (lv_at hl 3 rfl) ?_
    obtain ⟨u4, hu4, hf⟩ := bd_use hf
    refine r_cv_9 (rest := []) C h (c_X9_isFloor  hu4) (rfl : Kd 29 = 9) gX9_see_X9_isFloor rfl ⟨rfl, rfl⟩ hdX9_isFloor ⟨Nat.le_of_ble_eq_true rfl, Nat.le_of_ble_eq_true rfl⟩ ⟨Nat.zero_le _, Nat.zero_le _⟩ hl.1 rfl (Nat.le_of_ble_eq_true rfl) dX9_see_22 (fun H locs h => ?_)
    refine lv_if_ne (tgt := 30) hx hb dX9_see_25 (by decide) (fun c5 => ?_) (fun c5 => ?_)
    · replace hf := it_f c5 hf
      refine lv_aload_n hx hb dX9_see_30 rfl (lv_at hl 0 rfl) ?_
      refine lv_iload_n hx hb dX9_see_31 rfl (lv_at hl 2 rfl) ?_
      refine lv_iconst (v := (0 : Int32)) hx hb dX9_see_32 (by decide) ?_
      refine lv_bipush (v := (20 : Int32)) hx hb dX9_see_33 (by decide) ?_
      obtain ⟨u6, hu6, hf⟩ := bd_use hf
      refine r_cv_9 (rest := []) C h (c_X9_in  hu6) (rfl : Kd 29 = 9) gX9_see_X9_in rfl ⟨rfl, rfl⟩ hdX9_in ⟨Nat.le_of_ble_eq_true rfl, Nat.le_of_ble_eq_true rfl⟩ ⟨Nat.zero_le _, Nat.zero_le _⟩ hl.1 rfl (Nat.le_of_ble_eq_true rfl) dX9_see_35 (fun H locs h => ?_)
      refine lv_if_ne (tgt := 44) hx hb dX9_see_38 (by decide) (fun c7 => ?_) (fun c7 => ?_)
      · replace hf := it_f c7 hf
        refine lv_aload_n hx hb dX9_see_44 rfl (lv_at hl 0 rfl) ?_
        refine gf_9_44 C h (rfl : Kd 29 = 9) up_eq inX9_see_9 lkX9_see_145 dX9_see_45 ?_
        refine lv_iconst (v := (5 : Int32)) hx hb dX9_see_48 (by decide) ?_
        refine lv_icmp_ne (tgt := 55) hx hb dX9_see_49 (by decide) (fun c8 => ?_) (fun c8 => ?_)
        · replace hf := it_f c8 hf
          refine lv_aload_n hx hb dX9_see_55 rfl (lv_at hl 0 rfl) ?_
          refine gf_9_45 C h (rfl : Kd 29 = 9) up_eq inX9_see_9 lkX9_see_148 dX9_see_56 ?_
          refine lv_aload_n hx hb dX9_see_59 rfl (lv_at hl 0 rfl) ?_
          refine gf_9_44 C h (rfl : Kd 29 = 9) up_eq inX9_see_9 lkX9_see_145 dX9_see_60 ?_
          refine lv_iload_n hx hb dX9_see_63 rfl (lv_at hl 1 rfl) ?_
          obtain ⟨g9, hf⟩ := gd_use hf
          refine sa_9_26 C h (rfl : Kd 29 = 9) up_eq (F := fun t => va_up σ 29 t) (fun _ => up_up) (inB_in g9) dX9_see_64 (fun τ10 eτ10 H locs h => ?_)
          replace hf := lt_use eτ10 hf
          clear eτ10
          refine lv_aload_n hx hb dX9_see_65 rfl (lv_at hl 0 rfl) ?_
          refine gf_9_46 C h (rfl : Kd 29 = 9) up_eq inX9_see_9 lkX9_see_151 dX9_see_66 ?_
          refine lv_aload_n hx hb dX9_see_69 rfl (lv_at hl 0 rfl) ?_
          refine gf_9_44 C h (rfl : Kd 29 = 9) up_eq inX9_see_9 lkX9_see_145 dX9_see_70 ?_
          refine lv_iload_n hx hb dX9_see_73 rfl (lv_at hl 2 rfl) ?_
          obtain ⟨g11, hf⟩ := gd_use hf
          refine sa_9_27 C h (rfl : Kd 29 = 9) up_eq (F := fun t => va_up σ 29 t) (fun _ => up_up) (inB_in g11) dX9_see_74 (fun τ12 eτ12 H locs h => ?_)
          replace hf := lt_use eτ12 hf
          clear eτ12
          refine lv_aload_n hx hb dX9_see_75 rfl (lv_at hl 0 rfl) ?_
          refine gf_9_47 C h (rfl : Kd 29 = 9) up_eq inX9_see_9 lkX9_see_154 dX9_see_76 ?_
          refine lv_aload_n hx hb dX9_see_79 rfl (lv_at hl 0 rfl) ?_
          refine gf_9_44 C h (rfl : Kd 29 = 9) up_eq inX9_see_9 lkX9_see_145 dX9_see_80 ?_
          refine lv_iload_n hx hb dX9_see_83 rfl (lv_at hl 3 rfl) ?_
          obtain ⟨g13, hf⟩ := gd_use hf
          refine sa_9_28 C h (rfl : Kd 29 = 9) up_eq (F := fun t => va_up σ 29 t) (fun _ => up_up) (inB_in g13) dX9_see_84 (fun τ14 eτ14 H locs h => ?_)
          replace hf := lt_use eτ14 hf
          clear eτ14
          refine lv_aload_n hx hb dX9_see_85 rfl (lv_at hl 0 rfl) ?_
          refine lv_dup hx hb dX9_see_86 rfl ?_
          refine gf_9_44 C h (rfl : Kd 29 = 9) up_eq inX9_see_9 lkX9_see_145 dX9_see_87 ?_
          refine lv_iconst (v := (1 : Int32)) hx hb dX9_see_90 (by decide) ?_
          refine lv_iadd hx hb dX9_see_91 ?_
          refine pf_9_44 C h (rfl : Kd 29 = 9) up_eq (F := fun t => va_up σ 29 t) (fun _ => up_up) inX9_see_9 lkX9_see_145 dX9_see_92 (fun τ15 eτ15 H locs h => ?_)
          replace hf := lt_use eτ15 hf
          clear eτ15
          refine lv_aload_n hx hb dX9_see_95 rfl (lv_at hl 0 rfl) ?_
          refine gf_9_44 C h (rfl : Kd 29 = 9) up_eq inX9_see_9 lkX9_see_145 dX9_see_96 ?_
          replace hf := Option.some.inj hf
          subst hf
          exact r_ire C h dX9_see_99
        replace hf := it_t c8 hf
        refine lv_bipush (v := (-4 : Int32)) hx hb dX9_see_52 (by decide) ?_
        replace hf := Option.some.inj hf
        subst hf
        exact r_ire C h dX9_see_54
      replace hf := it_t c7 hf
      refine lv_bipush (v := (-2 : Int32)) hx hb dX9_see_41 (by decide) ?_
      replace hf := Option.some.inj hf
      subst hf
      exact r_ire C h dX9_see_43
    replace hf := it_t c5 hf
    refine lv_iconst (v := (-1 : Int32)) hx hb dX9_see_28 (by decide) ?_
    replace hf := Option.some.inj hf
    subst hf
    exact r_ire C h dX9_see_29
  replace hf := it_t c1 hf
  refine lv_aload_n hx hb dX9_see_5 rfl (lv_at hl 0 rfl) ?_
  refine lv_iconst (v := (0 : Int32)) hx hb dX9_see_6 (by decide) ?_
  refine pf_9_44 C h (rfl : Kd 29 = 9) up_eq (F := fun t => va_up σ 29 t) (fun _ => up_up) inX9_see_9 lkX9_see_145 dX9_see_7 (fun τ16 eτ16 H locs h => ?_)
  replace hf := lt_use eτ16 hf
  clear eτ16
  refine lv_iconst (v := (0 : Int32)) hx hb dX9_see_10 (by decide) ?_
  replace hf := Option.some.inj hf
  subst hf
  exact r_ire C h dX9_see_11
theorem c_X9_see {l : Launch} {E : Ev} {σ : Ms} {ℓ : Mz} {τ : Mm} {p0 : Int32} {p1 : Int32} {p2 : Int32} {out : Int32 × Mm} (hf : f_X9_see τ p0 p1 p2 = some out) : Ct l yX9_see wsX9_see rm_X9_see [.ref (Ea E 29 0), .int p0, .int p1, .int p2] E (va_up σ 29 τ) ℓ (some (.int out.1)) (va_up σ 29 out.2) ℓ := by
  refine Ct_mk (cc := cX9_see) (mL := 4) (ret := (some .int)) (own := RX9) (by decide +kernel) rfl rfl (Nat.le_of_ble_eq_true rfl) (fun p e s m below meth c C h ls hl => ?_)
  exact w_X9_see_0  C τ _ _ h ls (lv_sub hl [0, 1, 2, 3] rfl) hf
theorem k_X9_see {l : Launch} {E : Ev} {σ : Ms} {ℓ : Mz} {τ : Mm} {p0 : Int32} {p1 : Int32} {p2 : Int32} (hτ : σ 29 = τ) {out : Int32 × Mm} (hf : f_X9_see τ p0 p1 p2 = some out) : Ct l yX9_see wsX9_see rm_X9_see [.ref (Ea E 29 0), .int p0, .int p1, .int p2] E σ ℓ (some (.int out.1)) (va_up σ 29 out.2) ℓ := by
  subst hτ
  have h := c_X9_see (l := l) (E := E) (σ := σ) (ℓ := ℓ)  hf
  rw [up_id σ 29] at h
  exact h
theorem hdX9_isSeen : yX9_isSeen.cls = RX9 ∧ yX9_isSeen.cls ≠ "java/lang/invoke/MethodHandle" ∧ yX9_isSeen.cls ≠ "java/lang/invoke/VarHandle" ∧ (parseMethodDescriptor yX9_isSeen.desc).map (fun d => d.parameters.length) = some 0 := by decide +kernel
def rm_X9_isSeen : Room := { frames := 9, cells := 0, slots := 0, locals := 211 }
set_option maxRecDepth 100000 in
theorem inX9_isSeen_9 : ∀ w ∈ wsX90, w ∈ wsX9_isSeen := fun _ h => List.mem_cons_of_mem _ (List.mem_append_right _ h)
set_option maxRecDepth 100000 in
theorem lkX9_isSeen_145 : Cond.fieldLink RX9 145 "BellsBelowModel" "seen" "I" ∈ wsX9_isSeen := by decide +kernel
set_option maxRecDepth 100000 in
theorem lkX9_isSeen_151 : Cond.fieldLink RX9 151 "BellsBelowModel" "seenWhen" "[I" ∈ wsX9_isSeen := by decide +kernel
set_option maxRecDepth 100000 in
theorem lkX9_isSeen_32 : Cond.fieldLink RX9 32 "BellsBelowModel" "floor" "[I" ∈ wsX9_isSeen := by decide +kernel
set_option maxRecDepth 100000 in
theorem lkX9_isSeen_148 : Cond.fieldLink RX9 148 "BellsBelowModel" "seenWho" "[I" ∈ wsX9_isSeen := by decide +kernel
set_option maxRecDepth 100000 in
theorem lkX9_isSeen_154 : Cond.fieldLink RX9 154 "BellsBelowModel" "seenFloor" "[I" ∈ wsX9_isSeen := by decide +kernel
set_option maxHeartbeats 4000000 in
set_option maxRecDepth 100000 in
theorem w_X9_isSeen_55 {p : Program} {l : Launch} {e : Env} {s : State} {m : MethodId} {args : Array Value} {below : List Frame} {meth : Method} {c : Code} {E : Ev} {σ : Ms} {ℓ : Mz} {out : Int32 × Mm}   (C : Cx cX9_isSeen 3 (some .boolean) wsX9_isSeen RX9 E p s m args meth c) {k4 : Mm → Int32 → Int32 → Option (Int32 × Mm)} (hk4 : ∀ (τ : Mm) (v1 : Int32) (v2 : Int32) (H : Heap) (locs : List Loc), HI E (va_up σ 29 τ) ℓ s H locs → ∀ ls : Array Slot, lv_has ls 3 [(0, .ref (Ea E 29 0)), (1, .int v1), (2, .int v2)] → k4 τ v1 v2 = some out → W p l e rm_X9_isSeen s m args below meth c H locs 0 0 (MQ below (Po E s.heap.size (some (.int out.1)) (va_up σ 29 out.2) ℓ) args s 0 0 (AA E s.heap.size)) (F0 m 4 ls [])) : ∀ (τ : Mm) (v2 : Int32) (w0 : Int32) (H : Heap) (locs : List Loc) (h : HI E (va_up σ 29 τ) ℓ s H locs) (ls : Array Slot) (hl : lv_has ls 3 [(0, .ref (Ea E 29 0)), (2, .int v2)]), f_X9_isSeen_55  k4 τ v2 w0 = some out → W p l e rm_X9_isSeen s m args below meth c H locs 0 0 (MQ below (Po E s.heap.size (some (.int out.1)) (va_up σ 29 out.2) ℓ) args s 0 0 (AA E s.heap.size)) (F0 m 55 ls [.int w0]) := by
  intro τ v2 w0 H locs h ls hl hf
  unfold f_X9_isSeen_55 at hf
  have C0 := C
  obtain ⟨hx, hb, hr, hml, hown, hts, hlk, hK, hSF⟩ := C0
  refine lv_istore_n (lv' := [(1, .int w0), (0, .ref (Ea E 29 0)), (2, .int v2)]) hx hb dX9_isSeen_55 rfl hl (by decide) rfl (fun ls hl => ?_)
  refine lv_aload_n hx hb dX9_isSeen_56 rfl (lv_at hl 1 rfl) ?_
  obtain ⟨u12, hu12, hf⟩ := bd_use hf
  refine r_cv_9 (rest := []) C h (c_X9_putBack  hu12) (rfl : Kd 29 = 9) gX9_isSeen_X9_putBack rfl ⟨rfl, rfl⟩ hdX9_putBack ⟨Nat.le_of_ble_eq_true rfl, Nat.le_of_ble_eq_true rfl⟩ ⟨Nat.zero_le _, Nat.zero_le _⟩ hl.1 rfl (Nat.le_of_ble_eq_true rfl) dX9_isSeen_57 (fun H locs h => ?_)
  obtain ⟨x13, ex13⟩ : ∃ y : Int32, y = (v2 + (1 : Int32)) := ⟨_, rfl⟩
  refine lv_iinc (v := x13) (lv' := [(2, .int x13), (1, .int w0), (0, .ref (Ea E 29 0))]) hx hb dX9_isSeen_60 hl (k := 2) rfl (by rw [ex13]; rfl) (by decide) rfl (fun ls hl => ?_)
  replace hf := lt_use ex13 hf
  clear ex13
  refine lv_goto (tgt := 4) hx hb dX9_isSeen_63 (by decide) ?_
  exact hk4 _ _ _ _ _ h ls (lv_sub hl [2, 1, 0] rfl) hf
set_option maxHeartbeats 4000000 in
set_option maxRecDepth 100000 in
theorem w_X9_isSeen_4 {p : Program} {l : Launch} {e : Env} {s : State} {m : MethodId} {args : Array Value} {below : List Frame} {meth : Method} {c : Code} {E : Ev} {σ : Ms} {ℓ : Mz} {out : Int32 × Mm}   (C : Cx cX9_isSeen 3 (some .boolean) wsX9_isSeen RX9 E p s m args meth c) {k4 : Mm → Int32 → Int32 → Option (Int32 × Mm)} (hk4 : ∀ (τ : Mm) (v1 : Int32) (v2 : Int32) (H : Heap) (locs : List Loc), HI E (va_up σ 29 τ) ℓ s H locs → ∀ ls : Array Slot, lv_has ls 3 [(0, .ref (Ea E 29 0)), (1, .int v1), (2, .int v2)] → k4 τ v1 v2 = some out → W p l e rm_X9_isSeen s m args below meth c H locs 0 0 (MQ below (Po E s.heap.size (some (.int out.1)) (va_up σ 29 out.2) ℓ) args s 0 0 (AA E s.heap.size)) (F0 m 4 ls [])) : ∀ (τ : Mm) (v1 : Int32) (v2 : Int32) (H : Heap) (locs : List Loc) (h : HI E (va_up σ 29 τ) ℓ s H locs) (ls : Array Slot) (hl : lv_has ls 3 [(0, .ref (Ea E 29 0)), (1, .int v1), (2, .int v2)]), f_X9_isSeen_4  k4 τ v1 v2 = some out → W p l e rm_X9_isSeen s m args below meth c H locs 0 0 (MQ below (Po E s.heap.size (some (.int out.1)) (va_up σ 29 out.2) ℓ) args s 0 0 (AA E s.heap.size)) (F0 m 4 ls []) := by
  intro τ v1 v2 H locs h ls hl hf
  unfold f_X9_isSeen_4 at hf
  have C0 := C
  obtain ⟨hx, hb, hr, hml, hown, hts, hlk, hK, hSF⟩ := C0
  refine lv_iload_n hx hb dX9_isSeen_4 rfl (lv_at hl 2 rfl) ?_
  refine lv_aload_n hx hb dX9_isSeen_5 rfl (lv_at hl 0 rfl) ?_
  refine gf_9_44 C h (rfl : Kd 29 = 9) up_eq inX9_isSeen_9 lkX9_isSeen_145 dX9_isSeen_6 ?_
  refine lv_icmp_ge (tgt := 66) hx hb dX9_isSeen_9 (by decide) (fun c1 => ?_) (fun c1 => ?_)
  · replace hf := it_t c1 hf
    refine lv_iload_n hx hb dX9_isSeen_66 rfl (lv_at hl 1 rfl) ?_
    obtain ⟨g2, hf⟩ := gd_use hf
    replace hf := Option.some.inj hf
    subst hf
    exact r_zre C h (isB_use g2) dX9_isSeen_67
  replace hf := it_f c1 hf
  refine lv_iload_n hx hb dX9_isSeen_12 rfl (lv_at hl 1 rfl) ?_
  refine lv_if_eq (tgt := 66) hx hb dX9_isSeen_13 (by decide) (fun c3 => ?_) (fun c3 => ?_)
  · replace hf := it_t c3 hf
    refine lv_iload_n hx hb dX9_isSeen_66 rfl (lv_at hl 1 rfl) ?_
    obtain ⟨g4, hf⟩ := gd_use hf
    replace hf := Option.some.inj hf
    subst hf
    exact r_zre C h (isB_use g4) dX9_isSeen_67
  replace hf := it_f c3 hf
  refine lv_aload_n hx hb dX9_isSeen_16 rfl (lv_at hl 0 rfl) ?_
  obtain ⟨u5, hu5, hf⟩ := bd_use hf
  refine r_cv_9 (rest := []) C h (c_X9_save  hu5) (rfl : Kd 29 = 9) gX9_isSeen_X9_save rfl ⟨rfl, rfl⟩ hdX9_save ⟨Nat.le_of_ble_eq_true rfl, Nat.le_of_ble_eq_true rfl⟩ ⟨Nat.zero_le _, Nat.zero_le _⟩ hl.1 rfl (Nat.le_of_ble_eq_true rfl) dX9_isSeen_17 (fun H locs h => ?_)
  refine lv_aload_n hx hb dX9_isSeen_20 rfl (lv_at hl 0 rfl) ?_
  refine lv_aload_n hx hb dX9_isSeen_21 rfl (lv_at hl 0 rfl) ?_
  refine gf_9_46 C h (rfl : Kd 29 = 9) up_eq inX9_isSeen_9 lkX9_isSeen_151 dX9_isSeen_22 ?_
  refine lv_iload_n hx hb dX9_isSeen_25 rfl (lv_at hl 2 rfl) ?_
  obtain ⟨g6, hf⟩ := gd_use hf
  refine ld_9_27 C h (rfl : Kd 29 = 9) up_eq (inB_in g6) dX9_isSeen_26 ?_
  obtain ⟨u7, hu7, hf⟩ := bd_use hf
  refine r_cv_9 (rest := []) C h (c_X9_goMinutes  hu7) (rfl : Kd 29 = 9) gX9_isSeen_X9_goMinutes rfl ⟨rfl, rfl⟩ hdX9_goMinutes ⟨Nat.le_of_ble_eq_true rfl, Nat.le_of_ble_eq_true rfl⟩ ⟨Nat.zero_le _, Nat.zero_le _⟩ hl.1 rfl (Nat.le_of_ble_eq_true rfl) dX9_isSeen_27 (fun H locs h => ?_)
  refine lv_aload_n hx hb dX9_isSeen_30 rfl (lv_at hl 0 rfl) ?_
  refine gf_9_7 C h (rfl : Kd 29 = 9) up_eq inX9_isSeen_9 lkX9_isSeen_32 dX9_isSeen_31 ?_
  refine lv_aload_n hx hb dX9_isSeen_34 rfl (lv_at hl 0 rfl) ?_
  refine gf_9_45 C h (rfl : Kd 29 = 9) up_eq inX9_isSeen_9 lkX9_isSeen_148 dX9_isSeen_35 ?_
  refine lv_iload_n hx hb dX9_isSeen_38 rfl (lv_at hl 2 rfl) ?_
  obtain ⟨g8, hf⟩ := gd_use hf
  refine ld_9_26 C h (rfl : Kd 29 = 9) up_eq (inB_in g8) dX9_isSeen_39 ?_
  obtain ⟨g9, hf⟩ := gd_use hf
  refine ld_9_3 C h (rfl : Kd 29 = 9) up_eq (inB_in g9) dX9_isSeen_40 ?_
  refine lv_aload_n hx hb dX9_isSeen_41 rfl (lv_at hl 0 rfl) ?_
  refine gf_9_47 C h (rfl : Kd 29 = 9) up_eq inX9_isSeen_9 lkX9_isSeen_154 dX9_isSeen_42 ?_
  refine lv_iload_n hx hb dX9_isSeen_45 rfl (lv_at hl 2 rfl) ?_
  obtain ⟨g10, hf⟩ := gd_use hf
  refine ld_9_28 C h (rfl : Kd 29 = 9) up_eq (inB_in g10) dX9_isSeen_46 ?_
  refine lv_icmp_ne (tgt := 54) hx hb dX9_isSeen_47 (by decide) (fun c11 => ?_) (fun c11 => ?_)
  · replace hf := it_f c11 hf
    refine lv_iconst (v := (0 : Int32)) hx hb dX9_isSeen_54 (by decide) ?_
    exact w_X9_isSeen_55    C hk4 _ _ _ _ _ h ls (lv_sub hl [0, 2] rfl) hf
  replace hf := it_t c11 hf
  refine lv_iconst (v := (1 : Int32)) hx hb dX9_isSeen_50 (by decide) ?_
  refine lv_goto (tgt := 55) hx hb dX9_isSeen_51 (by decide) ?_
  exact w_X9_isSeen_55    C hk4 _ _ _ _ _ h ls (lv_sub hl [0, 2] rfl) hf
set_option maxHeartbeats 4000000 in
set_option maxRecDepth 100000 in
theorem w_X9_isSeen_4L {p : Program} {l : Launch} {e : Env} {s : State} {m : MethodId} {args : Array Value} {below : List Frame} {meth : Method} {c : Code} {E : Ev} {σ : Ms} {ℓ : Mz} {out : Int32 × Mm}   (C : Cx cX9_isSeen 3 (some .boolean) wsX9_isSeen RX9 E p s m args meth c)  : ∀ (n9 : Nat) (τ : Mm) (v1 : Int32) (v2 : Int32) (H : Heap) (locs : List Loc) (h : HI E (va_up σ 29 τ) ℓ s H locs) (ls : Array Slot) (hl : lv_has ls 3 [(0, .ref (Ea E 29 0)), (1, .int v1), (2, .int v2)]), f_X9_isSeen_4L   n9 τ v1 v2 = some out → W p l e rm_X9_isSeen s m args below meth c H locs 0 0 (MQ below (Po E s.heap.size (some (.int out.1)) (va_up σ 29 out.2) ℓ) args s 0 0 (AA E s.heap.size)) (F0 m 4 ls []) := by
  intro n9
  induction n9 with
  | zero =>
    intro τ v1 v2 H locs h ls hl hf
    cases (show (none : Option (Int32 × Mm)) = some out from hf)
  | succ n9 ih =>
    intro τ v1 v2 H locs h ls hl hf
    exact w_X9_isSeen_4   C  ih τ v1 v2 H locs h ls hl hf
set_option maxHeartbeats 4000000 in
set_option maxRecDepth 100000 in
theorem w_X9_isSeen_0 {p : Program} {l : Launch} {e : Env} {s : State} {m : MethodId} {args : Array Value} {below : List Frame} {meth : Method} {c : Code} {E : Ev} {σ : Ms} {ℓ : Mz} {out : Int32 × Mm}   (C : Cx cX9_isSeen 3 (some .boolean) wsX9_isSeen RX9 E p s m args meth c)  : ∀ (τ : Mm) (H : Heap) (locs : List Loc) (h : HI E (va_up σ 29 τ) ℓ s H locs) (ls : Array Slot) (hl : lv_has ls 3 [(0, .ref (Ea E 29 0))]), f_X9_isSeen_0   τ = some out → W p l e rm_X9_isSeen s m args below meth c H locs 0 0 (MQ below (Po E s.heap.size (some (.int out.1)) (va_up σ 29 out.2) ℓ) args s 0 0 (AA E s.heap.size)) (F0 m 0 ls []) := by
  intro τ H locs h ls hl hf
  unfold f_X9_isSeen_0 at hf
  have C0 := C
  obtain ⟨hx, hb, hr, hml, hown, hts, hlk, hK, hSF⟩ := C0
  refine lv_iconst (v := (1 : Int32)) hx hb dX9_isSeen_0 (by decide) ?_
  refine lv_istore_n (lv' := [(1, .int (1 : Int32)), (0, .ref (Ea E 29 0))]) hx hb dX9_isSeen_1 rfl hl (by decide) rfl (fun ls hl => ?_)
  refine lv_iconst (v := (0 : Int32)) hx hb dX9_isSeen_2 (by decide) ?_
  refine lv_istore_n (lv' := [(2, .int (0 : Int32)), (1, .int (1 : Int32)), (0, .ref (Ea E 29 0))]) hx hb dX9_isSeen_3 rfl hl (by decide) rfl (fun ls hl => ?_)
  exact w_X9_isSeen_4L    C  _ _ _ _ _ _ h ls (lv_sub hl [2, 1, 0] rfl) hf
theorem c_X9_isSeen {l : Launch} {E : Ev} {σ : Ms} {ℓ : Mz} {τ : Mm} {out : Int32 × Mm} (hf : f_X9_isSeen τ = some out) : Ct l yX9_isSeen wsX9_isSeen rm_X9_isSeen [.ref (Ea E 29 0)] E (va_up σ 29 τ) ℓ (some (.int out.1)) (va_up σ 29 out.2) ℓ := by
  refine Ct_mk (cc := cX9_isSeen) (mL := 3) (ret := (some .boolean)) (own := RX9) (by decide +kernel) rfl rfl (Nat.le_of_ble_eq_true rfl) (fun p e s m below meth c C h ls hl => ?_)
  exact w_X9_isSeen_0  C τ _ _ h ls (lv_sub hl [0] rfl) hf
theorem k_X9_isSeen {l : Launch} {E : Ev} {σ : Ms} {ℓ : Mz} {τ : Mm} (hτ : σ 29 = τ) {out : Int32 × Mm} (hf : f_X9_isSeen τ = some out) : Ct l yX9_isSeen wsX9_isSeen rm_X9_isSeen [.ref (Ea E 29 0)] E σ ℓ (some (.int out.1)) (va_up σ 29 out.2) ℓ := by
  subst hτ
  have h := c_X9_isSeen (l := l) (E := E) (σ := σ) (ℓ := ℓ)  hf
  rw [up_id σ 29] at h
  exact h
theorem hdX9_from : yX9_from.cls = RX9 ∧ yX9_from.cls ≠ "java/lang/invoke/MethodHandle" ∧ yX9_from.cls ≠ "java/lang/invoke/VarHandle" ∧ (parseMethodDescriptor yX9_from.desc).map (fun d => d.parameters.length) = some 1 := by decide +kernel
def rm_X9_from : Room := { frames := 10, cells := 0, slots := 0, locals := 233 }
set_option maxRecDepth 100000 in
theorem inX9_from_9 : ∀ w ∈ wsX90, w ∈ wsX9_from := fun _ h => List.mem_cons_of_mem _ (List.mem_append_right _ h)
set_option maxRecDepth 100000 in
theorem lkX9_from_32 : Cond.fieldLink RX9 32 "BellsBelowModel" "floor" "[I" ∈ wsX9_from := by decide +kernel
set_option maxHeartbeats 4000000 in
set_option maxRecDepth 100000 in
theorem w_X9_from_53 {p : Program} {l : Launch} {e : Env} {s : State} {m : MethodId} {args : Array Value} {below : List Frame} {meth : Method} {c : Code} {E : Ev} {σ : Ms} {ℓ : Mz} {p0 : Int32} {out : Int32 × Mm}   (C : Cx cX9_from 5 (some .int) wsX9_from RX9 E p s m args meth c) {k22 : Mm → Int32 → Int32 → Int32 → Option (Int32 × Mm)} (hk22 : ∀ (τ : Mm) (v2 : Int32) (v3 : Int32) (v4 : Int32) (H : Heap) (locs : List Loc), HI E (va_up σ 29 τ) ℓ s H locs → ∀ ls : Array Slot, lv_has ls 5 [(0, .ref (Ea E 29 0)), (1, .int p0), (2, .int v2), (3, .int v3), (4, .int v4)] → k22 τ v2 v3 v4 = some out → W p l e rm_X9_from s m args below meth c H locs 0 0 (MQ below (Po E s.heap.size (some (.int out.1)) (va_up σ 29 out.2) ℓ) args s 0 0 (AA E s.heap.size)) (F0 m 22 ls [])) : ∀ (τ : Mm) (v2 : Int32) (v4 : Int32) (w0 : Int32) (w1 : Int32) (H : Heap) (locs : List Loc) (h : HI E (va_up σ 29 τ) ℓ s H locs) (ls : Array Slot) (hl : lv_has ls 5 [(0, .ref (Ea E 29 0)), (1, .int p0), (2, .int v2), (4, .int v4)]), f_X9_from_53 p0 k22 τ v2 v4 w0 w1 = some out → W p l e rm_X9_from s m args below meth c H locs 0 0 (MQ below (Po E s.heap.size (some (.int out.1)) (va_up σ 29 out.2) ℓ) args s 0 0 (AA E s.heap.size)) (F0 m 53 ls [.int w1, .int w0]) := by
  intro τ v2 v4 w0 w1 H locs h ls hl hf
  unfold f_X9_from_53 at hf
  have C0 := C
  obtain ⟨hx, hb, hr, hml, hown, hts, hlk, hK, hSF⟩ := C0
  refine lv_ior hx hb dX9_from_53 ?_
  refine lv_topi (fun x12 ex12 => ?_)
  replace hf := lt_use ex12 hf
  clear ex12
  refine lv_istore_n (lv' := [(3, .int x12), (0, .ref (Ea E 29 0)), (1, .int p0), (2, .int v2), (4, .int v4)]) hx hb dX9_from_54 rfl hl (by decide) rfl (fun ls hl => ?_)
  obtain ⟨x13, ex13⟩ : ∃ y : Int32, y = (v4 + (1 : Int32)) := ⟨_, rfl⟩
  refine lv_iinc (v := x13) (lv' := [(4, .int x13), (3, .int x12), (0, .ref (Ea E 29 0)), (1, .int p0), (2, .int v2)]) hx hb dX9_from_55 hl (k := 4) rfl (by rw [ex13]; rfl) (by decide) rfl (fun ls hl => ?_)
  replace hf := lt_use ex13 hf
  clear ex13
  refine lv_goto (tgt := 22) hx hb dX9_from_58 (by decide) ?_
  exact hk22 _ _ _ _ _ _ h ls (lv_sub hl [2, 3, 4, 1, 0] rfl) hf
set_option maxHeartbeats 4000000 in
set_option maxRecDepth 100000 in
theorem w_X9_from_22 {p : Program} {l : Launch} {e : Env} {s : State} {m : MethodId} {args : Array Value} {below : List Frame} {meth : Method} {c : Code} {E : Ev} {σ : Ms} {ℓ : Mz} {p0 : Int32} {out : Int32 × Mm}   (C : Cx cX9_from 5 (some .int) wsX9_from RX9 E p s m args meth c) {k22 : Mm → Int32 → Int32 → Int32 → Option (Int32 × Mm)} (hk22 : ∀ (τ : Mm) (v2 : Int32) (v3 : Int32) (v4 : Int32) (H : Heap) (locs : List Loc), HI E (va_up σ 29 τ) ℓ s H locs → ∀ ls : Array Slot, lv_has ls 5 [(0, .ref (Ea E 29 0)), (1, .int p0), (2, .int v2), (3, .int v3), (4, .int v4)] → k22 τ v2 v3 v4 = some out → W p l e rm_X9_from s m args below meth c H locs 0 0 (MQ below (Po E s.heap.size (some (.int out.1)) (va_up σ 29 out.2) ℓ) args s 0 0 (AA E s.heap.size)) (F0 m 22 ls [])) : ∀ (τ : Mm) (v2 : Int32) (v3 : Int32) (v4 : Int32) (H : Heap) (locs : List Loc) (h : HI E (va_up σ 29 τ) ℓ s H locs) (ls : Array Slot) (hl : lv_has ls 5 [(0, .ref (Ea E 29 0)), (1, .int p0), (2, .int v2), (3, .int v3), (4, .int v4)]), f_X9_from_22 p0 k22 τ v2 v3 v4 = some out → W p l e rm_X9_from s m args below meth c H locs 0 0 (MQ below (Po E s.heap.size (some (.int out.1)) (va_up σ 29 out.2) ℓ) args s 0 0 (AA E s.heap.size)) (F0 m 22 ls []) := by
  intro τ v2 v3 v4 H locs h ls hl hf
  unfold f_X9_from_22 at hf
  have C0 := C
  obtain ⟨hx, hb, hr, hml, hown, hts, hlk, hK, hSF⟩ := C0
  refine lv_iload hx hb dX9_from_22 (lv_at hl 4 rfl) ?_
  refine lv_bipush (v := (10 : Int32)) hx hb dX9_from_24 (by decide) ?_
  refine lv_icmp_ge (tgt := 61) hx hb dX9_from_26 (by decide) (fun c5 => ?_) (fun c5 => ?_)
  · replace hf := it_t c5 hf
    refine lv_aload_n hx hb dX9_from_61 rfl (lv_at hl 0 rfl) ?_
    refine gf_9_7 C h (rfl : Kd 29 = 9) up_eq inX9_from_9 lkX9_from_32 dX9_from_62 ?_
    refine lv_iload_n hx hb dX9_from_65 rfl (lv_at hl 1 rfl) ?_
    refine lv_iload_n hx hb dX9_from_66 rfl (lv_at hl 2 rfl) ?_
    obtain ⟨g6, hf⟩ := gd_use hf
    refine sa_9_3 C h (rfl : Kd 29 = 9) up_eq (F := fun t => va_up σ 29 t) (fun _ => up_up) (inB_in g6) dX9_from_67 (fun τ7 eτ7 H locs h => ?_)
    replace hf := lt_use eτ7 hf
    clear eτ7
    refine lv_iload_n hx hb dX9_from_68 rfl (lv_at hl 3 rfl) ?_
    replace hf := Option.some.inj hf
    subst hf
    exact r_ire C h dX9_from_69
  replace hf := it_f c5 hf
  refine lv_aload_n hx hb dX9_from_29 rfl (lv_at hl 0 rfl) ?_
  refine gf_9_7 C h (rfl : Kd 29 = 9) up_eq inX9_from_9 lkX9_from_32 dX9_from_30 ?_
  refine lv_iload_n hx hb dX9_from_33 rfl (lv_at hl 1 rfl) ?_
  refine lv_iload hx hb dX9_from_34 (lv_at hl 4 rfl) ?_
  obtain ⟨g8, hf⟩ := gd_use hf
  refine sa_9_3 C h (rfl : Kd 29 = 9) up_eq (F := fun t => va_up σ 29 t) (fun _ => up_up) (inB_in g8) dX9_from_36 (fun τ9 eτ9 H locs h => ?_)
  replace hf := lt_use eτ9 hf
  clear eτ9
  refine lv_iload_n hx hb dX9_from_37 rfl (lv_at hl 3 rfl) ?_
  refine lv_aload_n hx hb dX9_from_38 rfl (lv_at hl 0 rfl) ?_
  obtain ⟨u10, hu10, hf⟩ := bd_use hf
  refine r_cv_9 (rest := [.int v3]) C h (c_X9_isSeen  hu10) (rfl : Kd 29 = 9) gX9_from_X9_isSeen rfl ⟨rfl, rfl⟩ hdX9_isSeen ⟨Nat.le_of_ble_eq_true rfl, Nat.le_of_ble_eq_true rfl⟩ ⟨Nat.zero_le _, Nat.zero_le _⟩ hl.1 rfl (Nat.le_of_ble_eq_true rfl) dX9_from_39 (fun H locs h => ?_)
  refine lv_if_eq (tgt := 52) hx hb dX9_from_42 (by decide) (fun c11 => ?_) (fun c11 => ?_)
  · replace hf := it_t c11 hf
    refine lv_iconst (v := (0 : Int32)) hx hb dX9_from_52 (by decide) ?_
    exact w_X9_from_53    C hk22 _ _ _ _ _ _ _ h ls (lv_sub hl [0, 1, 2, 4] rfl) hf
  replace hf := it_f c11 hf
  refine lv_iconst (v := (1 : Int32)) hx hb dX9_from_45 (by decide) ?_
  refine lv_iload hx hb dX9_from_46 (lv_at hl 4 rfl) ?_
  refine lv_ishl hx hb dX9_from_48 ?_
  refine lv_goto (tgt := 53) hx hb dX9_from_49 (by decide) ?_
  exact w_X9_from_53    C hk22 _ _ _ _ _ _ _ h ls (lv_sub hl [0, 1, 2, 4] rfl) hf
set_option maxHeartbeats 4000000 in
set_option maxRecDepth 100000 in
theorem w_X9_from_22L {p : Program} {l : Launch} {e : Env} {s : State} {m : MethodId} {args : Array Value} {below : List Frame} {meth : Method} {c : Code} {E : Ev} {σ : Ms} {ℓ : Mz} {p0 : Int32} {out : Int32 × Mm}   (C : Cx cX9_from 5 (some .int) wsX9_from RX9 E p s m args meth c)  : ∀ (n9 : Nat) (τ : Mm) (v2 : Int32) (v3 : Int32) (v4 : Int32) (H : Heap) (locs : List Loc) (h : HI E (va_up σ 29 τ) ℓ s H locs) (ls : Array Slot) (hl : lv_has ls 5 [(0, .ref (Ea E 29 0)), (1, .int p0), (2, .int v2), (3, .int v3), (4, .int v4)]), f_X9_from_22L p0  n9 τ v2 v3 v4 = some out → W p l e rm_X9_from s m args below meth c H locs 0 0 (MQ below (Po E s.heap.size (some (.int out.1)) (va_up σ 29 out.2) ℓ) args s 0 0 (AA E s.heap.size)) (F0 m 22 ls []) := by
  intro n9
  induction n9 with
  | zero =>
    intro τ v2 v3 v4 H locs h ls hl hf
    cases (show (none : Option (Int32 × Mm)) = some out from hf)
  | succ n9 ih =>
    intro τ v2 v3 v4 H locs h ls hl hf
    exact w_X9_from_22   C  ih τ v2 v3 v4 H locs h ls hl hf
set_option maxHeartbeats 4000000 in
set_option maxRecDepth 100000 in
theorem w_X9_from_0 {p : Program} {l : Launch} {e : Env} {s : State} {m : MethodId} {args : Array Value} {below : List Frame} {meth : Method} {c : Code} {E : Ev} {σ : Ms} {ℓ : Mz} {p0 : Int32} {out : Int32 × Mm}   (C : Cx cX9_from 5 (some .int) wsX9_from RX9 E p s m args meth c)  : ∀ (τ : Mm) (H : Heap) (locs : List Loc) (h : HI E (va_up σ 29 τ) ℓ s H locs) (ls : Array Slot) (hl : lv_has ls 5 [(0, .ref (Ea E 29 0)), (1, .int p0)]), f_X9_from_0 p0  τ = some out → W p l e rm_X9_from s m args below meth c H locs 0 0 (MQ below (Po E s.heap.size (some (.int out.1)) (va_up σ 29 out.2) ℓ) args s 0 0 (AA E s.heap.size)) (F0 m 0 ls []) := by
  intro τ H locs h ls hl hf
  unfold f_X9_from_0 at hf
  have C0 := C
  obtain ⟨hx, hb, hr, hml, hown, hts, hlk, hK, hSF⟩ := C0
  refine lv_aload_n hx hb dX9_from_0 rfl (lv_at hl 0 rfl) ?_
  refine lv_iload_n hx hb dX9_from_1 rfl (lv_at hl 1 rfl) ?_
  obtain ⟨u1, hu1, hf⟩ := bd_use hf
  refine r_cv_9 (rest := []) C h (c_X9_isMaster up_eq hu1) (rfl : Kd 29 = 9) gX9_from_X9_isMaster rfl ⟨rfl, rfl⟩ hdX9_isMaster ⟨Nat.le_of_ble_eq_true rfl, Nat.le_of_ble_eq_true rfl⟩ ⟨Nat.zero_le _, Nat.zero_le _⟩ hl.1 rfl (Nat.le_of_ble_eq_true rfl) dX9_from_2 (fun H locs h => ?_)
  refine lv_if_ne (tgt := 10) hx hb dX9_from_5 (by decide) (fun c2 => ?_) (fun c2 => ?_)
  · replace hf := it_f c2 hf
    refine lv_aload_n hx hb dX9_from_10 rfl (lv_at hl 0 rfl) ?_
    refine gf_9_7 C h (rfl : Kd 29 = 9) up_eq inX9_from_9 lkX9_from_32 dX9_from_11 ?_
    refine lv_iload_n hx hb dX9_from_14 rfl (lv_at hl 1 rfl) ?_
    obtain ⟨g3, hf⟩ := gd_use hf
    refine ld_9_3 C h (rfl : Kd 29 = 9) up_eq (inB_in g3) dX9_from_15 ?_
    refine lv_topi (fun x4 ex4 => ?_)
    replace hf := lt_use ex4 hf
    clear ex4
    refine lv_istore_n (lv' := [(2, .int x4), (0, .ref (Ea E 29 0)), (1, .int p0)]) hx hb dX9_from_16 rfl hl (by decide) rfl (fun ls hl => ?_)
    refine lv_iconst (v := (0 : Int32)) hx hb dX9_from_17 (by decide) ?_
    refine lv_istore_n (lv' := [(3, .int (0 : Int32)), (2, .int x4), (0, .ref (Ea E 29 0)), (1, .int p0)]) hx hb dX9_from_18 rfl hl (by decide) rfl (fun ls hl => ?_)
    refine lv_iconst (v := (0 : Int32)) hx hb dX9_from_19 (by decide) ?_
    refine lv_istore (lv' := [(4, .int (0 : Int32)), (3, .int (0 : Int32)), (2, .int x4), (0, .ref (Ea E 29 0)), (1, .int p0)]) hx hb dX9_from_20 hl (by decide) rfl (fun ls hl => ?_)
    exact w_X9_from_22L    C  _ _ _ _ _ _ _ h ls (lv_sub hl [3, 4, 2, 1, 0] rfl) hf
  replace hf := it_t c2 hf
  refine lv_iconst (v := (-1 : Int32)) hx hb dX9_from_8 (by decide) ?_
  replace hf := Option.some.inj hf
  subst hf
  exact r_ire C h dX9_from_9
theorem c_X9_from {l : Launch} {E : Ev} {σ : Ms} {ℓ : Mz} {τ : Mm} {p0 : Int32} {out : Int32 × Mm} (hf : f_X9_from τ p0 = some out) : Ct l yX9_from wsX9_from rm_X9_from [.ref (Ea E 29 0), .int p0] E (va_up σ 29 τ) ℓ (some (.int out.1)) (va_up σ 29 out.2) ℓ := by
  refine Ct_mk (cc := cX9_from) (mL := 5) (ret := (some .int)) (own := RX9) (by decide +kernel) rfl rfl (Nat.le_of_ble_eq_true rfl) (fun p e s m below meth c C h ls hl => ?_)
  exact w_X9_from_0  C τ _ _ h ls (lv_sub hl [0, 1] rfl) hf
theorem k_X9_from {l : Launch} {E : Ev} {σ : Ms} {ℓ : Mz} {τ : Mm} {p0 : Int32} (hτ : σ 29 = τ) {out : Int32 × Mm} (hf : f_X9_from τ p0 = some out) : Ct l yX9_from wsX9_from rm_X9_from [.ref (Ea E 29 0), .int p0] E σ ℓ (some (.int out.1)) (va_up σ 29 out.2) ℓ := by
  subst hτ
  have h := c_X9_from (l := l) (E := E) (σ := σ) (ℓ := ℓ)  hf
  rw [up_id σ 29] at h
  exact h
theorem hdX9_can : yX9_can.cls = RX9 ∧ yX9_can.cls ≠ "java/lang/invoke/MethodHandle" ∧ yX9_can.cls ≠ "java/lang/invoke/VarHandle" ∧ (parseMethodDescriptor yX9_can.desc).map (fun d => d.parameters.length) = some 2 := by decide +kernel
def rm_X9_can : Room := { frames := 10, cells := 0, slots := 0, locals := 233 }
set_option maxRecDepth 100000 in
theorem inX9_can_9 : ∀ w ∈ wsX90, w ∈ wsX9_can := fun _ h => List.mem_cons_of_mem _ (List.mem_append_right _ h)
set_option maxRecDepth 100000 in
theorem lkX9_can_29 : Cond.fieldLink RX9 29 "BellsBelowModel" "v" "[I" ∈ wsX9_can := by decide +kernel
set_option maxHeartbeats 4000000 in
set_option maxRecDepth 100000 in
theorem w_X9_can_68 {p : Program} {l : Launch} {e : Env} {s : State} {m : MethodId} {args : Array Value} {below : List Frame} {meth : Method} {c : Code} {E : Ev} {σ : Ms} {ℓ : Mz} {p0 : Int32} {p1 : Int32} {out : Int32 × Mm}   (C : Cx cX9_can 7 (some .int) wsX9_can RX9 E p s m args meth c) {k38 : Mm → Int32 → Int32 → Int32 → Int32 → Option (Int32 × Mm)} (hk38 : ∀ (τ : Mm) (v3 : Int32) (v4 : Int32) (v5 : Int32) (v6 : Int32) (H : Heap) (locs : List Loc), HI E (va_up σ 29 τ) ℓ s H locs → ∀ ls : Array Slot, lv_has ls 7 [(0, .ref (Ea E 29 0)), (1, .int p0), (2, .int p1), (3, .int v3), (4, .int v4), (5, .int v5), (6, .int v6)] → k38 τ v3 v4 v5 v6 = some out → W p l e rm_X9_can s m args below meth c H locs 0 0 (MQ below (Po E s.heap.size (some (.int out.1)) (va_up σ 29 out.2) ℓ) args s 0 0 (AA E s.heap.size)) (F0 m 38 ls [])) : ∀ (τ : Mm) (v3 : Int32) (v4 : Int32) (v5 : Int32) (v6 : Int32) (H : Heap) (locs : List Loc) (h : HI E (va_up σ 29 τ) ℓ s H locs) (ls : Array Slot) (hl : lv_has ls 7 [(0, .ref (Ea E 29 0)), (1, .int p0), (2, .int p1), (3, .int v3), (4, .int v4), (5, .int v5), (6, .int v6)]), f_X9_can_68 p0 p1 k38 τ v3 v4 v5 v6 = some out → W p l e rm_X9_can s m args below meth c H locs 0 0 (MQ below (Po E s.heap.size (some (.int out.1)) (va_up σ 29 out.2) ℓ) args s 0 0 (AA E s.heap.size)) (F0 m 68 ls []) := by
  intro τ v3 v4 v5 v6 H locs h ls hl hf
  unfold f_X9_can_68 at hf
  have C0 := C
  obtain ⟨hx, hb, hr, hml, hown, hts, hlk, hK, hSF⟩ := C0
  obtain ⟨x16, ex16⟩ : ∃ y : Int32, y = (v6 + (-1 : Int32)) := ⟨_, rfl⟩
  refine lv_iinc (v := x16) (lv' := [(6, .int x16), (0, .ref (Ea E 29 0)), (1, .int p0), (2, .int p1), (3, .int v3), (4, .int v4), (5, .int v5)]) hx hb dX9_can_68 hl (k := 6) rfl (by rw [ex16]; rfl) (by decide) rfl (fun ls hl => ?_)
  replace hf := lt_use ex16 hf
  clear ex16
  refine lv_goto (tgt := 38) hx hb dX9_can_71 (by decide) ?_
  exact hk38 _ _ _ _ _ _ _ h ls (lv_sub hl [1, 2, 3, 4, 5, 6, 0] rfl) hf
set_option maxHeartbeats 4000000 in
set_option maxRecDepth 100000 in
theorem w_X9_can_38 {p : Program} {l : Launch} {e : Env} {s : State} {m : MethodId} {args : Array Value} {below : List Frame} {meth : Method} {c : Code} {E : Ev} {σ : Ms} {ℓ : Mz} {p0 : Int32} {p1 : Int32} {out : Int32 × Mm}   (C : Cx cX9_can 7 (some .int) wsX9_can RX9 E p s m args meth c) {k38 : Mm → Int32 → Int32 → Int32 → Int32 → Option (Int32 × Mm)} (hk38 : ∀ (τ : Mm) (v3 : Int32) (v4 : Int32) (v5 : Int32) (v6 : Int32) (H : Heap) (locs : List Loc), HI E (va_up σ 29 τ) ℓ s H locs → ∀ ls : Array Slot, lv_has ls 7 [(0, .ref (Ea E 29 0)), (1, .int p0), (2, .int p1), (3, .int v3), (4, .int v4), (5, .int v5), (6, .int v6)] → k38 τ v3 v4 v5 v6 = some out → W p l e rm_X9_can s m args below meth c H locs 0 0 (MQ below (Po E s.heap.size (some (.int out.1)) (va_up σ 29 out.2) ℓ) args s 0 0 (AA E s.heap.size)) (F0 m 38 ls [])) : ∀ (τ : Mm) (v3 : Int32) (v4 : Int32) (v5 : Int32) (v6 : Int32) (H : Heap) (locs : List Loc) (h : HI E (va_up σ 29 τ) ℓ s H locs) (ls : Array Slot) (hl : lv_has ls 7 [(0, .ref (Ea E 29 0)), (1, .int p0), (2, .int p1), (3, .int v3), (4, .int v4), (5, .int v5), (6, .int v6)]), f_X9_can_38 p0 p1 k38 τ v3 v4 v5 v6 = some out → W p l e rm_X9_can s m args below meth c H locs 0 0 (MQ below (Po E s.heap.size (some (.int out.1)) (va_up σ 29 out.2) ℓ) args s 0 0 (AA E s.heap.size)) (F0 m 38 ls []) := by
  intro τ v3 v4 v5 v6 H locs h ls hl hf
  unfold f_X9_can_38 at hf
  have C0 := C
  obtain ⟨hx, hb, hr, hml, hown, hts, hlk, hK, hSF⟩ := C0
  refine lv_iload hx hb dX9_can_38 (lv_at hl 6 rfl) ?_
  refine lv_if_lt (tgt := 74) hx hb dX9_can_40 (by decide) (fun c7 => ?_) (fun c7 => ?_)
  · replace hf := it_t c7 hf
    refine lv_aload_n hx hb dX9_can_74 rfl (lv_at hl 0 rfl) ?_
    refine gf_9_6 C h (rfl : Kd 29 = 9) up_eq inX9_can_9 lkX9_can_29 dX9_can_75 ?_
    refine lv_iload_n hx hb dX9_can_78 rfl (lv_at hl 1 rfl) ?_
    refine lv_iload_n hx hb dX9_can_79 rfl (lv_at hl 3 rfl) ?_
    obtain ⟨g8, hf⟩ := gd_use hf
    refine sa_9_2 C h (rfl : Kd 29 = 9) up_eq (F := fun t => va_up σ 29 t) (fun _ => up_up) (inB_in g8) dX9_can_80 (fun τ9 eτ9 H locs h => ?_)
    replace hf := lt_use eτ9 hf
    clear eτ9
    refine lv_iload_n hx hb dX9_can_81 rfl (lv_at hl 2 rfl) ?_
    refine lv_if_ne (tgt := 90) hx hb dX9_can_82 (by decide) (fun c10 => ?_) (fun c10 => ?_)
    · replace hf := it_f c10 hf
      refine lv_iload hx hb dX9_can_90 (lv_at hl 5 rfl) ?_
      replace hf := Option.some.inj hf
      subst hf
      exact r_ire C h dX9_can_92
    replace hf := it_t c10 hf
    refine lv_iload hx hb dX9_can_85 (lv_at hl 4 rfl) ?_
    refine lv_goto (tgt := 92) hx hb dX9_can_87 (by decide) ?_
    replace hf := Option.some.inj hf
    subst hf
    exact r_ire C h dX9_can_92
  replace hf := it_f c7 hf
  refine lv_aload_n hx hb dX9_can_43 rfl (lv_at hl 0 rfl) ?_
  refine gf_9_6 C h (rfl : Kd 29 = 9) up_eq inX9_can_9 lkX9_can_29 dX9_can_44 ?_
  refine lv_iload_n hx hb dX9_can_47 rfl (lv_at hl 1 rfl) ?_
  refine lv_iload hx hb dX9_can_48 (lv_at hl 6 rfl) ?_
  obtain ⟨g11, hf⟩ := gd_use hf
  refine sa_9_2 C h (rfl : Kd 29 = 9) up_eq (F := fun t => va_up σ 29 t) (fun _ => up_up) (inB_in g11) dX9_can_50 (fun τ12 eτ12 H locs h => ?_)
  replace hf := lt_use eτ12 hf
  clear eτ12
  refine lv_aload_n hx hb dX9_can_51 rfl (lv_at hl 0 rfl) ?_
  obtain ⟨u13, hu13, hf⟩ := bd_use hf
  refine r_cv_9 (rest := []) C h (c_X9_isSeen  hu13) (rfl : Kd 29 = 9) gX9_can_X9_isSeen rfl ⟨rfl, rfl⟩ hdX9_isSeen ⟨Nat.le_of_ble_eq_true rfl, Nat.le_of_ble_eq_true rfl⟩ ⟨Nat.zero_le _, Nat.zero_le _⟩ hl.1 rfl (Nat.le_of_ble_eq_true rfl) dX9_can_52 (fun H locs h => ?_)
  refine lv_if_ne (tgt := 61) hx hb dX9_can_55 (by decide) (fun c14 => ?_) (fun c14 => ?_)
  · replace hf := it_f c14 hf
    obtain ⟨x15, ex15⟩ : ∃ y : Int32, y = (v4 + (1 : Int32)) := ⟨_, rfl⟩
    refine lv_iinc (v := x15) (lv' := [(4, .int x15), (0, .ref (Ea E 29 0)), (1, .int p0), (2, .int p1), (3, .int v3), (5, .int v5), (6, .int v6)]) hx hb dX9_can_61 hl (k := 4) rfl (by rw [ex15]; rfl) (by decide) rfl (fun ls hl => ?_)
    replace hf := lt_use ex15 hf
    clear ex15
    refine lv_iload hx hb dX9_can_64 (lv_at hl 6 rfl) ?_
    refine lv_istore (lv' := [(5, .int v6), (4, .int x15), (0, .ref (Ea E 29 0)), (1, .int p0), (2, .int p1), (3, .int v3), (6, .int v6)]) hx hb dX9_can_66 hl (by decide) rfl (fun ls hl => ?_)
    exact w_X9_can_68    C hk38 _ _ _ _ _ _ _ h ls (lv_sub hl [2, 3, 4, 5, 1, 0, 6] rfl) hf
  replace hf := it_t c14 hf
  refine lv_goto (tgt := 68) hx hb dX9_can_58 (by decide) ?_
  exact w_X9_can_68    C hk38 _ _ _ _ _ _ _ h ls (lv_sub hl [0, 1, 2, 3, 4, 5, 6] rfl) hf
set_option maxHeartbeats 4000000 in
set_option maxRecDepth 100000 in
theorem w_X9_can_38L {p : Program} {l : Launch} {e : Env} {s : State} {m : MethodId} {args : Array Value} {below : List Frame} {meth : Method} {c : Code} {E : Ev} {σ : Ms} {ℓ : Mz} {p0 : Int32} {p1 : Int32} {out : Int32 × Mm}   (C : Cx cX9_can 7 (some .int) wsX9_can RX9 E p s m args meth c)  : ∀ (n9 : Nat) (τ : Mm) (v3 : Int32) (v4 : Int32) (v5 : Int32) (v6 : Int32) (H : Heap) (locs : List Loc) (h : HI E (va_up σ 29 τ) ℓ s H locs) (ls : Array Slot) (hl : lv_has ls 7 [(0, .ref (Ea E 29 0)), (1, .int p0), (2, .int p1), (3, .int v3), (4, .int v4), (5, .int v5), (6, .int v6)]), f_X9_can_38L p0 p1  n9 τ v3 v4 v5 v6 = some out → W p l e rm_X9_can s m args below meth c H locs 0 0 (MQ below (Po E s.heap.size (some (.int out.1)) (va_up σ 29 out.2) ℓ) args s 0 0 (AA E s.heap.size)) (F0 m 38 ls []) := by
  intro n9
  induction n9 with
  | zero =>
    intro τ v3 v4 v5 v6 H locs h ls hl hf
    cases (show (none : Option (Int32 × Mm)) = some out from hf)
  | succ n9 ih =>
    intro τ v3 v4 v5 v6 H locs h ls hl hf
    exact w_X9_can_38   C  ih τ v3 v4 v5 v6 H locs h ls hl hf
set_option maxHeartbeats 4000000 in
set_option maxRecDepth 100000 in
theorem w_X9_can_0 {p : Program} {l : Launch} {e : Env} {s : State} {m : MethodId} {args : Array Value} {below : List Frame} {meth : Method} {c : Code} {E : Ev} {σ : Ms} {ℓ : Mz} {p0 : Int32} {p1 : Int32} {out : Int32 × Mm}   (C : Cx cX9_can 7 (some .int) wsX9_can RX9 E p s m args meth c)  : ∀ (τ : Mm) (H : Heap) (locs : List Loc) (h : HI E (va_up σ 29 τ) ℓ s H locs) (ls : Array Slot) (hl : lv_has ls 7 [(0, .ref (Ea E 29 0)), (1, .int p0), (2, .int p1)]), f_X9_can_0 p0 p1  τ = some out → W p l e rm_X9_can s m args below meth c H locs 0 0 (MQ below (Po E s.heap.size (some (.int out.1)) (va_up σ 29 out.2) ℓ) args s 0 0 (AA E s.heap.size)) (F0 m 0 ls []) := by
  intro τ H locs h ls hl hf
  unfold f_X9_can_0 at hf
  have C0 := C
  obtain ⟨hx, hb, hr, hml, hown, hts, hlk, hK, hSF⟩ := C0
  refine lv_aload_n hx hb dX9_can_0 rfl (lv_at hl 0 rfl) ?_
  refine lv_iload_n hx hb dX9_can_1 rfl (lv_at hl 1 rfl) ?_
  obtain ⟨u1, hu1, hf⟩ := bd_use hf
  refine r_cv_9 (rest := []) C h (c_X9_isMaster up_eq hu1) (rfl : Kd 29 = 9) gX9_can_X9_isMaster rfl ⟨rfl, rfl⟩ hdX9_isMaster ⟨Nat.le_of_ble_eq_true rfl, Nat.le_of_ble_eq_true rfl⟩ ⟨Nat.zero_le _, Nat.zero_le _⟩ hl.1 rfl (Nat.le_of_ble_eq_true rfl) dX9_can_2 (fun H locs h => ?_)
  refine lv_if_eq (tgt := 18) hx hb dX9_can_5 (by decide) (fun c2 => ?_) (fun c2 => ?_)
  · replace hf := it_t c2 hf
    refine lv_iconst (v := (-1 : Int32)) hx hb dX9_can_18 (by decide) ?_
    replace hf := Option.some.inj hf
    subst hf
    exact r_ire C h dX9_can_19
  replace hf := it_f c2 hf
  refine lv_aload_n hx hb dX9_can_8 rfl (lv_at hl 0 rfl) ?_
  refine lv_iload_n hx hb dX9_can_9 rfl (lv_at hl 2 rfl) ?_
  refine lv_iconst (v := (0 : Int32)) hx hb dX9_can_10 (by decide) ?_
  refine lv_iconst (v := (1 : Int32)) hx hb dX9_can_11 (by decide) ?_
  obtain ⟨u3, hu3, hf⟩ := bd_use hf
  refine r_cv_9 (rest := []) C h (c_X9_in  hu3) (rfl : Kd 29 = 9) gX9_can_X9_in rfl ⟨rfl, rfl⟩ hdX9_in ⟨Nat.le_of_ble_eq_true rfl, Nat.le_of_ble_eq_true rfl⟩ ⟨Nat.zero_le _, Nat.zero_le _⟩ hl.1 rfl (Nat.le_of_ble_eq_true rfl) dX9_can_12 (fun H locs h => ?_)
  refine lv_if_ne (tgt := 20) hx hb dX9_can_15 (by decide) (fun c4 => ?_) (fun c4 => ?_)
  · replace hf := it_f c4 hf
    refine lv_aload_n hx hb dX9_can_20 rfl (lv_at hl 0 rfl) ?_
    refine gf_9_6 C h (rfl : Kd 29 = 9) up_eq inX9_can_9 lkX9_can_29 dX9_can_21 ?_
    refine lv_iload_n hx hb dX9_can_24 rfl (lv_at hl 1 rfl) ?_
    obtain ⟨g5, hf⟩ := gd_use hf
    refine ld_9_2 C h (rfl : Kd 29 = 9) up_eq (inB_in g5) dX9_can_25 ?_
    refine lv_topi (fun x6 ex6 => ?_)
    replace hf := lt_use ex6 hf
    clear ex6
    refine lv_istore_n (lv' := [(3, .int x6), (0, .ref (Ea E 29 0)), (1, .int p0), (2, .int p1)]) hx hb dX9_can_26 rfl hl (by decide) rfl (fun ls hl => ?_)
    refine lv_iconst (v := (0 : Int32)) hx hb dX9_can_27 (by decide) ?_
    refine lv_istore (lv' := [(4, .int (0 : Int32)), (3, .int x6), (0, .ref (Ea E 29 0)), (1, .int p0), (2, .int p1)]) hx hb dX9_can_28 hl (by decide) rfl (fun ls hl => ?_)
    refine lv_bipush (v := (-5 : Int32)) hx hb dX9_can_30 (by decide) ?_
    refine lv_istore (lv' := [(5, .int (-5 : Int32)), (4, .int (0 : Int32)), (3, .int x6), (0, .ref (Ea E 29 0)), (1, .int p0), (2, .int p1)]) hx hb dX9_can_32 hl (by decide) rfl (fun ls hl => ?_)
    refine lv_bipush (v := (9 : Int32)) hx hb dX9_can_34 (by decide) ?_
    refine lv_istore (lv' := [(6, .int (9 : Int32)), (5, .int (-5 : Int32)), (4, .int (0 : Int32)), (3, .int x6), (0, .ref (Ea E 29 0)), (1, .int p0), (2, .int p1)]) hx hb dX9_can_36 hl (by decide) rfl (fun ls hl => ?_)
    exact w_X9_can_38L    C  _ _ _ _ _ _ _ _ h ls (lv_sub hl [4, 5, 6, 3, 2, 1, 0] rfl) hf
  replace hf := it_t c4 hf
  refine lv_iconst (v := (-1 : Int32)) hx hb dX9_can_18 (by decide) ?_
  replace hf := Option.some.inj hf
  subst hf
  exact r_ire C h dX9_can_19
theorem c_X9_can {l : Launch} {E : Ev} {σ : Ms} {ℓ : Mz} {τ : Mm} {p0 : Int32} {p1 : Int32} {out : Int32 × Mm} (hf : f_X9_can τ p0 p1 = some out) : Ct l yX9_can wsX9_can rm_X9_can [.ref (Ea E 29 0), .int p0, .int p1] E (va_up σ 29 τ) ℓ (some (.int out.1)) (va_up σ 29 out.2) ℓ := by
  refine Ct_mk (cc := cX9_can) (mL := 7) (ret := (some .int)) (own := RX9) (by decide +kernel) rfl rfl (Nat.le_of_ble_eq_true rfl) (fun p e s m below meth c C h ls hl => ?_)
  exact w_X9_can_0  C τ _ _ h ls (lv_sub hl [0, 1, 2] rfl) hf
theorem k_X9_can {l : Launch} {E : Ev} {σ : Ms} {ℓ : Mz} {τ : Mm} {p0 : Int32} {p1 : Int32} (hτ : σ 29 = τ) {out : Int32 × Mm} (hf : f_X9_can τ p0 p1 = some out) : Ct l yX9_can wsX9_can rm_X9_can [.ref (Ea E 29 0), .int p0, .int p1] E σ ℓ (some (.int out.1)) (va_up σ 29 out.2) ℓ := by
  subst hτ
  have h := c_X9_can (l := l) (E := E) (σ := σ) (ℓ := ℓ)  hf
  rw [up_id σ 29] at h
  exact h
theorem hdX9_divisor : yX9_divisor.cls = RX9 ∧ yX9_divisor.cls ≠ "java/lang/invoke/MethodHandle" ∧ yX9_divisor.cls ≠ "java/lang/invoke/VarHandle" ∧ (parseMethodDescriptor yX9_divisor.desc).map (fun d => d.parameters.length) = some 2 := by decide +kernel
def rm_X9_divisor : Room := { frames := 0, cells := 0, slots := 0, locals := 0 }
set_option maxHeartbeats 4000000 in
set_option maxRecDepth 100000 in
theorem w_X9_divisor_5 {p : Program} {l : Launch} {e : Env} {s : State} {m : MethodId} {args : Array Value} {below : List Frame} {meth : Method} {c : Code} {E : Ev} {σ : Ms} {ℓ : Mz} {p0 : Int32} {p1 : Int32} {out : Int32}   (C : Cx cX9_divisor 6 (some .int) wsX9_divisor RX9 E p s m args meth c) {k5 : Int32 → Int32 → Option (Int32)} (hk5 : ∀ (v3 : Int32) (v4 : Int32) (H : Heap) (locs : List Loc), HI E σ ℓ s H locs → ∀ ls : Array Slot, lv_has ls 6 [(3, .int v3), (4, .int v4)] → k5 v3 v4 = some out → W p l e rm_X9_divisor s m args below meth c H locs 0 0 (MQ below (Po E s.heap.size (some (.int out)) σ ℓ) args s 0 0 (AA E s.heap.size)) (F0 m 5 ls [])) : ∀ (v3 : Int32) (v4 : Int32) (H : Heap) (locs : List Loc) (h : HI E σ ℓ s H locs) (ls : Array Slot) (hl : lv_has ls 6 [(3, .int v3), (4, .int v4)]), f_X9_divisor_5 p0 p1 k5 v3 v4 = some out → W p l e rm_X9_divisor s m args below meth c H locs 0 0 (MQ below (Po E s.heap.size (some (.int out)) σ ℓ) args s 0 0 (AA E s.heap.size)) (F0 m 5 ls []) := by
  intro v3 v4 H locs h ls hl hf
  unfold f_X9_divisor_5 at hf
  have C0 := C
  obtain ⟨hx, hb, hr, hml, hown, hts, hlk, hK, hSF⟩ := C0
  refine lv_iload hx hb dX9_divisor_5 (lv_at hl 1 rfl) ?_
  refine lv_if_eq (tgt := 26) hx hb dX9_divisor_7 (by decide) (fun c1 => ?_) (fun c1 => ?_)
  · replace hf := it_t c1 hf
    refine lv_iload_n hx hb dX9_divisor_26 rfl (lv_at hl 0 rfl) ?_
    replace hf := Option.some.inj hf
    subst hf
    exact r_ire C h dX9_divisor_27
  replace hf := it_f c1 hf
  refine lv_iload_n hx hb dX9_divisor_10 rfl (lv_at hl 0 rfl) ?_
  refine lv_iload hx hb dX9_divisor_11 (lv_at hl 1 rfl) ?_
  obtain ⟨g2, hf⟩ := gd_use hf
  refine lv_irem hx hb dX9_divisor_13 (nz_use g2) ?_
  refine lv_topi (fun x3 ex3 => ?_)
  replace hf := lt_use ex3 hf
  clear ex3
  refine lv_istore (lv' := [(5, .int x3), (3, .int v3), (4, .int v4)]) hx hb dX9_divisor_14 hl (by decide) rfl (fun ls hl => ?_)
  refine lv_iload hx hb dX9_divisor_16 (lv_at hl 2 rfl) ?_
  refine lv_istore_n (lv' := [(3, .int v4), (5, .int x3), (4, .int v4)]) hx hb dX9_divisor_18 rfl hl (by decide) rfl (fun ls hl => ?_)
  refine lv_iload hx hb dX9_divisor_19 (lv_at hl 1 rfl) ?_
  refine lv_istore (lv' := [(4, .int x3), (3, .int v4), (5, .int x3)]) hx hb dX9_divisor_21 hl (by decide) rfl (fun ls hl => ?_)
  refine lv_goto (tgt := 5) hx hb dX9_divisor_23 (by decide) ?_
  exact hk5 _ _ _ _ h ls (lv_sub hl [1, 0] rfl) hf
set_option maxHeartbeats 4000000 in
set_option maxRecDepth 100000 in
theorem w_X9_divisor_5L {p : Program} {l : Launch} {e : Env} {s : State} {m : MethodId} {args : Array Value} {below : List Frame} {meth : Method} {c : Code} {E : Ev} {σ : Ms} {ℓ : Mz} {p0 : Int32} {p1 : Int32} {out : Int32}   (C : Cx cX9_divisor 6 (some .int) wsX9_divisor RX9 E p s m args meth c)  : ∀ (n9 : Nat) (v3 : Int32) (v4 : Int32) (H : Heap) (locs : List Loc) (h : HI E σ ℓ s H locs) (ls : Array Slot) (hl : lv_has ls 6 [(3, .int v3), (4, .int v4)]), f_X9_divisor_5L p0 p1  n9 v3 v4 = some out → W p l e rm_X9_divisor s m args below meth c H locs 0 0 (MQ below (Po E s.heap.size (some (.int out)) σ ℓ) args s 0 0 (AA E s.heap.size)) (F0 m 5 ls []) := by
  intro n9
  induction n9 with
  | zero =>
    intro v3 v4 H locs h ls hl hf
    cases (show (none : Option (Int32)) = some out from hf)
  | succ n9 ih =>
    intro v3 v4 H locs h ls hl hf
    exact w_X9_divisor_5   C  ih v3 v4 H locs h ls hl hf
set_option maxHeartbeats 4000000 in
set_option maxRecDepth 100000 in
theorem w_X9_divisor_0 {p : Program} {l : Launch} {e : Env} {s : State} {m : MethodId} {args : Array Value} {below : List Frame} {meth : Method} {c : Code} {E : Ev} {σ : Ms} {ℓ : Mz} {p0 : Int32} {p1 : Int32} {out : Int32}   (C : Cx cX9_divisor 6 (some .int) wsX9_divisor RX9 E p s m args meth c)  : ∀  (H : Heap) (locs : List Loc) (h : HI E σ ℓ s H locs) (ls : Array Slot) (hl : lv_has ls 6 [(1, .int p0), (2, .int p1)]), f_X9_divisor_0 p0 p1   = some out → W p l e rm_X9_divisor s m args below meth c H locs 0 0 (MQ below (Po E s.heap.size (some (.int out)) σ ℓ) args s 0 0 (AA E s.heap.size)) (F0 m 0 ls []) := by
  intro  H locs h ls hl hf
  unfold f_X9_divisor_0 at hf
  have C0 := C
  obtain ⟨hx, hb, hr, hml, hown, hts, hlk, hK, hSF⟩ := C0
  refine lv_iload_n hx hb dX9_divisor_0 rfl (lv_at hl 0 rfl) ?_
  refine lv_istore_n (lv' := [(3, .int p0), (1, .int p0), (2, .int p1)]) hx hb dX9_divisor_1 rfl hl (by decide) rfl (fun ls hl => ?_)
  refine lv_iload_n hx hb dX9_divisor_2 rfl (lv_at hl 2 rfl) ?_
  refine lv_istore (lv' := [(4, .int p1), (3, .int p0), (1, .int p0), (2, .int p1)]) hx hb dX9_divisor_3 hl (by decide) rfl (fun ls hl => ?_)
  exact w_X9_divisor_5L    C  _ _ _ _ _ h ls (lv_sub hl [1, 0] rfl) hf
theorem c_X9_divisor {l : Launch} {E : Ev} {σ : Ms} {ℓ : Mz} {p0 : Int32} {p1 : Int32} {out : Int32} (hf : f_X9_divisor p0 p1 = some out) : Ct l yX9_divisor wsX9_divisor rm_X9_divisor [.ref (Ea E 29 0), .int p0, .int p1] E σ ℓ (some (.int out)) σ ℓ := by
  refine Ct_mk (cc := cX9_divisor) (mL := 6) (ret := (some .int)) (own := RX9) (by decide +kernel) rfl rfl (Nat.le_of_ble_eq_true rfl) (fun p e s m below meth c C h ls hl => ?_)
  exact w_X9_divisor_0  C  _ _ h ls (lv_sub hl [1, 2] rfl) hf
theorem hdX9_lowest : yX9_lowest.cls = RX9 ∧ yX9_lowest.cls ≠ "java/lang/invoke/MethodHandle" ∧ yX9_lowest.cls ≠ "java/lang/invoke/VarHandle" ∧ (parseMethodDescriptor yX9_lowest.desc).map (fun d => d.parameters.length) = some 3 := by decide +kernel
def rm_X9_lowest : Room := { frames := 1, cells := 0, slots := 0, locals := 25 }
set_option maxHeartbeats 4000000 in
set_option maxRecDepth 100000 in
theorem w_X9_lowest_0 {p : Program} {l : Launch} {e : Env} {s : State} {m : MethodId} {args : Array Value} {below : List Frame} {meth : Method} {c : Code} {E : Ev} {σ : Ms} {ℓ : Mz} {p0 : Int32} {p1 : Int32} {p2 : Int32} {out : Int64}   (C : Cx cX9_lowest 5 (some .long) wsX9_lowest RX9 E p s m args meth c)  : ∀  (H : Heap) (locs : List Loc) (h : HI E σ ℓ s H locs) (ls : Array Slot) (hl : lv_has ls 5 [(0, .ref (Ea E 29 0)), (1, .int p0), (2, .int p1), (3, .int p2)]), f_X9_lowest_0 p0 p1 p2   = some out → W p l e rm_X9_lowest s m args below meth c H locs 0 0 (MQ below (Po E s.heap.size (some (.long out)) σ ℓ) args s 0 0 (AA E s.heap.size)) (F0 m 0 ls []) := by
  intro  H locs h ls hl hf
  unfold f_X9_lowest_0 at hf
  have C0 := C
  obtain ⟨hx, hb, hr, hml, hown, hts, hlk, hK, hSF⟩ := C0
  refine lv_aload_n hx hb dX9_lowest_0 rfl (lv_at hl 0 rfl) ?_
  refine lv_iload_n hx hb dX9_lowest_1 rfl (lv_at hl 1 rfl) ?_
  refine lv_iload_n hx hb dX9_lowest_2 rfl (lv_at hl 2 rfl) ?_
  obtain ⟨u1, hu1, hf⟩ := bd_use hf
  refine r_cv_9 (rest := []) C h (c_X9_divisor  hu1) (rfl : Kd 29 = 9) gX9_lowest_X9_divisor rfl ⟨rfl, rfl⟩ hdX9_divisor ⟨Nat.le_of_ble_eq_true rfl, Nat.le_of_ble_eq_true rfl⟩ ⟨Nat.zero_le _, Nat.zero_le _⟩ hl.1 rfl (Nat.le_of_ble_eq_true rfl) dX9_lowest_3 (fun H locs h => ?_)
  refine lv_istore (lv' := [(4, .int u1), (0, .ref (Ea E 29 0)), (1, .int p0), (2, .int p1), (3, .int p2)]) hx hb dX9_lowest_6 hl (by decide) rfl (fun ls hl => ?_)
  refine lv_iload_n hx hb dX9_lowest_8 rfl (lv_at hl 4 rfl) ?_
  refine lv_if_ne (tgt := 20) hx hb dX9_lowest_9 (by decide) (fun c2 => ?_) (fun c2 => ?_)
  · replace hf := it_f c2 hf
    refine lv_iload_n hx hb dX9_lowest_20 rfl (lv_at hl 3 rfl) ?_
    refine lv_iload hx hb dX9_lowest_21 (lv_at hl 0 rfl) ?_
    obtain ⟨g3, hf⟩ := gd_use hf
    refine lv_idiv hx hb dX9_lowest_23 (nz_use g3) ?_
    refine lv_i2l hx hb dX9_lowest_24 rfl ?_
    replace hf := Option.some.inj hf
    subst hf
    exact r_lre C h dX9_lowest_25
  replace hf := it_t c2 hf
  refine lv_iload_n hx hb dX9_lowest_12 rfl (lv_at hl 2 rfl) ?_
  refine lv_iload hx hb dX9_lowest_13 (lv_at hl 0 rfl) ?_
  obtain ⟨g4, hf⟩ := gd_use hf
  refine lv_idiv hx hb dX9_lowest_15 (nz_use g4) ?_
  refine lv_i2l hx hb dX9_lowest_16 rfl ?_
  refine lv_goto (tgt := 25) hx hb dX9_lowest_17 (by decide) ?_
  replace hf := Option.some.inj hf
  subst hf
  exact r_lre C h dX9_lowest_25
theorem c_X9_lowest {l : Launch} {E : Ev} {σ : Ms} {ℓ : Mz} {p0 : Int32} {p1 : Int32} {p2 : Int32} {out : Int64} (hf : f_X9_lowest p0 p1 p2 = some out) : Ct l yX9_lowest wsX9_lowest rm_X9_lowest [.ref (Ea E 29 0), .int p0, .int p1, .int p2] E σ ℓ (some (.long out)) σ ℓ := by
  refine Ct_mk (cc := cX9_lowest) (mL := 5) (ret := (some .long)) (own := RX9) (by decide +kernel) rfl rfl (Nat.le_of_ble_eq_true rfl) (fun p e s m below meth c C h ls hl => ?_)
  exact w_X9_lowest_0  C  _ _ h ls (lv_sub hl [0, 1, 2, 3] rfl) hf
theorem hdX9_odds : yX9_odds.cls = RX9 ∧ yX9_odds.cls ≠ "java/lang/invoke/MethodHandle" ∧ yX9_odds.cls ≠ "java/lang/invoke/VarHandle" ∧ (parseMethodDescriptor yX9_odds.desc).map (fun d => d.parameters.length) = some 2 := by decide +kernel
def rm_X9_odds : Room := { frames := 7, cells := 0, slots := 0, locals := 168 }
set_option maxRecDepth 100000 in
theorem wdX9_odds_Cond_constantLong_RX9_438___9223372036854775808_ : Cond.constantLong RX9 438 (-9223372036854775808) ∈ wsX9_odds := by decide +kernel
set_option maxRecDepth 100000 in
theorem inX9_odds_9 : ∀ w ∈ wsX90, w ∈ wsX9_odds := fun _ h => List.mem_cons_of_mem _ (List.mem_append_right _ h)
set_option maxRecDepth 100000 in
theorem lkX9_odds_16 : Cond.fieldLink RX9 16 "BellsBelowModel" "rung" "I" ∈ wsX9_odds := by decide +kernel
set_option maxRecDepth 100000 in
theorem lkX9_odds_47 : Cond.fieldLink RX9 47 "BellsBelowModel" "wire" "[I" ∈ wsX9_odds := by decide +kernel
set_option maxRecDepth 100000 in
theorem lkX9_odds_35 : Cond.fieldLink RX9 35 "BellsBelowModel" "goal" "[I" ∈ wsX9_odds := by decide +kernel
set_option maxHeartbeats 4000000 in
set_option maxRecDepth 100000 in
theorem w_X9_odds_75 {p : Program} {l : Launch} {e : Env} {s : State} {m : MethodId} {args : Array Value} {below : List Frame} {meth : Method} {c : Code} {E : Ev} {σ : Ms} {ℓ : Mz} {p0 : Int32} {p1 : Int32} {out : Int64 × Mm}   (C : Cx cX9_odds 5 (some .long) wsX9_odds RX9 E p s m args meth c) {k27 : Mm → Int32 → Int32 → Option (Int64 × Mm)} (hk27 : ∀ (τ : Mm) (v3 : Int32) (v4 : Int32) (H : Heap) (locs : List Loc), HI E (va_up σ 29 τ) ℓ s H locs → ∀ ls : Array Slot, lv_has ls 5 [(0, .ref (Ea E 29 0)), (1, .int p0), (2, .int p1), (3, .int v3), (4, .int v4)] → k27 τ v3 v4 = some out → W p l e rm_X9_odds s m args below meth c H locs 0 0 (MQ below (Po E s.heap.size (some (.long out.1)) (va_up σ 29 out.2) ℓ) args s 0 0 (AA E s.heap.size)) (F0 m 27 ls [])) : ∀ (τ : Mm) (v4 : Int32) (w0 : Int32) (w1 : Int32) (H : Heap) (locs : List Loc) (h : HI E (va_up σ 29 τ) ℓ s H locs) (ls : Array Slot) (hl : lv_has ls 5 [(0, .ref (Ea E 29 0)), (1, .int p0), (2, .int p1), (4, .int v4)]), f_X9_odds_75 p0 p1 k27 τ v4 w0 w1 = some out → W p l e rm_X9_odds s m args below meth c H locs 0 0 (MQ below (Po E s.heap.size (some (.long out.1)) (va_up σ 29 out.2) ℓ) args s 0 0 (AA E s.heap.size)) (F0 m 75 ls [.int w1, .int w0]) := by
  intro τ v4 w0 w1 H locs h ls hl hf
  unfold f_X9_odds_75 at hf
  have C0 := C
  obtain ⟨hx, hb, hr, hml, hown, hts, hlk, hK, hSF⟩ := C0
  refine lv_iadd hx hb dX9_odds_75 ?_
  refine lv_topi (fun x13 ex13 => ?_)
  replace hf := lt_use ex13 hf
  clear ex13
  refine lv_istore_n (lv' := [(3, .int x13), (0, .ref (Ea E 29 0)), (1, .int p0), (2, .int p1), (4, .int v4)]) hx hb dX9_odds_76 rfl hl (by decide) rfl (fun ls hl => ?_)
  refine lv_aload_n hx hb dX9_odds_77 rfl (lv_at hl 1 rfl) ?_
  obtain ⟨u14, hu14, hf⟩ := bd_use hf
  refine r_cv_9 (rest := []) C h (c_X9_putBack  hu14) (rfl : Kd 29 = 9) gX9_odds_X9_putBack rfl ⟨rfl, rfl⟩ hdX9_putBack ⟨Nat.le_of_ble_eq_true rfl, Nat.le_of_ble_eq_true rfl⟩ ⟨Nat.zero_le _, Nat.zero_le _⟩ hl.1 rfl (Nat.le_of_ble_eq_true rfl) dX9_odds_78 (fun H locs h => ?_)
  obtain ⟨x15, ex15⟩ : ∃ y : Int32, y = (v4 + (1 : Int32)) := ⟨_, rfl⟩
  refine lv_iinc (v := x15) (lv' := [(4, .int x15), (3, .int x13), (0, .ref (Ea E 29 0)), (1, .int p0), (2, .int p1)]) hx hb dX9_odds_81 hl (k := 4) rfl (by rw [ex15]; rfl) (by decide) rfl (fun ls hl => ?_)
  replace hf := lt_use ex15 hf
  clear ex15
  refine lv_goto (tgt := 27) hx hb dX9_odds_84 (by decide) ?_
  exact hk27 _ _ _ _ _ h ls (lv_sub hl [2, 3, 4, 1, 0] rfl) hf
set_option maxHeartbeats 4000000 in
set_option maxRecDepth 100000 in
theorem w_X9_odds_27 {p : Program} {l : Launch} {e : Env} {s : State} {m : MethodId} {args : Array Value} {below : List Frame} {meth : Method} {c : Code} {E : Ev} {σ : Ms} {ℓ : Mz} {p0 : Int32} {p1 : Int32} {out : Int64 × Mm}   (C : Cx cX9_odds 5 (some .long) wsX9_odds RX9 E p s m args meth c) {k27 : Mm → Int32 → Int32 → Option (Int64 × Mm)} (hk27 : ∀ (τ : Mm) (v3 : Int32) (v4 : Int32) (H : Heap) (locs : List Loc), HI E (va_up σ 29 τ) ℓ s H locs → ∀ ls : Array Slot, lv_has ls 5 [(0, .ref (Ea E 29 0)), (1, .int p0), (2, .int p1), (3, .int v3), (4, .int v4)] → k27 τ v3 v4 = some out → W p l e rm_X9_odds s m args below meth c H locs 0 0 (MQ below (Po E s.heap.size (some (.long out.1)) (va_up σ 29 out.2) ℓ) args s 0 0 (AA E s.heap.size)) (F0 m 27 ls [])) : ∀ (τ : Mm) (v3 : Int32) (v4 : Int32) (H : Heap) (locs : List Loc) (h : HI E (va_up σ 29 τ) ℓ s H locs) (ls : Array Slot) (hl : lv_has ls 5 [(0, .ref (Ea E 29 0)), (1, .int p0), (2, .int p1), (3, .int v3), (4, .int v4)]), f_X9_odds_27 p0 p1 k27 τ v3 v4 = some out → W p l e rm_X9_odds s m args below meth c H locs 0 0 (MQ below (Po E s.heap.size (some (.long out.1)) (va_up σ 29 out.2) ℓ) args s 0 0 (AA E s.heap.size)) (F0 m 27 ls []) := by
  intro τ v3 v4 H locs h ls hl hf
  unfold f_X9_odds_27 at hf
  have C0 := C
  obtain ⟨hx, hb, hr, hml, hown, hts, hlk, hK, hSF⟩ := C0
  refine lv_iload hx hb dX9_odds_27 (lv_at hl 4 rfl) ?_
  refine lv_bipush (v := (10 : Int32)) hx hb dX9_odds_29 (by decide) ?_
  refine lv_icmp_ge (tgt := 87) hx hb dX9_odds_31 (by decide) (fun c5 => ?_) (fun c5 => ?_)
  · replace hf := it_t c5 hf
    refine lv_aload_n hx hb dX9_odds_87 rfl (lv_at hl 0 rfl) ?_
    refine lv_iload_n hx hb dX9_odds_88 rfl (lv_at hl 3 rfl) ?_
    refine lv_bipush (v := (10 : Int32)) hx hb dX9_odds_89 (by decide) ?_
    refine lv_iload_n hx hb dX9_odds_91 rfl (lv_at hl 2 rfl) ?_
    obtain ⟨u6, hu6, hf⟩ := bd_use hf
    refine r_cv_9 (rest := []) C h (c_X9_lowest  hu6) (rfl : Kd 29 = 9) gX9_odds_X9_lowest rfl ⟨rfl, rfl⟩ hdX9_lowest ⟨Nat.le_of_ble_eq_true rfl, Nat.le_of_ble_eq_true rfl⟩ ⟨Nat.zero_le _, Nat.zero_le _⟩ hl.1 rfl (Nat.le_of_ble_eq_true rfl) dX9_odds_92 (fun H locs h => ?_)
    replace hf := Option.some.inj hf
    subst hf
    exact r_lre C h dX9_odds_95
  replace hf := it_f c5 hf
  refine lv_aload_n hx hb dX9_odds_34 rfl (lv_at hl 0 rfl) ?_
  obtain ⟨u7, hu7, hf⟩ := bd_use hf
  refine r_cv_9 (rest := []) C h (c_X9_save  hu7) (rfl : Kd 29 = 9) gX9_odds_X9_save rfl ⟨rfl, rfl⟩ hdX9_save ⟨Nat.le_of_ble_eq_true rfl, Nat.le_of_ble_eq_true rfl⟩ ⟨Nat.zero_le _, Nat.zero_le _⟩ hl.1 rfl (Nat.le_of_ble_eq_true rfl) dX9_odds_35 (fun H locs h => ?_)
  refine lv_aload_n hx hb dX9_odds_38 rfl (lv_at hl 0 rfl) ?_
  refine lv_dup hx hb dX9_odds_39 rfl ?_
  refine gf_9_2 C h (rfl : Kd 29 = 9) up_eq inX9_odds_9 lkX9_odds_16 dX9_odds_40 ?_
  refine lv_iconst (v := (1 : Int32)) hx hb dX9_odds_43 (by decide) ?_
  refine lv_aload_n hx hb dX9_odds_44 rfl (lv_at hl 0 rfl) ?_
  refine gf_9_12 C h (rfl : Kd 29 = 9) up_eq inX9_odds_9 lkX9_odds_47 dX9_odds_45 ?_
  refine lv_iload hx hb dX9_odds_48 (lv_at hl 4 rfl) ?_
  obtain ⟨g8, hf⟩ := gd_use hf
  refine ld_9_8 C h (rfl : Kd 29 = 9) up_eq (inB_in g8) dX9_odds_50 ?_
  refine lv_ishl hx hb dX9_odds_51 ?_
  refine lv_ior hx hb dX9_odds_52 ?_
  refine pf_9_2 C h (rfl : Kd 29 = 9) up_eq (F := fun t => va_up σ 29 t) (fun _ => up_up) inX9_odds_9 lkX9_odds_16 dX9_odds_53 (fun τ9 eτ9 H locs h => ?_)
  replace hf := lt_use eτ9 hf
  clear eτ9
  refine lv_aload_n hx hb dX9_odds_56 rfl (lv_at hl 0 rfl) ?_
  obtain ⟨u10, hu10, hf⟩ := bd_use hf
  refine r_cv_9 (rest := []) C h (c_X9_giveGoals  hu10) (rfl : Kd 29 = 9) gX9_odds_X9_giveGoals rfl ⟨rfl, rfl⟩ hdX9_giveGoals ⟨Nat.le_of_ble_eq_true rfl, Nat.le_of_ble_eq_true rfl⟩ ⟨Nat.zero_le _, Nat.zero_le _⟩ hl.1 rfl (Nat.le_of_ble_eq_true rfl) dX9_odds_57 (fun H locs h => ?_)
  refine lv_iload_n hx hb dX9_odds_60 rfl (lv_at hl 3 rfl) ?_
  refine lv_aload_n hx hb dX9_odds_61 rfl (lv_at hl 0 rfl) ?_
  refine gf_9_8 C h (rfl : Kd 29 = 9) up_eq inX9_odds_9 lkX9_odds_35 dX9_odds_62 ?_
  refine lv_iload_n hx hb dX9_odds_65 rfl (lv_at hl 1 rfl) ?_
  obtain ⟨g11, hf⟩ := gd_use hf
  refine ld_9_4 C h (rfl : Kd 29 = 9) up_eq (inB_in g11) dX9_odds_66 ?_
  refine lv_if_lt (tgt := 74) hx hb dX9_odds_67 (by decide) (fun c12 => ?_) (fun c12 => ?_)
  · replace hf := it_t c12 hf
    refine lv_iconst (v := (0 : Int32)) hx hb dX9_odds_74 (by decide) ?_
    exact w_X9_odds_75    C hk27 _ _ _ _ _ _ h ls (lv_sub hl [0, 1, 2, 4] rfl) hf
  replace hf := it_f c12 hf
  refine lv_iconst (v := (1 : Int32)) hx hb dX9_odds_70 (by decide) ?_
  refine lv_goto (tgt := 75) hx hb dX9_odds_71 (by decide) ?_
  exact w_X9_odds_75    C hk27 _ _ _ _ _ _ h ls (lv_sub hl [0, 1, 2, 4] rfl) hf
set_option maxHeartbeats 4000000 in
set_option maxRecDepth 100000 in
theorem w_X9_odds_27L {p : Program} {l : Launch} {e : Env} {s : State} {m : MethodId} {args : Array Value} {below : List Frame} {meth : Method} {c : Code} {E : Ev} {σ : Ms} {ℓ : Mz} {p0 : Int32} {p1 : Int32} {out : Int64 × Mm}   (C : Cx cX9_odds 5 (some .long) wsX9_odds RX9 E p s m args meth c)  : ∀ (n9 : Nat) (τ : Mm) (v3 : Int32) (v4 : Int32) (H : Heap) (locs : List Loc) (h : HI E (va_up σ 29 τ) ℓ s H locs) (ls : Array Slot) (hl : lv_has ls 5 [(0, .ref (Ea E 29 0)), (1, .int p0), (2, .int p1), (3, .int v3), (4, .int v4)]), f_X9_odds_27L p0 p1  n9 τ v3 v4 = some out → W p l e rm_X9_odds s m args below meth c H locs 0 0 (MQ below (Po E s.heap.size (some (.long out.1)) (va_up σ 29 out.2) ℓ) args s 0 0 (AA E s.heap.size)) (F0 m 27 ls []) := by
  intro n9
  induction n9 with
  | zero =>
    intro τ v3 v4 H locs h ls hl hf
    cases (show (none : Option (Int64 × Mm)) = some out from hf)
  | succ n9 ih =>
    intro τ v3 v4 H locs h ls hl hf
    exact w_X9_odds_27   C  ih τ v3 v4 H locs h ls hl hf
set_option maxHeartbeats 4000000 in
set_option maxRecDepth 100000 in
theorem w_X9_odds_0 {p : Program} {l : Launch} {e : Env} {s : State} {m : MethodId} {args : Array Value} {below : List Frame} {meth : Method} {c : Code} {E : Ev} {σ : Ms} {ℓ : Mz} {p0 : Int32} {p1 : Int32} {out : Int64 × Mm}   (C : Cx cX9_odds 5 (some .long) wsX9_odds RX9 E p s m args meth c)  : ∀ (τ : Mm) (H : Heap) (locs : List Loc) (h : HI E (va_up σ 29 τ) ℓ s H locs) (ls : Array Slot) (hl : lv_has ls 5 [(0, .ref (Ea E 29 0)), (1, .int p0), (2, .int p1)]), f_X9_odds_0 p0 p1  τ = some out → W p l e rm_X9_odds s m args below meth c H locs 0 0 (MQ below (Po E s.heap.size (some (.long out.1)) (va_up σ 29 out.2) ℓ) args s 0 0 (AA E s.heap.size)) (F0 m 0 ls []) := by
  intro τ H locs h ls hl hf
  unfold f_X9_odds_0 at hf
  have C0 := C
  obtain ⟨hx, hb, hr, hml, hown, hts, hlk, hK, hSF⟩ := C0
  refine lv_aload_n hx hb dX9_odds_0 rfl (lv_at hl 0 rfl) ?_
  refine lv_iload_n hx hb dX9_odds_1 rfl (lv_at hl 1 rfl) ?_
  obtain ⟨u1, hu1, hf⟩ := bd_use hf
  refine r_cv_9 (rest := []) C h (c_X9_isMaster up_eq hu1) (rfl : Kd 29 = 9) gX9_odds_X9_isMaster rfl ⟨rfl, rfl⟩ hdX9_isMaster ⟨Nat.le_of_ble_eq_true rfl, Nat.le_of_ble_eq_true rfl⟩ ⟨Nat.zero_le _, Nat.zero_le _⟩ hl.1 rfl (Nat.le_of_ble_eq_true rfl) dX9_odds_2 (fun H locs h => ?_)
  refine lv_if_eq (tgt := 18) hx hb dX9_odds_5 (by decide) (fun c2 => ?_) (fun c2 => ?_)
  · replace hf := it_t c2 hf
    refine lv_ldc2 hx hb hown (hts _ wdX9_odds_Cond_constantLong_RX9_438___9223372036854775808_) dX9_odds_18 ?_
    replace hf := Option.some.inj hf
    subst hf
    exact r_lre C h dX9_odds_21
  replace hf := it_f c2 hf
  refine lv_aload_n hx hb dX9_odds_8 rfl (lv_at hl 0 rfl) ?_
  refine lv_iload_n hx hb dX9_odds_9 rfl (lv_at hl 2 rfl) ?_
  refine lv_iconst (v := (0 : Int32)) hx hb dX9_odds_10 (by decide) ?_
  refine lv_iconst (v := (1 : Int32)) hx hb dX9_odds_11 (by decide) ?_
  obtain ⟨u3, hu3, hf⟩ := bd_use hf
  refine r_cv_9 (rest := []) C h (c_X9_in  hu3) (rfl : Kd 29 = 9) gX9_odds_X9_in rfl ⟨rfl, rfl⟩ hdX9_in ⟨Nat.le_of_ble_eq_true rfl, Nat.le_of_ble_eq_true rfl⟩ ⟨Nat.zero_le _, Nat.zero_le _⟩ hl.1 rfl (Nat.le_of_ble_eq_true rfl) dX9_odds_12 (fun H locs h => ?_)
  refine lv_if_ne (tgt := 22) hx hb dX9_odds_15 (by decide) (fun c4 => ?_) (fun c4 => ?_)
  · replace hf := it_f c4 hf
    refine lv_iconst (v := (0 : Int32)) hx hb dX9_odds_22 (by decide) ?_
    refine lv_istore_n (lv' := [(3, .int (0 : Int32)), (0, .ref (Ea E 29 0)), (1, .int p0), (2, .int p1)]) hx hb dX9_odds_23 rfl hl (by decide) rfl (fun ls hl => ?_)
    refine lv_iconst (v := (0 : Int32)) hx hb dX9_odds_24 (by decide) ?_
    refine lv_istore (lv' := [(4, .int (0 : Int32)), (3, .int (0 : Int32)), (0, .ref (Ea E 29 0)), (1, .int p0), (2, .int p1)]) hx hb dX9_odds_25 hl (by decide) rfl (fun ls hl => ?_)
    exact w_X9_odds_27L    C  _ _ _ _ _ _ h ls (lv_sub hl [2, 3, 4, 1, 0] rfl) hf
  replace hf := it_t c4 hf
  refine lv_ldc2 hx hb hown (hts _ wdX9_odds_Cond_constantLong_RX9_438___9223372036854775808_) dX9_odds_18 ?_
  replace hf := Option.some.inj hf
  subst hf
  exact r_lre C h dX9_odds_21
theorem c_X9_odds {l : Launch} {E : Ev} {σ : Ms} {ℓ : Mz} {τ : Mm} {p0 : Int32} {p1 : Int32} {out : Int64 × Mm} (hf : f_X9_odds τ p0 p1 = some out) : Ct l yX9_odds wsX9_odds rm_X9_odds [.ref (Ea E 29 0), .int p0, .int p1] E (va_up σ 29 τ) ℓ (some (.long out.1)) (va_up σ 29 out.2) ℓ := by
  refine Ct_mk (cc := cX9_odds) (mL := 5) (ret := (some .long)) (own := RX9) (by decide +kernel) rfl rfl (Nat.le_of_ble_eq_true rfl) (fun p e s m below meth c C h ls hl => ?_)
  exact w_X9_odds_0  C τ _ _ h ls (lv_sub hl [0, 1, 2] rfl) hf
theorem k_X9_odds {l : Launch} {E : Ev} {σ : Ms} {ℓ : Mz} {τ : Mm} {p0 : Int32} {p1 : Int32} (hτ : σ 29 = τ) {out : Int64 × Mm} (hf : f_X9_odds τ p0 p1 = some out) : Ct l yX9_odds wsX9_odds rm_X9_odds [.ref (Ea E 29 0), .int p0, .int p1] E σ ℓ (some (.long out.1)) (va_up σ 29 out.2) ℓ := by
  subst hτ
  have h := c_X9_odds (l := l) (E := E) (σ := σ) (ℓ := ℓ)  hf
  rw [up_id σ 29] at h
  exact h
theorem hdX9_mean : yX9_mean.cls = RX9 ∧ yX9_mean.cls ≠ "java/lang/invoke/MethodHandle" ∧ yX9_mean.cls ≠ "java/lang/invoke/VarHandle" ∧ (parseMethodDescriptor yX9_mean.desc).map (fun d => d.parameters.length) = some 2 := by decide +kernel
def rm_X9_mean : Room := { frames := 9, cells := 0, slots := 0, locals := 211 }
set_option maxRecDepth 100000 in
theorem wdX9_mean_Cond_constantLong_RX9_438___9223372036854775808_ : Cond.constantLong RX9 438 (-9223372036854775808) ∈ wsX9_mean := by decide +kernel
set_option maxRecDepth 100000 in
theorem inX9_mean_9 : ∀ w ∈ wsX90, w ∈ wsX9_mean := fun _ h => List.mem_cons_of_mem _ (List.mem_append_right _ h)
set_option maxRecDepth 100000 in
theorem lkX9_mean_7 : Cond.fieldLink RX9 7 "BellsBelowModel" "masters" "I" ∈ wsX9_mean := by decide +kernel
set_option maxRecDepth 100000 in
theorem lkX9_mean_41 : Cond.fieldLink RX9 41 "BellsBelowModel" "came" "[I" ∈ wsX9_mean := by decide +kernel
set_option maxHeartbeats 4000000 in
set_option maxRecDepth 100000 in
theorem w_X9_mean_43 {p : Program} {l : Launch} {e : Env} {s : State} {m : MethodId} {args : Array Value} {below : List Frame} {meth : Method} {c : Code} {E : Ev} {σ : Ms} {ℓ : Mz} {p0 : Int32} {p1 : Int32} {out : Int64 × Mm}   (C : Cx cX9_mean 5 (some .long) wsX9_mean RX9 E p s m args meth c) {k43 : Mm → Int32 → Int32 → Option (Int64 × Mm)} (hk43 : ∀ (τ : Mm) (v3 : Int32) (v4 : Int32) (H : Heap) (locs : List Loc), HI E (va_up σ 29 τ) ℓ s H locs → ∀ ls : Array Slot, lv_has ls 5 [(0, .ref (Ea E 29 0)), (2, .int p1), (3, .int v3), (4, .int v4)] → k43 τ v3 v4 = some out → W p l e rm_X9_mean s m args below meth c H locs 0 0 (MQ below (Po E s.heap.size (some (.long out.1)) (va_up σ 29 out.2) ℓ) args s 0 0 (AA E s.heap.size)) (F0 m 43 ls [])) : ∀ (τ : Mm) (v3 : Int32) (v4 : Int32) (H : Heap) (locs : List Loc) (h : HI E (va_up σ 29 τ) ℓ s H locs) (ls : Array Slot) (hl : lv_has ls 5 [(0, .ref (Ea E 29 0)), (2, .int p1), (3, .int v3), (4, .int v4)]), f_X9_mean_43 p0 p1 k43 τ v3 v4 = some out → W p l e rm_X9_mean s m args below meth c H locs 0 0 (MQ below (Po E s.heap.size (some (.long out.1)) (va_up σ 29 out.2) ℓ) args s 0 0 (AA E s.heap.size)) (F0 m 43 ls []) := by
  intro τ v3 v4 H locs h ls hl hf
  unfold f_X9_mean_43 at hf
  have C0 := C
  obtain ⟨hx, hb, hr, hml, hown, hts, hlk, hK, hSF⟩ := C0
  refine lv_iload hx hb dX9_mean_43 (lv_at hl 3 rfl) ?_
  refine lv_aload_n hx hb dX9_mean_45 rfl (lv_at hl 0 rfl) ?_
  refine gf_9_0 C h (rfl : Kd 29 = 9) up_eq inX9_mean_9 lkX9_mean_7 dX9_mean_46 ?_
  refine lv_icmp_ge (tgt := 68) hx hb dX9_mean_49 (by decide) (fun c8 => ?_) (fun c8 => ?_)
  · replace hf := it_t c8 hf
    refine lv_aload_n hx hb dX9_mean_68 rfl (lv_at hl 0 rfl) ?_
    obtain ⟨u9, hu9, hf⟩ := bd_use hf
    refine r_cv_9 (rest := []) C h (c_X9_putBack  hu9) (rfl : Kd 29 = 9) gX9_mean_X9_putBack rfl ⟨rfl, rfl⟩ hdX9_putBack ⟨Nat.le_of_ble_eq_true rfl, Nat.le_of_ble_eq_true rfl⟩ ⟨Nat.zero_le _, Nat.zero_le _⟩ hl.1 rfl (Nat.le_of_ble_eq_true rfl) dX9_mean_69 (fun H locs h => ?_)
    refine lv_aload_n hx hb dX9_mean_72 rfl (lv_at hl 0 rfl) ?_
    refine lv_iload_n hx hb dX9_mean_73 rfl (lv_at hl 2 rfl) ?_
    refine lv_aload_n hx hb dX9_mean_74 rfl (lv_at hl 0 rfl) ?_
    refine gf_9_0 C h (rfl : Kd 29 = 9) up_eq inX9_mean_9 lkX9_mean_7 dX9_mean_75 ?_
    refine lv_iload_n hx hb dX9_mean_78 rfl (lv_at hl 1 rfl) ?_
    obtain ⟨u10, hu10, hf⟩ := bd_use hf
    refine r_cv_9 (rest := []) C h (c_X9_lowest  hu10) (rfl : Kd 29 = 9) gX9_mean_X9_lowest rfl ⟨rfl, rfl⟩ hdX9_lowest ⟨Nat.le_of_ble_eq_true rfl, Nat.le_of_ble_eq_true rfl⟩ ⟨Nat.zero_le _, Nat.zero_le _⟩ hl.1 rfl (Nat.le_of_ble_eq_true rfl) dX9_mean_79 (fun H locs h => ?_)
    replace hf := Option.some.inj hf
    subst hf
    exact r_lre C h dX9_mean_82
  replace hf := it_f c8 hf
  refine lv_iload_n hx hb dX9_mean_52 rfl (lv_at hl 2 rfl) ?_
  refine lv_aload_n hx hb dX9_mean_53 rfl (lv_at hl 0 rfl) ?_
  refine gf_9_10 C h (rfl : Kd 29 = 9) up_eq inX9_mean_9 lkX9_mean_41 dX9_mean_54 ?_
  refine lv_iload hx hb dX9_mean_57 (lv_at hl 3 rfl) ?_
  obtain ⟨g11, hf⟩ := gd_use hf
  refine ld_9_6 C h (rfl : Kd 29 = 9) up_eq (inB_in g11) dX9_mean_59 ?_
  refine lv_iadd hx hb dX9_mean_60 ?_
  refine lv_topi (fun x12 ex12 => ?_)
  replace hf := lt_use ex12 hf
  clear ex12
  refine lv_istore_n (lv' := [(3, .int x12), (0, .ref (Ea E 29 0)), (2, .int p1), (4, .int v4)]) hx hb dX9_mean_61 rfl hl (by decide) rfl (fun ls hl => ?_)
  obtain ⟨x13, ex13⟩ : ∃ y : Int32, y = (v4 + (1 : Int32)) := ⟨_, rfl⟩
  refine lv_iinc (v := x13) (lv' := [(4, .int x13), (3, .int x12), (0, .ref (Ea E 29 0)), (2, .int p1)]) hx hb dX9_mean_62 hl (k := 3) rfl (by rw [ex13]; rfl) (by decide) rfl (fun ls hl => ?_)
  replace hf := lt_use ex13 hf
  clear ex13
  refine lv_goto (tgt := 43) hx hb dX9_mean_65 (by decide) ?_
  exact hk43 _ _ _ _ _ h ls (lv_sub hl [2, 3, 1, 0] rfl) hf
set_option maxHeartbeats 4000000 in
set_option maxRecDepth 100000 in
theorem w_X9_mean_43L {p : Program} {l : Launch} {e : Env} {s : State} {m : MethodId} {args : Array Value} {below : List Frame} {meth : Method} {c : Code} {E : Ev} {σ : Ms} {ℓ : Mz} {p0 : Int32} {p1 : Int32} {out : Int64 × Mm}   (C : Cx cX9_mean 5 (some .long) wsX9_mean RX9 E p s m args meth c)  : ∀ (n9 : Nat) (τ : Mm) (v3 : Int32) (v4 : Int32) (H : Heap) (locs : List Loc) (h : HI E (va_up σ 29 τ) ℓ s H locs) (ls : Array Slot) (hl : lv_has ls 5 [(0, .ref (Ea E 29 0)), (2, .int p1), (3, .int v3), (4, .int v4)]), f_X9_mean_43L p0 p1  n9 τ v3 v4 = some out → W p l e rm_X9_mean s m args below meth c H locs 0 0 (MQ below (Po E s.heap.size (some (.long out.1)) (va_up σ 29 out.2) ℓ) args s 0 0 (AA E s.heap.size)) (F0 m 43 ls []) := by
  intro n9
  induction n9 with
  | zero =>
    intro τ v3 v4 H locs h ls hl hf
    cases (show (none : Option (Int64 × Mm)) = some out from hf)
  | succ n9 ih =>
    intro τ v3 v4 H locs h ls hl hf
    exact w_X9_mean_43   C  ih τ v3 v4 H locs h ls hl hf
set_option maxHeartbeats 4000000 in
set_option maxRecDepth 100000 in
theorem w_X9_mean_0 {p : Program} {l : Launch} {e : Env} {s : State} {m : MethodId} {args : Array Value} {below : List Frame} {meth : Method} {c : Code} {E : Ev} {σ : Ms} {ℓ : Mz} {p0 : Int32} {p1 : Int32} {out : Int64 × Mm}   (C : Cx cX9_mean 5 (some .long) wsX9_mean RX9 E p s m args meth c)  : ∀ (τ : Mm) (H : Heap) (locs : List Loc) (h : HI E (va_up σ 29 τ) ℓ s H locs) (ls : Array Slot) (hl : lv_has ls 5 [(0, .ref (Ea E 29 0)), (1, .int p0), (2, .int p1)]), f_X9_mean_0 p0 p1  τ = some out → W p l e rm_X9_mean s m args below meth c H locs 0 0 (MQ below (Po E s.heap.size (some (.long out.1)) (va_up σ 29 out.2) ℓ) args s 0 0 (AA E s.heap.size)) (F0 m 0 ls []) := by
  intro τ H locs h ls hl hf
  unfold f_X9_mean_0 at hf
  have C0 := C
  obtain ⟨hx, hb, hr, hml, hown, hts, hlk, hK, hSF⟩ := C0
  refine lv_aload_n hx hb dX9_mean_0 rfl (lv_at hl 0 rfl) ?_
  refine lv_iload_n hx hb dX9_mean_1 rfl (lv_at hl 1 rfl) ?_
  obtain ⟨u1, hu1, hf⟩ := bd_use hf
  refine r_cv_9 (rest := []) C h (c_X9_isMinutes  hu1) (rfl : Kd 29 = 9) gX9_mean_X9_isMinutes rfl ⟨rfl, rfl⟩ hdX9_isMinutes ⟨Nat.le_of_ble_eq_true rfl, Nat.le_of_ble_eq_true rfl⟩ ⟨Nat.zero_le _, Nat.zero_le _⟩ hl.1 rfl (Nat.le_of_ble_eq_true rfl) dX9_mean_2 (fun H locs h => ?_)
  refine lv_if_eq (tgt := 25) hx hb dX9_mean_5 (by decide) (fun c2 => ?_) (fun c2 => ?_)
  · replace hf := it_t c2 hf
    refine lv_ldc2 hx hb hown (hts _ wdX9_mean_Cond_constantLong_RX9_438___9223372036854775808_) dX9_mean_25 ?_
    replace hf := Option.some.inj hf
    subst hf
    exact r_lre C h dX9_mean_28
  replace hf := it_f c2 hf
  refine lv_aload_n hx hb dX9_mean_8 rfl (lv_at hl 0 rfl) ?_
  refine lv_iload_n hx hb dX9_mean_9 rfl (lv_at hl 2 rfl) ?_
  refine lv_iconst (v := (0 : Int32)) hx hb dX9_mean_10 (by decide) ?_
  refine lv_iconst (v := (1 : Int32)) hx hb dX9_mean_11 (by decide) ?_
  obtain ⟨u3, hu3, hf⟩ := bd_use hf
  refine r_cv_9 (rest := []) C h (c_X9_in  hu3) (rfl : Kd 29 = 9) gX9_mean_X9_in rfl ⟨rfl, rfl⟩ hdX9_in ⟨Nat.le_of_ble_eq_true rfl, Nat.le_of_ble_eq_true rfl⟩ ⟨Nat.zero_le _, Nat.zero_le _⟩ hl.1 rfl (Nat.le_of_ble_eq_true rfl) dX9_mean_12 (fun H locs h => ?_)
  refine lv_if_eq (tgt := 25) hx hb dX9_mean_15 (by decide) (fun c4 => ?_) (fun c4 => ?_)
  · replace hf := it_t c4 hf
    refine lv_ldc2 hx hb hown (hts _ wdX9_mean_Cond_constantLong_RX9_438___9223372036854775808_) dX9_mean_25 ?_
    replace hf := Option.some.inj hf
    subst hf
    exact r_lre C h dX9_mean_28
  replace hf := it_f c4 hf
  refine lv_aload_n hx hb dX9_mean_18 rfl (lv_at hl 0 rfl) ?_
  refine gf_9_0 C h (rfl : Kd 29 = 9) up_eq inX9_mean_9 lkX9_mean_7 dX9_mean_19 ?_
  refine lv_if_ne (tgt := 29) hx hb dX9_mean_22 (by decide) (fun c5 => ?_) (fun c5 => ?_)
  · replace hf := it_f c5 hf
    refine lv_aload_n hx hb dX9_mean_29 rfl (lv_at hl 0 rfl) ?_
    obtain ⟨u6, hu6, hf⟩ := bd_use hf
    refine r_cv_9 (rest := []) C h (c_X9_save  hu6) (rfl : Kd 29 = 9) gX9_mean_X9_save rfl ⟨rfl, rfl⟩ hdX9_save ⟨Nat.le_of_ble_eq_true rfl, Nat.le_of_ble_eq_true rfl⟩ ⟨Nat.zero_le _, Nat.zero_le _⟩ hl.1 rfl (Nat.le_of_ble_eq_true rfl) dX9_mean_30 (fun H locs h => ?_)
    refine lv_aload_n hx hb dX9_mean_33 rfl (lv_at hl 0 rfl) ?_
    refine lv_iload_n hx hb dX9_mean_34 rfl (lv_at hl 1 rfl) ?_
    obtain ⟨u7, hu7, hf⟩ := bd_use hf
    refine r_cv_9 (rest := []) C h (c_X9_goMinutes  hu7) (rfl : Kd 29 = 9) gX9_mean_X9_goMinutes rfl ⟨rfl, rfl⟩ hdX9_goMinutes ⟨Nat.le_of_ble_eq_true rfl, Nat.le_of_ble_eq_true rfl⟩ ⟨Nat.zero_le _, Nat.zero_le _⟩ hl.1 rfl (Nat.le_of_ble_eq_true rfl) dX9_mean_35 (fun H locs h => ?_)
    refine lv_iconst (v := (0 : Int32)) hx hb dX9_mean_38 (by decide) ?_
    refine lv_istore_n (lv' := [(3, .int (0 : Int32)), (0, .ref (Ea E 29 0)), (1, .int p0), (2, .int p1)]) hx hb dX9_mean_39 rfl hl (by decide) rfl (fun ls hl => ?_)
    refine lv_iconst (v := (0 : Int32)) hx hb dX9_mean_40 (by decide) ?_
    refine lv_istore (lv' := [(4, .int (0 : Int32)), (3, .int (0 : Int32)), (0, .ref (Ea E 29 0)), (1, .int p0), (2, .int p1)]) hx hb dX9_mean_41 hl (by decide) rfl (fun ls hl => ?_)
    exact w_X9_mean_43L    C  _ _ _ _ _ _ h ls (lv_sub hl [2, 4, 1, 0] rfl) hf
  replace hf := it_t c5 hf
  refine lv_ldc2 hx hb hown (hts _ wdX9_mean_Cond_constantLong_RX9_438___9223372036854775808_) dX9_mean_25 ?_
  replace hf := Option.some.inj hf
  subst hf
  exact r_lre C h dX9_mean_28
theorem c_X9_mean {l : Launch} {E : Ev} {σ : Ms} {ℓ : Mz} {τ : Mm} {p0 : Int32} {p1 : Int32} {out : Int64 × Mm} (hf : f_X9_mean τ p0 p1 = some out) : Ct l yX9_mean wsX9_mean rm_X9_mean [.ref (Ea E 29 0), .int p0, .int p1] E (va_up σ 29 τ) ℓ (some (.long out.1)) (va_up σ 29 out.2) ℓ := by
  refine Ct_mk (cc := cX9_mean) (mL := 5) (ret := (some .long)) (own := RX9) (by decide +kernel) rfl rfl (Nat.le_of_ble_eq_true rfl) (fun p e s m below meth c C h ls hl => ?_)
  exact w_X9_mean_0  C τ _ _ h ls (lv_sub hl [0, 1, 2] rfl) hf
theorem k_X9_mean {l : Launch} {E : Ev} {σ : Ms} {ℓ : Mz} {τ : Mm} {p0 : Int32} {p1 : Int32} (hτ : σ 29 = τ) {out : Int64 × Mm} (hf : f_X9_mean τ p0 p1 = some out) : Ct l yX9_mean wsX9_mean rm_X9_mean [.ref (Ea E 29 0), .int p0, .int p1] E σ ℓ (some (.long out.1)) (va_up σ 29 out.2) ℓ := by
  subst hτ
  have h := c_X9_mean (l := l) (E := E) (σ := σ) (ℓ := ℓ)  hf
  rw [up_id σ 29] at h
  exact h
theorem hdX9_plan : yX9_plan.cls = RX9 ∧ yX9_plan.cls ≠ "java/lang/invoke/MethodHandle" ∧ yX9_plan.cls ≠ "java/lang/invoke/VarHandle" ∧ (parseMethodDescriptor yX9_plan.desc).map (fun d => d.parameters.length) = some 2 := by decide +kernel
def rm_X9_plan : Room := { frames := 2, cells := 0, slots := 0, locals := 44 }
set_option maxRecDepth 100000 in
theorem inX9_plan_9 : ∀ w ∈ wsX90, w ∈ wsX9_plan := fun _ h => List.mem_cons_of_mem _ (List.mem_append_right _ h)
set_option maxRecDepth 100000 in
theorem lkX9_plan_157 : Cond.fieldLink RX9 157 "BellsBelowModel" "plans" "I" ∈ wsX9_plan := by decide +kernel
set_option maxRecDepth 100000 in
theorem lkX9_plan_163 : Cond.fieldLink RX9 163 "BellsBelowModel" "planWhat" "[I" ∈ wsX9_plan := by decide +kernel
set_option maxRecDepth 100000 in
theorem lkX9_plan_166 : Cond.fieldLink RX9 166 "BellsBelowModel" "planNumber" "[I" ∈ wsX9_plan := by decide +kernel
set_option maxHeartbeats 4000000 in
set_option maxRecDepth 100000 in
theorem w_X9_plan_89 {p : Program} {l : Launch} {e : Env} {s : State} {m : MethodId} {args : Array Value} {below : List Frame} {meth : Method} {c : Code} {E : Ev} {σ : Ms} {ℓ : Mz} {p0 : Int32} {p1 : Int32} {out : Int32 × Mm}   (C : Cx cX9_plan 3 (some .int) wsX9_plan RX9 E p s m args meth c)  : ∀ (τ : Mm) (w1 : Int32) (w2 : Int32) (H : Heap) (locs : List Loc) (h : HI E (va_up σ 29 τ) ℓ s H locs) (ls : Array Slot) (hl : lv_has ls 3 [(0, .ref (Ea E 29 0))]), f_X9_plan_89 p0 p1  τ w1 w2 = some out → W p l e rm_X9_plan s m args below meth c H locs 0 0 (MQ below (Po E s.heap.size (some (.int out.1)) (va_up σ 29 out.2) ℓ) args s 0 0 (AA E s.heap.size)) (F0 m 89 ls [.int w2, .int w1, .ref (Ea E 29 30)]) := by
  intro τ w1 w2 H locs h ls hl hf
  unfold f_X9_plan_89 at hf
  have C0 := C
  obtain ⟨hx, hb, hr, hml, hown, hts, hlk, hK, hSF⟩ := C0
  obtain ⟨g10, hf⟩ := gd_use hf
  refine sa_9_30 C h (rfl : Kd 29 = 9) up_eq (F := fun t => va_up σ 29 t) (fun _ => up_up) (inB_in g10) dX9_plan_89 (fun τ11 eτ11 H locs h => ?_)
  replace hf := lt_use eτ11 hf
  clear eτ11
  refine lv_aload_n hx hb dX9_plan_90 rfl (lv_at hl 0 rfl) ?_
  refine lv_dup hx hb dX9_plan_91 rfl ?_
  refine gf_9_48 C h (rfl : Kd 29 = 9) up_eq inX9_plan_9 lkX9_plan_157 dX9_plan_92 ?_
  refine lv_iconst (v := (1 : Int32)) hx hb dX9_plan_95 (by decide) ?_
  refine lv_iadd hx hb dX9_plan_96 ?_
  refine pf_9_48 C h (rfl : Kd 29 = 9) up_eq (F := fun t => va_up σ 29 t) (fun _ => up_up) inX9_plan_9 lkX9_plan_157 dX9_plan_97 (fun τ12 eτ12 H locs h => ?_)
  replace hf := lt_use eτ12 hf
  clear eτ12
  refine lv_aload_n hx hb dX9_plan_100 rfl (lv_at hl 0 rfl) ?_
  refine gf_9_48 C h (rfl : Kd 29 = 9) up_eq inX9_plan_9 lkX9_plan_157 dX9_plan_101 ?_
  replace hf := Option.some.inj hf
  subst hf
  exact r_ire C h dX9_plan_104
set_option maxHeartbeats 4000000 in
set_option maxRecDepth 100000 in
theorem w_X9_plan_50 {p : Program} {l : Launch} {e : Env} {s : State} {m : MethodId} {args : Array Value} {below : List Frame} {meth : Method} {c : Code} {E : Ev} {σ : Ms} {ℓ : Mz} {p0 : Int32} {p1 : Int32} {out : Int32 × Mm}   (C : Cx cX9_plan 3 (some .int) wsX9_plan RX9 E p s m args meth c)  : ∀ (τ : Mm) (H : Heap) (locs : List Loc) (h : HI E (va_up σ 29 τ) ℓ s H locs) (ls : Array Slot) (hl : lv_has ls 3 [(0, .ref (Ea E 29 0)), (1, .int p0), (2, .int p1)]), f_X9_plan_50 p0 p1  τ = some out → W p l e rm_X9_plan s m args below meth c H locs 0 0 (MQ below (Po E s.heap.size (some (.int out.1)) (va_up σ 29 out.2) ℓ) args s 0 0 (AA E s.heap.size)) (F0 m 50 ls []) := by
  intro τ H locs h ls hl hf
  unfold f_X9_plan_50 at hf
  have C0 := C
  obtain ⟨hx, hb, hr, hml, hown, hts, hlk, hK, hSF⟩ := C0
  refine lv_aload_n hx hb dX9_plan_50 rfl (lv_at hl 0 rfl) ?_
  refine gf_9_48 C h (rfl : Kd 29 = 9) up_eq inX9_plan_9 lkX9_plan_157 dX9_plan_51 ?_
  refine lv_bipush (v := (10 : Int32)) hx hb dX9_plan_54 (by decide) ?_
  refine lv_icmp_ne (tgt := 62) hx hb dX9_plan_56 (by decide) (fun c6 => ?_) (fun c6 => ?_)
  · replace hf := it_f c6 hf
    refine lv_aload_n hx hb dX9_plan_62 rfl (lv_at hl 0 rfl) ?_
    refine gf_9_50 C h (rfl : Kd 29 = 9) up_eq inX9_plan_9 lkX9_plan_163 dX9_plan_63 ?_
    refine lv_aload_n hx hb dX9_plan_66 rfl (lv_at hl 0 rfl) ?_
    refine gf_9_48 C h (rfl : Kd 29 = 9) up_eq inX9_plan_9 lkX9_plan_157 dX9_plan_67 ?_
    refine lv_iload_n hx hb dX9_plan_70 rfl (lv_at hl 1 rfl) ?_
    obtain ⟨g7, hf⟩ := gd_use hf
    refine sa_9_29 C h (rfl : Kd 29 = 9) up_eq (F := fun t => va_up σ 29 t) (fun _ => up_up) (inB_in g7) dX9_plan_71 (fun τ8 eτ8 H locs h => ?_)
    replace hf := lt_use eτ8 hf
    clear eτ8
    refine lv_aload_n hx hb dX9_plan_72 rfl (lv_at hl 0 rfl) ?_
    refine gf_9_51 C h (rfl : Kd 29 = 9) up_eq inX9_plan_9 lkX9_plan_166 dX9_plan_73 ?_
    refine lv_aload_n hx hb dX9_plan_76 rfl (lv_at hl 0 rfl) ?_
    refine gf_9_48 C h (rfl : Kd 29 = 9) up_eq inX9_plan_9 lkX9_plan_157 dX9_plan_77 ?_
    refine lv_iload_n hx hb dX9_plan_80 rfl (lv_at hl 1 rfl) ?_
    refine lv_if_le (tgt := 88) hx hb dX9_plan_81 (by decide) (fun c9 => ?_) (fun c9 => ?_)
    · replace hf := it_t c9 hf
      refine lv_iconst (v := (0 : Int32)) hx hb dX9_plan_88 (by decide) ?_
      exact w_X9_plan_89    C  _ _ _ _ _ h ls (lv_sub hl [0] rfl) hf
    replace hf := it_f c9 hf
    refine lv_iload_n hx hb dX9_plan_84 rfl (lv_at hl 2 rfl) ?_
    refine lv_goto (tgt := 89) hx hb dX9_plan_85 (by decide) ?_
    exact w_X9_plan_89    C  _ _ _ _ _ h ls (lv_sub hl [0] rfl) hf
  replace hf := it_t c6 hf
  refine lv_bipush (v := (-4 : Int32)) hx hb dX9_plan_59 (by decide) ?_
  replace hf := Option.some.inj hf
  subst hf
  exact r_ire C h dX9_plan_61
set_option maxHeartbeats 4000000 in
set_option maxRecDepth 100000 in
theorem w_X9_plan_35 {p : Program} {l : Launch} {e : Env} {s : State} {m : MethodId} {args : Array Value} {below : List Frame} {meth : Method} {c : Code} {E : Ev} {σ : Ms} {ℓ : Mz} {p0 : Int32} {p1 : Int32} {out : Int32 × Mm}   (C : Cx cX9_plan 3 (some .int) wsX9_plan RX9 E p s m args meth c)  : ∀ (τ : Mm) (H : Heap) (locs : List Loc) (h : HI E (va_up σ 29 τ) ℓ s H locs) (ls : Array Slot) (hl : lv_has ls 3 [(0, .ref (Ea E 29 0)), (1, .int p0), (2, .int p1)]), f_X9_plan_35 p0 p1  τ = some out → W p l e rm_X9_plan s m args below meth c H locs 0 0 (MQ below (Po E s.heap.size (some (.int out.1)) (va_up σ 29 out.2) ℓ) args s 0 0 (AA E s.heap.size)) (F0 m 35 ls []) := by
  intro τ H locs h ls hl hf
  unfold f_X9_plan_35 at hf
  have C0 := C
  obtain ⟨hx, hb, hr, hml, hown, hts, hlk, hK, hSF⟩ := C0
  refine lv_iload_n hx hb dX9_plan_35 rfl (lv_at hl 1 rfl) ?_
  refine lv_iconst (v := (1 : Int32)) hx hb dX9_plan_36 (by decide) ?_
  refine lv_icmp_le (tgt := 50) hx hb dX9_plan_37 (by decide) (fun c5 => ?_) (fun c5 => ?_)
  · replace hf := it_t c5 hf
    exact w_X9_plan_50    C  _ _ _ h ls (lv_sub hl [0, 1, 2] rfl) hf
  replace hf := it_f c5 hf
  refine lv_aload_n hx hb dX9_plan_40 rfl (lv_at hl 0 rfl) ?_
  refine lv_iload_n hx hb dX9_plan_41 rfl (lv_at hl 2 rfl) ?_
  obtain ⟨u13, hu13, hf⟩ := bd_use hf
  refine r_cv_9 (rest := []) C h (c_X9_isMaster up_eq hu13) (rfl : Kd 29 = 9) gX9_plan_X9_isMaster rfl ⟨rfl, rfl⟩ hdX9_isMaster ⟨Nat.le_of_ble_eq_true rfl, Nat.le_of_ble_eq_true rfl⟩ ⟨Nat.zero_le _, Nat.zero_le _⟩ hl.1 rfl (Nat.le_of_ble_eq_true rfl) dX9_plan_42 (fun H locs h => ?_)
  refine lv_if_ne (tgt := 50) hx hb dX9_plan_45 (by decide) (fun c14 => ?_) (fun c14 => ?_)
  · replace hf := it_f c14 hf
    exact w_X9_plan_50    C  _ _ _ h ls (lv_sub hl [0, 1, 2] rfl) hf
  replace hf := it_t c14 hf
  refine lv_iconst (v := (-1 : Int32)) hx hb dX9_plan_48 (by decide) ?_
  replace hf := Option.some.inj hf
  subst hf
  exact r_ire C h dX9_plan_49
set_option maxHeartbeats 4000000 in
set_option maxRecDepth 100000 in
theorem w_X9_plan_0 {p : Program} {l : Launch} {e : Env} {s : State} {m : MethodId} {args : Array Value} {below : List Frame} {meth : Method} {c : Code} {E : Ev} {σ : Ms} {ℓ : Mz} {p0 : Int32} {p1 : Int32} {out : Int32 × Mm}   (C : Cx cX9_plan 3 (some .int) wsX9_plan RX9 E p s m args meth c)  : ∀ (τ : Mm) (H : Heap) (locs : List Loc) (h : HI E (va_up σ 29 τ) ℓ s H locs) (ls : Array Slot) (hl : lv_has ls 3 [(0, .ref (Ea E 29 0)), (1, .int p0), (2, .int p1)]), f_X9_plan_0 p0 p1  τ = some out → W p l e rm_X9_plan s m args below meth c H locs 0 0 (MQ below (Po E s.heap.size (some (.int out.1)) (va_up σ 29 out.2) ℓ) args s 0 0 (AA E s.heap.size)) (F0 m 0 ls []) := by
  intro τ H locs h ls hl hf
  unfold f_X9_plan_0 at hf
  have C0 := C
  obtain ⟨hx, hb, hr, hml, hown, hts, hlk, hK, hSF⟩ := C0
  refine lv_iload_n hx hb dX9_plan_0 rfl (lv_at hl 1 rfl) ?_
  refine lv_iconst (v := (-1 : Int32)) hx hb dX9_plan_1 (by decide) ?_
  refine lv_icmp_ne (tgt := 12) hx hb dX9_plan_2 (by decide) (fun c1 => ?_) (fun c1 => ?_)
  · replace hf := it_f c1 hf
    refine lv_aload_n hx hb dX9_plan_12 rfl (lv_at hl 0 rfl) ?_
    refine lv_iload_n hx hb dX9_plan_13 rfl (lv_at hl 1 rfl) ?_
    refine lv_iconst (v := (0 : Int32)) hx hb dX9_plan_14 (by decide) ?_
    refine lv_iconst (v := (3 : Int32)) hx hb dX9_plan_15 (by decide) ?_
    obtain ⟨u2, hu2, hf⟩ := bd_use hf
    refine r_cv_9 (rest := []) C h (c_X9_in  hu2) (rfl : Kd 29 = 9) gX9_plan_X9_in rfl ⟨rfl, rfl⟩ hdX9_in ⟨Nat.le_of_ble_eq_true rfl, Nat.le_of_ble_eq_true rfl⟩ ⟨Nat.zero_le _, Nat.zero_le _⟩ hl.1 rfl (Nat.le_of_ble_eq_true rfl) dX9_plan_16 (fun H locs h => ?_)
    refine lv_if_eq (tgt := 48) hx hb dX9_plan_19 (by decide) (fun c3 => ?_) (fun c3 => ?_)
    · replace hf := it_t c3 hf
      refine lv_iconst (v := (-1 : Int32)) hx hb dX9_plan_48 (by decide) ?_
      replace hf := Option.some.inj hf
      subst hf
      exact r_ire C h dX9_plan_49
    replace hf := it_f c3 hf
    refine lv_iload_n hx hb dX9_plan_22 rfl (lv_at hl 1 rfl) ?_
    refine lv_iconst (v := (1 : Int32)) hx hb dX9_plan_23 (by decide) ?_
    refine lv_icmp_ne (tgt := 35) hx hb dX9_plan_24 (by decide) (fun c4 => ?_) (fun c4 => ?_)
    · replace hf := it_f c4 hf
      exact w_X9_plan_35    C  _ _ _ h ls (lv_sub hl [0, 1, 2] rfl) hf
    replace hf := it_t c4 hf
    refine lv_aload_n hx hb dX9_plan_27 rfl (lv_at hl 0 rfl) ?_
    refine lv_iload_n hx hb dX9_plan_28 rfl (lv_at hl 2 rfl) ?_
    obtain ⟨u15, hu15, hf⟩ := bd_use hf
    refine r_cv_9 (rest := []) C h (c_X9_isFloor  hu15) (rfl : Kd 29 = 9) gX9_plan_X9_isFloor rfl ⟨rfl, rfl⟩ hdX9_isFloor ⟨Nat.le_of_ble_eq_true rfl, Nat.le_of_ble_eq_true rfl⟩ ⟨Nat.zero_le _, Nat.zero_le _⟩ hl.1 rfl (Nat.le_of_ble_eq_true rfl) dX9_plan_29 (fun H locs h => ?_)
    refine lv_if_eq (tgt := 48) hx hb dX9_plan_32 (by decide) (fun c16 => ?_) (fun c16 => ?_)
    · replace hf := it_t c16 hf
      refine lv_iconst (v := (-1 : Int32)) hx hb dX9_plan_48 (by decide) ?_
      replace hf := Option.some.inj hf
      subst hf
      exact r_ire C h dX9_plan_49
    replace hf := it_f c16 hf
    exact w_X9_plan_35    C  _ _ _ h ls (lv_sub hl [0, 1, 2] rfl) hf
  replace hf := it_t c1 hf
  refine lv_aload_n hx hb dX9_plan_5 rfl (lv_at hl 0 rfl) ?_
  refine lv_iconst (v := (0 : Int32)) hx hb dX9_plan_6 (by decide) ?_
  refine pf_9_48 C h (rfl : Kd 29 = 9) up_eq (F := fun t => va_up σ 29 t) (fun _ => up_up) inX9_plan_9 lkX9_plan_157 dX9_plan_7 (fun τ17 eτ17 H locs h => ?_)
  replace hf := lt_use eτ17 hf
  clear eτ17
  refine lv_iconst (v := (0 : Int32)) hx hb dX9_plan_10 (by decide) ?_
  replace hf := Option.some.inj hf
  subst hf
  exact r_ire C h dX9_plan_11
theorem c_X9_plan {l : Launch} {E : Ev} {σ : Ms} {ℓ : Mz} {τ : Mm} {p0 : Int32} {p1 : Int32} {out : Int32 × Mm} (hf : f_X9_plan τ p0 p1 = some out) : Ct l yX9_plan wsX9_plan rm_X9_plan [.ref (Ea E 29 0), .int p0, .int p1] E (va_up σ 29 τ) ℓ (some (.int out.1)) (va_up σ 29 out.2) ℓ := by
  refine Ct_mk (cc := cX9_plan) (mL := 3) (ret := (some .int)) (own := RX9) (by decide +kernel) rfl rfl (Nat.le_of_ble_eq_true rfl) (fun p e s m below meth c C h ls hl => ?_)
  exact w_X9_plan_0  C τ _ _ h ls (lv_sub hl [0, 1, 2] rfl) hf
theorem k_X9_plan {l : Launch} {E : Ev} {σ : Ms} {ℓ : Mz} {τ : Mm} {p0 : Int32} {p1 : Int32} (hτ : σ 29 = τ) {out : Int32 × Mm} (hf : f_X9_plan τ p0 p1 = some out) : Ct l yX9_plan wsX9_plan rm_X9_plan [.ref (Ea E 29 0), .int p0, .int p1] E σ ℓ (some (.int out.1)) (va_up σ 29 out.2) ℓ := by
  subst hτ
  have h := c_X9_plan (l := l) (E := E) (σ := σ) (ℓ := ℓ)  hf
  rw [up_id σ 29] at h
  exact h
