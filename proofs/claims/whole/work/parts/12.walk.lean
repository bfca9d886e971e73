/-! WALKS: made by wip/whole/gen -/
theorem hdX7_allHold : yX7_allHold.cls = RX7 ∧ yX7_allHold.cls ≠ "java/lang/invoke/MethodHandle" ∧ yX7_allHold.cls ≠ "java/lang/invoke/VarHandle" ∧ (parseMethodDescriptor yX7_allHold.desc).map (fun d => d.parameters.length) = some 1 := by decide +kernel
theorem hdX7_anyHolds : yX7_anyHolds.cls = RX7 ∧ yX7_anyHolds.cls ≠ "java/lang/invoke/MethodHandle" ∧ yX7_anyHolds.cls ≠ "java/lang/invoke/VarHandle" ∧ (parseMethodDescriptor yX7_anyHolds.desc).map (fun d => d.parameters.length) = some 1 := by decide +kernel
theorem hdX7_oneHolds : yX7_oneHolds.cls = RX7 ∧ yX7_oneHolds.cls ≠ "java/lang/invoke/MethodHandle" ∧ yX7_oneHolds.cls ≠ "java/lang/invoke/VarHandle" ∧ (parseMethodDescriptor yX7_oneHolds.desc).map (fun d => d.parameters.length) = some 1 := by decide +kernel
theorem hdX7_adds : yX7_adds.cls = RX7 ∧ yX7_adds.cls ≠ "java/lang/invoke/MethodHandle" ∧ yX7_adds.cls ≠ "java/lang/invoke/VarHandle" ∧ (parseMethodDescriptor yX7_adds.desc).map (fun d => d.parameters.length) = some 1 := by decide +kernel
def rm_X7_adds : Room := { frames := 0, cells := 0, slots := 0, locals := 0 }
set_option maxRecDepth 100000 in
theorem inX7_adds_7 : ∀ w ∈ wsX70, w ∈ wsX7_adds := fun _ h => List.mem_cons_of_mem _ (List.mem_append_right _ h)
set_option maxRecDepth 100000 in
theorem lkX7_adds_15 : Cond.fieldLink RX7 15 "BellsBelow$Text" "length" "I" ∈ wsX7_adds := by decide +kernel
set_option maxRecDepth 100000 in
theorem lkX7_adds_9 : Cond.fieldLink RX7 9 "BellsBelow$Text" "signs" "[B" ∈ wsX7_adds := by decide +kernel
set_option maxHeartbeats 4000000 in
set_option maxRecDepth 100000 in
theorem w_X7_adds_33 {p : Program} {l : Launch} {e : Env} {s : State} {m : MethodId} {args : Array Value} {below : List Frame} {meth : Method} {c : Code} {E : Ev} {σ : Ms} {ℓ : Mz} {p0 : Int32} {out : Int32 × Mm}   (C : Cx cX7_adds 2 (some .int) wsX7_adds RX7 E p s m args meth c)  : ∀ (τ : Mm) (H : Heap) (locs : List Loc) (h : HI E (va_up σ 12 τ) ℓ s H locs) (ls : Array Slot) (hl : lv_has ls 2 [(0, .ref (Ea E 12 0))]), f_X7_adds_33 p0  τ = some out → W p l e rm_X7_adds s m args below meth c H locs 0 0 (MQ below (Po E s.heap.size (some (.int out.1)) (va_up σ 12 out.2) ℓ) args s 0 0 (AA E s.heap.size)) (F0 m 33 ls []) := by
  intro τ H locs h ls hl hf
  unfold f_X7_adds_33 at hf
  have C0 := C
  obtain ⟨hx, hb, hr, hml, hown, hts, hlk, hK, hSF⟩ := C0
  refine lv_aload_n hx hb dX7_adds_33 rfl (lv_at hl 0 rfl) ?_
  refine gf_7_1 C h (rfl : Kd 12 = 7) up_eq inX7_adds_7 lkX7_adds_15 dX7_adds_34 ?_
  replace hf := Option.some.inj hf
  subst hf
  exact r_ire C h dX7_adds_37
set_option maxHeartbeats 4000000 in
set_option maxRecDepth 100000 in
theorem w_X7_adds_0 {p : Program} {l : Launch} {e : Env} {s : State} {m : MethodId} {args : Array Value} {below : List Frame} {meth : Method} {c : Code} {E : Ev} {σ : Ms} {ℓ : Mz} {p0 : Int32} {out : Int32 × Mm}   (C : Cx cX7_adds 2 (some .int) wsX7_adds RX7 E p s m args meth c)  : ∀ (τ : Mm) (H : Heap) (locs : List Loc) (h : HI E (va_up σ 12 τ) ℓ s H locs) (ls : Array Slot) (hl : lv_has ls 2 [(0, .ref (Ea E 12 0)), (1, .int p0)]), f_X7_adds_0 p0  τ = some out → W p l e rm_X7_adds s m args below meth c H locs 0 0 (MQ below (Po E s.heap.size (some (.int out.1)) (va_up σ 12 out.2) ℓ) args s 0 0 (AA E s.heap.size)) (F0 m 0 ls []) := by
  intro τ H locs h ls hl hf
  unfold f_X7_adds_0 at hf
  have C0 := C
  obtain ⟨hx, hb, hr, hml, hown, hts, hlk, hK, hSF⟩ := C0
  refine lv_aload_n hx hb dX7_adds_0 rfl (lv_at hl 0 rfl) ?_
  refine gf_7_1 C h (rfl : Kd 12 = 7) up_eq inX7_adds_7 lkX7_adds_15 dX7_adds_1 ?_
  refine lv_aload_n hx hb dX7_adds_4 rfl (lv_at hl 0 rfl) ?_
  refine gf_7_0 C h (rfl : Kd 12 = 7) up_eq inX7_adds_7 lkX7_adds_9 dX7_adds_5 ?_
  refine al_7_1 C h (rfl : Kd 12 = 7) dX7_adds_8 ?_
  refine lv_icmp_ge (tgt := 33) hx hb dX7_adds_9 (by decide) (fun c1 => ?_) (fun c1 => ?_)
  · replace hf := it_t c1 hf
    exact w_X7_adds_33    C  _ _ _ h ls (lv_sub hl [0] rfl) hf
  replace hf := it_f c1 hf
  refine lv_aload_n hx hb dX7_adds_12 rfl (lv_at hl 0 rfl) ?_
  refine gf_7_0 C h (rfl : Kd 12 = 7) up_eq inX7_adds_7 lkX7_adds_9 dX7_adds_13 ?_
  refine lv_aload_n hx hb dX7_adds_16 rfl (lv_at hl 0 rfl) ?_
  refine gf_7_1 C h (rfl : Kd 12 = 7) up_eq inX7_adds_7 lkX7_adds_15 dX7_adds_17 ?_
  refine lv_iload_n hx hb dX7_adds_20 rfl (lv_at hl 1 rfl) ?_
  refine lv_i2b hx hb dX7_adds_21 rfl ?_
  obtain ⟨g2, hf⟩ := gd_use hf
  refine sa_7_1 C h (rfl : Kd 12 = 7) up_eq (F := fun t => va_up σ 12 t) (fun _ => up_up) (inB_in g2) dX7_adds_22 (fun τ3 eτ3 H locs h => ?_)
  replace hf := lt_use eτ3 hf
  clear eτ3
  refine lv_aload_n hx hb dX7_adds_23 rfl (lv_at hl 0 rfl) ?_
  refine lv_dup hx hb dX7_adds_24 rfl ?_
  refine gf_7_1 C h (rfl : Kd 12 = 7) up_eq inX7_adds_7 lkX7_adds_15 dX7_adds_25 ?_
  refine lv_iconst (v := (1 : Int32)) hx hb dX7_adds_28 (by decide) ?_
  refine lv_iadd hx hb dX7_adds_29 ?_
  refine pf_7_1 C h (rfl : Kd 12 = 7) up_eq (F := fun t => va_up σ 12 t) (fun _ => up_up) inX7_adds_7 lkX7_adds_15 dX7_adds_30 (fun τ4 eτ4 H locs h => ?_)
  replace hf := lt_use eτ4 hf
  clear eτ4
  exact w_X7_adds_33    C  _ _ _ h ls (lv_sub hl [0] rfl) hf
theorem c_X7_adds {l : Launch} {E : Ev} {σ : Ms} {ℓ : Mz} {τ : Mm} {p0 : Int32} {out : Int32 × Mm} (hf : f_X7_adds τ p0 = some out) : Ct l yX7_adds wsX7_adds rm_X7_adds [.ref (Ea E 12 0), .int p0] E (va_up σ 12 τ) ℓ (some (.int out.1)) (va_up σ 12 out.2) ℓ := by
  refine Ct_mk (cc := cX7_adds) (mL := 2) (ret := (some .int)) (own := RX7) (by decide +kernel) rfl rfl (Nat.le_of_ble_eq_true rfl) (fun p e s m below meth c C h ls hl => ?_)
  exact w_X7_adds_0  C τ _ _ h ls (lv_sub hl [0, 1] rfl) hf
theorem k_X7_adds {l : Launch} {E : Ev} {σ : Ms} {ℓ : Mz} {τ : Mm} {p0 : Int32} (hτ : σ 12 = τ) {out : Int32 × Mm} (hf : f_X7_adds τ p0 = some out) : Ct l yX7_adds wsX7_adds rm_X7_adds [.ref (Ea E 12 0), .int p0] E σ ℓ (some (.int out.1)) (va_up σ 12 out.2) ℓ := by
  subst hτ
  have h := c_X7_adds (l := l) (E := E) (σ := σ) (ℓ := ℓ)  hf
  rw [up_id σ 12] at h
  exact h
theorem hdX7_takes : yX7_takes.cls = RX7 ∧ yX7_takes.cls ≠ "java/lang/invoke/MethodHandle" ∧ yX7_takes.cls ≠ "java/lang/invoke/VarHandle" ∧ (parseMethodDescriptor yX7_takes.desc).map (fun d => d.parameters.length) = some 1 := by decide +kernel
def rm_X7_takes : Room := { frames := 0, cells := 0, slots := 0, locals := 0 }
set_option maxRecDepth 100000 in
theorem inX7_takes_7 : ∀ w ∈ wsX70, w ∈ wsX7_takes := fun _ h => List.mem_cons_of_mem _ (List.mem_append_right _ h)
set_option maxRecDepth 100000 in
theorem lkX7_takes_22 : Cond.fieldLink RX7 22 "BellsBelow$Text" "place" "I" ∈ wsX7_takes := by decide +kernel
set_option maxRecDepth 100000 in
theorem lkX7_takes_19 : Cond.fieldLink RX7 19 "BellsBelow$Text" "end" "I" ∈ wsX7_takes := by decide +kernel
set_option maxRecDepth 100000 in
theorem lkX7_takes_9 : Cond.fieldLink RX7 9 "BellsBelow$Text" "signs" "[B" ∈ wsX7_takes := by decide +kernel
set_option maxHeartbeats 4000000 in
set_option maxRecDepth 100000 in
theorem w_X7_takes_0 {p : Program} {l : Launch} {e : Env} {s : State} {m : MethodId} {args : Array Value} {below : List Frame} {meth : Method} {c : Code} {E : Ev} {σ : Ms} {ℓ : Mz} {p0 : Int32} {out : Int32 × Mm}   (C : Cx cX7_takes 2 (some .boolean) wsX7_takes RX7 E p s m args meth c)  : ∀ (τ : Mm) (H : Heap) (locs : List Loc) (h : HI E (va_up σ 12 τ) ℓ s H locs) (ls : Array Slot) (hl : lv_has ls 2 [(0, .ref (Ea E 12 0)), (1, .int p0)]), f_X7_takes_0 p0  τ = some out → W p l e rm_X7_takes s m args below meth c H locs 0 0 (MQ below (Po E s.heap.size (some (.int out.1)) (va_up σ 12 out.2) ℓ) args s 0 0 (AA E s.heap.size)) (F0 m 0 ls []) := by
  intro τ H locs h ls hl hf
  unfold f_X7_takes_0 at hf
  have C0 := C
  obtain ⟨hx, hb, hr, hml, hown, hts, hlk, hK, hSF⟩ := C0
  refine lv_aload_n hx hb dX7_takes_0 rfl (lv_at hl 0 rfl) ?_
  refine gf_7_2 C h (rfl : Kd 12 = 7) up_eq inX7_takes_7 lkX7_takes_22 dX7_takes_1 ?_
  refine lv_aload_n hx hb dX7_takes_4 rfl (lv_at hl 0 rfl) ?_
  refine gf_7_3 C h (rfl : Kd 12 = 7) up_eq inX7_takes_7 lkX7_takes_19 dX7_takes_5 ?_
  refine lv_icmp_ge (tgt := 24) hx hb dX7_takes_8 (by decide) (fun c1 => ?_) (fun c1 => ?_)
  · replace hf := it_t c1 hf
    refine lv_iconst (v := (0 : Int32)) hx hb dX7_takes_24 (by decide) ?_
    replace hf := Option.some.inj hf
    subst hf
    exact r_zre (v := (0 : Int32)) C h rfl dX7_takes_25
  replace hf := it_f c1 hf
  refine lv_aload_n hx hb dX7_takes_11 rfl (lv_at hl 0 rfl) ?_
  refine gf_7_0 C h (rfl : Kd 12 = 7) up_eq inX7_takes_7 lkX7_takes_9 dX7_takes_12 ?_
  refine lv_aload_n hx hb dX7_takes_15 rfl (lv_at hl 0 rfl) ?_
  refine gf_7_2 C h (rfl : Kd 12 = 7) up_eq inX7_takes_7 lkX7_takes_22 dX7_takes_16 ?_
  obtain ⟨g2, hf⟩ := gd_use hf
  refine ld_7_1 C h (rfl : Kd 12 = 7) up_eq (inB_in g2) dX7_takes_19 ?_
  refine lv_iload_n hx hb dX7_takes_20 rfl (lv_at hl 1 rfl) ?_
  refine lv_icmp_eq (tgt := 26) hx hb dX7_takes_21 (by decide) (fun c3 => ?_) (fun c3 => ?_)
  · replace hf := it_t c3 hf
    refine lv_aload_n hx hb dX7_takes_26 rfl (lv_at hl 0 rfl) ?_
    refine lv_dup hx hb dX7_takes_27 rfl ?_
    refine gf_7_2 C h (rfl : Kd 12 = 7) up_eq inX7_takes_7 lkX7_takes_22 dX7_takes_28 ?_
    refine lv_iconst (v := (1 : Int32)) hx hb dX7_takes_31 (by decide) ?_
    refine lv_iadd hx hb dX7_takes_32 ?_
    refine pf_7_2 C h (rfl : Kd 12 = 7) up_eq (F := fun t => va_up σ 12 t) (fun _ => up_up) inX7_takes_7 lkX7_takes_22 dX7_takes_33 (fun τ4 eτ4 H locs h => ?_)
    replace hf := lt_use eτ4 hf
    clear eτ4
    refine lv_iconst (v := (1 : Int32)) hx hb dX7_takes_36 (by decide) ?_
    replace hf := Option.some.inj hf
    subst hf
    exact r_zre (v := (1 : Int32)) C h rfl dX7_takes_37
  replace hf := it_f c3 hf
  refine lv_iconst (v := (0 : Int32)) hx hb dX7_takes_24 (by decide) ?_
  replace hf := Option.some.inj hf
  subst hf
  exact r_zre (v := (0 : Int32)) C h rfl dX7_takes_25
theorem c_X7_takes {l : Launch} {E : Ev} {σ : Ms} {ℓ : Mz} {τ : Mm} {p0 : Int32} {out : Int32 × Mm} (hf : f_X7_takes τ p0 = some out) : Ct l yX7_takes wsX7_takes rm_X7_takes [.ref (Ea E 12 0), .int p0] E (va_up σ 12 τ) ℓ (some (.int out.1)) (va_up σ 12 out.2) ℓ := by
  refine Ct_mk (cc := cX7_takes) (mL := 2) (ret := (some .boolean)) (own := RX7) (by decide +kernel) rfl rfl (Nat.le_of_ble_eq_true rfl) (fun p e s m below meth c C h ls hl => ?_)
  exact w_X7_takes_0  C τ _ _ h ls (lv_sub hl [0, 1] rfl) hf
theorem k_X7_takes {l : Launch} {E : Ev} {σ : Ms} {ℓ : Mz} {τ : Mm} {p0 : Int32} (hτ : σ 12 = τ) {out : Int32 × Mm} (hf : f_X7_takes τ p0 = some out) : Ct l yX7_takes wsX7_takes rm_X7_takes [.ref (Ea E 12 0), .int p0] E σ ℓ (some (.int out.1)) (va_up σ 12 out.2) ℓ := by
  subst hτ
  have h := c_X7_takes (l := l) (E := E) (σ := σ) (ℓ := ℓ)  hf
  rw [up_id σ 12] at h
  exact h
set_option maxRecDepth 100000 in
theorem inX7_allHold_7 : ∀ w ∈ wsX70, w ∈ wsX7_allHold := fun _ h => List.mem_cons_of_mem _ (List.mem_append_left _ (List.mem_append_right _ h))
set_option maxRecDepth 100000 in
theorem lkX7_allHold_25 : Cond.fieldLink RX7 25 "BellsBelow$Text" "house" "LBellsBelow$House;" ∈ wsX7_allHold := by decide +kernel
set_option maxHeartbeats 4000000 in
set_option maxRecDepth 100000 in
theorem w_X7_allHold_12 {p : Program} {l : Launch} {e : Env} {s : State} {m : MethodId} {args : Array Value} {below : List Frame} {meth : Method} {c : Code} {E : Ev} {ℓ : Mz} {n : Nat} {rec : Nat → Mm → Ms → Int32 → Option (Int32 × Mm × Ms)} {p0 : Int32} {out : Int32 × Mm × Ms} (hrec : ∀ (τ : Mm) (hs : Ms) (d : Int32) (out : Int32 × Mm × Ms), (rec 0 τ hs d = some out → Ct l yX7_anyHolds wsX7_anyHolds (rm_X7_rec n) [.ref (Ea E 12 0), .int d] E (va_up hs 12 τ) ℓ (some (.int out.1)) (va_up out.2.2 12 out.2.1) ℓ) ∧ (rec 1 τ hs d = some out → Ct l yX7_allHold wsX7_allHold (rm_X7_rec n) [.ref (Ea E 12 0), .int d] E (va_up hs 12 τ) ℓ (some (.int out.1)) (va_up out.2.2 12 out.2.1) ℓ) ∧ (rec 2 τ hs d = some out → Ct l yX7_oneHolds wsX7_oneHolds (rm_X7_rec n) [.ref (Ea E 12 0), .int d] E (va_up hs 12 τ) ℓ (some (.int out.1)) (va_up out.2.2 12 out.2.1) ℓ))   (C : Cx cX7_allHold 3 (some .boolean) wsX7_allHold RX7 E p s m args meth c) {k12 : Mm → Ms → Int32 → Option (Int32 × Mm × Ms)} (hk12 : ∀ (τ : Mm) (hs : Ms) (v2 : Int32) (H : Heap) (locs : List Loc), HI E (va_up hs 12 τ) ℓ s H locs → ∀ ls : Array Slot, lv_has ls 3 [(0, .ref (Ea E 12 0)), (1, .int p0), (2, .int v2)] → k12 τ hs v2 = some out → W p l e (rm_X7_rec (n + 1)) s m args below meth c H locs 0 0 (MQ below (Po E s.heap.size (some (.int out.1)) (va_up out.2.2 12 out.2.1) ℓ) args s 0 0 (AA E s.heap.size)) (F0 m 12 ls [])) : ∀ (τ : Mm) (hs : Ms) (v2 : Int32) (H : Heap) (locs : List Loc) (h : HI E (va_up hs 12 τ) ℓ s H locs) (ls : Array Slot) (hl : lv_has ls 3 [(0, .ref (Ea E 12 0)), (1, .int p0), (2, .int v2)]), f_X7_allHold_12 rec p0 k12 τ hs v2 = some out → W p l e (rm_X7_rec (n + 1)) s m args below meth c H locs 0 0 (MQ below (Po E s.heap.size (some (.int out.1)) (va_up out.2.2 12 out.2.1) ℓ) args s 0 0 (AA E s.heap.size)) (F0 m 12 ls []) := by
  intro τ hs v2 H locs h ls hl hf
  unfold f_X7_allHold_12 at hf
  have C0 := C
  obtain ⟨hx, hb, hr, hml, hown, hts, hlk, hK, hSF⟩ := C0
  refine lv_iload_n hx hb dX7_allHold_12 rfl (lv_at hl 2 rfl) ?_
  refine lv_bipush (v := (100 : Int32)) hx hb dX7_allHold_13 (by decide) ?_
  refine lv_icmp_ge (tgt := 53) hx hb dX7_allHold_15 (by decide) (fun c3 => ?_) (fun c3 => ?_)
  · replace hf := it_t c3 hf
    refine lv_iconst (v := (1 : Int32)) hx hb dX7_allHold_53 (by decide) ?_
    replace hf := Option.some.inj hf
    subst hf
    exact r_zre (v := (1 : Int32)) C h rfl dX7_allHold_54
  replace hf := it_f c3 hf
  refine lv_aload_n hx hb dX7_allHold_18 rfl (lv_at hl 0 rfl) ?_
  refine lv_bipush (v := (38 : Int32)) hx hb dX7_allHold_19 (by decide) ?_
  obtain ⟨u4, hu4, hf⟩ := bd_use hf
  refine r_cv_7 (rest := []) C h (c_X7_takes  hu4) (rfl : Kd 12 = 7) gX7_allHold_X7_takes rfl ⟨rfl, rfl⟩ hdX7_takes ⟨by simp only [rm_X7_rec, rm_X7_takes]; omega, by simp only [rm_X7_rec, rm_X7_takes]; omega⟩ ⟨Nat.zero_le _, Nat.zero_le _⟩ hl.1 rfl (Nat.le_of_ble_eq_true rfl) dX7_allHold_21 (fun H locs h => ?_)
  refine lv_if_eq (tgt := 53) hx hb dX7_allHold_24 (by decide) (fun c5 => ?_) (fun c5 => ?_)
  · replace hf := it_t c5 hf
    refine lv_iconst (v := (1 : Int32)) hx hb dX7_allHold_53 (by decide) ?_
    replace hf := Option.some.inj hf
    subst hf
    exact r_zre (v := (1 : Int32)) C h rfl dX7_allHold_54
  replace hf := it_f c5 hf
  refine lv_aload_n hx hb dX7_allHold_27 rfl (lv_at hl 0 rfl) ?_
  refine lv_iload_n hx hb dX7_allHold_28 rfl (lv_at hl 1 rfl) ?_
  obtain ⟨u6, hu6, hf⟩ := bd_use hf
  refine r_cv_7 (rest := []) C h ((hrec _ _ _ _).2.2 hu6) (rfl : Kd 12 = 7) gX7_allHold_X7_oneHolds rfl ⟨rfl, rfl⟩ hdX7_oneHolds ⟨by simp only [rm_X7_rec]; omega, by simp only [rm_X7_rec]; omega⟩ ⟨Nat.zero_le _, Nat.zero_le _⟩ hl.1 rfl (Nat.le_of_ble_eq_true rfl) dX7_allHold_29 (fun H locs h => ?_)
  refine lv_if_ne (tgt := 37) hx hb dX7_allHold_32 (by decide) (fun c7 => ?_) (fun c7 => ?_)
  · replace hf := it_f c7 hf
    refine lv_aload_n hx hb dX7_allHold_37 rfl (lv_at hl 0 rfl) ?_
    refine gf_7_4 C h (rfl : Kd 12 = 7) up_eq inX7_allHold_7 lkX7_allHold_25 dX7_allHold_38 ?_
    obtain ⟨g8, hf⟩ := gd_use hf
    refine r_top (hr_nn g8) ?_
    refine lv_sipush (v := (1801 : Int32)) hx hb dX7_allHold_41 (by decide) ?_
    obtain ⟨u9, hu9, hf⟩ := bd_use hf
    refine r_cv_2 (rest := []) C h (k_X2_adds (inH_k g8) (up_nk (inH_k g8) (rfl : Kd 12 = 7) (by decide)) hu9) (inH_k g8) gX7_allHold_X2_adds rfl ⟨rfl, rfl⟩ hdX2_adds ⟨by simp only [rm_X7_rec, rm_X2_adds]; omega, by simp only [rm_X7_rec, rm_X2_adds]; omega⟩ ⟨Nat.zero_le _, Nat.zero_le _⟩ hl.1 rfl (Nat.le_of_ble_eq_true rfl) dX7_allHold_44 (fun H locs h => ?_)
    rw [up_cm (kd_ne (rfl : Kd 12 = 7) (inH_k g8) (by decide))] at h
    obtain ⟨hs10, ehs10⟩ : ∃ z, z = va_up u6.2.2 ((u6.2.1 4 0).toNatClampNeg) u9 := ⟨_, rfl⟩
    replace hf := lt_use ehs10 hf
    rw [← ehs10] at h
    clear ehs10
    obtain ⟨x11, ex11⟩ : ∃ y : Int32, y = (v2 + (1 : Int32)) := ⟨_, rfl⟩
    refine lv_iinc (v := x11) (lv' := [(2, .int x11), (0, .ref (Ea E 12 0)), (1, .int p0)]) hx hb dX7_allHold_47 hl (k := 2) rfl (by rw [ex11]; rfl) (by decide) rfl (fun ls hl => ?_)
    replace hf := lt_use ex11 hf
    clear ex11
    refine lv_goto (tgt := 12) hx hb dX7_allHold_50 (by decide) ?_
    exact hk12 _ _ _ _ _ h ls (lv_sub hl [1, 2, 0] rfl) hf
  replace hf := it_t c7 hf
  refine lv_iconst (v := (0 : Int32)) hx hb dX7_allHold_35 (by decide) ?_
  replace hf := Option.some.inj hf
  subst hf
  exact r_zre (v := (0 : Int32)) C h rfl dX7_allHold_36
set_option maxHeartbeats 4000000 in
set_option maxRecDepth 100000 in
theorem w_X7_allHold_12L {p : Program} {l : Launch} {e : Env} {s : State} {m : MethodId} {args : Array Value} {below : List Frame} {meth : Method} {c : Code} {E : Ev} {ℓ : Mz} {n : Nat} {rec : Nat → Mm → Ms → Int32 → Option (Int32 × Mm × Ms)} {p0 : Int32} {out : Int32 × Mm × Ms} (hrec : ∀ (τ : Mm) (hs : Ms) (d : Int32) (out : Int32 × Mm × Ms), (rec 0 τ hs d = some out → Ct l yX7_anyHolds wsX7_anyHolds (rm_X7_rec n) [.ref (Ea E 12 0), .int d] E (va_up hs 12 τ) ℓ (some (.int out.1)) (va_up out.2.2 12 out.2.1) ℓ) ∧ (rec 1 τ hs d = some out → Ct l yX7_allHold wsX7_allHold (rm_X7_rec n) [.ref (Ea E 12 0), .int d] E (va_up hs 12 τ) ℓ (some (.int out.1)) (va_up out.2.2 12 out.2.1) ℓ) ∧ (rec 2 τ hs d = some out → Ct l yX7_oneHolds wsX7_oneHolds (rm_X7_rec n) [.ref (Ea E 12 0), .int d] E (va_up hs 12 τ) ℓ (some (.int out.1)) (va_up out.2.2 12 out.2.1) ℓ))   (C : Cx cX7_allHold 3 (some .boolean) wsX7_allHold RX7 E p s m args meth c)  : ∀ (n9 : Nat) (τ : Mm) (hs : Ms) (v2 : Int32) (H : Heap) (locs : List Loc) (h : HI E (va_up hs 12 τ) ℓ s H locs) (ls : Array Slot) (hl : lv_has ls 3 [(0, .ref (Ea E 12 0)), (1, .int p0), (2, .int v2)]), f_X7_allHold_12L rec p0  n9 τ hs v2 = some out → W p l e (rm_X7_rec (n + 1)) s m args below meth c H locs 0 0 (MQ below (Po E s.heap.size (some (.int out.1)) (va_up out.2.2 12 out.2.1) ℓ) args s 0 0 (AA E s.heap.size)) (F0 m 12 ls []) := by
  intro n9
  induction n9 with
  | zero =>
    intro τ hs v2 H locs h ls hl hf
    cases (show (none : Option (Int32 × Mm × Ms)) = some out from hf)
  | succ n9 ih =>
    intro τ hs v2 H locs h ls hl hf
    exact w_X7_allHold_12 hrec  C  ih τ hs v2 H locs h ls hl hf
set_option maxHeartbeats 4000000 in
set_option maxRecDepth 100000 in
theorem w_X7_allHold_0 {p : Program} {l : Launch} {e : Env} {s : State} {m : MethodId} {args : Array Value} {below : List Frame} {meth : Method} {c : Code} {E : Ev} {ℓ : Mz} {n : Nat} {rec : Nat → Mm → Ms → Int32 → Option (Int32 × Mm × Ms)} {p0 : Int32} {out : Int32 × Mm × Ms} (hrec : ∀ (τ : Mm) (hs : Ms) (d : Int32) (out : Int32 × Mm × Ms), (rec 0 τ hs d = some out → Ct l yX7_anyHolds wsX7_anyHolds (rm_X7_rec n) [.ref (Ea E 12 0), .int d] E (va_up hs 12 τ) ℓ (some (.int out.1)) (va_up out.2.2 12 out.2.1) ℓ) ∧ (rec 1 τ hs d = some out → Ct l yX7_allHold wsX7_allHold (rm_X7_rec n) [.ref (Ea E 12 0), .int d] E (va_up hs 12 τ) ℓ (some (.int out.1)) (va_up out.2.2 12 out.2.1) ℓ) ∧ (rec 2 τ hs d = some out → Ct l yX7_oneHolds wsX7_oneHolds (rm_X7_rec n) [.ref (Ea E 12 0), .int d] E (va_up hs 12 τ) ℓ (some (.int out.1)) (va_up out.2.2 12 out.2.1) ℓ))   (C : Cx cX7_allHold 3 (some .boolean) wsX7_allHold RX7 E p s m args meth c)  : ∀ (τ : Mm) (hs : Ms) (H : Heap) (locs : List Loc) (h : HI E (va_up hs 12 τ) ℓ s H locs) (ls : Array Slot) (hl : lv_has ls 3 [(0, .ref (Ea E 12 0)), (1, .int p0)]), f_X7_allHold_0 rec p0  τ hs = some out → W p l e (rm_X7_rec (n + 1)) s m args below meth c H locs 0 0 (MQ below (Po E s.heap.size (some (.int out.1)) (va_up out.2.2 12 out.2.1) ℓ) args s 0 0 (AA E s.heap.size)) (F0 m 0 ls []) := by
  intro τ hs H locs h ls hl hf
  unfold f_X7_allHold_0 at hf
  have C0 := C
  obtain ⟨hx, hb, hr, hml, hown, hts, hlk, hK, hSF⟩ := C0
  refine lv_aload_n hx hb dX7_allHold_0 rfl (lv_at hl 0 rfl) ?_
  refine lv_iload_n hx hb dX7_allHold_1 rfl (lv_at hl 1 rfl) ?_
  obtain ⟨u1, hu1, hf⟩ := bd_use hf
  refine r_cv_7 (rest := []) C h ((hrec _ _ _ _).2.2 hu1) (rfl : Kd 12 = 7) gX7_allHold_X7_oneHolds rfl ⟨rfl, rfl⟩ hdX7_oneHolds ⟨by simp only [rm_X7_rec]; omega, by simp only [rm_X7_rec]; omega⟩ ⟨Nat.zero_le _, Nat.zero_le _⟩ hl.1 rfl (Nat.le_of_ble_eq_true rfl) dX7_allHold_2 (fun H locs h => ?_)
  refine lv_if_ne (tgt := 10) hx hb dX7_allHold_5 (by decide) (fun c2 => ?_) (fun c2 => ?_)
  · replace hf := it_f c2 hf
    refine lv_iconst (v := (0 : Int32)) hx hb dX7_allHold_10 (by decide) ?_
    refine lv_istore_n (lv' := [(2, .int (0 : Int32)), (0, .ref (Ea E 12 0)), (1, .int p0)]) hx hb dX7_allHold_11 rfl hl (by decide) rfl (fun ls hl => ?_)
    exact w_X7_allHold_12L hrec   C  _ _ _ _ _ _ h ls (lv_sub hl [1, 2, 0] rfl) hf
  replace hf := it_t c2 hf
  refine lv_iconst (v := (0 : Int32)) hx hb dX7_allHold_8 (by decide) ?_
  replace hf := Option.some.inj hf
  subst hf
  exact r_zre (v := (0 : Int32)) C h rfl dX7_allHold_9
set_option maxRecDepth 100000 in
theorem inX7_anyHolds_7 : ∀ w ∈ wsX70, w ∈ wsX7_anyHolds := fun _ h => List.mem_cons_of_mem _ (List.mem_append_left _ (List.mem_append_right _ h))
set_option maxRecDepth 100000 in
theorem lkX7_anyHolds_25 : Cond.fieldLink RX7 25 "BellsBelow$Text" "house" "LBellsBelow$House;" ∈ wsX7_anyHolds := by decide +kernel
set_option maxHeartbeats 4000000 in
set_option maxRecDepth 100000 in
theorem w_X7_anyHolds_12 {p : Program} {l : Launch} {e : Env} {s : State} {m : MethodId} {args : Array Value} {below : List Frame} {meth : Method} {c : Code} {E : Ev} {ℓ : Mz} {n : Nat} {rec : Nat → Mm → Ms → Int32 → Option (Int32 × Mm × Ms)} {p0 : Int32} {out : Int32 × Mm × Ms} (hrec : ∀ (τ : Mm) (hs : Ms) (d : Int32) (out : Int32 × Mm × Ms), (rec 0 τ hs d = some out → Ct l yX7_anyHolds wsX7_anyHolds (rm_X7_rec n) [.ref (Ea E 12 0), .int d] E (va_up hs 12 τ) ℓ (some (.int out.1)) (va_up out.2.2 12 out.2.1) ℓ) ∧ (rec 1 τ hs d = some out → Ct l yX7_allHold wsX7_allHold (rm_X7_rec n) [.ref (Ea E 12 0), .int d] E (va_up hs 12 τ) ℓ (some (.int out.1)) (va_up out.2.2 12 out.2.1) ℓ) ∧ (rec 2 τ hs d = some out → Ct l yX7_oneHolds wsX7_oneHolds (rm_X7_rec n) [.ref (Ea E 12 0), .int d] E (va_up hs 12 τ) ℓ (some (.int out.1)) (va_up out.2.2 12 out.2.1) ℓ))   (C : Cx cX7_anyHolds 3 (some .boolean) wsX7_anyHolds RX7 E p s m args meth c) {k12 : Mm → Ms → Int32 → Option (Int32 × Mm × Ms)} (hk12 : ∀ (τ : Mm) (hs : Ms) (v2 : Int32) (H : Heap) (locs : List Loc), HI E (va_up hs 12 τ) ℓ s H locs → ∀ ls : Array Slot, lv_has ls 3 [(0, .ref (Ea E 12 0)), (1, .int p0), (2, .int v2)] → k12 τ hs v2 = some out → W p l e (rm_X7_rec (n + 1)) s m args below meth c H locs 0 0 (MQ below (Po E s.heap.size (some (.int out.1)) (va_up out.2.2 12 out.2.1) ℓ) args s 0 0 (AA E s.heap.size)) (F0 m 12 ls [])) : ∀ (τ : Mm) (hs : Ms) (v2 : Int32) (H : Heap) (locs : List Loc) (h : HI E (va_up hs 12 τ) ℓ s H locs) (ls : Array Slot) (hl : lv_has ls 3 [(0, .ref (Ea E 12 0)), (1, .int p0), (2, .int v2)]), f_X7_anyHolds_12 rec p0 k12 τ hs v2 = some out → W p l e (rm_X7_rec (n + 1)) s m args below meth c H locs 0 0 (MQ below (Po E s.heap.size (some (.int out.1)) (va_up out.2.2 12 out.2.1) ℓ) args s 0 0 (AA E s.heap.size)) (F0 m 12 ls []) := by
  intro τ hs v2 H locs h ls hl hf
  unfold f_X7_anyHolds_12 at hf
  have C0 := C
  obtain ⟨hx, hb, hr, hml, hown, hts, hlk, hK, hSF⟩ := C0
  refine lv_iload_n hx hb dX7_anyHolds_12 rfl (lv_at hl 2 rfl) ?_
  refine lv_bipush (v := (100 : Int32)) hx hb dX7_anyHolds_13 (by decide) ?_
  refine lv_icmp_ge (tgt := 53) hx hb dX7_anyHolds_15 (by decide) (fun c3 => ?_) (fun c3 => ?_)
  · replace hf := it_t c3 hf
    refine lv_iconst (v := (1 : Int32)) hx hb dX7_anyHolds_53 (by decide) ?_
    replace hf := Option.some.inj hf
    subst hf
    exact r_zre (v := (1 : Int32)) C h rfl dX7_anyHolds_54
  replace hf := it_f c3 hf
  refine lv_aload_n hx hb dX7_anyHolds_18 rfl (lv_at hl 0 rfl) ?_
  refine lv_bipush (v := (124 : Int32)) hx hb dX7_anyHolds_19 (by decide) ?_
  obtain ⟨u4, hu4, hf⟩ := bd_use hf
  refine r_cv_7 (rest := []) C h (c_X7_takes  hu4) (rfl : Kd 12 = 7) gX7_anyHolds_X7_takes rfl ⟨rfl, rfl⟩ hdX7_takes ⟨by simp only [rm_X7_rec, rm_X7_takes]; omega, by simp only [rm_X7_rec, rm_X7_takes]; omega⟩ ⟨Nat.zero_le _, Nat.zero_le _⟩ hl.1 rfl (Nat.le_of_ble_eq_true rfl) dX7_anyHolds_21 (fun H locs h => ?_)
  refine lv_if_eq (tgt := 53) hx hb dX7_anyHolds_24 (by decide) (fun c5 => ?_) (fun c5 => ?_)
  · replace hf := it_t c5 hf
    refine lv_iconst (v := (1 : Int32)) hx hb dX7_anyHolds_53 (by decide) ?_
    replace hf := Option.some.inj hf
    subst hf
    exact r_zre (v := (1 : Int32)) C h rfl dX7_anyHolds_54
  replace hf := it_f c5 hf
  refine lv_aload_n hx hb dX7_anyHolds_27 rfl (lv_at hl 0 rfl) ?_
  refine lv_iload_n hx hb dX7_anyHolds_28 rfl (lv_at hl 1 rfl) ?_
  obtain ⟨u6, hu6, hf⟩ := bd_use hf
  refine r_cv_7 (rest := []) C h ((hrec _ _ _ _).2.1 hu6) (rfl : Kd 12 = 7) gX7_anyHolds_X7_allHold rfl ⟨rfl, rfl⟩ hdX7_allHold ⟨by simp only [rm_X7_rec]; omega, by simp only [rm_X7_rec]; omega⟩ ⟨Nat.zero_le _, Nat.zero_le _⟩ hl.1 rfl (Nat.le_of_ble_eq_true rfl) dX7_anyHolds_29 (fun H locs h => ?_)
  refine lv_if_ne (tgt := 37) hx hb dX7_anyHolds_32 (by decide) (fun c7 => ?_) (fun c7 => ?_)
  · replace hf := it_f c7 hf
    refine lv_aload_n hx hb dX7_anyHolds_37 rfl (lv_at hl 0 rfl) ?_
    refine gf_7_4 C h (rfl : Kd 12 = 7) up_eq inX7_anyHolds_7 lkX7_anyHolds_25 dX7_anyHolds_38 ?_
    obtain ⟨g8, hf⟩ := gd_use hf
    refine r_top (hr_nn g8) ?_
    refine lv_sipush (v := (1802 : Int32)) hx hb dX7_anyHolds_41 (by decide) ?_
    obtain ⟨u9, hu9, hf⟩ := bd_use hf
    refine r_cv_2 (rest := []) C h (k_X2_adds (inH_k g8) (up_nk (inH_k g8) (rfl : Kd 12 = 7) (by decide)) hu9) (inH_k g8) gX7_anyHolds_X2_adds rfl ⟨rfl, rfl⟩ hdX2_adds ⟨by simp only [rm_X7_rec, rm_X2_adds]; omega, by simp only [rm_X7_rec, rm_X2_adds]; omega⟩ ⟨Nat.zero_le _, Nat.zero_le _⟩ hl.1 rfl (Nat.le_of_ble_eq_true rfl) dX7_anyHolds_44 (fun H locs h => ?_)
    rw [up_cm (kd_ne (rfl : Kd 12 = 7) (inH_k g8) (by decide))] at h
    obtain ⟨hs10, ehs10⟩ : ∃ z, z = va_up u6.2.2 ((u6.2.1 4 0).toNatClampNeg) u9 := ⟨_, rfl⟩
    replace hf := lt_use ehs10 hf
    rw [← ehs10] at h
    clear ehs10
    obtain ⟨x11, ex11⟩ : ∃ y : Int32, y = (v2 + (1 : Int32)) := ⟨_, rfl⟩
    refine lv_iinc (v := x11) (lv' := [(2, .int x11), (0, .ref (Ea E 12 0)), (1, .int p0)]) hx hb dX7_anyHolds_47 hl (k := 2) rfl (by rw [ex11]; rfl) (by decide) rfl (fun ls hl => ?_)
    replace hf := lt_use ex11 hf
    clear ex11
    refine lv_goto (tgt := 12) hx hb dX7_anyHolds_50 (by decide) ?_
    exact hk12 _ _ _ _ _ h ls (lv_sub hl [1, 2, 0] rfl) hf
  replace hf := it_t c7 hf
  refine lv_iconst (v := (0 : Int32)) hx hb dX7_anyHolds_35 (by decide) ?_
  replace hf := Option.some.inj hf
  subst hf
  exact r_zre (v := (0 : Int32)) C h rfl dX7_anyHolds_36
set_option maxHeartbeats 4000000 in
set_option maxRecDepth 100000 in
theorem w_X7_anyHolds_12L {p : Program} {l : Launch} {e : Env} {s : State} {m : MethodId} {args : Array Value} {below : List Frame} {meth : Method} {c : Code} {E : Ev} {ℓ : Mz} {n : Nat} {rec : Nat → Mm → Ms → Int32 → Option (Int32 × Mm × Ms)} {p0 : Int32} {out : Int32 × Mm × Ms} (hrec : ∀ (τ : Mm) (hs : Ms) (d : Int32) (out : Int32 × Mm × Ms), (rec 0 τ hs d = some out → Ct l yX7_anyHolds wsX7_anyHolds (rm_X7_rec n) [.ref (Ea E 12 0), .int d] E (va_up hs 12 τ) ℓ (some (.int out.1)) (va_up out.2.2 12 out.2.1) ℓ) ∧ (rec 1 τ hs d = some out → Ct l yX7_allHold wsX7_allHold (rm_X7_rec n) [.ref (Ea E 12 0), .int d] E (va_up hs 12 τ) ℓ (some (.int out.1)) (va_up out.2.2 12 out.2.1) ℓ) ∧ (rec 2 τ hs d = some out → Ct l yX7_oneHolds wsX7_oneHolds (rm_X7_rec n) [.ref (Ea E 12 0), .int d] E (va_up hs 12 τ) ℓ (some (.int out.1)) (va_up out.2.2 12 out.2.1) ℓ))   (C : Cx cX7_anyHolds 3 (some .boolean) wsX7_anyHolds RX7 E p s m args meth c)  : ∀ (n9 : Nat) (τ : Mm) (hs : Ms) (v2 : Int32) (H : Heap) (locs : List Loc) (h : HI E (va_up hs 12 τ) ℓ s H locs) (ls : Array Slot) (hl : lv_has ls 3 [(0, .ref (Ea E 12 0)), (1, .int p0), (2, .int v2)]), f_X7_anyHolds_12L rec p0  n9 τ hs v2 = some out → W p l e (rm_X7_rec (n + 1)) s m args below meth c H locs 0 0 (MQ below (Po E s.heap.size (some (.int out.1)) (va_up out.2.2 12 out.2.1) ℓ) args s 0 0 (AA E s.heap.size)) (F0 m 12 ls []) := by
  intro n9
  induction n9 with
  | zero =>
    intro τ hs v2 H locs h ls hl hf
    cases (show (none : Option (Int32 × Mm × Ms)) = some out from hf)
  | succ n9 ih =>
    intro τ hs v2 H locs h ls hl hf
    exact w_X7_anyHolds_12 hrec  C  ih τ hs v2 H locs h ls hl hf
set_option maxHeartbeats 4000000 in
set_option maxRecDepth 100000 in
theorem w_X7_anyHolds_0 {p : Program} {l : Launch} {e : Env} {s : State} {m : MethodId} {args : Array Value} {below : List Frame} {meth : Method} {c : Code} {E : Ev} {ℓ : Mz} {n : Nat} {rec : Nat → Mm → Ms → Int32 → Option (Int32 × Mm × Ms)} {p0 : Int32} {out : Int32 × Mm × Ms} (hrec : ∀ (τ : Mm) (hs : Ms) (d : Int32) (out : Int32 × Mm × Ms), (rec 0 τ hs d = some out → Ct l yX7_anyHolds wsX7_anyHolds (rm_X7_rec n) [.ref (Ea E 12 0), .int d] E (va_up hs 12 τ) ℓ (some (.int out.1)) (va_up out.2.2 12 out.2.1) ℓ) ∧ (rec 1 τ hs d = some out → Ct l yX7_allHold wsX7_allHold (rm_X7_rec n) [.ref (Ea E 12 0), .int d] E (va_up hs 12 τ) ℓ (some (.int out.1)) (va_up out.2.2 12 out.2.1) ℓ) ∧ (rec 2 τ hs d = some out → Ct l yX7_oneHolds wsX7_oneHolds (rm_X7_rec n) [.ref (Ea E 12 0), .int d] E (va_up hs 12 τ) ℓ (some (.int out.1)) (va_up out.2.2 12 out.2.1) ℓ))   (C : Cx cX7_anyHolds 3 (some .boolean) wsX7_anyHolds RX7 E p s m args meth c)  : ∀ (τ : Mm) (hs : Ms) (H : Heap) (locs : List Loc) (h : HI E (va_up hs 12 τ) ℓ s H locs) (ls : Array Slot) (hl : lv_has ls 3 [(0, .ref (Ea E 12 0)), (1, .int p0)]), f_X7_anyHolds_0 rec p0  τ hs = some out → W p l e (rm_X7_rec (n + 1)) s m args below meth c H locs 0 0 (MQ below (Po E s.heap.size (some (.int out.1)) (va_up out.2.2 12 out.2.1) ℓ) args s 0 0 (AA E s.heap.size)) (F0 m 0 ls []) := by
  intro τ hs H locs h ls hl hf
  unfold f_X7_anyHolds_0 at hf
  have C0 := C
  obtain ⟨hx, hb, hr, hml, hown, hts, hlk, hK, hSF⟩ := C0
  refine lv_aload_n hx hb dX7_anyHolds_0 rfl (lv_at hl 0 rfl) ?_
  refine lv_iload_n hx hb dX7_anyHolds_1 rfl (lv_at hl 1 rfl) ?_
  obtain ⟨u1, hu1, hf⟩ := bd_use hf
  refine r_cv_7 (rest := []) C h ((hrec _ _ _ _).2.1 hu1) (rfl : Kd 12 = 7) gX7_anyHolds_X7_allHold rfl ⟨rfl, rfl⟩ hdX7_allHold ⟨by simp only [rm_X7_rec]; omega, by simp only [rm_X7_rec]; omega⟩ ⟨Nat.zero_le _, Nat.zero_le _⟩ hl.1 rfl (Nat.le_of_ble_eq_true rfl) dX7_anyHolds_2 (fun H locs h => ?_)
  refine lv_if_ne (tgt := 10) hx hb dX7_anyHolds_5 (by decide) (fun c2 => ?_) (fun c2 => ?_)
  · replace hf := it_f c2 hf
    refine lv_iconst (v := (0 : Int32)) hx hb dX7_anyHolds_10 (by decide) ?_
    refine lv_istore_n (lv' := [(2, .int (0 : Int32)), (0, .ref (Ea E 12 0)), (1, .int p0)]) hx hb dX7_anyHolds_11 rfl hl (by decide) rfl (fun ls hl => ?_)
    exact w_X7_anyHolds_12L hrec   C  _ _ _ _ _ _ h ls (lv_sub hl [1, 2, 0] rfl) hf
  replace hf := it_t c2 hf
  refine lv_iconst (v := (0 : Int32)) hx hb dX7_anyHolds_8 (by decide) ?_
  replace hf := Option.some.inj hf
  subst hf
  exact r_zre (v := (0 : Int32)) C h rfl dX7_anyHolds_9
theorem hdX7_number : yX7_number.cls = RX7 ∧ yX7_number.cls ≠ "java/lang/invoke/MethodHandle" ∧ yX7_number.cls ≠ "java/lang/invoke/VarHandle" ∧ (parseMethodDescriptor yX7_number.desc).map (fun d => d.parameters.length) = some 0 := by decide +kernel
def rm_X7_number : Room := { frames := 0, cells := 0, slots := 0, locals := 0 }
set_option maxRecDepth 100000 in
theorem inX7_number_7 : ∀ w ∈ wsX70, w ∈ wsX7_number := fun _ h => List.mem_cons_of_mem _ (List.mem_append_right _ h)
set_option maxRecDepth 100000 in
theorem lkX7_number_22 : Cond.fieldLink RX7 22 "BellsBelow$Text" "place" "I" ∈ wsX7_number := by decide +kernel
set_option maxRecDepth 100000 in
theorem lkX7_number_19 : Cond.fieldLink RX7 19 "BellsBelow$Text" "end" "I" ∈ wsX7_number := by decide +kernel
set_option maxRecDepth 100000 in
theorem lkX7_number_9 : Cond.fieldLink RX7 9 "BellsBelow$Text" "signs" "[B" ∈ wsX7_number := by decide +kernel
set_option maxHeartbeats 4000000 in
set_option maxRecDepth 100000 in
theorem w_X7_number_59 {p : Program} {l : Launch} {e : Env} {s : State} {m : MethodId} {args : Array Value} {below : List Frame} {meth : Method} {c : Code} {E : Ev} {σ : Ms} {ℓ : Mz} {out : Int32 × Mm}   (C : Cx cX7_number 4 (some .int) wsX7_number RX7 E p s m args meth c) {k4 : Mm → Int32 → Int32 → Option (Int32 × Mm)} (hk4 : ∀ (τ : Mm) (v1 : Int32) (v2 : Int32) (H : Heap) (locs : List Loc), HI E (va_up σ 12 τ) ℓ s H locs → ∀ ls : Array Slot, lv_has ls 4 [(0, .ref (Ea E 12 0)), (1, .int v1), (2, .int v2)] → k4 τ v1 v2 = some out → W p l e rm_X7_number s m args below meth c H locs 0 0 (MQ below (Po E s.heap.size (some (.int out.1)) (va_up σ 12 out.2) ℓ) args s 0 0 (AA E s.heap.size)) (F0 m 4 ls [])) : ∀ (τ : Mm) (v2 : Int32) (w0 : Int32) (H : Heap) (locs : List Loc) (h : HI E (va_up σ 12 τ) ℓ s H locs) (ls : Array Slot) (hl : lv_has ls 4 [(0, .ref (Ea E 12 0)), (2, .int v2)]), f_X7_number_59  k4 τ v2 w0 = some out → W p l e rm_X7_number s m args below meth c H locs 0 0 (MQ below (Po E s.heap.size (some (.int out.1)) (va_up σ 12 out.2) ℓ) args s 0 0 (AA E s.heap.size)) (F0 m 59 ls [.int w0]) := by
  intro τ v2 w0 H locs h ls hl hf
  unfold f_X7_number_59 at hf
  have C0 := C
  obtain ⟨hx, hb, hr, hml, hown, hts, hlk, hK, hSF⟩ := C0
  refine lv_istore_n (lv' := [(1, .int w0), (0, .ref (Ea E 12 0)), (2, .int v2)]) hx hb dX7_number_59 rfl hl (by decide) rfl (fun ls hl => ?_)
  refine lv_aload_n hx hb dX7_number_60 rfl (lv_at hl 1 rfl) ?_
  refine lv_dup hx hb dX7_number_61 rfl ?_
  refine gf_7_2 C h (rfl : Kd 12 = 7) up_eq inX7_number_7 lkX7_number_22 dX7_number_62 ?_
  refine lv_iconst (v := (1 : Int32)) hx hb dX7_number_65 (by decide) ?_
  refine lv_iadd hx hb dX7_number_66 ?_
  refine pf_7_2 C h (rfl : Kd 12 = 7) up_eq (F := fun t => va_up σ 12 t) (fun _ => up_up) inX7_number_7 lkX7_number_22 dX7_number_67 (fun τ8 eτ8 H locs h => ?_)
  replace hf := lt_use eτ8 hf
  clear eτ8
  obtain ⟨x9, ex9⟩ : ∃ y : Int32, y = (v2 + (1 : Int32)) := ⟨_, rfl⟩
  refine lv_iinc (v := x9) (lv' := [(2, .int x9), (1, .int w0), (0, .ref (Ea E 12 0))]) hx hb dX7_number_70 hl (k := 2) rfl (by rw [ex9]; rfl) (by decide) rfl (fun ls hl => ?_)
  replace hf := lt_use ex9 hf
  clear ex9
  refine lv_goto (tgt := 4) hx hb dX7_number_73 (by decide) ?_
  exact hk4 _ _ _ _ _ h ls (lv_sub hl [2, 1, 0] rfl) hf
set_option maxHeartbeats 4000000 in
set_option maxRecDepth 100000 in
theorem w_X7_number_4 {p : Program} {l : Launch} {e : Env} {s : State} {m : MethodId} {args : Array Value} {below : List Frame} {meth : Method} {c : Code} {E : Ev} {σ : Ms} {ℓ : Mz} {out : Int32 × Mm}   (C : Cx cX7_number 4 (some .int) wsX7_number RX7 E p s m args meth c) {k4 : Mm → Int32 → Int32 → Option (Int32 × Mm)} (hk4 : ∀ (τ : Mm) (v1 : Int32) (v2 : Int32) (H : Heap) (locs : List Loc), HI E (va_up σ 12 τ) ℓ s H locs → ∀ ls : Array Slot, lv_has ls 4 [(0, .ref (Ea E 12 0)), (1, .int v1), (2, .int v2)] → k4 τ v1 v2 = some out → W p l e rm_X7_number s m args below meth c H locs 0 0 (MQ below (Po E s.heap.size (some (.int out.1)) (va_up σ 12 out.2) ℓ) args s 0 0 (AA E s.heap.size)) (F0 m 4 ls [])) : ∀ (τ : Mm) (v1 : Int32) (v2 : Int32) (H : Heap) (locs : List Loc) (h : HI E (va_up σ 12 τ) ℓ s H locs) (ls : Array Slot) (hl : lv_has ls 4 [(0, .ref (Ea E 12 0)), (1, .int v1), (2, .int v2)]), f_X7_number_4  k4 τ v1 v2 = some out → W p l e rm_X7_number s m args below meth c H locs 0 0 (MQ below (Po E s.heap.size (some (.int out.1)) (va_up σ 12 out.2) ℓ) args s 0 0 (AA E s.heap.size)) (F0 m 4 ls []) := by
  intro τ v1 v2 H locs h ls hl hf
  unfold f_X7_number_4 at hf
  have C0 := C
  obtain ⟨hx, hb, hr, hml, hown, hts, hlk, hK, hSF⟩ := C0
  refine lv_iload_n hx hb dX7_number_4 rfl (lv_at hl 2 rfl) ?_
  refine lv_iconst (v := (2 : Int32)) hx hb dX7_number_5 (by decide) ?_
  refine lv_icmp_ge (tgt := 76) hx hb dX7_number_6 (by decide) (fun c1 => ?_) (fun c1 => ?_)
  · replace hf := it_t c1 hf
    refine lv_iload_n hx hb dX7_number_76 rfl (lv_at hl 1 rfl) ?_
    replace hf := Option.some.inj hf
    subst hf
    exact r_ire C h dX7_number_77
  replace hf := it_f c1 hf
  refine lv_aload_n hx hb dX7_number_9 rfl (lv_at hl 0 rfl) ?_
  refine gf_7_2 C h (rfl : Kd 12 = 7) up_eq inX7_number_7 lkX7_number_22 dX7_number_10 ?_
  refine lv_aload_n hx hb dX7_number_13 rfl (lv_at hl 0 rfl) ?_
  refine gf_7_3 C h (rfl : Kd 12 = 7) up_eq inX7_number_7 lkX7_number_19 dX7_number_14 ?_
  refine lv_icmp_ge (tgt := 76) hx hb dX7_number_17 (by decide) (fun c2 => ?_) (fun c2 => ?_)
  · replace hf := it_t c2 hf
    refine lv_iload_n hx hb dX7_number_76 rfl (lv_at hl 1 rfl) ?_
    replace hf := Option.some.inj hf
    subst hf
    exact r_ire C h dX7_number_77
  replace hf := it_f c2 hf
  refine lv_aload_n hx hb dX7_number_20 rfl (lv_at hl 0 rfl) ?_
  refine gf_7_0 C h (rfl : Kd 12 = 7) up_eq inX7_number_7 lkX7_number_9 dX7_number_21 ?_
  refine lv_aload_n hx hb dX7_number_24 rfl (lv_at hl 0 rfl) ?_
  refine gf_7_2 C h (rfl : Kd 12 = 7) up_eq inX7_number_7 lkX7_number_22 dX7_number_25 ?_
  obtain ⟨g3, hf⟩ := gd_use hf
  refine ld_7_1 C h (rfl : Kd 12 = 7) up_eq (inB_in g3) dX7_number_28 ?_
  refine lv_bipush (v := (48 : Int32)) hx hb dX7_number_29 (by decide) ?_
  refine lv_isub hx hb dX7_number_31 ?_
  refine lv_topi (fun x4 ex4 => ?_)
  replace hf := lt_use ex4 hf
  clear ex4
  refine lv_istore_n (lv' := [(3, .int x4), (0, .ref (Ea E 12 0)), (1, .int v1), (2, .int v2)]) hx hb dX7_number_32 rfl hl (by decide) rfl (fun ls hl => ?_)
  refine lv_iload_n hx hb dX7_number_33 rfl (lv_at hl 0 rfl) ?_
  refine lv_if_lt (tgt := 43) hx hb dX7_number_34 (by decide) (fun c5 => ?_) (fun c5 => ?_)
  · replace hf := it_t c5 hf
    refine lv_iload_n hx hb dX7_number_43 rfl (lv_at hl 2 rfl) ?_
    replace hf := Option.some.inj hf
    subst hf
    exact r_ire C h dX7_number_44
  replace hf := it_f c5 hf
  refine lv_iload_n hx hb dX7_number_37 rfl (lv_at hl 0 rfl) ?_
  refine lv_bipush (v := (9 : Int32)) hx hb dX7_number_38 (by decide) ?_
  refine lv_icmp_le (tgt := 45) hx hb dX7_number_40 (by decide) (fun c6 => ?_) (fun c6 => ?_)
  · replace hf := it_t c6 hf
    refine lv_iload_n hx hb dX7_number_45 rfl (lv_at hl 3 rfl) ?_
    refine lv_if_ne (tgt := 53) hx hb dX7_number_46 (by decide) (fun c7 => ?_) (fun c7 => ?_)
    · replace hf := it_f c7 hf
      refine lv_iload_n hx hb dX7_number_53 rfl (lv_at hl 2 rfl) ?_
      refine lv_bipush (v := (10 : Int32)) hx hb dX7_number_54 (by decide) ?_
      refine lv_imul hx hb dX7_number_56 ?_
      refine lv_iload_n hx hb dX7_number_57 rfl (lv_at hl 0 rfl) ?_
      refine lv_iadd hx hb dX7_number_58 ?_
      exact w_X7_number_59    C hk4 _ _ _ _ _ h ls (lv_sub hl [1, 3] rfl) hf
    replace hf := it_t c7 hf
    refine lv_iload_n hx hb dX7_number_49 rfl (lv_at hl 0 rfl) ?_
    refine lv_goto (tgt := 59) hx hb dX7_number_50 (by decide) ?_
    exact w_X7_number_59    C hk4 _ _ _ _ _ h ls (lv_sub hl [1, 3] rfl) hf
  replace hf := it_f c6 hf
  refine lv_iload_n hx hb dX7_number_43 rfl (lv_at hl 2 rfl) ?_
  replace hf := Option.some.inj hf
  subst hf
  exact r_ire C h dX7_number_44
set_option maxHeartbeats 4000000 in
set_option maxRecDepth 100000 in
theorem w_X7_number_4L {p : Program} {l : Launch} {e : Env} {s : State} {m : MethodId} {args : Array Value} {below : List Frame} {meth : Method} {c : Code} {E : Ev} {σ : Ms} {ℓ : Mz} {out : Int32 × Mm}   (C : Cx cX7_number 4 (some .int) wsX7_number RX7 E p s m args meth c)  : ∀ (n9 : Nat) (τ : Mm) (v1 : Int32) (v2 : Int32) (H : Heap) (locs : List Loc) (h : HI E (va_up σ 12 τ) ℓ s H locs) (ls : Array Slot) (hl : lv_has ls 4 [(0, .ref (Ea E 12 0)), (1, .int v1), (2, .int v2)]), f_X7_number_4L   n9 τ v1 v2 = some out → W p l e rm_X7_number s m args below meth c H locs 0 0 (MQ below (Po E s.heap.size (some (.int out.1)) (va_up σ 12 out.2) ℓ) args s 0 0 (AA E s.heap.size)) (F0 m 4 ls []) := by
  intro n9
  induction n9 with
  | zero =>
    intro τ v1 v2 H locs h ls hl hf
    cases (show (none : Option (Int32 × Mm)) = some out from hf)
  | succ n9 ih =>
    intro τ v1 v2 H locs h ls hl hf
    exact w_X7_number_4   C  ih τ v1 v2 H locs h ls hl hf
set_option maxHeartbeats 4000000 in
set_option maxRecDepth 100000 in
theorem w_X7_number_0 {p : Program} {l : Launch} {e : Env} {s : State} {m : MethodId} {args : Array Value} {below : List Frame} {meth : Method} {c : Code} {E : Ev} {σ : Ms} {ℓ : Mz} {out : Int32 × Mm}   (C : Cx cX7_number 4 (some .int) wsX7_number RX7 E p s m args meth c)  : ∀ (τ : Mm) (H : Heap) (locs : List Loc) (h : HI E (va_up σ 12 τ) ℓ s H locs) (ls : Array Slot) (hl : lv_has ls 4 [(0, .ref (Ea E 12 0))]), f_X7_number_0   τ = some out → W p l e rm_X7_number s m args below meth c H locs 0 0 (MQ below (Po E s.heap.size (some (.int out.1)) (va_up σ 12 out.2) ℓ) args s 0 0 (AA E s.heap.size)) (F0 m 0 ls []) := by
  intro τ H locs h ls hl hf
  unfold f_X7_number_0 at hf
  have C0 := C
  obtain ⟨hx, hb, hr, hml, hown, hts, hlk, hK, hSF⟩ := C0
  refine lv_iconst (v := (-1 : Int32)) hx hb dX7_number_0 (by decide) ?_
  refine lv_istore_n (lv' := [(1, .int (-1 : Int32)), (0, .ref (Ea E 12 0))]) hx hb dX7_number_1 rfl hl (by decide) rfl (fun ls hl => ?_)
  refine lv_iconst (v := (0 : Int32)) hx hb dX7_number_2 (by decide) ?_
  refine lv_istore_n (lv' := [(2, .int (0 : Int32)), (1, .int (-1 : Int32)), (0, .ref (Ea E 12 0))]) hx hb dX7_number_3 rfl hl (by decide) rfl (fun ls hl => ?_)
  exact w_X7_number_4L    C  _ _ _ _ _ _ h ls (lv_sub hl [2, 1, 0] rfl) hf
theorem c_X7_number {l : Launch} {E : Ev} {σ : Ms} {ℓ : Mz} {τ : Mm} {out : Int32 × Mm} (hf : f_X7_number τ = some out) : Ct l yX7_number wsX7_number rm_X7_number [.ref (Ea E 12 0)] E (va_up σ 12 τ) ℓ (some (.int out.1)) (va_up σ 12 out.2) ℓ := by
  refine Ct_mk (cc := cX7_number) (mL := 4) (ret := (some .int)) (own := RX7) (by decide +kernel) rfl rfl (Nat.le_of_ble_eq_true rfl) (fun p e s m below meth c C h ls hl => ?_)
  exact w_X7_number_0  C τ _ _ h ls (lv_sub hl [0] rfl) hf
theorem k_X7_number {l : Launch} {E : Ev} {σ : Ms} {ℓ : Mz} {τ : Mm} (hτ : σ 12 = τ) {out : Int32 × Mm} (hf : f_X7_number τ = some out) : Ct l yX7_number wsX7_number rm_X7_number [.ref (Ea E 12 0)] E σ ℓ (some (.int out.1)) (va_up σ 12 out.2) ℓ := by
  subst hτ
  have h := c_X7_number (l := l) (E := E) (σ := σ) (ℓ := ℓ)  hf
  rw [up_id σ 12] at h
  exact h
theorem hdX7_takesOne : yX7_takesOne.cls = RX7 ∧ yX7_takesOne.cls ≠ "java/lang/invoke/MethodHandle" ∧ yX7_takesOne.cls ≠ "java/lang/invoke/VarHandle" ∧ (parseMethodDescriptor yX7_takesOne.desc).map (fun d => d.parameters.length) = some 1 := by decide +kernel
def rm_X7_takesOne : Room := { frames := 4, cells := 0, slots := 0, locals := 126 }
set_option maxRecDepth 100000 in
theorem inX7_takesOne_7 : ∀ w ∈ wsX70, w ∈ wsX7_takesOne := fun _ h => List.mem_cons_of_mem _ (List.mem_append_right _ h)
set_option maxRecDepth 100000 in
theorem lkX7_takesOne_22 : Cond.fieldLink RX7 22 "BellsBelow$Text" "place" "I" ∈ wsX7_takesOne := by decide +kernel
set_option maxRecDepth 100000 in
theorem lkX7_takesOne_19 : Cond.fieldLink RX7 19 "BellsBelow$Text" "end" "I" ∈ wsX7_takesOne := by decide +kernel
set_option maxRecDepth 100000 in
theorem lkX7_takesOne_9 : Cond.fieldLink RX7 9 "BellsBelow$Text" "signs" "[B" ∈ wsX7_takesOne := by decide +kernel
set_option maxHeartbeats 4000000 in
set_option maxRecDepth 100000 in
theorem w_X7_takesOne_29 {p : Program} {l : Launch} {e : Env} {s : State} {m : MethodId} {args : Array Value} {below : List Frame} {meth : Method} {c : Code} {E : Ev} {σ : Ms} {ℓ : Mz} {w : Nat} {out : Int32 × Mm} (hw : w < 5)   (C : Cx cX7_takesOne 3 (some .int) wsX7_takesOne RX7 E p s m args meth c)  : ∀ (τ : Mm) (w0 : Int32) (H : Heap) (locs : List Loc) (h : HI E (va_up σ 12 τ) ℓ s H locs) (ls : Array Slot) (hl : lv_has ls 3 [(0, .ref (Ea E 12 0))]), f_X7_takesOne_29 w  τ w0 = some out → W p l e rm_X7_takesOne s m args below meth c H locs 0 0 (MQ below (Po E s.heap.size (some (.int out.1)) (va_up σ 12 out.2) ℓ) args s 0 0 (AA E s.heap.size)) (F0 m 29 ls [.int w0]) := by
  intro τ w0 H locs h ls hl hf
  unfold f_X7_takesOne_29 at hf
  have C0 := C
  obtain ⟨hx, hb, hr, hml, hown, hts, hlk, hK, hSF⟩ := C0
  refine lv_istore_n (lv' := [(2, .int w0), (0, .ref (Ea E 12 0))]) hx hb dX7_takesOne_29 rfl hl (by decide) rfl (fun ls hl => ?_)
  refine lv_iload_n hx hb dX7_takesOne_30 rfl (lv_at hl 0 rfl) ?_
  refine lv_if_lt (tgt := 44) hx hb dX7_takesOne_31 (by decide) (fun c2 => ?_) (fun c2 => ?_)
  · replace hf := it_t c2 hf
    refine lv_iload_n hx hb dX7_takesOne_44 rfl (lv_at hl 0 rfl) ?_
    replace hf := Option.some.inj hf
    subst hf
    exact r_ire C h dX7_takesOne_45
  replace hf := it_f c2 hf
  refine lv_aload_n hx hb dX7_takesOne_34 rfl (lv_at hl 1 rfl) ?_
  refine lv_dup hx hb dX7_takesOne_35 rfl ?_
  refine gf_7_2 C h (rfl : Kd 12 = 7) up_eq inX7_takesOne_7 lkX7_takesOne_22 dX7_takesOne_36 ?_
  refine lv_iconst (v := (1 : Int32)) hx hb dX7_takesOne_39 (by decide) ?_
  refine lv_iadd hx hb dX7_takesOne_40 ?_
  refine pf_7_2 C h (rfl : Kd 12 = 7) up_eq (F := fun t => va_up σ 12 t) (fun _ => up_up) inX7_takesOne_7 lkX7_takesOne_22 dX7_takesOne_41 (fun τ3 eτ3 H locs h => ?_)
  replace hf := lt_use eτ3 hf
  clear eτ3
  refine lv_iload_n hx hb dX7_takesOne_44 rfl (lv_at hl 0 rfl) ?_
  replace hf := Option.some.inj hf
  subst hf
  exact r_ire C h dX7_takesOne_45
set_option maxHeartbeats 4000000 in
set_option maxRecDepth 100000 in
theorem w_X7_takesOne_0 {p : Program} {l : Launch} {e : Env} {s : State} {m : MethodId} {args : Array Value} {below : List Frame} {meth : Method} {c : Code} {E : Ev} {σ : Ms} {ℓ : Mz} {w : Nat} {out : Int32 × Mm} (hw : w < 5)   (C : Cx cX7_takesOne 3 (some .int) wsX7_takesOne RX7 E p s m args meth c)  : ∀ (τ : Mm) (H : Heap) (locs : List Loc) (h : HI E (va_up σ 12 τ) ℓ s H locs) (ls : Array Slot) (hl : lv_has ls 3 [(0, .ref (Ea E 12 0)), (1, .ref (Ek E w))]), f_X7_takesOne_0 w  τ = some out → W p l e rm_X7_takesOne s m args below meth c H locs 0 0 (MQ below (Po E s.heap.size (some (.int out.1)) (va_up σ 12 out.2) ℓ) args s 0 0 (AA E s.heap.size)) (F0 m 0 ls []) := by
  intro τ H locs h ls hl hf
  unfold f_X7_takesOne_0 at hf
  have C0 := C
  obtain ⟨hx, hb, hr, hml, hown, hts, hlk, hK, hSF⟩ := C0
  refine lv_aload_n hx hb dX7_takesOne_0 rfl (lv_at hl 0 rfl) ?_
  refine gf_7_2 C h (rfl : Kd 12 = 7) up_eq inX7_takesOne_7 lkX7_takesOne_22 dX7_takesOne_1 ?_
  refine lv_aload_n hx hb dX7_takesOne_4 rfl (lv_at hl 0 rfl) ?_
  refine gf_7_3 C h (rfl : Kd 12 = 7) up_eq inX7_takesOne_7 lkX7_takesOne_19 dX7_takesOne_5 ?_
  refine lv_icmp_ge (tgt := 28) hx hb dX7_takesOne_8 (by decide) (fun c1 => ?_) (fun c1 => ?_)
  · replace hf := it_t c1 hf
    refine lv_iconst (v := (-1 : Int32)) hx hb dX7_takesOne_28 (by decide) ?_
    exact w_X7_takesOne_29 hw   C  _ _ _ _ h ls (lv_sub hl [0] rfl) hf
  replace hf := it_f c1 hf
  refine lv_aload_n hx hb dX7_takesOne_11 rfl (lv_at hl 1 rfl) ?_
  refine lv_aload_n hx hb dX7_takesOne_12 rfl (lv_at hl 0 rfl) ?_
  refine gf_7_0 C h (rfl : Kd 12 = 7) up_eq inX7_takesOne_7 lkX7_takesOne_9 dX7_takesOne_13 ?_
  refine lv_aload_n hx hb dX7_takesOne_16 rfl (lv_at hl 0 rfl) ?_
  refine gf_7_2 C h (rfl : Kd 12 = 7) up_eq inX7_takesOne_7 lkX7_takesOne_22 dX7_takesOne_17 ?_
  obtain ⟨g4, hf⟩ := gd_use hf
  refine ld_7_1 C h (rfl : Kd 12 = 7) up_eq (inB_in g4) dX7_takesOne_20 ?_
  refine lv_i2c hx hb dX7_takesOne_21 rfl ?_
  obtain ⟨u5, hu5, hf⟩ := bd_use hf
  refine r_cvT (rest := []) C h (c_J0_indexOf_0f7a4 hw hu5) hw gX7_takesOne_J0_indexOf_0f7a4 rfl ⟨rfl, rfl⟩ hdJ0_indexOf_0f7a4 ⟨Nat.le_of_ble_eq_true rfl, Nat.le_of_ble_eq_true rfl⟩ ⟨Nat.zero_le _, Nat.zero_le _⟩ hl.1 rfl (Nat.le_of_ble_eq_true rfl) dX7_takesOne_22 (fun H locs h => ?_)
  refine lv_goto (tgt := 29) hx hb dX7_takesOne_25 (by decide) ?_
  exact w_X7_takesOne_29 hw   C  _ _ _ _ h ls (lv_sub hl [0] rfl) hf
theorem c_X7_takesOne {l : Launch} {E : Ev} {σ : Ms} {ℓ : Mz} {τ : Mm} {w : Nat} (hw : w < 5) {out : Int32 × Mm} (hf : f_X7_takesOne τ w = some out) : Ct l yX7_takesOne wsX7_takesOne rm_X7_takesOne [.ref (Ea E 12 0), .ref (Ek E w)] E (va_up σ 12 τ) ℓ (some (.int out.1)) (va_up σ 12 out.2) ℓ := by
  refine Ct_mk (cc := cX7_takesOne) (mL := 3) (ret := (some .int)) (own := RX7) (by decide +kernel) rfl rfl (Nat.le_of_ble_eq_true rfl) (fun p e s m below meth c C h ls hl => ?_)
  exact w_X7_takesOne_0 hw C τ _ _ h ls (lv_sub hl [0, 1] rfl) hf
theorem k_X7_takesOne {l : Launch} {E : Ev} {σ : Ms} {ℓ : Mz} {τ : Mm} {w : Nat} (hw : w < 5) (hτ : σ 12 = τ) {out : Int32 × Mm} (hf : f_X7_takesOne τ w = some out) : Ct l yX7_takesOne wsX7_takesOne rm_X7_takesOne [.ref (Ea E 12 0), .ref (Ek E w)] E σ ℓ (some (.int out.1)) (va_up σ 12 out.2) ℓ := by
  subst hτ
  have h := c_X7_takesOne (l := l) (E := E) (σ := σ) (ℓ := ℓ) hw hf
  rw [up_id σ 12] at h
  exact h
theorem hdX7_test : yX7_test.cls = RX7 ∧ yX7_test.cls ≠ "java/lang/invoke/MethodHandle" ∧ yX7_test.cls ≠ "java/lang/invoke/VarHandle" ∧ (parseMethodDescriptor yX7_test.desc).map (fun d => d.parameters.length) = some 0 := by decide +kernel
def rm_X7_test : Room := { frames := 5, cells := 0, slots := 0, locals := 148 }
set_option maxRecDepth 100000 in
theorem inX7_test_7 : ∀ w ∈ wsX70, w ∈ wsX7_test := fun _ h => List.mem_cons_of_mem _ (List.mem_append_left _ (List.mem_append_right _ h))
set_option maxRecDepth 100000 in
theorem lkX7_test_25 : Cond.fieldLink RX7 25 "BellsBelow$Text" "house" "LBellsBelow$House;" ∈ wsX7_test := by decide +kernel
set_option maxHeartbeats 4000000 in
set_option maxRecDepth 100000 in
theorem w_X7_test_0 {p : Program} {l : Launch} {e : Env} {s : State} {m : MethodId} {args : Array Value} {below : List Frame} {meth : Method} {c : Code} {E : Ev} {ℓ : Mz} {out : Int32 × Mm × Ms}   (C : Cx cX7_test 4 (some .boolean) wsX7_test RX7 E p s m args meth c)  : ∀ (τ : Mm) (hs : Ms) (H : Heap) (locs : List Loc) (h : HI E (va_up hs 12 τ) ℓ s H locs) (ls : Array Slot) (hl : lv_has ls 4 [(0, .ref (Ea E 12 0))]), f_X7_test_0   τ hs = some out → W p l e rm_X7_test s m args below meth c H locs 0 0 (MQ below (Po E s.heap.size (some (.int out.1)) (va_up out.2.2 12 out.2.1) ℓ) args s 0 0 (AA E s.heap.size)) (F0 m 0 ls []) := by
  intro τ hs H locs h ls hl hf
  unfold f_X7_test_0 at hf
  have C0 := C
  obtain ⟨hx, hb, hr, hml, hown, hts, hlk, hK, hSF⟩ := C0
  refine lv_aload_n hx hb dX7_test_0 rfl (lv_at hl 0 rfl) ?_
  refine va_ldcS hx hb hown (hSF.2.2.2.2.2.1 3 (by decide)) dX7_test_1 ?_
  obtain ⟨u1, hu1, hf⟩ := bd_use hf
  refine r_cv_7 (rest := []) C h (c_X7_takesOne (by decide) hu1) (rfl : Kd 12 = 7) gX7_test_X7_takesOne rfl ⟨rfl, rfl⟩ hdX7_takesOne ⟨Nat.le_of_ble_eq_true rfl, Nat.le_of_ble_eq_true rfl⟩ ⟨Nat.zero_le _, Nat.zero_le _⟩ hl.1 rfl (Nat.le_of_ble_eq_true rfl) dX7_test_3 (fun H locs h => ?_)
  refine lv_istore_n (lv' := [(1, .int u1.1), (0, .ref (Ea E 12 0))]) hx hb dX7_test_6 rfl hl (by decide) rfl (fun ls hl => ?_)
  refine lv_iload_n hx hb dX7_test_7 rfl (lv_at hl 0 rfl) ?_
  refine lv_if_ge (tgt := 13) hx hb dX7_test_8 (by decide) (fun c2 => ?_) (fun c2 => ?_)
  · replace hf := it_t c2 hf
    refine lv_aload_n hx hb dX7_test_13 rfl (lv_at hl 1 rfl) ?_
    refine va_ldcS hx hb hown (hSF.2.2.2.2.2.1 4 (by decide)) dX7_test_14 ?_
    obtain ⟨u3, hu3, hf⟩ := bd_use hf
    refine r_cv_7 (rest := []) C h (c_X7_takesOne (by decide) hu3) (rfl : Kd 12 = 7) gX7_test_X7_takesOne rfl ⟨rfl, rfl⟩ hdX7_takesOne ⟨Nat.le_of_ble_eq_true rfl, Nat.le_of_ble_eq_true rfl⟩ ⟨Nat.zero_le _, Nat.zero_le _⟩ hl.1 rfl (Nat.le_of_ble_eq_true rfl) dX7_test_16 (fun H locs h => ?_)
    refine lv_istore_n (lv' := [(2, .int u3.1), (1, .int u1.1), (0, .ref (Ea E 12 0))]) hx hb dX7_test_19 rfl hl (by decide) rfl (fun ls hl => ?_)
    refine lv_iload_n hx hb dX7_test_20 rfl (lv_at hl 0 rfl) ?_
    refine lv_if_ge (tgt := 26) hx hb dX7_test_21 (by decide) (fun c4 => ?_) (fun c4 => ?_)
    · replace hf := it_t c4 hf
      refine lv_aload_n hx hb dX7_test_26 rfl (lv_at hl 2 rfl) ?_
      obtain ⟨u5, hu5, hf⟩ := bd_use hf
      refine r_cv_7 (rest := []) C h (c_X7_number  hu5) (rfl : Kd 12 = 7) gX7_test_X7_number rfl ⟨rfl, rfl⟩ hdX7_number ⟨Nat.le_of_ble_eq_true rfl, Nat.le_of_ble_eq_true rfl⟩ ⟨Nat.zero_le _, Nat.zero_le _⟩ hl.1 rfl (Nat.le_of_ble_eq_true rfl) dX7_test_27 (fun H locs h => ?_)
      refine lv_istore_n (lv' := [(3, .int u5.1), (2, .int u3.1), (1, .int u1.1), (0, .ref (Ea E 12 0))]) hx hb dX7_test_30 rfl hl (by decide) rfl (fun ls hl => ?_)
      refine lv_iload_n hx hb dX7_test_31 rfl (lv_at hl 0 rfl) ?_
      refine lv_if_ge (tgt := 37) hx hb dX7_test_32 (by decide) (fun c6 => ?_) (fun c6 => ?_)
      · replace hf := it_t c6 hf
        refine lv_aload_n hx hb dX7_test_37 rfl (lv_at hl 3 rfl) ?_
        refine gf_7_4 C h (rfl : Kd 12 = 7) up_eq inX7_test_7 lkX7_test_25 dX7_test_38 ?_
        obtain ⟨g7, hf⟩ := gd_use hf
        refine r_top (hr_nn g7) ?_
        refine lv_iload_n hx hb dX7_test_41 rfl (lv_at hl 2 rfl) ?_
        refine lv_sipush (v := (300 : Int32)) hx hb dX7_test_42 (by decide) ?_
        refine lv_imul hx hb dX7_test_45 ?_
        refine lv_iload_n hx hb dX7_test_46 rfl (lv_at hl 1 rfl) ?_
        refine lv_bipush (v := (100 : Int32)) hx hb dX7_test_47 (by decide) ?_
        refine lv_imul hx hb dX7_test_49 ?_
        refine lv_iadd hx hb dX7_test_50 ?_
        refine lv_iload_n hx hb dX7_test_51 rfl (lv_at hl 0 rfl) ?_
        refine lv_iadd hx hb dX7_test_52 ?_
        obtain ⟨u8, hu8, hf⟩ := bd_use hf
        refine r_cv_2 (rest := []) C h (k_X2_adds (inH_k g7) (up_nk (inH_k g7) (rfl : Kd 12 = 7) (by decide)) hu8) (inH_k g7) gX7_test_X2_adds rfl ⟨rfl, rfl⟩ hdX2_adds ⟨Nat.le_of_ble_eq_true rfl, Nat.le_of_ble_eq_true rfl⟩ ⟨Nat.zero_le _, Nat.zero_le _⟩ hl.1 rfl (Nat.le_of_ble_eq_true rfl) dX7_test_53 (fun H locs h => ?_)
        rw [up_cm (kd_ne (rfl : Kd 12 = 7) (inH_k g7) (by decide))] at h
        obtain ⟨hs9, ehs9⟩ : ∃ z, z = va_up hs ((u5.2 4 0).toNatClampNeg) u8 := ⟨_, rfl⟩
        replace hf := lt_use ehs9 hf
        rw [← ehs9] at h
        clear ehs9
        refine lv_iconst (v := (1 : Int32)) hx hb dX7_test_56 (by decide) ?_
        replace hf := Option.some.inj hf
        subst hf
        exact r_zre (v := (1 : Int32)) C h rfl dX7_test_57
      replace hf := it_f c6 hf
      refine lv_iconst (v := (0 : Int32)) hx hb dX7_test_35 (by decide) ?_
      replace hf := Option.some.inj hf
      subst hf
      exact r_zre (v := (0 : Int32)) C h rfl dX7_test_36
    replace hf := it_f c4 hf
    refine lv_iconst (v := (0 : Int32)) hx hb dX7_test_24 (by decide) ?_
    replace hf := Option.some.inj hf
    subst hf
    exact r_zre (v := (0 : Int32)) C h rfl dX7_test_25
  replace hf := it_f c2 hf
  refine lv_iconst (v := (0 : Int32)) hx hb dX7_test_11 (by decide) ?_
  replace hf := Option.some.inj hf
  subst hf
  exact r_zre (v := (0 : Int32)) C h rfl dX7_test_12
theorem c_X7_test {l : Launch} {E : Ev} {ℓ : Mz} {τ : Mm} {hs : Ms} {out : Int32 × Mm × Ms} (hf : f_X7_test τ hs = some out) : Ct l yX7_test wsX7_test rm_X7_test [.ref (Ea E 12 0)] E (va_up hs 12 τ) ℓ (some (.int out.1)) (va_up out.2.2 12 out.2.1) ℓ := by
  refine Ct_mk (cc := cX7_test) (mL := 4) (ret := (some .boolean)) (own := RX7) (by decide +kernel) rfl rfl (Nat.le_of_ble_eq_true rfl) (fun p e s m below meth c C h ls hl => ?_)
  exact w_X7_test_0  C τ hs _ _ h ls (lv_sub hl [0] rfl) hf
theorem k_X7_test {l : Launch} {E : Ev} {σ : Ms} {ℓ : Mz}  {out : Int32 × Mm × Ms} (hf : f_X7_test (σ 12) σ = some out) : Ct l yX7_test wsX7_test rm_X7_test [.ref (Ea E 12 0)] E σ ℓ (some (.int out.1)) (va_up out.2.2 12 out.2.1) ℓ := by
  have h := c_X7_test (l := l) (E := E) (ℓ := ℓ)  hf
  rw [up_id σ 12] at h
  exact h
set_option maxRecDepth 100000 in
theorem inX7_oneHolds_7 : ∀ w ∈ wsX70, w ∈ wsX7_oneHolds := fun _ h => List.mem_cons_of_mem _ (List.mem_append_left _ (List.mem_append_right _ h))
set_option maxRecDepth 100000 in
theorem lkX7_oneHolds_25 : Cond.fieldLink RX7 25 "BellsBelow$Text" "house" "LBellsBelow$House;" ∈ wsX7_oneHolds := by decide +kernel
set_option maxHeartbeats 4000000 in
set_option maxRecDepth 100000 in
theorem w_X7_oneHolds_73 {p : Program} {l : Launch} {e : Env} {s : State} {m : MethodId} {args : Array Value} {below : List Frame} {meth : Method} {c : Code} {E : Ev} {ℓ : Mz} {n : Nat} {rec : Nat → Mm → Ms → Int32 → Option (Int32 × Mm × Ms)} {p0 : Int32} {out : Int32 × Mm × Ms} (hrec : ∀ (τ : Mm) (hs : Ms) (d : Int32) (out : Int32 × Mm × Ms), (rec 0 τ hs d = some out → Ct l yX7_anyHolds wsX7_anyHolds (rm_X7_rec n) [.ref (Ea E 12 0), .int d] E (va_up hs 12 τ) ℓ (some (.int out.1)) (va_up out.2.2 12 out.2.1) ℓ) ∧ (rec 1 τ hs d = some out → Ct l yX7_allHold wsX7_allHold (rm_X7_rec n) [.ref (Ea E 12 0), .int d] E (va_up hs 12 τ) ℓ (some (.int out.1)) (va_up out.2.2 12 out.2.1) ℓ) ∧ (rec 2 τ hs d = some out → Ct l yX7_oneHolds wsX7_oneHolds (rm_X7_rec n) [.ref (Ea E 12 0), .int d] E (va_up hs 12 τ) ℓ (some (.int out.1)) (va_up out.2.2 12 out.2.1) ℓ))   (C : Cx cX7_oneHolds 3 (some .boolean) wsX7_oneHolds RX7 E p s m args meth c)  : ∀ (τ : Mm) (hs : Ms) (H : Heap) (locs : List Loc) (h : HI E (va_up hs 12 τ) ℓ s H locs) (ls : Array Slot) (hl : lv_has ls 3 [(0, .ref (Ea E 12 0))]), f_X7_oneHolds_73 rec p0  τ hs = some out → W p l e (rm_X7_rec (n + 1)) s m args below meth c H locs 0 0 (MQ below (Po E s.heap.size (some (.int out.1)) (va_up out.2.2 12 out.2.1) ℓ) args s 0 0 (AA E s.heap.size)) (F0 m 73 ls []) := by
  intro τ hs H locs h ls hl hf
  unfold f_X7_oneHolds_73 at hf
  have C0 := C
  obtain ⟨hx, hb, hr, hml, hown, hts, hlk, hK, hSF⟩ := C0
  refine lv_aload_n hx hb dX7_oneHolds_73 rfl (lv_at hl 0 rfl) ?_
  obtain ⟨u3, hu3, hf⟩ := bd_use hf
  refine r_cv_7 (rest := []) C h (c_X7_test  hu3) (rfl : Kd 12 = 7) gX7_oneHolds_X7_test rfl ⟨rfl, rfl⟩ hdX7_test ⟨by simp only [rm_X7_rec, rm_X7_test]; omega, by simp only [rm_X7_rec, rm_X7_test]; omega⟩ ⟨Nat.zero_le _, Nat.zero_le _⟩ hl.1 rfl (Nat.le_of_ble_eq_true rfl) dX7_oneHolds_74 (fun H locs h => ?_)
  obtain ⟨g4, hf⟩ := gd_use hf
  replace hf := Option.some.inj hf
  subst hf
  exact r_zre C h (isB_use g4) dX7_oneHolds_77
set_option maxHeartbeats 4000000 in
set_option maxRecDepth 100000 in
theorem w_X7_oneHolds_34 {p : Program} {l : Launch} {e : Env} {s : State} {m : MethodId} {args : Array Value} {below : List Frame} {meth : Method} {c : Code} {E : Ev} {ℓ : Mz} {n : Nat} {rec : Nat → Mm → Ms → Int32 → Option (Int32 × Mm × Ms)} {p0 : Int32} {out : Int32 × Mm × Ms} (hrec : ∀ (τ : Mm) (hs : Ms) (d : Int32) (out : Int32 × Mm × Ms), (rec 0 τ hs d = some out → Ct l yX7_anyHolds wsX7_anyHolds (rm_X7_rec n) [.ref (Ea E 12 0), .int d] E (va_up hs 12 τ) ℓ (some (.int out.1)) (va_up out.2.2 12 out.2.1) ℓ) ∧ (rec 1 τ hs d = some out → Ct l yX7_allHold wsX7_allHold (rm_X7_rec n) [.ref (Ea E 12 0), .int d] E (va_up hs 12 τ) ℓ (some (.int out.1)) (va_up out.2.2 12 out.2.1) ℓ) ∧ (rec 2 τ hs d = some out → Ct l yX7_oneHolds wsX7_oneHolds (rm_X7_rec n) [.ref (Ea E 12 0), .int d] E (va_up hs 12 τ) ℓ (some (.int out.1)) (va_up out.2.2 12 out.2.1) ℓ))   (C : Cx cX7_oneHolds 3 (some .boolean) wsX7_oneHolds RX7 E p s m args meth c)  : ∀ (τ : Mm) (hs : Ms) (H : Heap) (locs : List Loc) (h : HI E (va_up hs 12 τ) ℓ s H locs) (ls : Array Slot) (hl : lv_has ls 3 [(0, .ref (Ea E 12 0)), (1, .int p0)]), f_X7_oneHolds_34 rec p0  τ hs = some out → W p l e (rm_X7_rec (n + 1)) s m args below meth c H locs 0 0 (MQ below (Po E s.heap.size (some (.int out.1)) (va_up out.2.2 12 out.2.1) ℓ) args s 0 0 (AA E s.heap.size)) (F0 m 34 ls []) := by
  intro τ hs H locs h ls hl hf
  unfold f_X7_oneHolds_34 at hf
  have C0 := C
  obtain ⟨hx, hb, hr, hml, hown, hts, hlk, hK, hSF⟩ := C0
  refine lv_iload_n hx hb dX7_oneHolds_34 rfl (lv_at hl 1 rfl) ?_
  refine lv_iconst (v := (4 : Int32)) hx hb dX7_oneHolds_35 (by decide) ?_
  refine lv_icmp_ge (tgt := 73) hx hb dX7_oneHolds_36 (by decide) (fun c2 => ?_) (fun c2 => ?_)
  · replace hf := it_t c2 hf
    exact w_X7_oneHolds_73 hrec   C  _ _ _ _ h ls (lv_sub hl [0] rfl) hf
  replace hf := it_f c2 hf
  refine lv_aload_n hx hb dX7_oneHolds_39 rfl (lv_at hl 0 rfl) ?_
  refine lv_bipush (v := (40 : Int32)) hx hb dX7_oneHolds_40 (by decide) ?_
  obtain ⟨u5, hu5, hf⟩ := bd_use hf
  refine r_cv_7 (rest := []) C h (c_X7_takes  hu5) (rfl : Kd 12 = 7) gX7_oneHolds_X7_takes rfl ⟨rfl, rfl⟩ hdX7_takes ⟨by simp only [rm_X7_rec, rm_X7_takes]; omega, by simp only [rm_X7_rec, rm_X7_takes]; omega⟩ ⟨Nat.zero_le _, Nat.zero_le _⟩ hl.1 rfl (Nat.le_of_ble_eq_true rfl) dX7_oneHolds_42 (fun H locs h => ?_)
  refine lv_if_eq (tgt := 73) hx hb dX7_oneHolds_45 (by decide) (fun c6 => ?_) (fun c6 => ?_)
  · replace hf := it_t c6 hf
    exact w_X7_oneHolds_73 hrec   C  _ _ _ _ h ls (lv_sub hl [0] rfl) hf
  replace hf := it_f c6 hf
  refine lv_aload_n hx hb dX7_oneHolds_48 rfl (lv_at hl 0 rfl) ?_
  refine lv_iload_n hx hb dX7_oneHolds_49 rfl (lv_at hl 1 rfl) ?_
  refine lv_iconst (v := (1 : Int32)) hx hb dX7_oneHolds_50 (by decide) ?_
  refine lv_iadd hx hb dX7_oneHolds_51 ?_
  obtain ⟨u7, hu7, hf⟩ := bd_use hf
  refine r_cv_7 (rest := []) C h ((hrec _ _ _ _).1 hu7) (rfl : Kd 12 = 7) gX7_oneHolds_X7_anyHolds rfl ⟨rfl, rfl⟩ hdX7_anyHolds ⟨by simp only [rm_X7_rec]; omega, by simp only [rm_X7_rec]; omega⟩ ⟨Nat.zero_le _, Nat.zero_le _⟩ hl.1 rfl (Nat.le_of_ble_eq_true rfl) dX7_oneHolds_52 (fun H locs h => ?_)
  refine lv_if_eq (tgt := 71) hx hb dX7_oneHolds_55 (by decide) (fun c8 => ?_) (fun c8 => ?_)
  · replace hf := it_t c8 hf
    refine lv_iconst (v := (0 : Int32)) hx hb dX7_oneHolds_71 (by decide) ?_
    replace hf := Option.some.inj hf
    subst hf
    exact r_zre (v := (0 : Int32)) C h rfl dX7_oneHolds_72
  replace hf := it_f c8 hf
  refine lv_aload_n hx hb dX7_oneHolds_58 rfl (lv_at hl 0 rfl) ?_
  refine lv_bipush (v := (41 : Int32)) hx hb dX7_oneHolds_59 (by decide) ?_
  obtain ⟨u9, hu9, hf⟩ := bd_use hf
  refine r_cv_7 (rest := []) C h (c_X7_takes  hu9) (rfl : Kd 12 = 7) gX7_oneHolds_X7_takes rfl ⟨rfl, rfl⟩ hdX7_takes ⟨by simp only [rm_X7_rec, rm_X7_takes]; omega, by simp only [rm_X7_rec, rm_X7_takes]; omega⟩ ⟨Nat.zero_le _, Nat.zero_le _⟩ hl.1 rfl (Nat.le_of_ble_eq_true rfl) dX7_oneHolds_61 (fun H locs h => ?_)
  refine lv_if_eq (tgt := 71) hx hb dX7_oneHolds_64 (by decide) (fun c10 => ?_) (fun c10 => ?_)
  · replace hf := it_t c10 hf
    refine lv_iconst (v := (0 : Int32)) hx hb dX7_oneHolds_71 (by decide) ?_
    replace hf := Option.some.inj hf
    subst hf
    exact r_zre (v := (0 : Int32)) C h rfl dX7_oneHolds_72
  replace hf := it_f c10 hf
  refine lv_iconst (v := (1 : Int32)) hx hb dX7_oneHolds_67 (by decide) ?_
  refine lv_goto (tgt := 72) hx hb dX7_oneHolds_68 (by decide) ?_
  replace hf := Option.some.inj hf
  subst hf
  exact r_zre (v := (1 : Int32)) C h rfl dX7_oneHolds_72
set_option maxHeartbeats 4000000 in
set_option maxRecDepth 100000 in
theorem w_X7_oneHolds_0 {p : Program} {l : Launch} {e : Env} {s : State} {m : MethodId} {args : Array Value} {below : List Frame} {meth : Method} {c : Code} {E : Ev} {ℓ : Mz} {n : Nat} {rec : Nat → Mm → Ms → Int32 → Option (Int32 × Mm × Ms)} {p0 : Int32} {out : Int32 × Mm × Ms} (hrec : ∀ (τ : Mm) (hs : Ms) (d : Int32) (out : Int32 × Mm × Ms), (rec 0 τ hs d = some out → Ct l yX7_anyHolds wsX7_anyHolds (rm_X7_rec n) [.ref (Ea E 12 0), .int d] E (va_up hs 12 τ) ℓ (some (.int out.1)) (va_up out.2.2 12 out.2.1) ℓ) ∧ (rec 1 τ hs d = some out → Ct l yX7_allHold wsX7_allHold (rm_X7_rec n) [.ref (Ea E 12 0), .int d] E (va_up hs 12 τ) ℓ (some (.int out.1)) (va_up out.2.2 12 out.2.1) ℓ) ∧ (rec 2 τ hs d = some out → Ct l yX7_oneHolds wsX7_oneHolds (rm_X7_rec n) [.ref (Ea E 12 0), .int d] E (va_up hs 12 τ) ℓ (some (.int out.1)) (va_up out.2.2 12 out.2.1) ℓ))   (C : Cx cX7_oneHolds 3 (some .boolean) wsX7_oneHolds RX7 E p s m args meth c)  : ∀ (τ : Mm) (hs : Ms) (H : Heap) (locs : List Loc) (h : HI E (va_up hs 12 τ) ℓ s H locs) (ls : Array Slot) (hl : lv_has ls 3 [(0, .ref (Ea E 12 0)), (1, .int p0)]), f_X7_oneHolds_0 rec p0  τ hs = some out → W p l e (rm_X7_rec (n + 1)) s m args below meth c H locs 0 0 (MQ below (Po E s.heap.size (some (.int out.1)) (va_up out.2.2 12 out.2.1) ℓ) args s 0 0 (AA E s.heap.size)) (F0 m 0 ls []) := by
  intro τ hs H locs h ls hl hf
  unfold f_X7_oneHolds_0 at hf
  have C0 := C
  obtain ⟨hx, hb, hr, hml, hown, hts, hlk, hK, hSF⟩ := C0
  refine lv_iload_n hx hb dX7_oneHolds_0 rfl (lv_at hl 1 rfl) ?_
  refine lv_iconst (v := (4 : Int32)) hx hb dX7_oneHolds_1 (by decide) ?_
  refine lv_icmp_ge (tgt := 34) hx hb dX7_oneHolds_2 (by decide) (fun c1 => ?_) (fun c1 => ?_)
  · replace hf := it_t c1 hf
    exact w_X7_oneHolds_34 hrec   C  _ _ _ _ h ls (lv_sub hl [0, 1] rfl) hf
  replace hf := it_f c1 hf
  refine lv_aload_n hx hb dX7_oneHolds_5 rfl (lv_at hl 0 rfl) ?_
  refine lv_bipush (v := (33 : Int32)) hx hb dX7_oneHolds_6 (by decide) ?_
  obtain ⟨u11, hu11, hf⟩ := bd_use hf
  refine r_cv_7 (rest := []) C h (c_X7_takes  hu11) (rfl : Kd 12 = 7) gX7_oneHolds_X7_takes rfl ⟨rfl, rfl⟩ hdX7_takes ⟨by simp only [rm_X7_rec, rm_X7_takes]; omega, by simp only [rm_X7_rec, rm_X7_takes]; omega⟩ ⟨Nat.zero_le _, Nat.zero_le _⟩ hl.1 rfl (Nat.le_of_ble_eq_true rfl) dX7_oneHolds_8 (fun H locs h => ?_)
  refine lv_if_eq (tgt := 34) hx hb dX7_oneHolds_11 (by decide) (fun c12 => ?_) (fun c12 => ?_)
  · replace hf := it_t c12 hf
    exact w_X7_oneHolds_34 hrec   C  _ _ _ _ h ls (lv_sub hl [0, 1] rfl) hf
  replace hf := it_f c12 hf
  refine lv_aload_n hx hb dX7_oneHolds_14 rfl (lv_at hl 0 rfl) ?_
  refine lv_iload_n hx hb dX7_oneHolds_15 rfl (lv_at hl 1 rfl) ?_
  refine lv_iconst (v := (1 : Int32)) hx hb dX7_oneHolds_16 (by decide) ?_
  refine lv_iadd hx hb dX7_oneHolds_17 ?_
  obtain ⟨u13, hu13, hf⟩ := bd_use hf
  refine r_cv_7 (rest := []) C h ((hrec _ _ _ _).2.2 hu13) (rfl : Kd 12 = 7) gX7_oneHolds_X7_oneHolds rfl ⟨rfl, rfl⟩ hdX7_oneHolds ⟨by simp only [rm_X7_rec]; omega, by simp only [rm_X7_rec]; omega⟩ ⟨Nat.zero_le _, Nat.zero_le _⟩ hl.1 rfl (Nat.le_of_ble_eq_true rfl) dX7_oneHolds_18 (fun H locs h => ?_)
  refine lv_istore_n (lv' := [(2, .int u13.1), (0, .ref (Ea E 12 0)), (1, .int p0)]) hx hb dX7_oneHolds_21 rfl hl (by decide) rfl (fun ls hl => ?_)
  refine lv_aload_n hx hb dX7_oneHolds_22 rfl (lv_at hl 1 rfl) ?_
  refine gf_7_4 C h (rfl : Kd 12 = 7) up_eq inX7_oneHolds_7 lkX7_oneHolds_25 dX7_oneHolds_23 ?_
  obtain ⟨g14, hf⟩ := gd_use hf
  refine r_top (hr_nn g14) ?_
  refine lv_sipush (v := (1800 : Int32)) hx hb dX7_oneHolds_26 (by decide) ?_
  obtain ⟨u15, hu15, hf⟩ := bd_use hf
  refine r_cv_2 (rest := []) C h (k_X2_adds (inH_k g14) (up_nk (inH_k g14) (rfl : Kd 12 = 7) (by decide)) hu15) (inH_k g14) gX7_oneHolds_X2_adds rfl ⟨rfl, rfl⟩ hdX2_adds ⟨by simp only [rm_X7_rec, rm_X2_adds]; omega, by simp only [rm_X7_rec, rm_X2_adds]; omega⟩ ⟨Nat.zero_le _, Nat.zero_le _⟩ hl.1 rfl (Nat.le_of_ble_eq_true rfl) dX7_oneHolds_29 (fun H locs h => ?_)
  rw [up_cm (kd_ne (rfl : Kd 12 = 7) (inH_k g14) (by decide))] at h
  obtain ⟨hs16, ehs16⟩ : ∃ z, z = va_up u13.2.2 ((u13.2.1 4 0).toNatClampNeg) u15 := ⟨_, rfl⟩
  replace hf := lt_use ehs16 hf
  rw [← ehs16] at h
  clear ehs16
  refine lv_iload_n hx hb dX7_oneHolds_32 rfl (lv_at hl 0 rfl) ?_
  obtain ⟨g17, hf⟩ := gd_use hf
  replace hf := Option.some.inj hf
  subst hf
  exact r_zre C h (isB_use g17) dX7_oneHolds_33
theorem c_X7_rec {l : Launch} {E : Ev} {ℓ : Mz} : ∀ (n : Nat) (τ : Mm) (hs : Ms) (d : Int32) (out : Int32 × Mm × Ms), (f_X7_rec n 0 τ hs d = some out → Ct l yX7_anyHolds wsX7_anyHolds (rm_X7_rec n) [.ref (Ea E 12 0), .int d] E (va_up hs 12 τ) ℓ (some (.int out.1)) (va_up out.2.2 12 out.2.1) ℓ) ∧ (f_X7_rec n 1 τ hs d = some out → Ct l yX7_allHold wsX7_allHold (rm_X7_rec n) [.ref (Ea E 12 0), .int d] E (va_up hs 12 τ) ℓ (some (.int out.1)) (va_up out.2.2 12 out.2.1) ℓ) ∧ (f_X7_rec n 2 τ hs d = some out → Ct l yX7_oneHolds wsX7_oneHolds (rm_X7_rec n) [.ref (Ea E 12 0), .int d] E (va_up hs 12 τ) ℓ (some (.int out.1)) (va_up out.2.2 12 out.2.1) ℓ) := by
  intro n
  induction n with
  | zero =>
    intro τ hs d out
    exact ⟨fun hf => (by cases (show (none : Option _) = some out from hf)), fun hf => (by cases (show (none : Option _) = some out from hf)), fun hf => (by cases (show (none : Option _) = some out from hf))⟩
  | succ n ih =>
    intro τ hs d out
    refine ⟨?_, ?_, ?_⟩
    · intro hf
      refine Ct_mk (cc := cX7_anyHolds) (mL := 3) (ret := (some .boolean)) (own := RX7) (by decide +kernel) rfl rfl (Nat.le_of_ble_eq_true rfl) (fun p e s m below meth c C h ls hl => ?_)
      exact w_X7_anyHolds_0 (n := n) ih C τ hs _ _ h ls (lv_sub hl [0, 1] rfl) hf
    · intro hf
      refine Ct_mk (cc := cX7_allHold) (mL := 3) (ret := (some .boolean)) (own := RX7) (by decide +kernel) rfl rfl (Nat.le_of_ble_eq_true rfl) (fun p e s m below meth c C h ls hl => ?_)
      exact w_X7_allHold_0 (n := n) ih C τ hs _ _ h ls (lv_sub hl [0, 1] rfl) hf
    · intro hf
      refine Ct_mk (cc := cX7_oneHolds) (mL := 3) (ret := (some .boolean)) (own := RX7) (by decide +kernel) rfl rfl (Nat.le_of_ble_eq_true rfl) (fun p e s m below meth c C h ls hl => ?_)
      exact w_X7_oneHolds_0 (n := n) ih C τ hs _ _ h ls (lv_sub hl [0, 1] rfl) hf
theorem c_X7_anyHolds {l : Launch} {E : Ev} {ℓ : Mz} {τ : Mm} {hs : Ms} {d : Int32} {out : Int32 × Mm × Ms} (hf : f_X7_rec 45 0 τ hs d = some out) : Ct l yX7_anyHolds wsX7_anyHolds (rm_X7_rec 45) [.ref (Ea E 12 0), .int d] E (va_up hs 12 τ) ℓ (some (.int out.1)) (va_up out.2.2 12 out.2.1) ℓ := (c_X7_rec 45 τ hs d out).1 hf
theorem c_X7_allHold {l : Launch} {E : Ev} {ℓ : Mz} {τ : Mm} {hs : Ms} {d : Int32} {out : Int32 × Mm × Ms} (hf : f_X7_rec 45 1 τ hs d = some out) : Ct l yX7_allHold wsX7_allHold (rm_X7_rec 45) [.ref (Ea E 12 0), .int d] E (va_up hs 12 τ) ℓ (some (.int out.1)) (va_up out.2.2 12 out.2.1) ℓ := (c_X7_rec 45 τ hs d out).2.1 hf
theorem c_X7_oneHolds {l : Launch} {E : Ev} {ℓ : Mz} {τ : Mm} {hs : Ms} {d : Int32} {out : Int32 × Mm × Ms} (hf : f_X7_rec 45 2 τ hs d = some out) : Ct l yX7_oneHolds wsX7_oneHolds (rm_X7_rec 45) [.ref (Ea E 12 0), .int d] E (va_up hs 12 τ) ℓ (some (.int out.1)) (va_up out.2.2 12 out.2.1) ℓ := (c_X7_rec 45 τ hs d out).2.2 hf
theorem hdX7_takesAll : yX7_takesAll.cls = RX7 ∧ yX7_takesAll.cls ≠ "java/lang/invoke/MethodHandle" ∧ yX7_takesAll.cls ≠ "java/lang/invoke/VarHandle" ∧ (parseMethodDescriptor yX7_takesAll.desc).map (fun d => d.parameters.length) = some 1 := by decide +kernel
def rm_X7_takesAll : Room := { frames := 4, cells := 0, slots := 0, locals := 85 }
set_option maxHeartbeats 4000000 in
set_option maxRecDepth 100000 in
theorem w_X7_takesAll_2 {p : Program} {l : Launch} {e : Env} {s : State} {m : MethodId} {args : Array Value} {below : List Frame} {meth : Method} {c : Code} {E : Ev} {σ : Ms} {ℓ : Mz} {w : Nat} {out : Int32 × Mm} (hw : w < 5)   (C : Cx cX7_takesAll 3 (some .boolean) wsX7_takesAll RX7 E p s m args meth c) {k2 : Mm → Int32 → Option (Int32 × Mm)} (hk2 : ∀ (τ : Mm) (v2 : Int32) (H : Heap) (locs : List Loc), HI E (va_up σ 12 τ) ℓ s H locs → ∀ ls : Array Slot, lv_has ls 3 [(0, .ref (Ea E 12 0)), (1, .ref (Ek E w)), (2, .int v2)] → k2 τ v2 = some out → W p l e rm_X7_takesAll s m args below meth c H locs 0 0 (MQ below (Po E s.heap.size (some (.int out.1)) (va_up σ 12 out.2) ℓ) args s 0 0 (AA E s.heap.size)) (F0 m 2 ls [])) : ∀ (τ : Mm) (v2 : Int32) (H : Heap) (locs : List Loc) (h : HI E (va_up σ 12 τ) ℓ s H locs) (ls : Array Slot) (hl : lv_has ls 3 [(0, .ref (Ea E 12 0)), (1, .ref (Ek E w)), (2, .int v2)]), f_X7_takesAll_2 w k2 τ v2 = some out → W p l e rm_X7_takesAll s m args below meth c H locs 0 0 (MQ below (Po E s.heap.size (some (.int out.1)) (va_up σ 12 out.2) ℓ) args s 0 0 (AA E s.heap.size)) (F0 m 2 ls []) := by
  intro τ v2 H locs h ls hl hf
  unfold f_X7_takesAll_2 at hf
  have C0 := C
  obtain ⟨hx, hb, hr, hml, hown, hts, hlk, hK, hSF⟩ := C0
  refine lv_iload_n hx hb dX7_takesAll_2 rfl (lv_at hl 2 rfl) ?_
  refine lv_aload_n hx hb dX7_takesAll_3 rfl (lv_at hl 1 rfl) ?_
  obtain ⟨u1, hu1, hf⟩ := bd_use hf
  refine r_cvT (rest := [.int v2]) C h (c_J0_length_8abf5 hw hu1) hw gX7_takesAll_J0_length_8abf5 rfl ⟨rfl, rfl⟩ hdJ0_length_8abf5 ⟨Nat.le_of_ble_eq_true rfl, Nat.le_of_ble_eq_true rfl⟩ ⟨Nat.zero_le _, Nat.zero_le _⟩ hl.1 rfl (Nat.le_of_ble_eq_true rfl) dX7_takesAll_4 (fun H locs h => ?_)
  refine lv_icmp_ge (tgt := 30) hx hb dX7_takesAll_7 (by decide) (fun c2 => ?_) (fun c2 => ?_)
  · replace hf := it_t c2 hf
    refine lv_iconst (v := (1 : Int32)) hx hb dX7_takesAll_30 (by decide) ?_
    replace hf := Option.some.inj hf
    subst hf
    exact r_zre (v := (1 : Int32)) C h rfl dX7_takesAll_31
  replace hf := it_f c2 hf
  refine lv_aload_n hx hb dX7_takesAll_10 rfl (lv_at hl 0 rfl) ?_
  refine lv_aload_n hx hb dX7_takesAll_11 rfl (lv_at hl 1 rfl) ?_
  refine lv_iload_n hx hb dX7_takesAll_12 rfl (lv_at hl 2 rfl) ?_
  obtain ⟨u3, hu3, hf⟩ := bd_use hf
  refine r_cvT (rest := [.ref (Ea E 12 0)]) C h (c_J0_charAt_5068e hw hu3) hw gX7_takesAll_J0_charAt_5068e rfl ⟨rfl, rfl⟩ hdJ0_charAt_5068e ⟨Nat.le_of_ble_eq_true rfl, Nat.le_of_ble_eq_true rfl⟩ ⟨Nat.zero_le _, Nat.zero_le _⟩ hl.1 rfl (Nat.le_of_ble_eq_true rfl) dX7_takesAll_13 (fun H locs h => ?_)
  obtain ⟨u4, hu4, hf⟩ := bd_use hf
  refine r_cv_7 (rest := []) C h (c_X7_takes  hu4) (rfl : Kd 12 = 7) gX7_takesAll_X7_takes rfl ⟨rfl, rfl⟩ hdX7_takes ⟨Nat.le_of_ble_eq_true rfl, Nat.le_of_ble_eq_true rfl⟩ ⟨Nat.zero_le _, Nat.zero_le _⟩ hl.1 rfl (Nat.le_of_ble_eq_true rfl) dX7_takesAll_16 (fun H locs h => ?_)
  refine lv_if_ne (tgt := 24) hx hb dX7_takesAll_19 (by decide) (fun c5 => ?_) (fun c5 => ?_)
  · replace hf := it_f c5 hf
    obtain ⟨x6, ex6⟩ : ∃ y : Int32, y = (v2 + (1 : Int32)) := ⟨_, rfl⟩
    refine lv_iinc (v := x6) (lv' := [(2, .int x6), (0, .ref (Ea E 12 0)), (1, .ref (Ek E w))]) hx hb dX7_takesAll_24 hl (k := 2) rfl (by rw [ex6]; rfl) (by decide) rfl (fun ls hl => ?_)
    replace hf := lt_use ex6 hf
    clear ex6
    refine lv_goto (tgt := 2) hx hb dX7_takesAll_27 (by decide) ?_
    exact hk2 _ _ _ _ h ls (lv_sub hl [1, 2, 0] rfl) hf
  replace hf := it_t c5 hf
  refine lv_iconst (v := (0 : Int32)) hx hb dX7_takesAll_22 (by decide) ?_
  replace hf := Option.some.inj hf
  subst hf
  exact r_zre (v := (0 : Int32)) C h rfl dX7_takesAll_23
set_option maxHeartbeats 4000000 in
set_option maxRecDepth 100000 in
theorem w_X7_takesAll_2L {p : Program} {l : Launch} {e : Env} {s : State} {m : MethodId} {args : Array Value} {below : List Frame} {meth : Method} {c : Code} {E : Ev} {σ : Ms} {ℓ : Mz} {w : Nat} {out : Int32 × Mm} (hw : w < 5)   (C : Cx cX7_takesAll 3 (some .boolean) wsX7_takesAll RX7 E p s m args meth c)  : ∀ (n9 : Nat) (τ : Mm) (v2 : Int32) (H : Heap) (locs : List Loc) (h : HI E (va_up σ 12 τ) ℓ s H locs) (ls : Array Slot) (hl : lv_has ls 3 [(0, .ref (Ea E 12 0)), (1, .ref (Ek E w)), (2, .int v2)]), f_X7_takesAll_2L w  n9 τ v2 = some out → W p l e rm_X7_takesAll s m args below meth c H locs 0 0 (MQ below (Po E s.heap.size (some (.int out.1)) (va_up σ 12 out.2) ℓ) args s 0 0 (AA E s.heap.size)) (F0 m 2 ls []) := by
  intro n9
  induction n9 with
  | zero =>
    intro τ v2 H locs h ls hl hf
    cases (show (none : Option (Int32 × Mm)) = some out from hf)
  | succ n9 ih =>
    intro τ v2 H locs h ls hl hf
    exact w_X7_takesAll_2 hw  C  ih τ v2 H locs h ls hl hf
set_option maxHeartbeats 4000000 in
set_option maxRecDepth 100000 in
theorem w_X7_takesAll_0 {p : Program} {l : Launch} {e : Env} {s : State} {m : MethodId} {args : Array Value} {below : List Frame} {meth : Method} {c : Code} {E : Ev} {σ : Ms} {ℓ : Mz} {w : Nat} {out : Int32 × Mm} (hw : w < 5)   (C : Cx cX7_takesAll 3 (some .boolean) wsX7_takesAll RX7 E p s m args meth c)  : ∀ (τ : Mm) (H : Heap) (locs : List Loc) (h : HI E (va_up σ 12 τ) ℓ s H locs) (ls : Array Slot) (hl : lv_has ls 3 [(0, .ref (Ea E 12 0)), (1, .ref (Ek E w))]), f_X7_takesAll_0 w  τ = some out → W p l e rm_X7_takesAll s m args below meth c H locs 0 0 (MQ below (Po E s.heap.size (some (.int out.1)) (va_up σ 12 out.2) ℓ) args s 0 0 (AA E s.heap.size)) (F0 m 0 ls []) := by
  intro τ H locs h ls hl hf
  unfold f_X7_takesAll_0 at hf
  have C0 := C
  obtain ⟨hx, hb, hr, hml, hown, hts, hlk, hK, hSF⟩ := C0
  refine lv_iconst (v := (0 : Int32)) hx hb dX7_takesAll_0 (by decide) ?_
  refine lv_istore_n (lv' := [(2, .int (0 : Int32)), (0, .ref (Ea E 12 0)), (1, .ref (Ek E w))]) hx hb dX7_takesAll_1 rfl hl (by decide) rfl (fun ls hl => ?_)
  exact w_X7_takesAll_2L hw   C  _ _ _ _ _ h ls (lv_sub hl [1, 2, 0] rfl) hf
theorem c_X7_takesAll {l : Launch} {E : Ev} {σ : Ms} {ℓ : Mz} {τ : Mm} {w : Nat} (hw : w < 5) {out : Int32 × Mm} (hf : f_X7_takesAll τ w = some out) : Ct l yX7_takesAll wsX7_takesAll rm_X7_takesAll [.ref (Ea E 12 0), .ref (Ek E w)] E (va_up σ 12 τ) ℓ (some (.int out.1)) (va_up σ 12 out.2) ℓ := by
  refine Ct_mk (cc := cX7_takesAll) (mL := 3) (ret := (some .boolean)) (own := RX7) (by decide +kernel) rfl rfl (Nat.le_of_ble_eq_true rfl) (fun p e s m below meth c C h ls hl => ?_)
  exact w_X7_takesAll_0 hw C τ _ _ h ls (lv_sub hl [0, 1] rfl) hf
theorem k_X7_takesAll {l : Launch} {E : Ev} {σ : Ms} {ℓ : Mz} {τ : Mm} {w : Nat} (hw : w < 5) (hτ : σ 12 = τ) {out : Int32 × Mm} (hf : f_X7_takesAll τ w = some out) : Ct l yX7_takesAll wsX7_takesAll rm_X7_takesAll [.ref (Ea E 12 0), .ref (Ek E w)] E σ ℓ (some (.int out.1)) (va_up σ 12 out.2) ℓ := by
  subst hτ
  have h := c_X7_takesAll (l := l) (E := E) (σ := σ) (ℓ := ℓ) hw hf
  rw [up_id σ 12] at h
  exact h
theorem hdX7_rest : yX7_rest.cls = RX7 ∧ yX7_rest.cls ≠ "java/lang/invoke/MethodHandle" ∧ yX7_rest.cls ≠ "java/lang/invoke/VarHandle" ∧ (parseMethodDescriptor yX7_rest.desc).map (fun d => d.parameters.length) = some 0 := by decide +kernel
def rm_X7_rest : Room := { frames := 5, cells := 0, slots := 0, locals := 107 }
set_option maxRecDepth 100000 in
theorem inX7_rest_7 : ∀ w ∈ wsX70, w ∈ wsX7_rest := fun _ h => List.mem_cons_of_mem _ (List.mem_append_left _ (List.mem_append_right _ h))
set_option maxRecDepth 100000 in
theorem lkX7_rest_25 : Cond.fieldLink RX7 25 "BellsBelow$Text" "house" "LBellsBelow$House;" ∈ wsX7_rest := by decide +kernel
set_option maxRecDepth 100000 in
theorem inX7_rest_2 : ∀ w ∈ wsX20, w ∈ wsX7_rest := fun _ h => List.mem_cons_of_mem _ (List.mem_append_right _ h)
set_option maxRecDepth 100000 in
theorem lkX7_rest_67 : Cond.fieldLink RX7 67 "BellsBelow$House" "rest" "I" ∈ wsX7_rest := by decide +kernel
set_option maxHeartbeats 4000000 in
set_option maxRecDepth 100000 in
theorem w_X7_rest_0 {p : Program} {l : Launch} {e : Env} {s : State} {m : MethodId} {args : Array Value} {below : List Frame} {meth : Method} {c : Code} {E : Ev} {ℓ : Mz} {out : Int32 × Mm × Ms}   (C : Cx cX7_rest 2 (some .boolean) wsX7_rest RX7 E p s m args meth c)  : ∀ (τ : Mm) (hs : Ms) (H : Heap) (locs : List Loc) (h : HI E (va_up hs 12 τ) ℓ s H locs) (ls : Array Slot) (hl : lv_has ls 2 [(0, .ref (Ea E 12 0))]), f_X7_rest_0   τ hs = some out → W p l e rm_X7_rest s m args below meth c H locs 0 0 (MQ below (Po E s.heap.size (some (.int out.1)) (va_up out.2.2 12 out.2.1) ℓ) args s 0 0 (AA E s.heap.size)) (F0 m 0 ls []) := by
  intro τ hs H locs h ls hl hf
  unfold f_X7_rest_0 at hf
  have C0 := C
  obtain ⟨hx, hb, hr, hml, hown, hts, hlk, hK, hSF⟩ := C0
  refine lv_aload_n hx hb dX7_rest_0 rfl (lv_at hl 0 rfl) ?_
  refine va_ldcS hx hb hown (hSF.2.2.2.2.2.1 2 (by decide)) dX7_rest_1 ?_
  obtain ⟨u1, hu1, hf⟩ := bd_use hf
  refine r_cv_7 (rest := []) C h (c_X7_takesAll (by decide) hu1) (rfl : Kd 12 = 7) gX7_rest_X7_takesAll rfl ⟨rfl, rfl⟩ hdX7_takesAll ⟨Nat.le_of_ble_eq_true rfl, Nat.le_of_ble_eq_true rfl⟩ ⟨Nat.zero_le _, Nat.zero_le _⟩ hl.1 rfl (Nat.le_of_ble_eq_true rfl) dX7_rest_3 (fun H locs h => ?_)
  refine lv_if_ne (tgt := 11) hx hb dX7_rest_6 (by decide) (fun c2 => ?_) (fun c2 => ?_)
  · replace hf := it_f c2 hf
    refine lv_aload_n hx hb dX7_rest_11 rfl (lv_at hl 0 rfl) ?_
    obtain ⟨u3, hu3, hf⟩ := bd_use hf
    refine r_cv_7 (rest := []) C h (c_X7_number  hu3) (rfl : Kd 12 = 7) gX7_rest_X7_number rfl ⟨rfl, rfl⟩ hdX7_number ⟨Nat.le_of_ble_eq_true rfl, Nat.le_of_ble_eq_true rfl⟩ ⟨Nat.zero_le _, Nat.zero_le _⟩ hl.1 rfl (Nat.le_of_ble_eq_true rfl) dX7_rest_12 (fun H locs h => ?_)
    refine lv_istore_n (lv' := [(1, .int u3.1), (0, .ref (Ea E 12 0))]) hx hb dX7_rest_15 rfl hl (by decide) rfl (fun ls hl => ?_)
    refine lv_iload_n hx hb dX7_rest_16 rfl (lv_at hl 0 rfl) ?_
    refine lv_if_ge (tgt := 22) hx hb dX7_rest_17 (by decide) (fun c4 => ?_) (fun c4 => ?_)
    · replace hf := it_t c4 hf
      refine lv_aload_n hx hb dX7_rest_22 rfl (lv_at hl 1 rfl) ?_
      refine gf_7_4 C h (rfl : Kd 12 = 7) up_eq inX7_rest_7 lkX7_rest_25 dX7_rest_23 ?_
      obtain ⟨g5, hf⟩ := gd_use hf
      refine r_top (hr_nn g5) ?_
      refine lv_iload_n hx hb dX7_rest_26 rfl (lv_at hl 0 rfl) ?_
      refine pf_2_2 C h (inH_k g5) (up_nk (inH_k g5) (rfl : Kd 12 = 7) (by decide)) (F := fun t => va_up (va_up hs (u3.2 4 0).toNatClampNeg t) 12 u3.2) (fun _ => up_cm (kd_ne (rfl : Kd 12 = 7) (inH_k g5) (by decide))) inX7_rest_2 lkX7_rest_67 dX7_rest_27 (fun χ6 eχ6 H locs h => ?_)
      replace hf := lt_use eχ6 hf
      clear eχ6
      obtain ⟨hs7, ehs7⟩ : ∃ z, z = va_up hs (u3.2 4 0).toNatClampNeg χ6 := ⟨_, rfl⟩
      replace hf := lt_use ehs7 hf
      rw [← ehs7] at h
      clear ehs7
      refine lv_iconst (v := (1 : Int32)) hx hb dX7_rest_30 (by decide) ?_
      replace hf := Option.some.inj hf
      subst hf
      exact r_zre (v := (1 : Int32)) C h rfl dX7_rest_31
    replace hf := it_f c4 hf
    refine lv_iconst (v := (0 : Int32)) hx hb dX7_rest_20 (by decide) ?_
    replace hf := Option.some.inj hf
    subst hf
    exact r_zre (v := (0 : Int32)) C h rfl dX7_rest_21
  replace hf := it_t c2 hf
  refine lv_iconst (v := (0 : Int32)) hx hb dX7_rest_9 (by decide) ?_
  replace hf := Option.some.inj hf
  subst hf
  exact r_zre (v := (0 : Int32)) C h rfl dX7_rest_10
theorem c_X7_rest {l : Launch} {E : Ev} {ℓ : Mz} {τ : Mm} {hs : Ms} {out : Int32 × Mm × Ms} (hf : f_X7_rest τ hs = some out) : Ct l yX7_rest wsX7_rest rm_X7_rest [.ref (Ea E 12 0)] E (va_up hs 12 τ) ℓ (some (.int out.1)) (va_up out.2.2 12 out.2.1) ℓ := by
  refine Ct_mk (cc := cX7_rest) (mL := 2) (ret := (some .boolean)) (own := RX7) (by decide +kernel) rfl rfl (Nat.le_of_ble_eq_true rfl) (fun p e s m below meth c C h ls hl => ?_)
  exact w_X7_rest_0  C τ hs _ _ h ls (lv_sub hl [0] rfl) hf
theorem k_X7_rest {l : Launch} {E : Ev} {σ : Ms} {ℓ : Mz}  {out : Int32 × Mm × Ms} (hf : f_X7_rest (σ 12) σ = some out) : Ct l yX7_rest wsX7_rest rm_X7_rest [.ref (Ea E 12 0)] E σ ℓ (some (.int out.1)) (va_up out.2.2 12 out.2.1) ℓ := by
  have h := c_X7_rest (l := l) (E := E) (ℓ := ℓ)  hf
  rw [up_id σ 12] at h
  exact h
theorem hdX7_clause : yX7_clause.cls = RX7 ∧ yX7_clause.cls ≠ "java/lang/invoke/MethodHandle" ∧ yX7_clause.cls ≠ "java/lang/invoke/VarHandle" ∧ (parseMethodDescriptor yX7_clause.desc).map (fun d => d.parameters.length) = some 0 := by decide +kernel
def rm_X7_clause : Room := { frames := 58, cells := 0, slots := 0, locals := 2382 }
set_option maxRecDepth 100000 in
theorem inX7_clause_7 : ∀ w ∈ wsX70, w ∈ wsX7_clause := fun _ h => List.mem_cons_of_mem _ (List.mem_append_left _ (List.mem_append_right _ h))
set_option maxRecDepth 100000 in
theorem lkX7_clause_22 : Cond.fieldLink RX7 22 "BellsBelow$Text" "place" "I" ∈ wsX7_clause := by decide +kernel
set_option maxRecDepth 100000 in
theorem lkX7_clause_19 : Cond.fieldLink RX7 19 "BellsBelow$Text" "end" "I" ∈ wsX7_clause := by decide +kernel
set_option maxRecDepth 100000 in
theorem lkX7_clause_25 : Cond.fieldLink RX7 25 "BellsBelow$Text" "house" "LBellsBelow$House;" ∈ wsX7_clause := by decide +kernel
set_option maxRecDepth 100000 in
theorem lkX7_clause_9 : Cond.fieldLink RX7 9 "BellsBelow$Text" "signs" "[B" ∈ wsX7_clause := by decide +kernel
set_option maxHeartbeats 4000000 in
set_option maxRecDepth 100000 in
theorem w_X7_clause_73 {p : Program} {l : Launch} {e : Env} {s : State} {m : MethodId} {args : Array Value} {below : List Frame} {meth : Method} {c : Code} {E : Ev} {ℓ : Mz} {out : Int32 × Mm × Ms}  {t1 : Nat} (ht1 : t1 < 5) (C : Cx cX7_clause 3 (some .boolean) wsX7_clause RX7 E p s m args meth c)  : ∀ (τ : Mm) (hs : Ms) (v1 : Int32) (H : Heap) (locs : List Loc) (h : HI E (va_up hs 12 τ) ℓ s H locs) (ls : Array Slot) (hl : lv_has ls 3 [(0, .ref (Ea E 12 0)), (1, .int v1)]), f_X7_clause_73   τ hs v1 t1 = some out → W p l e rm_X7_clause s m args below meth c H locs 0 0 (MQ below (Po E s.heap.size (some (.int out.1)) (va_up out.2.2 12 out.2.1) ℓ) args s 0 0 (AA E s.heap.size)) (F0 m 73 ls [.ref (Ek E t1), .ref (Ea E 12 0)]) := by
  intro τ hs v1 H locs h ls hl hf
  unfold f_X7_clause_73 at hf
  have C0 := C
  obtain ⟨hx, hb, hr, hml, hown, hts, hlk, hK, hSF⟩ := C0
  obtain ⟨u4, hu4, hf⟩ := bd_use hf
  refine r_cv_7 (rest := []) C h (c_X7_takesAll ht1 hu4) (rfl : Kd 12 = 7) gX7_clause_X7_takesAll rfl ⟨rfl, rfl⟩ hdX7_takesAll ⟨Nat.le_of_ble_eq_true rfl, Nat.le_of_ble_eq_true rfl⟩ ⟨Nat.zero_le _, Nat.zero_le _⟩ hl.1 rfl (Nat.le_of_ble_eq_true rfl) dX7_clause_73 (fun H locs h => ?_)
  refine lv_if_ne (tgt := 81) hx hb dX7_clause_76 (by decide) (fun c5 => ?_) (fun c5 => ?_)
  · replace hf := it_f c5 hf
    refine lv_aload_n hx hb dX7_clause_81 rfl (lv_at hl 0 rfl) ?_
    obtain ⟨u6, hu6, hf⟩ := bd_use hf
    refine r_cv_7 (rest := []) C h (c_X7_number  hu6) (rfl : Kd 12 = 7) gX7_clause_X7_number rfl ⟨rfl, rfl⟩ hdX7_number ⟨Nat.le_of_ble_eq_true rfl, Nat.le_of_ble_eq_true rfl⟩ ⟨Nat.zero_le _, Nat.zero_le _⟩ hl.1 rfl (Nat.le_of_ble_eq_true rfl) dX7_clause_82 (fun H locs h => ?_)
    refine lv_istore_n (lv' := [(2, .int u6.1), (0, .ref (Ea E 12 0)), (1, .int v1)]) hx hb dX7_clause_85 rfl hl (by decide) rfl (fun ls hl => ?_)
    refine lv_iload_n hx hb dX7_clause_86 rfl (lv_at hl 0 rfl) ?_
    refine lv_if_lt (tgt := 107) hx hb dX7_clause_87 (by decide) (fun c7 => ?_) (fun c7 => ?_)
    · replace hf := it_t c7 hf
      refine lv_iconst (v := (0 : Int32)) hx hb dX7_clause_107 (by decide) ?_
      replace hf := Option.some.inj hf
      subst hf
      exact r_zre (v := (0 : Int32)) C h rfl dX7_clause_108
    replace hf := it_f c7 hf
    refine lv_aload_n hx hb dX7_clause_90 rfl (lv_at hl 1 rfl) ?_
    refine lv_bipush (v := (32 : Int32)) hx hb dX7_clause_91 (by decide) ?_
    obtain ⟨u8, hu8, hf⟩ := bd_use hf
    refine r_cv_7 (rest := []) C h (c_X7_takes  hu8) (rfl : Kd 12 = 7) gX7_clause_X7_takes rfl ⟨rfl, rfl⟩ hdX7_takes ⟨Nat.le_of_ble_eq_true rfl, Nat.le_of_ble_eq_true rfl⟩ ⟨Nat.zero_le _, Nat.zero_le _⟩ hl.1 rfl (Nat.le_of_ble_eq_true rfl) dX7_clause_93 (fun H locs h => ?_)
    refine lv_if_eq (tgt := 107) hx hb dX7_clause_96 (by decide) (fun c9 => ?_) (fun c9 => ?_)
    · replace hf := it_t c9 hf
      refine lv_iconst (v := (0 : Int32)) hx hb dX7_clause_107 (by decide) ?_
      replace hf := Option.some.inj hf
      subst hf
      exact r_zre (v := (0 : Int32)) C h rfl dX7_clause_108
    replace hf := it_f c9 hf
    refine lv_aload_n hx hb dX7_clause_99 rfl (lv_at hl 1 rfl) ?_
    refine lv_iconst (v := (0 : Int32)) hx hb dX7_clause_100 (by decide) ?_
    obtain ⟨u10, hu10, hf⟩ := bd_use hf
    refine r_cv_7 (rest := []) C h (c_X7_anyHolds  hu10) (rfl : Kd 12 = 7) gX7_clause_X7_anyHolds rfl ⟨rfl, rfl⟩ hdX7_anyHolds ⟨Nat.le_of_ble_eq_true rfl, Nat.le_of_ble_eq_true rfl⟩ ⟨Nat.zero_le _, Nat.zero_le _⟩ hl.1 rfl (Nat.le_of_ble_eq_true rfl) dX7_clause_101 (fun H locs h => ?_)
    refine lv_if_ne (tgt := 109) hx hb dX7_clause_104 (by decide) (fun c11 => ?_) (fun c11 => ?_)
    · replace hf := it_f c11 hf
      refine lv_aload_n hx hb dX7_clause_109 rfl (lv_at hl 1 rfl) ?_
      refine gf_7_4 C h (rfl : Kd 12 = 7) up_eq inX7_clause_7 lkX7_clause_25 dX7_clause_110 ?_
      obtain ⟨g12, hf⟩ := gd_use hf
      refine r_top (hr_nn g12) ?_
      refine lv_iload_n hx hb dX7_clause_113 rfl (lv_at hl 2 rfl) ?_
      refine lv_if_eq (tgt := 123) hx hb dX7_clause_114 (by decide) (fun c13 => ?_) (fun c13 => ?_)
      · replace hf := it_t c13 hf
        refine lv_sipush (v := (1900 : Int32)) hx hb dX7_clause_123 (by decide) ?_
        refine lv_iload_n hx hb dX7_clause_126 rfl (lv_at hl 0 rfl) ?_
        refine lv_iadd hx hb dX7_clause_127 ?_
        obtain ⟨u14, hu14, hf⟩ := bd_use hf
        refine r_cv_2 (rest := []) C h (k_X2_adds (inH_k g12) (up_nk (inH_k g12) (rfl : Kd 12 = 7) (by decide)) hu14) (inH_k g12) gX7_clause_X2_adds rfl ⟨rfl, rfl⟩ hdX2_adds ⟨Nat.le_of_ble_eq_true rfl, Nat.le_of_ble_eq_true rfl⟩ ⟨Nat.zero_le _, Nat.zero_le _⟩ hl.1 rfl (Nat.le_of_ble_eq_true rfl) dX7_clause_128 (fun H locs h => ?_)
        rw [up_cm (kd_ne (rfl : Kd 12 = 7) (inH_k g12) (by decide))] at h
        obtain ⟨hs15, ehs15⟩ : ∃ z, z = va_up u10.2.2 ((u10.2.1 4 0).toNatClampNeg) u14 := ⟨_, rfl⟩
        replace hf := lt_use ehs15 hf
        rw [← ehs15] at h
        clear ehs15
        refine lv_iconst (v := (1 : Int32)) hx hb dX7_clause_131 (by decide) ?_
        replace hf := Option.some.inj hf
        subst hf
        exact r_zre (v := (1 : Int32)) C h rfl dX7_clause_132
      replace hf := it_f c13 hf
      refine lv_sipush (v := (2000 : Int32)) hx hb dX7_clause_117 (by decide) ?_
      refine lv_goto (tgt := 126) hx hb dX7_clause_120 (by decide) ?_
      refine lv_iload_n hx hb dX7_clause_126 rfl (lv_at hl 0 rfl) ?_
      refine lv_iadd hx hb dX7_clause_127 ?_
      obtain ⟨u16, hu16, hf⟩ := bd_use hf
      refine r_cv_2 (rest := []) C h (k_X2_adds (inH_k g12) (up_nk (inH_k g12) (rfl : Kd 12 = 7) (by decide)) hu16) (inH_k g12) gX7_clause_X2_adds rfl ⟨rfl, rfl⟩ hdX2_adds ⟨Nat.le_of_ble_eq_true rfl, Nat.le_of_ble_eq_true rfl⟩ ⟨Nat.zero_le _, Nat.zero_le _⟩ hl.1 rfl (Nat.le_of_ble_eq_true rfl) dX7_clause_128 (fun H locs h => ?_)
      rw [up_cm (kd_ne (rfl : Kd 12 = 7) (inH_k g12) (by decide))] at h
      obtain ⟨hs17, ehs17⟩ : ∃ z, z = va_up u10.2.2 ((u10.2.1 4 0).toNatClampNeg) u16 := ⟨_, rfl⟩
      replace hf := lt_use ehs17 hf
      rw [← ehs17] at h
      clear ehs17
      refine lv_iconst (v := (1 : Int32)) hx hb dX7_clause_131 (by decide) ?_
      replace hf := Option.some.inj hf
      subst hf
      exact r_zre (v := (1 : Int32)) C h rfl dX7_clause_132
    replace hf := it_t c11 hf
    refine lv_iconst (v := (0 : Int32)) hx hb dX7_clause_107 (by decide) ?_
    replace hf := Option.some.inj hf
    subst hf
    exact r_zre (v := (0 : Int32)) C h rfl dX7_clause_108
  replace hf := it_t c5 hf
  refine lv_iconst (v := (0 : Int32)) hx hb dX7_clause_79 (by decide) ?_
  replace hf := Option.some.inj hf
  subst hf
  exact r_zre (v := (0 : Int32)) C h rfl dX7_clause_80
set_option maxHeartbeats 4000000 in
set_option maxRecDepth 100000 in
theorem w_X7_clause_60 {p : Program} {l : Launch} {e : Env} {s : State} {m : MethodId} {args : Array Value} {below : List Frame} {meth : Method} {c : Code} {E : Ev} {ℓ : Mz} {out : Int32 × Mm × Ms}   (C : Cx cX7_clause 3 (some .boolean) wsX7_clause RX7 E p s m args meth c)  : ∀ (τ : Mm) (hs : Ms) (w0 : Int32) (H : Heap) (locs : List Loc) (h : HI E (va_up hs 12 τ) ℓ s H locs) (ls : Array Slot) (hl : lv_has ls 3 [(0, .ref (Ea E 12 0))]), f_X7_clause_60   τ hs w0 = some out → W p l e rm_X7_clause s m args below meth c H locs 0 0 (MQ below (Po E s.heap.size (some (.int out.1)) (va_up out.2.2 12 out.2.1) ℓ) args s 0 0 (AA E s.heap.size)) (F0 m 60 ls [.int w0]) := by
  intro τ hs w0 H locs h ls hl hf
  unfold f_X7_clause_60 at hf
  have C0 := C
  obtain ⟨hx, hb, hr, hml, hown, hts, hlk, hK, hSF⟩ := C0
  refine lv_istore_n (lv' := [(1, .int w0), (0, .ref (Ea E 12 0))]) hx hb dX7_clause_60 rfl hl (by decide) rfl (fun ls hl => ?_)
  refine lv_aload_n hx hb dX7_clause_61 rfl (lv_at hl 1 rfl) ?_
  refine lv_iload_n hx hb dX7_clause_62 rfl (lv_at hl 0 rfl) ?_
  refine lv_if_eq (tgt := 71) hx hb dX7_clause_63 (by decide) (fun c3 => ?_) (fun c3 => ?_)
  · replace hf := it_t c3 hf
    refine va_ldcS hx hb hown (hSF.2.2.2.2.2.1 1 (by decide)) dX7_clause_71 ?_
    exact w_X7_clause_73   (by decide) C  _ _ _ _ _ h ls (lv_sub hl [1, 0] rfl) hf
  replace hf := it_f c3 hf
  refine va_ldcS hx hb hown (hSF.2.2.2.2.2.1 0 (by decide)) dX7_clause_66 ?_
  refine lv_goto (tgt := 73) hx hb dX7_clause_68 (by decide) ?_
  exact w_X7_clause_73   (by decide) C  _ _ _ _ _ h ls (lv_sub hl [1, 0] rfl) hf
set_option maxHeartbeats 4000000 in
set_option maxRecDepth 100000 in
theorem w_X7_clause_59 {p : Program} {l : Launch} {e : Env} {s : State} {m : MethodId} {args : Array Value} {below : List Frame} {meth : Method} {c : Code} {E : Ev} {ℓ : Mz} {out : Int32 × Mm × Ms}   (C : Cx cX7_clause 3 (some .boolean) wsX7_clause RX7 E p s m args meth c)  : ∀ (τ : Mm) (hs : Ms) (H : Heap) (locs : List Loc) (h : HI E (va_up hs 12 τ) ℓ s H locs) (ls : Array Slot) (hl : lv_has ls 3 [(0, .ref (Ea E 12 0))]), f_X7_clause_59   τ hs = some out → W p l e rm_X7_clause s m args below meth c H locs 0 0 (MQ below (Po E s.heap.size (some (.int out.1)) (va_up out.2.2 12 out.2.1) ℓ) args s 0 0 (AA E s.heap.size)) (F0 m 59 ls []) := by
  intro τ hs H locs h ls hl hf
  unfold f_X7_clause_59 at hf
  have C0 := C
  obtain ⟨hx, hb, hr, hml, hown, hts, hlk, hK, hSF⟩ := C0
  refine lv_iconst (v := (0 : Int32)) hx hb dX7_clause_59 (by decide) ?_
  exact w_X7_clause_60    C  _ _ _ _ _ h ls (lv_sub hl [0] rfl) hf
set_option maxHeartbeats 4000000 in
set_option maxRecDepth 100000 in
theorem w_X7_clause_30 {p : Program} {l : Launch} {e : Env} {s : State} {m : MethodId} {args : Array Value} {below : List Frame} {meth : Method} {c : Code} {E : Ev} {ℓ : Mz} {out : Int32 × Mm × Ms}   (C : Cx cX7_clause 3 (some .boolean) wsX7_clause RX7 E p s m args meth c)  : ∀ (τ : Mm) (hs : Ms) (H : Heap) (locs : List Loc) (h : HI E (va_up hs 12 τ) ℓ s H locs) (ls : Array Slot) (hl : lv_has ls 3 [(0, .ref (Ea E 12 0))]), f_X7_clause_30   τ hs = some out → W p l e rm_X7_clause s m args below meth c H locs 0 0 (MQ below (Po E s.heap.size (some (.int out.1)) (va_up out.2.2 12 out.2.1) ℓ) args s 0 0 (AA E s.heap.size)) (F0 m 30 ls []) := by
  intro τ hs H locs h ls hl hf
  unfold f_X7_clause_30 at hf
  have C0 := C
  obtain ⟨hx, hb, hr, hml, hown, hts, hlk, hK, hSF⟩ := C0
  refine lv_aload_n hx hb dX7_clause_30 rfl (lv_at hl 0 rfl) ?_
  refine gf_7_2 C h (rfl : Kd 12 = 7) up_eq inX7_clause_7 lkX7_clause_22 dX7_clause_31 ?_
  refine lv_aload_n hx hb dX7_clause_34 rfl (lv_at hl 0 rfl) ?_
  refine gf_7_3 C h (rfl : Kd 12 = 7) up_eq inX7_clause_7 lkX7_clause_19 dX7_clause_35 ?_
  refine lv_icmp_ge (tgt := 59) hx hb dX7_clause_38 (by decide) (fun c2 => ?_) (fun c2 => ?_)
  · replace hf := it_t c2 hf
    exact w_X7_clause_59    C  _ _ _ _ h ls (lv_sub hl [0] rfl) hf
  replace hf := it_f c2 hf
  refine lv_aload_n hx hb dX7_clause_41 rfl (lv_at hl 0 rfl) ?_
  refine gf_7_0 C h (rfl : Kd 12 = 7) up_eq inX7_clause_7 lkX7_clause_9 dX7_clause_42 ?_
  refine lv_aload_n hx hb dX7_clause_45 rfl (lv_at hl 0 rfl) ?_
  refine gf_7_2 C h (rfl : Kd 12 = 7) up_eq inX7_clause_7 lkX7_clause_22 dX7_clause_46 ?_
  obtain ⟨g18, hf⟩ := gd_use hf
  refine ld_7_1 C h (rfl : Kd 12 = 7) up_eq (inB_in g18) dX7_clause_49 ?_
  refine lv_bipush (v := (107 : Int32)) hx hb dX7_clause_50 (by decide) ?_
  refine lv_icmp_ne (tgt := 59) hx hb dX7_clause_52 (by decide) (fun c19 => ?_) (fun c19 => ?_)
  · replace hf := it_f c19 hf
    exact w_X7_clause_59    C  _ _ _ _ h ls (lv_sub hl [0] rfl) hf
  replace hf := it_t c19 hf
  refine lv_iconst (v := (1 : Int32)) hx hb dX7_clause_55 (by decide) ?_
  refine lv_goto (tgt := 60) hx hb dX7_clause_56 (by decide) ?_
  exact w_X7_clause_60    C  _ _ _ _ _ h ls (lv_sub hl [0] rfl) hf
set_option maxHeartbeats 4000000 in
set_option maxRecDepth 100000 in
theorem w_X7_clause_0 {p : Program} {l : Launch} {e : Env} {s : State} {m : MethodId} {args : Array Value} {below : List Frame} {meth : Method} {c : Code} {E : Ev} {ℓ : Mz} {out : Int32 × Mm × Ms}   (C : Cx cX7_clause 3 (some .boolean) wsX7_clause RX7 E p s m args meth c)  : ∀ (τ : Mm) (hs : Ms) (H : Heap) (locs : List Loc) (h : HI E (va_up hs 12 τ) ℓ s H locs) (ls : Array Slot) (hl : lv_has ls 3 [(0, .ref (Ea E 12 0))]), f_X7_clause_0   τ hs = some out → W p l e rm_X7_clause s m args below meth c H locs 0 0 (MQ below (Po E s.heap.size (some (.int out.1)) (va_up out.2.2 12 out.2.1) ℓ) args s 0 0 (AA E s.heap.size)) (F0 m 0 ls []) := by
  intro τ hs H locs h ls hl hf
  unfold f_X7_clause_0 at hf
  have C0 := C
  obtain ⟨hx, hb, hr, hml, hown, hts, hlk, hK, hSF⟩ := C0
  refine lv_aload_n hx hb dX7_clause_0 rfl (lv_at hl 0 rfl) ?_
  refine gf_7_2 C h (rfl : Kd 12 = 7) up_eq inX7_clause_7 lkX7_clause_22 dX7_clause_1 ?_
  refine lv_aload_n hx hb dX7_clause_4 rfl (lv_at hl 0 rfl) ?_
  refine gf_7_3 C h (rfl : Kd 12 = 7) up_eq inX7_clause_7 lkX7_clause_19 dX7_clause_5 ?_
  refine lv_icmp_ge (tgt := 30) hx hb dX7_clause_8 (by decide) (fun c1 => ?_) (fun c1 => ?_)
  · replace hf := it_t c1 hf
    exact w_X7_clause_30    C  _ _ _ _ h ls (lv_sub hl [0] rfl) hf
  replace hf := it_f c1 hf
  refine lv_aload_n hx hb dX7_clause_11 rfl (lv_at hl 0 rfl) ?_
  refine gf_7_0 C h (rfl : Kd 12 = 7) up_eq inX7_clause_7 lkX7_clause_9 dX7_clause_12 ?_
  refine lv_aload_n hx hb dX7_clause_15 rfl (lv_at hl 0 rfl) ?_
  refine gf_7_2 C h (rfl : Kd 12 = 7) up_eq inX7_clause_7 lkX7_clause_22 dX7_clause_16 ?_
  obtain ⟨g20, hf⟩ := gd_use hf
  refine ld_7_1 C h (rfl : Kd 12 = 7) up_eq (inB_in g20) dX7_clause_19 ?_
  refine lv_bipush (v := (114 : Int32)) hx hb dX7_clause_20 (by decide) ?_
  refine lv_icmp_ne (tgt := 30) hx hb dX7_clause_22 (by decide) (fun c21 => ?_) (fun c21 => ?_)
  · replace hf := it_f c21 hf
    exact w_X7_clause_30    C  _ _ _ _ h ls (lv_sub hl [0] rfl) hf
  replace hf := it_t c21 hf
  refine lv_aload_n hx hb dX7_clause_25 rfl (lv_at hl 0 rfl) ?_
  obtain ⟨u22, hu22, hf⟩ := bd_use hf
  refine r_cv_7 (rest := []) C h (c_X7_rest  hu22) (rfl : Kd 12 = 7) gX7_clause_X7_rest rfl ⟨rfl, rfl⟩ hdX7_rest ⟨Nat.le_of_ble_eq_true rfl, Nat.le_of_ble_eq_true rfl⟩ ⟨Nat.zero_le _, Nat.zero_le _⟩ hl.1 rfl (Nat.le_of_ble_eq_true rfl) dX7_clause_26 (fun H locs h => ?_)
  obtain ⟨g23, hf⟩ := gd_use hf
  replace hf := Option.some.inj hf
  subst hf
  exact r_zre C h (isB_use g23) dX7_clause_29
theorem c_X7_clause {l : Launch} {E : Ev} {ℓ : Mz} {τ : Mm} {hs : Ms} {out : Int32 × Mm × Ms} (hf : f_X7_clause τ hs = some out) : Ct l yX7_clause wsX7_clause rm_X7_clause [.ref (Ea E 12 0)] E (va_up hs 12 τ) ℓ (some (.int out.1)) (va_up out.2.2 12 out.2.1) ℓ := by
  refine Ct_mk (cc := cX7_clause) (mL := 3) (ret := (some .boolean)) (own := RX7) (by decide +kernel) rfl rfl (Nat.le_of_ble_eq_true rfl) (fun p e s m below meth c C h ls hl => ?_)
  exact w_X7_clause_0  C τ hs _ _ h ls (lv_sub hl [0] rfl) hf
theorem k_X7_clause {l : Launch} {E : Ev} {σ : Ms} {ℓ : Mz}  {out : Int32 × Mm × Ms} (hf : f_X7_clause (σ 12) σ = some out) : Ct l yX7_clause wsX7_clause rm_X7_clause [.ref (Ea E 12 0)] E σ ℓ (some (.int out.1)) (va_up out.2.2 12 out.2.1) ℓ := by
  have h := c_X7_clause (l := l) (E := E) (ℓ := ℓ)  hf
  rw [up_id σ 12] at h
  exact h
theorem hdX7_makes : yX7_makes.cls = RX7 ∧ yX7_makes.cls ≠ "java/lang/invoke/MethodHandle" ∧ yX7_makes.cls ≠ "java/lang/invoke/VarHandle" ∧ (parseMethodDescriptor yX7_makes.desc).map (fun d => d.parameters.length) = some 1 := by decide +kernel
def rm_X7_makes : Room := { frames := 59, cells := 0, slots := 0, locals := 2404 }
set_option maxRecDepth 100000 in
theorem inX7_makes_7 : ∀ w ∈ wsX70, w ∈ wsX7_makes := fun _ h => List.mem_cons_of_mem _ (List.mem_append_left _ (List.mem_append_right _ h))
set_option maxRecDepth 100000 in
theorem lkX7_makes_15 : Cond.fieldLink RX7 15 "BellsBelow$Text" "length" "I" ∈ wsX7_makes := by decide +kernel
set_option maxRecDepth 100000 in
theorem lkX7_makes_19 : Cond.fieldLink RX7 19 "BellsBelow$Text" "end" "I" ∈ wsX7_makes := by decide +kernel
set_option maxRecDepth 100000 in
theorem lkX7_makes_22 : Cond.fieldLink RX7 22 "BellsBelow$Text" "place" "I" ∈ wsX7_makes := by decide +kernel
set_option maxRecDepth 100000 in
theorem lkX7_makes_25 : Cond.fieldLink RX7 25 "BellsBelow$Text" "house" "LBellsBelow$House;" ∈ wsX7_makes := by decide +kernel
set_option maxHeartbeats 4000000 in
set_option maxRecDepth 100000 in
theorem w_X7_makes_29 {p : Program} {l : Launch} {e : Env} {s : State} {m : MethodId} {args : Array Value} {below : List Frame} {meth : Method} {c : Code} {E : Ev} {ℓ : Mz} {q : Nat} {out : Int32 × Mm × Ms} (hq : Kd q = 2)   (C : Cx cX7_makes 3 (some .boolean) wsX7_makes RX7 E p s m args meth c) {k29 : Mm → Ms → Int32 → Option (Int32 × Mm × Ms)} (hk29 : ∀ (τ : Mm) (hs : Ms) (v2 : Int32) (H : Heap) (locs : List Loc), HI E (va_up hs 12 τ) ℓ s H locs → ∀ ls : Array Slot, lv_has ls 3 [(0, .ref (Ea E 12 0)), (2, .int v2)] → k29 τ hs v2 = some out → W p l e rm_X7_makes s m args below meth c H locs 0 0 (MQ below (Po E s.heap.size (some (.int out.1)) (va_up out.2.2 12 out.2.1) ℓ) args s 0 0 (AA E s.heap.size)) (F0 m 29 ls [])) : ∀ (τ : Mm) (hs : Ms) (v2 : Int32) (H : Heap) (locs : List Loc) (h : HI E (va_up hs 12 τ) ℓ s H locs) (ls : Array Slot) (hl : lv_has ls 3 [(0, .ref (Ea E 12 0)), (2, .int v2)]), f_X7_makes_29 q k29 τ hs v2 = some out → W p l e rm_X7_makes s m args below meth c H locs 0 0 (MQ below (Po E s.heap.size (some (.int out.1)) (va_up out.2.2 12 out.2.1) ℓ) args s 0 0 (AA E s.heap.size)) (F0 m 29 ls []) := by
  intro τ hs v2 H locs h ls hl hf
  unfold f_X7_makes_29 at hf
  have C0 := C
  obtain ⟨hx, hb, hr, hml, hown, hts, hlk, hK, hSF⟩ := C0
  refine lv_iload_n hx hb dX7_makes_29 rfl (lv_at hl 1 rfl) ?_
  refine lv_bipush (v := (10 : Int32)) hx hb dX7_makes_30 (by decide) ?_
  refine lv_icmp_gt (tgt := 80) hx hb dX7_makes_32 (by decide) (fun c7 => ?_) (fun c7 => ?_)
  · replace hf := it_t c7 hf
    refine lv_iconst (v := (0 : Int32)) hx hb dX7_makes_80 (by decide) ?_
    replace hf := Option.some.inj hf
    subst hf
    exact r_zre (v := (0 : Int32)) C h rfl dX7_makes_81
  replace hf := it_f c7 hf
  refine lv_aload_n hx hb dX7_makes_35 rfl (lv_at hl 0 rfl) ?_
  obtain ⟨u8, hu8, hf⟩ := bd_use hf
  refine r_cv_7 (rest := []) C h (c_X7_clause  hu8) (rfl : Kd 12 = 7) gX7_makes_X7_clause rfl ⟨rfl, rfl⟩ hdX7_clause ⟨Nat.le_of_ble_eq_true rfl, Nat.le_of_ble_eq_true rfl⟩ ⟨Nat.zero_le _, Nat.zero_le _⟩ hl.1 rfl (Nat.le_of_ble_eq_true rfl) dX7_makes_36 (fun H locs h => ?_)
  refine lv_if_ne (tgt := 44) hx hb dX7_makes_39 (by decide) (fun c9 => ?_) (fun c9 => ?_)
  · replace hf := it_f c9 hf
    refine lv_aload_n hx hb dX7_makes_44 rfl (lv_at hl 0 rfl) ?_
    refine gf_7_2 C h (rfl : Kd 12 = 7) up_eq inX7_makes_7 lkX7_makes_22 dX7_makes_45 ?_
    refine lv_aload_n hx hb dX7_makes_48 rfl (lv_at hl 0 rfl) ?_
    refine gf_7_3 C h (rfl : Kd 12 = 7) up_eq inX7_makes_7 lkX7_makes_19 dX7_makes_49 ?_
    refine lv_icmp_ne (tgt := 57) hx hb dX7_makes_52 (by decide) (fun c10 => ?_) (fun c10 => ?_)
    · replace hf := it_f c10 hf
      refine lv_iload_n hx hb dX7_makes_57 rfl (lv_at hl 1 rfl) ?_
      refine lv_bipush (v := (10 : Int32)) hx hb dX7_makes_58 (by decide) ?_
      refine lv_icmp_eq (tgt := 72) hx hb dX7_makes_60 (by decide) (fun c11 => ?_) (fun c11 => ?_)
      · replace hf := it_t c11 hf
        refine lv_iconst (v := (0 : Int32)) hx hb dX7_makes_72 (by decide) ?_
        replace hf := Option.some.inj hf
        subst hf
        exact r_zre (v := (0 : Int32)) C h rfl dX7_makes_73
      replace hf := it_f c11 hf
      refine lv_aload_n hx hb dX7_makes_63 rfl (lv_at hl 0 rfl) ?_
      refine lv_bipush (v := (59 : Int32)) hx hb dX7_makes_64 (by decide) ?_
      obtain ⟨u12, hu12, hf⟩ := bd_use hf
      refine r_cv_7 (rest := []) C h (c_X7_takes  hu12) (rfl : Kd 12 = 7) gX7_makes_X7_takes rfl ⟨rfl, rfl⟩ hdX7_takes ⟨Nat.le_of_ble_eq_true rfl, Nat.le_of_ble_eq_true rfl⟩ ⟨Nat.zero_le _, Nat.zero_le _⟩ hl.1 rfl (Nat.le_of_ble_eq_true rfl) dX7_makes_66 (fun H locs h => ?_)
      refine lv_if_ne (tgt := 74) hx hb dX7_makes_69 (by decide) (fun c13 => ?_) (fun c13 => ?_)
      · replace hf := it_f c13 hf
        obtain ⟨x14, ex14⟩ : ∃ y : Int32, y = (v2 + (1 : Int32)) := ⟨_, rfl⟩
        refine lv_iinc (v := x14) (lv' := [(2, .int x14), (0, .ref (Ea E 12 0))]) hx hb dX7_makes_74 hl (k := 1) rfl (by rw [ex14]; rfl) (by decide) rfl (fun ls hl => ?_)
        replace hf := lt_use ex14 hf
        clear ex14
        refine lv_goto (tgt := 29) hx hb dX7_makes_77 (by decide) ?_
        exact hk29 _ _ _ _ _ h ls (lv_sub hl [1, 0] rfl) hf
      replace hf := it_t c13 hf
      refine lv_iconst (v := (0 : Int32)) hx hb dX7_makes_72 (by decide) ?_
      replace hf := Option.some.inj hf
      subst hf
      exact r_zre (v := (0 : Int32)) C h rfl dX7_makes_73
    replace hf := it_t c10 hf
    refine lv_iconst (v := (1 : Int32)) hx hb dX7_makes_55 (by decide) ?_
    replace hf := Option.some.inj hf
    subst hf
    exact r_zre (v := (1 : Int32)) C h rfl dX7_makes_56
  replace hf := it_t c9 hf
  refine lv_iconst (v := (0 : Int32)) hx hb dX7_makes_42 (by decide) ?_
  replace hf := Option.some.inj hf
  subst hf
  exact r_zre (v := (0 : Int32)) C h rfl dX7_makes_43
set_option maxHeartbeats 4000000 in
set_option maxRecDepth 100000 in
theorem w_X7_makes_29L {p : Program} {l : Launch} {e : Env} {s : State} {m : MethodId} {args : Array Value} {below : List Frame} {meth : Method} {c : Code} {E : Ev} {ℓ : Mz} {q : Nat} {out : Int32 × Mm × Ms} (hq : Kd q = 2)   (C : Cx cX7_makes 3 (some .boolean) wsX7_makes RX7 E p s m args meth c)  : ∀ (n9 : Nat) (τ : Mm) (hs : Ms) (v2 : Int32) (H : Heap) (locs : List Loc) (h : HI E (va_up hs 12 τ) ℓ s H locs) (ls : Array Slot) (hl : lv_has ls 3 [(0, .ref (Ea E 12 0)), (2, .int v2)]), f_X7_makes_29L q  n9 τ hs v2 = some out → W p l e rm_X7_makes s m args below meth c H locs 0 0 (MQ below (Po E s.heap.size (some (.int out.1)) (va_up out.2.2 12 out.2.1) ℓ) args s 0 0 (AA E s.heap.size)) (F0 m 29 ls []) := by
  intro n9
  induction n9 with
  | zero =>
    intro τ hs v2 H locs h ls hl hf
    cases (show (none : Option (Int32 × Mm × Ms)) = some out from hf)
  | succ n9 ih =>
    intro τ hs v2 H locs h ls hl hf
    exact w_X7_makes_29 hq  C  ih τ hs v2 H locs h ls hl hf
set_option maxHeartbeats 4000000 in
set_option maxRecDepth 100000 in
theorem w_X7_makes_0 {p : Program} {l : Launch} {e : Env} {s : State} {m : MethodId} {args : Array Value} {below : List Frame} {meth : Method} {c : Code} {E : Ev} {ℓ : Mz} {q : Nat} {out : Int32 × Mm × Ms} (hq : Kd q = 2)   (C : Cx cX7_makes 3 (some .boolean) wsX7_makes RX7 E p s m args meth c)  : ∀ (τ : Mm) (hs : Ms) (H : Heap) (locs : List Loc) (h : HI E (va_up hs 12 τ) ℓ s H locs) (ls : Array Slot) (hl : lv_has ls 3 [(0, .ref (Ea E 12 0)), (1, .ref (Ea E q 0))]), f_X7_makes_0 q  τ hs = some out → W p l e rm_X7_makes s m args below meth c H locs 0 0 (MQ below (Po E s.heap.size (some (.int out.1)) (va_up out.2.2 12 out.2.1) ℓ) args s 0 0 (AA E s.heap.size)) (F0 m 0 ls []) := by
  intro τ hs H locs h ls hl hf
  unfold f_X7_makes_0 at hf
  have C0 := C
  obtain ⟨hx, hb, hr, hml, hown, hts, hlk, hK, hSF⟩ := C0
  refine lv_aload_n hx hb dX7_makes_0 rfl (lv_at hl 0 rfl) ?_
  refine lv_aload_n hx hb dX7_makes_1 rfl (lv_at hl 0 rfl) ?_
  refine gf_7_1 C h (rfl : Kd 12 = 7) up_eq inX7_makes_7 lkX7_makes_15 dX7_makes_2 ?_
  refine pf_7_3 C h (rfl : Kd 12 = 7) up_eq (F := fun t => va_up hs 12 t) (fun _ => up_up) inX7_makes_7 lkX7_makes_19 dX7_makes_5 (fun τ1 eτ1 H locs h => ?_)
  replace hf := lt_use eτ1 hf
  clear eτ1
  refine lv_aload_n hx hb dX7_makes_8 rfl (lv_at hl 0 rfl) ?_
  refine lv_iconst (v := (0 : Int32)) hx hb dX7_makes_9 (by decide) ?_
  refine pf_7_1 C h (rfl : Kd 12 = 7) up_eq (F := fun t => va_up hs 12 t) (fun _ => up_up) inX7_makes_7 lkX7_makes_15 dX7_makes_10 (fun τ2 eτ2 H locs h => ?_)
  replace hf := lt_use eτ2 hf
  clear eτ2
  refine lv_aload_n hx hb dX7_makes_13 rfl (lv_at hl 0 rfl) ?_
  refine lv_iconst (v := (0 : Int32)) hx hb dX7_makes_14 (by decide) ?_
  refine pf_7_2 C h (rfl : Kd 12 = 7) up_eq (F := fun t => va_up hs 12 t) (fun _ => up_up) inX7_makes_7 lkX7_makes_22 dX7_makes_15 (fun τ3 eτ3 H locs h => ?_)
  replace hf := lt_use eτ3 hf
  clear eτ3
  refine lv_aload_n hx hb dX7_makes_18 rfl (lv_at hl 0 rfl) ?_
  refine lv_aload_n hx hb dX7_makes_19 rfl (lv_at hl 1 rfl) ?_
  refine r_top (hr_h hq) ?_
  refine pf_7_4 C h (rfl : Kd 12 = 7) up_eq (F := fun t => va_up hs 12 t) (fun _ => up_up) inX7_makes_7 lkX7_makes_25 dX7_makes_20 (fun τ4 eτ4 H locs h => ?_)
  replace hf := lt_use eτ4 hf
  clear eτ4
  refine lv_aload_n hx hb dX7_makes_23 rfl (lv_at hl 1 rfl) ?_
  obtain ⟨u5, hu5, hf⟩ := bd_use hf
  refine r_cv_2 (rest := []) C h (k_X2_empties hq (up_nk hq (rfl : Kd 12 = 7) (by decide)) hu5) hq gX7_makes_X2_empties rfl ⟨rfl, rfl⟩ hdX2_empties ⟨Nat.le_of_ble_eq_true rfl, Nat.le_of_ble_eq_true rfl⟩ ⟨Nat.zero_le _, Nat.zero_le _⟩ hl.1 rfl (Nat.le_of_ble_eq_true rfl) dX7_makes_24 (fun H locs h => ?_)
  rw [up_cm (kd_ne (rfl : Kd 12 = 7) hq (by decide))] at h
  obtain ⟨hs6, ehs6⟩ : ∃ z, z = va_up hs q u5 := ⟨_, rfl⟩
  replace hf := lt_use ehs6 hf
  rw [← ehs6] at h
  clear ehs6
  refine lv_iconst (v := (1 : Int32)) hx hb dX7_makes_27 (by decide) ?_
  refine lv_istore_n (lv' := [(2, .int (1 : Int32)), (0, .ref (Ea E 12 0)), (1, .ref (Ea E q 0))]) hx hb dX7_makes_28 rfl hl (by decide) rfl (fun ls hl => ?_)
  exact w_X7_makes_29L hq   C  _ _ _ _ _ _ h ls (lv_sub hl [1, 0] rfl) hf
theorem c_X7_makes {l : Launch} {E : Ev} {ℓ : Mz} {τ : Mm} {hs : Ms} {q : Nat} (hq : Kd q = 2) {out : Int32 × Mm × Ms} (hf : f_X7_makes τ hs q = some out) : Ct l yX7_makes wsX7_makes rm_X7_makes [.ref (Ea E 12 0), .ref (Ea E q 0)] E (va_up hs 12 τ) ℓ (some (.int out.1)) (va_up out.2.2 12 out.2.1) ℓ := by
  refine Ct_mk (cc := cX7_makes) (mL := 3) (ret := (some .boolean)) (own := RX7) (by decide +kernel) rfl rfl (Nat.le_of_ble_eq_true rfl) (fun p e s m below meth c C h ls hl => ?_)
  exact w_X7_makes_0 hq C τ hs _ _ h ls (lv_sub hl [0, 1] rfl) hf
theorem k_X7_makes {l : Launch} {E : Ev} {σ : Ms} {ℓ : Mz} {q : Nat} (hq : Kd q = 2) {out : Int32 × Mm × Ms} (hf : f_X7_makes (σ 12) σ q = some out) : Ct l yX7_makes wsX7_makes rm_X7_makes [.ref (Ea E 12 0), .ref (Ea E q 0)] E σ ℓ (some (.int out.1)) (va_up out.2.2 12 out.2.1) ℓ := by
  have h := c_X7_makes (l := l) (E := E) (ℓ := ℓ) hq hf
  rw [up_id σ 12] at h
  exact h
