/-! WALKS: made by wip/whole/gen -/
theorem hdX9_in : yX9_in.cls = RX9 ∧ yX9_in.cls ≠ "java/lang/invoke/MethodHandle" ∧ yX9_in.cls ≠ "java/lang/invoke/VarHandle" ∧ (parseMethodDescriptor yX9_in.desc).map (fun d => d.parameters.length) = some 3 := by decide +kernel
def rm_X9_in : Room := { frames := 0, cells := 0, slots := 0, locals := 0 }
set_option maxHeartbeats 4000000 in
set_option maxRecDepth 100000 in
theorem w_X9_in_0 {p : Program} {l : Launch} {e : Env} {s : State} {m : MethodId} {args : Array Value} {below : List Frame} {meth : Method} {c : Code} {E : Ev} {σ : Ms} {ℓ : Mz} {p0 : Int32} {p1 : Int32} {p2 : Int32} {out : Int32}   (C : Cx cX9_in 4 (some .boolean) wsX9_in RX9 E p s m args meth c)  : ∀  (H : Heap) (locs : List Loc) (h : HI E σ ℓ s H locs) (ls : Array Slot) (hl : lv_has ls 4 [(1, .int p0), (2, .int p1), (3, .int p2)]), f_X9_in_0 p0 p1 p2   = some out → W p l e rm_X9_in s m args below meth c H locs 0 0 (MQ below (Po E s.heap.size (some (.int out)) σ ℓ) args s 0 0 (AA E s.heap.size)) (F0 m 0 ls []) := by
  intro  H locs h ls hl hf
  unfold f_X9_in_0 at hf
  have C0 := C
  obtain ⟨hx, hb, hr, hml, hown, hts, hlk, hK, hSF⟩ := C0
  refine lv_iload_n hx hb dX9_in_0 rfl (lv_at hl 0 rfl) ?_
  refine lv_iload_n hx hb dX9_in_1 rfl (lv_at hl 1 rfl) ?_
  refine lv_icmp_lt (tgt := 14) hx hb dX9_in_2 (by decide) (fun c1 => ?_) (fun c1 => ?_)
  · replace hf := it_t c1 hf
    refine lv_iconst (v := (0 : Int32)) hx hb dX9_in_14 (by decide) ?_
    replace hf := Option.some.inj hf
    subst hf
    exact r_zre (v := (0 : Int32)) C h rfl dX9_in_15
  replace hf := it_f c1 hf
  refine lv_iload_n hx hb dX9_in_5 rfl (lv_at hl 0 rfl) ?_
  refine lv_iload_n hx hb dX9_in_6 rfl (lv_at hl 2 rfl) ?_
  refine lv_icmp_gt (tgt := 14) hx hb dX9_in_7 (by decide) (fun c2 => ?_) (fun c2 => ?_)
  · replace hf := it_t c2 hf
    refine lv_iconst (v := (0 : Int32)) hx hb dX9_in_14 (by decide) ?_
    replace hf := Option.some.inj hf
    subst hf
    exact r_zre (v := (0 : Int32)) C h rfl dX9_in_15
  replace hf := it_f c2 hf
  refine lv_iconst (v := (1 : Int32)) hx hb dX9_in_10 (by decide) ?_
  refine lv_goto (tgt := 15) hx hb dX9_in_11 (by decide) ?_
  replace hf := Option.some.inj hf
  subst hf
  exact r_zre (v := (1 : Int32)) C h rfl dX9_in_15
theorem c_X9_in {l : Launch} {E : Ev} {σ : Ms} {ℓ : Mz} {p0 : Int32} {p1 : Int32} {p2 : Int32} {out : Int32} (hf : f_X9_in p0 p1 p2 = some out) : Ct l yX9_in wsX9_in rm_X9_in [.ref (Ea E 29 0), .int p0, .int p1, .int p2] E σ ℓ (some (.int out)) σ ℓ := by
  refine Ct_mk (cc := cX9_in) (mL := 4) (ret := (some .boolean)) (own := RX9) (by decide +kernel) rfl rfl (Nat.le_of_ble_eq_true rfl) (fun p e s m below meth c C h ls hl => ?_)
  exact w_X9_in_0  C  _ _ h ls (lv_sub hl [1, 2, 3] rfl) hf
theorem hdX9_has : yX9_has.cls = RX9 ∧ yX9_has.cls ≠ "java/lang/invoke/MethodHandle" ∧ yX9_has.cls ≠ "java/lang/invoke/VarHandle" ∧ (parseMethodDescriptor yX9_has.desc).map (fun d => d.parameters.length) = some 2 := by decide +kernel
def rm_X9_has : Room := { frames := 0, cells := 0, slots := 0, locals := 0 }
set_option maxHeartbeats 4000000 in
set_option maxRecDepth 100000 in
theorem w_X9_has_0 {p : Program} {l : Launch} {e : Env} {s : State} {m : MethodId} {args : Array Value} {below : List Frame} {meth : Method} {c : Code} {E : Ev} {σ : Ms} {ℓ : Mz} {p0 : Int32} {p1 : Int32} {out : Int32}   (C : Cx cX9_has 3 (some .boolean) wsX9_has RX9 E p s m args meth c)  : ∀  (H : Heap) (locs : List Loc) (h : HI E σ ℓ s H locs) (ls : Array Slot) (hl : lv_has ls 3 [(1, .int p0), (2, .int p1)]), f_X9_has_0 p0 p1   = some out → W p l e rm_X9_has s m args below meth c H locs 0 0 (MQ below (Po E s.heap.size (some (.int out)) σ ℓ) args s 0 0 (AA E s.heap.size)) (F0 m 0 ls []) := by
  intro  H locs h ls hl hf
  unfold f_X9_has_0 at hf
  have C0 := C
  obtain ⟨hx, hb, hr, hml, hown, hts, hlk, hK, hSF⟩ := C0
  refine lv_iload_n hx hb dX9_has_0 rfl (lv_at hl 0 rfl) ?_
  refine lv_iload_n hx hb dX9_has_1 rfl (lv_at hl 1 rfl) ?_
  refine lv_ishr hx hb dX9_has_2 ?_
  refine lv_iconst (v := (1 : Int32)) hx hb dX9_has_3 (by decide) ?_
  refine lv_iand hx hb dX9_has_4 ?_
  refine lv_iconst (v := (1 : Int32)) hx hb dX9_has_5 (by decide) ?_
  refine lv_icmp_ne (tgt := 13) hx hb dX9_has_6 (by decide) (fun c1 => ?_) (fun c1 => ?_)
  · replace hf := it_f c1 hf
    refine lv_iconst (v := (0 : Int32)) hx hb dX9_has_13 (by decide) ?_
    replace hf := Option.some.inj hf
    subst hf
    exact r_zre (v := (0 : Int32)) C h rfl dX9_has_14
  replace hf := it_t c1 hf
  refine lv_iconst (v := (1 : Int32)) hx hb dX9_has_9 (by decide) ?_
  refine lv_goto (tgt := 14) hx hb dX9_has_10 (by decide) ?_
  replace hf := Option.some.inj hf
  subst hf
  exact r_zre (v := (1 : Int32)) C h rfl dX9_has_14
theorem c_X9_has {l : Launch} {E : Ev} {σ : Ms} {ℓ : Mz} {p0 : Int32} {p1 : Int32} {out : Int32} (hf : f_X9_has p0 p1 = some out) : Ct l yX9_has wsX9_has rm_X9_has [.ref (Ea E 29 0), .int p0, .int p1] E σ ℓ (some (.int out)) σ ℓ := by
  refine Ct_mk (cc := cX9_has) (mL := 3) (ret := (some .boolean)) (own := RX9) (by decide +kernel) rfl rfl (Nat.le_of_ble_eq_true rfl) (fun p e s m below meth c C h ls hl => ?_)
  exact w_X9_has_0  C  _ _ h ls (lv_sub hl [1, 2] rfl) hf
theorem hdX9_least : yX9_least.cls = RX9 ∧ yX9_least.cls ≠ "java/lang/invoke/MethodHandle" ∧ yX9_least.cls ≠ "java/lang/invoke/VarHandle" ∧ (parseMethodDescriptor yX9_least.desc).map (fun d => d.parameters.length) = some 2 := by decide +kernel
def rm_X9_least : Room := { frames := 0, cells := 0, slots := 0, locals := 0 }
set_option maxHeartbeats 4000000 in
set_option maxRecDepth 100000 in
theorem w_X9_least_0 {p : Program} {l : Launch} {e : Env} {s : State} {m : MethodId} {args : Array Value} {below : List Frame} {meth : Method} {c : Code} {E : Ev} {σ : Ms} {ℓ : Mz} {p0 : Int32} {p1 : Int32} {out : Int32}   (C : Cx cX9_least 3 (some .int) wsX9_least RX9 E p s m args meth c)  : ∀  (H : Heap) (locs : List Loc) (h : HI E σ ℓ s H locs) (ls : Array Slot) (hl : lv_has ls 3 [(1, .int p0), (2, .int p1)]), f_X9_least_0 p0 p1   = some out → W p l e rm_X9_least s m args below meth c H locs 0 0 (MQ below (Po E s.heap.size (some (.int out)) σ ℓ) args s 0 0 (AA E s.heap.size)) (F0 m 0 ls []) := by
  intro  H locs h ls hl hf
  unfold f_X9_least_0 at hf
  have C0 := C
  obtain ⟨hx, hb, hr, hml, hown, hts, hlk, hK, hSF⟩ := C0
  refine lv_iload_n hx hb dX9_least_0 rfl (lv_at hl 0 rfl) ?_
  refine lv_iload_n hx hb dX9_least_1 rfl (lv_at hl 1 rfl) ?_
  refine lv_icmp_ge (tgt := 9) hx hb dX9_least_2 (by decide) (fun c1 => ?_) (fun c1 => ?_)
  · replace hf := it_t c1 hf
    refine lv_iload_n hx hb dX9_least_9 rfl (lv_at hl 1 rfl) ?_
    replace hf := Option.some.inj hf
    subst hf
    exact r_ire C h dX9_least_10
  replace hf := it_f c1 hf
  refine lv_iload_n hx hb dX9_least_5 rfl (lv_at hl 0 rfl) ?_
  refine lv_goto (tgt := 10) hx hb dX9_least_6 (by decide) ?_
  replace hf := Option.some.inj hf
  subst hf
  exact r_ire C h dX9_least_10
theorem c_X9_least {l : Launch} {E : Ev} {σ : Ms} {ℓ : Mz} {p0 : Int32} {p1 : Int32} {out : Int32} (hf : f_X9_least p0 p1 = some out) : Ct l yX9_least wsX9_least rm_X9_least [.ref (Ea E 29 0), .int p0, .int p1] E σ ℓ (some (.int out)) σ ℓ := by
  refine Ct_mk (cc := cX9_least) (mL := 3) (ret := (some .int)) (own := RX9) (by decide +kernel) rfl rfl (Nat.le_of_ble_eq_true rfl) (fun p e s m below meth c C h ls hl => ?_)
  exact w_X9_least_0  C  _ _ h ls (lv_sub hl [1, 2] rfl) hf
theorem hdX9_bits : yX9_bits.cls = RX9 ∧ yX9_bits.cls ≠ "java/lang/invoke/MethodHandle" ∧ yX9_bits.cls ≠ "java/lang/invoke/VarHandle" ∧ (parseMethodDescriptor yX9_bits.desc).map (fun d => d.parameters.length) = some 1 := by decide +kernel
def rm_X9_bits : Room := { frames := 1, cells := 0, slots := 0, locals := 22 }
set_option maxHeartbeats 4000000 in
set_option maxRecDepth 100000 in
theorem w_X9_bits_25 {p : Program} {l : Launch} {e : Env} {s : State} {m : MethodId} {args : Array Value} {below : List Frame} {meth : Method} {c : Code} {E : Ev} {σ : Ms} {ℓ : Mz} {p0 : Int32} {out : Int32}   (C : Cx cX9_bits 4 (some .int) wsX9_bits RX9 E p s m args meth c) {k4 : Int32 → Int32 → Option (Int32)} (hk4 : ∀ (v2 : Int32) (v3 : Int32) (H : Heap) (locs : List Loc), HI E σ ℓ s H locs → ∀ ls : Array Slot, lv_has ls 4 [(0, .ref (Ea E 29 0)), (1, .int p0), (2, .int v2), (3, .int v3)] → k4 v2 v3 = some out → W p l e rm_X9_bits s m args below meth c H locs 0 0 (MQ below (Po E s.heap.size (some (.int out)) σ ℓ) args s 0 0 (AA E s.heap.size)) (F0 m 4 ls [])) : ∀ (v3 : Int32) (w0 : Int32) (w1 : Int32) (H : Heap) (locs : List Loc) (h : HI E σ ℓ s H locs) (ls : Array Slot) (hl : lv_has ls 4 [(0, .ref (Ea E 29 0)), (1, .int p0), (3, .int v3)]), f_X9_bits_25 p0 k4 v3 w0 w1 = some out → W p l e rm_X9_bits s m args below meth c H locs 0 0 (MQ below (Po E s.heap.size (some (.int out)) σ ℓ) args s 0 0 (AA E s.heap.size)) (F0 m 25 ls [.int w1, .int w0]) := by
  intro v3 w0 w1 H locs h ls hl hf
  unfold f_X9_bits_25 at hf
  have C0 := C
  obtain ⟨hx, hb, hr, hml, hown, hts, hlk, hK, hSF⟩ := C0
  refine lv_iadd hx hb dX9_bits_25 ?_
  refine lv_topi (fun x4 ex4 => ?_)
  replace hf := lt_use ex4 hf
  clear ex4
  refine lv_istore_n (lv' := [(2, .int x4), (0, .ref (Ea E 29 0)), (1, .int p0), (3, .int v3)]) hx hb dX9_bits_26 rfl hl (by decide) rfl (fun ls hl => ?_)
  obtain ⟨x5, ex5⟩ : ∃ y : Int32, y = (v3 + (1 : Int32)) := ⟨_, rfl⟩
  refine lv_iinc (v := x5) (lv' := [(3, .int x5), (2, .int x4), (0, .ref (Ea E 29 0)), (1, .int p0)]) hx hb dX9_bits_27 hl (k := 3) rfl (by rw [ex5]; rfl) (by decide) rfl (fun ls hl => ?_)
  replace hf := lt_use ex5 hf
  clear ex5
  refine lv_goto (tgt := 4) hx hb dX9_bits_30 (by decide) ?_
  exact hk4 _ _ _ _ h ls (lv_sub hl [2, 3, 1, 0] rfl) hf
set_option maxHeartbeats 4000000 in
set_option maxRecDepth 100000 in
theorem w_X9_bits_4 {p : Program} {l : Launch} {e : Env} {s : State} {m : MethodId} {args : Array Value} {below : List Frame} {meth : Method} {c : Code} {E : Ev} {σ : Ms} {ℓ : Mz} {p0 : Int32} {out : Int32}   (C : Cx cX9_bits 4 (some .int) wsX9_bits RX9 E p s m args meth c) {k4 : Int32 → Int32 → Option (Int32)} (hk4 : ∀ (v2 : Int32) (v3 : Int32) (H : Heap) (locs : List Loc), HI E σ ℓ s H locs → ∀ ls : Array Slot, lv_has ls 4 [(0, .ref (Ea E 29 0)), (1, .int p0), (2, .int v2), (3, .int v3)] → k4 v2 v3 = some out → W p l e rm_X9_bits s m args below meth c H locs 0 0 (MQ below (Po E s.heap.size (some (.int out)) σ ℓ) args s 0 0 (AA E s.heap.size)) (F0 m 4 ls [])) : ∀ (v2 : Int32) (v3 : Int32) (H : Heap) (locs : List Loc) (h : HI E σ ℓ s H locs) (ls : Array Slot) (hl : lv_has ls 4 [(0, .ref (Ea E 29 0)), (1, .int p0), (2, .int v2), (3, .int v3)]), f_X9_bits_4 p0 k4 v2 v3 = some out → W p l e rm_X9_bits s m args below meth c H locs 0 0 (MQ below (Po E s.heap.size (some (.int out)) σ ℓ) args s 0 0 (AA E s.heap.size)) (F0 m 4 ls []) := by
  intro v2 v3 H locs h ls hl hf
  unfold f_X9_bits_4 at hf
  have C0 := C
  obtain ⟨hx, hb, hr, hml, hown, hts, hlk, hK, hSF⟩ := C0
  refine lv_iload_n hx hb dX9_bits_4 rfl (lv_at hl 3 rfl) ?_
  refine lv_bipush (v := (10 : Int32)) hx hb dX9_bits_5 (by decide) ?_
  refine lv_icmp_ge (tgt := 33) hx hb dX9_bits_7 (by decide) (fun c1 => ?_) (fun c1 => ?_)
  · replace hf := it_t c1 hf
    refine lv_iload_n hx hb dX9_bits_33 rfl (lv_at hl 2 rfl) ?_
    replace hf := Option.some.inj hf
    subst hf
    exact r_ire C h dX9_bits_34
  replace hf := it_f c1 hf
  refine lv_iload_n hx hb dX9_bits_10 rfl (lv_at hl 2 rfl) ?_
  refine lv_aload_n hx hb dX9_bits_11 rfl (lv_at hl 0 rfl) ?_
  refine lv_iload_n hx hb dX9_bits_12 rfl (lv_at hl 1 rfl) ?_
  refine lv_iload_n hx hb dX9_bits_13 rfl (lv_at hl 3 rfl) ?_
  obtain ⟨u2, hu2, hf⟩ := bd_use hf
  refine r_cv_9 (rest := [.int v2]) C h (c_X9_has  hu2) (rfl : Kd 29 = 9) gX9_bits_X9_has rfl ⟨rfl, rfl⟩ hdX9_has ⟨Nat.le_of_ble_eq_true rfl, Nat.le_of_ble_eq_true rfl⟩ ⟨Nat.zero_le _, Nat.zero_le _⟩ hl.1 rfl (Nat.le_of_ble_eq_true rfl) dX9_bits_14 (fun H locs h => ?_)
  refine lv_if_eq (tgt := 24) hx hb dX9_bits_17 (by decide) (fun c3 => ?_) (fun c3 => ?_)
  · replace hf := it_t c3 hf
    refine lv_iconst (v := (0 : Int32)) hx hb dX9_bits_24 (by decide) ?_
    exact w_X9_bits_25    C hk4 _ _ _ _ _ h ls (lv_sub hl [0, 1, 3] rfl) hf
  replace hf := it_f c3 hf
  refine lv_iconst (v := (1 : Int32)) hx hb dX9_bits_20 (by decide) ?_
  refine lv_goto (tgt := 25) hx hb dX9_bits_21 (by decide) ?_
  exact w_X9_bits_25    C hk4 _ _ _ _ _ h ls (lv_sub hl [0, 1, 3] rfl) hf
set_option maxHeartbeats 4000000 in
set_option maxRecDepth 100000 in
theorem w_X9_bits_4L {p : Program} {l : Launch} {e : Env} {s : State} {m : MethodId} {args : Array Value} {below : List Frame} {meth : Method} {c : Code} {E : Ev} {σ : Ms} {ℓ : Mz} {p0 : Int32} {out : Int32}   (C : Cx cX9_bits 4 (some .int) wsX9_bits RX9 E p s m args meth c)  : ∀ (n9 : Nat) (v2 : Int32) (v3 : Int32) (H : Heap) (locs : List Loc) (h : HI E σ ℓ s H locs) (ls : Array Slot) (hl : lv_has ls 4 [(0, .ref (Ea E 29 0)), (1, .int p0), (2, .int v2), (3, .int v3)]), f_X9_bits_4L p0  n9 v2 v3 = some out → W p l e rm_X9_bits s m args below meth c H locs 0 0 (MQ below (Po E s.heap.size (some (.int out)) σ ℓ) args s 0 0 (AA E s.heap.size)) (F0 m 4 ls []) := by
  intro n9
  induction n9 with
  | zero =>
    intro v2 v3 H locs h ls hl hf
    cases (show (none : Option (Int32)) = some out from hf)
  | succ n9 ih =>
    intro v2 v3 H locs h ls hl hf
    exact w_X9_bits_4   C  ih v2 v3 H locs h ls hl hf
set_option maxHeartbeats 4000000 in
set_option maxRecDepth 100000 in
theorem w_X9_bits_0 {p : Program} {l : Launch} {e : Env} {s : State} {m : MethodId} {args : Array Value} {below : List Frame} {meth : Method} {c : Code} {E : Ev} {σ : Ms} {ℓ : Mz} {p0 : Int32} {out : Int32}   (C : Cx cX9_bits 4 (some .int) wsX9_bits RX9 E p s m args meth c)  : ∀  (H : Heap) (locs : List Loc) (h : HI E σ ℓ s H locs) (ls : Array Slot) (hl : lv_has ls 4 [(0, .ref (Ea E 29 0)), (1, .int p0)]), f_X9_bits_0 p0   = some out → W p l e rm_X9_bits s m args below meth c H locs 0 0 (MQ below (Po E s.heap.size (some (.int out)) σ ℓ) args s 0 0 (AA E s.heap.size)) (F0 m 0 ls []) := by
  intro  H locs h ls hl hf
  unfold f_X9_bits_0 at hf
  have C0 := C
  obtain ⟨hx, hb, hr, hml, hown, hts, hlk, hK, hSF⟩ := C0
  refine lv_iconst (v := (0 : Int32)) hx hb dX9_bits_0 (by decide) ?_
  refine lv_istore_n (lv' := [(2, .int (0 : Int32)), (0, .ref (Ea E 29 0)), (1, .int p0)]) hx hb dX9_bits_1 rfl hl (by decide) rfl (fun ls hl => ?_)
  refine lv_iconst (v := (0 : Int32)) hx hb dX9_bits_2 (by decide) ?_
  refine lv_istore_n (lv' := [(3, .int (0 : Int32)), (2, .int (0 : Int32)), (0, .ref (Ea E 29 0)), (1, .int p0)]) hx hb dX9_bits_3 rfl hl (by decide) rfl (fun ls hl => ?_)
  exact w_X9_bits_4L    C  _ _ _ _ _ h ls (lv_sub hl [2, 3, 1, 0] rfl) hf
theorem c_X9_bits {l : Launch} {E : Ev} {σ : Ms} {ℓ : Mz} {p0 : Int32} {out : Int32} (hf : f_X9_bits p0 = some out) : Ct l yX9_bits wsX9_bits rm_X9_bits [.ref (Ea E 29 0), .int p0] E σ ℓ (some (.int out)) σ ℓ := by
  refine Ct_mk (cc := cX9_bits) (mL := 4) (ret := (some .int)) (own := RX9) (by decide +kernel) rfl rfl (Nat.le_of_ble_eq_true rfl) (fun p e s m below meth c C h ls hl => ?_)
  exact w_X9_bits_0  C  _ _ h ls (lv_sub hl [0, 1] rfl) hf
theorem hdX9_apart : yX9_apart.cls = RX9 ∧ yX9_apart.cls ≠ "java/lang/invoke/MethodHandle" ∧ yX9_apart.cls ≠ "java/lang/invoke/VarHandle" ∧ (parseMethodDescriptor yX9_apart.desc).map (fun d => d.parameters.length) = some 2 := by decide +kernel
def rm_X9_apart : Room := { frames := 0, cells := 0, slots := 0, locals := 0 }
set_option maxHeartbeats 4000000 in
set_option maxRecDepth 100000 in
theorem w_X9_apart_0 {p : Program} {l : Launch} {e : Env} {s : State} {m : MethodId} {args : Array Value} {below : List Frame} {meth : Method} {c : Code} {E : Ev} {σ : Ms} {ℓ : Mz} {p0 : Int32} {p1 : Int32} {out : Int32}   (C : Cx cX9_apart 3 (some .int) wsX9_apart RX9 E p s m args meth c)  : ∀  (H : Heap) (locs : List Loc) (h : HI E σ ℓ s H locs) (ls : Array Slot) (hl : lv_has ls 3 [(1, .int p0), (2, .int p1)]), f_X9_apart_0 p0 p1   = some out → W p l e rm_X9_apart s m args below meth c H locs 0 0 (MQ below (Po E s.heap.size (some (.int out)) σ ℓ) args s 0 0 (AA E s.heap.size)) (F0 m 0 ls []) := by
  intro  H locs h ls hl hf
  unfold f_X9_apart_0 at hf
  have C0 := C
  obtain ⟨hx, hb, hr, hml, hown, hts, hlk, hK, hSF⟩ := C0
  refine lv_iload_n hx hb dX9_apart_0 rfl (lv_at hl 0 rfl) ?_
  refine lv_iload_n hx hb dX9_apart_1 rfl (lv_at hl 1 rfl) ?_
  refine lv_icmp_ge (tgt := 11) hx hb dX9_apart_2 (by decide) (fun c1 => ?_) (fun c1 => ?_)
  · replace hf := it_t c1 hf
    refine lv_iload_n hx hb dX9_apart_11 rfl (lv_at hl 0 rfl) ?_
    refine lv_iload_n hx hb dX9_apart_12 rfl (lv_at hl 1 rfl) ?_
    refine lv_isub hx hb dX9_apart_13 ?_
    replace hf := Option.some.inj hf
    subst hf
    exact r_ire C h dX9_apart_14
  replace hf := it_f c1 hf
  refine lv_iload_n hx hb dX9_apart_5 rfl (lv_at hl 1 rfl) ?_
  refine lv_iload_n hx hb dX9_apart_6 rfl (lv_at hl 0 rfl) ?_
  refine lv_isub hx hb dX9_apart_7 ?_
  refine lv_goto (tgt := 14) hx hb dX9_apart_8 (by decide) ?_
  replace hf := Option.some.inj hf
  subst hf
  exact r_ire C h dX9_apart_14
theorem c_X9_apart {l : Launch} {E : Ev} {σ : Ms} {ℓ : Mz} {p0 : Int32} {p1 : Int32} {out : Int32} (hf : f_X9_apart p0 p1 = some out) : Ct l yX9_apart wsX9_apart rm_X9_apart [.ref (Ea E 29 0), .int p0, .int p1] E σ ℓ (some (.int out)) σ ℓ := by
  refine Ct_mk (cc := cX9_apart) (mL := 3) (ret := (some .int)) (own := RX9) (by decide +kernel) rfl rfl (Nat.le_of_ble_eq_true rfl) (fun p e s m below meth c C h ls hl => ?_)
  exact w_X9_apart_0  C  _ _ h ls (lv_sub hl [1, 2] rfl) hf
theorem hdX9_isMaster : yX9_isMaster.cls = RX9 ∧ yX9_isMaster.cls ≠ "java/lang/invoke/MethodHandle" ∧ yX9_isMaster.cls ≠ "java/lang/invoke/VarHandle" ∧ (parseMethodDescriptor yX9_isMaster.desc).map (fun d => d.parameters.length) = some 1 := by decide +kernel
def rm_X9_isMaster : Room := { frames := 1, cells := 0, slots := 0, locals := 23 }
set_option maxRecDepth 100000 in
theorem inX9_isMaster_9 : ∀ w ∈ wsX90, w ∈ wsX9_isMaster := fun _ h => List.mem_cons_of_mem _ (List.mem_append_right _ h)
set_option maxRecDepth 100000 in
theorem lkX9_isMaster_7 : Cond.fieldLink RX9 7 "BellsBelowModel" "masters" "I" ∈ wsX9_isMaster := by decide +kernel
set_option maxHeartbeats 4000000 in
set_option maxRecDepth 100000 in
theorem w_X9_isMaster_0 {p : Program} {l : Launch} {e : Env} {s : State} {m : MethodId} {args : Array Value} {below : List Frame} {meth : Method} {c : Code} {E : Ev} {σ : Ms} {ℓ : Mz} {τ : Mm} {p0 : Int32} {out : Int32} (hτ : σ 29 = τ)   (C : Cx cX9_isMaster 2 (some .boolean) wsX9_isMaster RX9 E p s m args meth c)  : ∀  (H : Heap) (locs : List Loc) (h : HI E σ ℓ s H locs) (ls : Array Slot) (hl : lv_has ls 2 [(0, .ref (Ea E 29 0)), (1, .int p0)]), f_X9_isMaster_0 τ p0   = some out → W p l e rm_X9_isMaster s m args below meth c H locs 0 0 (MQ below (Po E s.heap.size (some (.int out)) σ ℓ) args s 0 0 (AA E s.heap.size)) (F0 m 0 ls []) := by
  intro  H locs h ls hl hf
  unfold f_X9_isMaster_0 at hf
  have C0 := C
  obtain ⟨hx, hb, hr, hml, hown, hts, hlk, hK, hSF⟩ := C0
  refine lv_aload_n hx hb dX9_isMaster_0 rfl (lv_at hl 0 rfl) ?_
  refine lv_iload_n hx hb dX9_isMaster_1 rfl (lv_at hl 1 rfl) ?_
  refine lv_iconst (v := (0 : Int32)) hx hb dX9_isMaster_2 (by decide) ?_
  refine lv_aload_n hx hb dX9_isMaster_3 rfl (lv_at hl 0 rfl) ?_
  refine gf_9_0 C h (rfl : Kd 29 = 9) hτ inX9_isMaster_9 lkX9_isMaster_7 dX9_isMaster_4 ?_
  refine lv_iconst (v := (1 : Int32)) hx hb dX9_isMaster_7 (by decide) ?_
  refine lv_isub hx hb dX9_isMaster_8 ?_
  obtain ⟨u1, hu1, hf⟩ := bd_use hf
  refine r_cv_9 (rest := []) C h (c_X9_in  hu1) (rfl : Kd 29 = 9) gX9_isMaster_X9_in rfl ⟨rfl, rfl⟩ hdX9_in ⟨Nat.le_of_ble_eq_true rfl, Nat.le_of_ble_eq_true rfl⟩ ⟨Nat.zero_le _, Nat.zero_le _⟩ hl.1 rfl (Nat.le_of_ble_eq_true rfl) dX9_isMaster_9 (fun H locs h => ?_)
  obtain ⟨g2, hf⟩ := gd_use hf
  replace hf := Option.some.inj hf
  subst hf
  exact r_zre C h (isB_use g2) dX9_isMaster_12
theorem c_X9_isMaster {l : Launch} {E : Ev} {σ : Ms} {ℓ : Mz} {τ : Mm} {p0 : Int32} (hτ : σ 29 = τ) {out : Int32} (hf : f_X9_isMaster τ p0 = some out) : Ct l yX9_isMaster wsX9_isMaster rm_X9_isMaster [.ref (Ea E 29 0), .int p0] E σ ℓ (some (.int out)) σ ℓ := by
  refine Ct_mk (cc := cX9_isMaster) (mL := 2) (ret := (some .boolean)) (own := RX9) (by decide +kernel) rfl rfl (Nat.le_of_ble_eq_true rfl) (fun p e s m below meth c C h ls hl => ?_)
  exact w_X9_isMaster_0 hτ C  _ _ h ls (lv_sub hl [0, 1] rfl) hf
theorem hdX9_isFloor : yX9_isFloor.cls = RX9 ∧ yX9_isFloor.cls ≠ "java/lang/invoke/MethodHandle" ∧ yX9_isFloor.cls ≠ "java/lang/invoke/VarHandle" ∧ (parseMethodDescriptor yX9_isFloor.desc).map (fun d => d.parameters.length) = some 1 := by decide +kernel
def rm_X9_isFloor : Room := { frames := 1, cells := 0, slots := 0, locals := 23 }
set_option maxHeartbeats 4000000 in
set_option maxRecDepth 100000 in
theorem w_X9_isFloor_0 {p : Program} {l : Launch} {e : Env} {s : State} {m : MethodId} {args : Array Value} {below : List Frame} {meth : Method} {c : Code} {E : Ev} {σ : Ms} {ℓ : Mz} {p0 : Int32} {out : Int32}   (C : Cx cX9_isFloor 2 (some .boolean) wsX9_isFloor RX9 E p s m args meth c)  : ∀  (H : Heap) (locs : List Loc) (h : HI E σ ℓ s H locs) (ls : Array Slot) (hl : lv_has ls 2 [(0, .ref (Ea E 29 0)), (1, .int p0)]), f_X9_isFloor_0 p0   = some out → W p l e rm_X9_isFloor s m args below meth c H locs 0 0 (MQ below (Po E s.heap.size (some (.int out)) σ ℓ) args s 0 0 (AA E s.heap.size)) (F0 m 0 ls []) := by
  intro  H locs h ls hl hf
  unfold f_X9_isFloor_0 at hf
  have C0 := C
  obtain ⟨hx, hb, hr, hml, hown, hts, hlk, hK, hSF⟩ := C0
  refine lv_aload_n hx hb dX9_isFloor_0 rfl (lv_at hl 0 rfl) ?_
  refine lv_iload_n hx hb dX9_isFloor_1 rfl (lv_at hl 1 rfl) ?_
  refine lv_iconst (v := (0 : Int32)) hx hb dX9_isFloor_2 (by decide) ?_
  refine lv_bipush (v := (9 : Int32)) hx hb dX9_isFloor_3 (by decide) ?_
  obtain ⟨u1, hu1, hf⟩ := bd_use hf
  refine r_cv_9 (rest := []) C h (c_X9_in  hu1) (rfl : Kd 29 = 9) gX9_isFloor_X9_in rfl ⟨rfl, rfl⟩ hdX9_in ⟨Nat.le_of_ble_eq_true rfl, Nat.le_of_ble_eq_true rfl⟩ ⟨Nat.zero_le _, Nat.zero_le _⟩ hl.1 rfl (Nat.le_of_ble_eq_true rfl) dX9_isFloor_5 (fun H locs h => ?_)
  obtain ⟨g2, hf⟩ := gd_use hf
  replace hf := Option.some.inj hf
  subst hf
  exact r_zre C h (isB_use g2) dX9_isFloor_8
theorem c_X9_isFloor {l : Launch} {E : Ev} {σ : Ms} {ℓ : Mz} {p0 : Int32} {out : Int32} (hf : f_X9_isFloor p0 = some out) : Ct l yX9_isFloor wsX9_isFloor rm_X9_isFloor [.ref (Ea E 29 0), .int p0] E σ ℓ (some (.int out)) σ ℓ := by
  refine Ct_mk (cc := cX9_isFloor) (mL := 2) (ret := (some .boolean)) (own := RX9) (by decide +kernel) rfl rfl (Nat.le_of_ble_eq_true rfl) (fun p e s m below meth c C h ls hl => ?_)
  exact w_X9_isFloor_0  C  _ _ h ls (lv_sub hl [0, 1] rfl) hf
theorem hdX9_isMinutes : yX9_isMinutes.cls = RX9 ∧ yX9_isMinutes.cls ≠ "java/lang/invoke/MethodHandle" ∧ yX9_isMinutes.cls ≠ "java/lang/invoke/VarHandle" ∧ (parseMethodDescriptor yX9_isMinutes.desc).map (fun d => d.parameters.length) = some 1 := by decide +kernel
def rm_X9_isMinutes : Room := { frames := 1, cells := 0, slots := 0, locals := 23 }
set_option maxHeartbeats 4000000 in
set_option maxRecDepth 100000 in
theorem w_X9_isMinutes_0 {p : Program} {l : Launch} {e : Env} {s : State} {m : MethodId} {args : Array Value} {below : List Frame} {meth : Method} {c : Code} {E : Ev} {σ : Ms} {ℓ : Mz} {p0 : Int32} {out : Int32}   (C : Cx cX9_isMinutes 2 (some .boolean) wsX9_isMinutes RX9 E p s m args meth c)  : ∀  (H : Heap) (locs : List Loc) (h : HI E σ ℓ s H locs) (ls : Array Slot) (hl : lv_has ls 2 [(0, .ref (Ea E 29 0)), (1, .int p0)]), f_X9_isMinutes_0 p0   = some out → W p l e rm_X9_isMinutes s m args below meth c H locs 0 0 (MQ below (Po E s.heap.size (some (.int out)) σ ℓ) args s 0 0 (AA E s.heap.size)) (F0 m 0 ls []) := by
  intro  H locs h ls hl hf
  unfold f_X9_isMinutes_0 at hf
  have C0 := C
  obtain ⟨hx, hb, hr, hml, hown, hts, hlk, hK, hSF⟩ := C0
  refine lv_aload_n hx hb dX9_isMinutes_0 rfl (lv_at hl 0 rfl) ?_
  refine lv_iload_n hx hb dX9_isMinutes_1 rfl (lv_at hl 1 rfl) ?_
  refine lv_iconst (v := (0 : Int32)) hx hb dX9_isMinutes_2 (by decide) ?_
  refine lv_bipush (v := (60 : Int32)) hx hb dX9_isMinutes_3 (by decide) ?_
  obtain ⟨u1, hu1, hf⟩ := bd_use hf
  refine r_cv_9 (rest := []) C h (c_X9_in  hu1) (rfl : Kd 29 = 9) gX9_isMinutes_X9_in rfl ⟨rfl, rfl⟩ hdX9_in ⟨Nat.le_of_ble_eq_true rfl, Nat.le_of_ble_eq_true rfl⟩ ⟨Nat.zero_le _, Nat.zero_le _⟩ hl.1 rfl (Nat.le_of_ble_eq_true rfl) dX9_isMinutes_5 (fun H locs h => ?_)
  obtain ⟨g2, hf⟩ := gd_use hf
  replace hf := Option.some.inj hf
  subst hf
  exact r_zre C h (isB_use g2) dX9_isMinutes_8
theorem c_X9_isMinutes {l : Launch} {E : Ev} {σ : Ms} {ℓ : Mz} {p0 : Int32} {out : Int32} (hf : f_X9_isMinutes p0 = some out) : Ct l yX9_isMinutes wsX9_isMinutes rm_X9_isMinutes [.ref (Ea E 29 0), .int p0] E σ ℓ (some (.int out)) σ ℓ := by
  refine Ct_mk (cc := cX9_isMinutes) (mL := 2) (ret := (some .boolean)) (own := RX9) (by decide +kernel) rfl rfl (Nat.le_of_ble_eq_true rfl) (fun p e s m below meth c C h ls hl => ?_)
  exact w_X9_isMinutes_0  C  _ _ h ls (lv_sub hl [0, 1] rfl) hf
theorem hdX9_master : yX9_master.cls = RX9 ∧ yX9_master.cls ≠ "java/lang/invoke/MethodHandle" ∧ yX9_master.cls ≠ "java/lang/invoke/VarHandle" ∧ (parseMethodDescriptor yX9_master.desc).map (fun d => d.parameters.length) = some 3 := by decide +kernel
def rm_X9_master : Room := { frames := 2, cells := 0, slots := 0, locals := 44 }
set_option maxRecDepth 100000 in
theorem inX9_master_9 : ∀ w ∈ wsX90, w ∈ wsX9_master := fun _ h => List.mem_cons_of_mem _ (List.mem_append_right _ h)
set_option maxRecDepth 100000 in
theorem lkX9_master_7 : Cond.fieldLink RX9 7 "BellsBelowModel" "masters" "I" ∈ wsX9_master := by decide +kernel
set_option maxRecDepth 100000 in
theorem lkX9_master_25 : Cond.fieldLink RX9 25 "BellsBelowModel" "kind" "[I" ∈ wsX9_master := by decide +kernel
set_option maxRecDepth 100000 in
theorem lkX9_master_29 : Cond.fieldLink RX9 29 "BellsBelowModel" "v" "[I" ∈ wsX9_master := by decide +kernel
set_option maxRecDepth 100000 in
theorem lkX9_master_32 : Cond.fieldLink RX9 32 "BellsBelowModel" "floor" "[I" ∈ wsX9_master := by decide +kernel
set_option maxRecDepth 100000 in
theorem lkX9_master_35 : Cond.fieldLink RX9 35 "BellsBelowModel" "goal" "[I" ∈ wsX9_master := by decide +kernel
set_option maxRecDepth 100000 in
theorem lkX9_master_38 : Cond.fieldLink RX9 38 "BellsBelowModel" "rests" "[I" ∈ wsX9_master := by decide +kernel
set_option maxRecDepth 100000 in
theorem lkX9_master_41 : Cond.fieldLink RX9 41 "BellsBelowModel" "came" "[I" ∈ wsX9_master := by decide +kernel
set_option maxRecDepth 100000 in
theorem lkX9_master_13 : Cond.fieldLink RX9 13 "BellsBelowModel" "absent" "I" ∈ wsX9_master := by decide +kernel
set_option maxRecDepth 100000 in
theorem lkX9_master_44 : Cond.fieldLink RX9 44 "BellsBelowModel" "rows" "[I" ∈ wsX9_master := by decide +kernel
set_option maxHeartbeats 4000000 in
set_option maxRecDepth 100000 in
theorem w_X9_master_128 {p : Program} {l : Launch} {e : Env} {s : State} {m : MethodId} {args : Array Value} {below : List Frame} {meth : Method} {c : Code} {E : Ev} {σ : Ms} {ℓ : Mz} {p0 : Int32} {p1 : Int32} {p2 : Int32} {out : Int32 × Mm}   (C : Cx cX9_master 5 (some .int) wsX9_master RX9 E p s m args meth c) {k128 : Mm → Int32 → Option (Int32 × Mm)} (hk128 : ∀ (τ : Mm) (v4 : Int32) (H : Heap) (locs : List Loc), HI E (va_up σ 29 τ) ℓ s H locs → ∀ ls : Array Slot, lv_has ls 5 [(0, .ref (Ea E 29 0)), (4, .int v4)] → k128 τ v4 = some out → W p l e rm_X9_master s m args below meth c H locs 0 0 (MQ below (Po E s.heap.size (some (.int out.1)) (va_up σ 29 out.2) ℓ) args s 0 0 (AA E s.heap.size)) (F0 m 128 ls [])) : ∀ (τ : Mm) (v4 : Int32) (H : Heap) (locs : List Loc) (h : HI E (va_up σ 29 τ) ℓ s H locs) (ls : Array Slot) (hl : lv_has ls 5 [(0, .ref (Ea E 29 0)), (4, .int v4)]), f_X9_master_128 p0 p1 p2 k128 τ v4 = some out → W p l e rm_X9_master s m args below meth c H locs 0 0 (MQ below (Po E s.heap.size (some (.int out.1)) (va_up σ 29 out.2) ℓ) args s 0 0 (AA E s.heap.size)) (F0 m 128 ls []) := by
  intro τ v4 H locs h ls hl hf
  unfold f_X9_master_128 at hf
  have C0 := C
  obtain ⟨hx, hb, hr, hml, hown, hts, hlk, hK, hSF⟩ := C0
  refine lv_iload hx hb dX9_master_128 (lv_at hl 1 rfl) ?_
  refine lv_iconst (v := (4 : Int32)) hx hb dX9_master_130 (by decide) ?_
  refine lv_icmp_ge (tgt := 155) hx hb dX9_master_131 (by decide) (fun c21 => ?_) (fun c21 => ?_)
  · replace hf := it_t c21 hf
    refine lv_aload_n hx hb dX9_master_155 rfl (lv_at hl 0 rfl) ?_
    refine lv_dup hx hb dX9_master_156 rfl ?_
    refine gf_9_0 C h (rfl : Kd 29 = 9) up_eq inX9_master_9 lkX9_master_7 dX9_master_157 ?_
    refine lv_iconst (v := (1 : Int32)) hx hb dX9_master_160 (by decide) ?_
    refine lv_iadd hx hb dX9_master_161 ?_
    refine pf_9_0 C h (rfl : Kd 29 = 9) up_eq (F := fun t => va_up σ 29 t) (fun _ => up_up) inX9_master_9 lkX9_master_7 dX9_master_162 (fun τ22 eτ22 H locs h => ?_)
    replace hf := lt_use eτ22 hf
    clear eτ22
    refine lv_aload_n hx hb dX9_master_165 rfl (lv_at hl 0 rfl) ?_
    refine gf_9_0 C h (rfl : Kd 29 = 9) up_eq inX9_master_9 lkX9_master_7 dX9_master_166 ?_
    refine lv_iconst (v := (1 : Int32)) hx hb dX9_master_169 (by decide) ?_
    refine lv_isub hx hb dX9_master_170 ?_
    replace hf := Option.some.inj hf
    subst hf
    exact r_ire C h dX9_master_171
  replace hf := it_f c21 hf
  refine lv_aload_n hx hb dX9_master_134 rfl (lv_at hl 0 rfl) ?_
  refine gf_9_11 C h (rfl : Kd 29 = 9) up_eq inX9_master_9 lkX9_master_44 dX9_master_135 ?_
  refine lv_iconst (v := (4 : Int32)) hx hb dX9_master_138 (by decide) ?_
  refine lv_aload_n hx hb dX9_master_139 rfl (lv_at hl 0 rfl) ?_
  refine gf_9_0 C h (rfl : Kd 29 = 9) up_eq inX9_master_9 lkX9_master_7 dX9_master_140 ?_
  refine lv_imul hx hb dX9_master_143 ?_
  refine lv_iload hx hb dX9_master_144 (lv_at hl 1 rfl) ?_
  refine lv_iadd hx hb dX9_master_146 ?_
  refine lv_iconst (v := (0 : Int32)) hx hb dX9_master_147 (by decide) ?_
  obtain ⟨g23, hf⟩ := gd_use hf
  refine sa_9_7 C h (rfl : Kd 29 = 9) up_eq (F := fun t => va_up σ 29 t) (fun _ => up_up) (inB_in g23) dX9_master_148 (fun τ24 eτ24 H locs h => ?_)
  replace hf := lt_use eτ24 hf
  clear eτ24
  obtain ⟨x25, ex25⟩ : ∃ y : Int32, y = (v4 + (1 : Int32)) := ⟨_, rfl⟩
  refine lv_iinc (v := x25) (lv' := [(4, .int x25), (0, .ref (Ea E 29 0))]) hx hb dX9_master_149 hl (k := 1) rfl (by rw [ex25]; rfl) (by decide) rfl (fun ls hl => ?_)
  replace hf := lt_use ex25 hf
  clear ex25
  refine lv_goto (tgt := 128) hx hb dX9_master_152 (by decide) ?_
  exact hk128 _ _ _ _ h ls (lv_sub hl [1, 0] rfl) hf
set_option maxHeartbeats 4000000 in
set_option maxRecDepth 100000 in
theorem w_X9_master_128L {p : Program} {l : Launch} {e : Env} {s : State} {m : MethodId} {args : Array Value} {below : List Frame} {meth : Method} {c : Code} {E : Ev} {σ : Ms} {ℓ : Mz} {p0 : Int32} {p1 : Int32} {p2 : Int32} {out : Int32 × Mm}   (C : Cx cX9_master 5 (some .int) wsX9_master RX9 E p s m args meth c)  : ∀ (n9 : Nat) (τ : Mm) (v4 : Int32) (H : Heap) (locs : List Loc) (h : HI E (va_up σ 29 τ) ℓ s H locs) (ls : Array Slot) (hl : lv_has ls 5 [(0, .ref (Ea E 29 0)), (4, .int v4)]), f_X9_master_128L p0 p1 p2  n9 τ v4 = some out → W p l e rm_X9_master s m args below meth c H locs 0 0 (MQ below (Po E s.heap.size (some (.int out.1)) (va_up σ 29 out.2) ℓ) args s 0 0 (AA E s.heap.size)) (F0 m 128 ls []) := by
  intro n9
  induction n9 with
  | zero =>
    intro τ v4 H locs h ls hl hf
    cases (show (none : Option (Int32 × Mm)) = some out from hf)
  | succ n9 ih =>
    intro τ v4 H locs h ls hl hf
    exact w_X9_master_128   C  ih τ v4 H locs h ls hl hf
set_option maxHeartbeats 4000000 in
set_option maxRecDepth 100000 in
theorem w_X9_master_0 {p : Program} {l : Launch} {e : Env} {s : State} {m : MethodId} {args : Array Value} {below : List Frame} {meth : Method} {c : Code} {E : Ev} {σ : Ms} {ℓ : Mz} {p0 : Int32} {p1 : Int32} {p2 : Int32} {out : Int32 × Mm}   (C : Cx cX9_master 5 (some .int) wsX9_master RX9 E p s m args meth c)  : ∀ (τ : Mm) (H : Heap) (locs : List Loc) (h : HI E (va_up σ 29 τ) ℓ s H locs) (ls : Array Slot) (hl : lv_has ls 5 [(0, .ref (Ea E 29 0)), (1, .int p0), (2, .int p1), (3, .int p2)]), f_X9_master_0 p0 p1 p2  τ = some out → W p l e rm_X9_master s m args below meth c H locs 0 0 (MQ below (Po E s.heap.size (some (.int out.1)) (va_up σ 29 out.2) ℓ) args s 0 0 (AA E s.heap.size)) (F0 m 0 ls []) := by
  intro τ H locs h ls hl hf
  unfold f_X9_master_0 at hf
  have C0 := C
  obtain ⟨hx, hb, hr, hml, hown, hts, hlk, hK, hSF⟩ := C0
  refine lv_aload_n hx hb dX9_master_0 rfl (lv_at hl 0 rfl) ?_
  refine lv_iload_n hx hb dX9_master_1 rfl (lv_at hl 1 rfl) ?_
  refine lv_iconst (v := (0 : Int32)) hx hb dX9_master_2 (by decide) ?_
  refine lv_bipush (v := (6 : Int32)) hx hb dX9_master_3 (by decide) ?_
  obtain ⟨u1, hu1, hf⟩ := bd_use hf
  refine r_cv_9 (rest := []) C h (c_X9_in  hu1) (rfl : Kd 29 = 9) gX9_master_X9_in rfl ⟨rfl, rfl⟩ hdX9_in ⟨Nat.le_of_ble_eq_true rfl, Nat.le_of_ble_eq_true rfl⟩ ⟨Nat.zero_le _, Nat.zero_le _⟩ hl.1 rfl (Nat.le_of_ble_eq_true rfl) dX9_master_5 (fun H locs h => ?_)
  refine lv_if_eq (tgt := 19) hx hb dX9_master_8 (by decide) (fun c2 => ?_) (fun c2 => ?_)
  · replace hf := it_t c2 hf
    refine lv_iconst (v := (-1 : Int32)) hx hb dX9_master_19 (by decide) ?_
    replace hf := Option.some.inj hf
    subst hf
    exact r_ire C h dX9_master_20
  replace hf := it_f c2 hf
  refine lv_aload_n hx hb dX9_master_11 rfl (lv_at hl 0 rfl) ?_
  refine lv_iload_n hx hb dX9_master_12 rfl (lv_at hl 3 rfl) ?_
  obtain ⟨u3, hu3, hf⟩ := bd_use hf
  refine r_cv_9 (rest := []) C h (c_X9_isFloor  hu3) (rfl : Kd 29 = 9) gX9_master_X9_isFloor rfl ⟨rfl, rfl⟩ hdX9_isFloor ⟨Nat.le_of_ble_eq_true rfl, Nat.le_of_ble_eq_true rfl⟩ ⟨Nat.zero_le _, Nat.zero_le _⟩ hl.1 rfl (Nat.le_of_ble_eq_true rfl) dX9_master_13 (fun H locs h => ?_)
  refine lv_if_ne (tgt := 21) hx hb dX9_master_16 (by decide) (fun c4 => ?_) (fun c4 => ?_)
  · replace hf := it_f c4 hf
    refine lv_aload_n hx hb dX9_master_21 rfl (lv_at hl 0 rfl) ?_
    refine lv_iload_n hx hb dX9_master_22 rfl (lv_at hl 2 rfl) ?_
    refine lv_iconst (v := (0 : Int32)) hx hb dX9_master_23 (by decide) ?_
    refine lv_bipush (v := (9 : Int32)) hx hb dX9_master_24 (by decide) ?_
    obtain ⟨u5, hu5, hf⟩ := bd_use hf
    refine r_cv_9 (rest := []) C h (c_X9_in  hu5) (rfl : Kd 29 = 9) gX9_master_X9_in rfl ⟨rfl, rfl⟩ hdX9_in ⟨Nat.le_of_ble_eq_true rfl, Nat.le_of_ble_eq_true rfl⟩ ⟨Nat.zero_le _, Nat.zero_le _⟩ hl.1 rfl (Nat.le_of_ble_eq_true rfl) dX9_master_26 (fun H locs h => ?_)
    refine lv_if_ne (tgt := 35) hx hb dX9_master_29 (by decide) (fun c6 => ?_) (fun c6 => ?_)
    · replace hf := it_f c6 hf
      refine lv_aload_n hx hb dX9_master_35 rfl (lv_at hl 0 rfl) ?_
      refine gf_9_0 C h (rfl : Kd 29 = 9) up_eq inX9_master_9 lkX9_master_7 dX9_master_36 ?_
      refine lv_bipush (v := (6 : Int32)) hx hb dX9_master_39 (by decide) ?_
      refine lv_icmp_ne (tgt := 47) hx hb dX9_master_41 (by decide) (fun c7 => ?_) (fun c7 => ?_)
      · replace hf := it_f c7 hf
        refine lv_aload_n hx hb dX9_master_47 rfl (lv_at hl 0 rfl) ?_
        refine gf_9_5 C h (rfl : Kd 29 = 9) up_eq inX9_master_9 lkX9_master_25 dX9_master_48 ?_
        refine lv_aload_n hx hb dX9_master_51 rfl (lv_at hl 0 rfl) ?_
        refine gf_9_0 C h (rfl : Kd 29 = 9) up_eq inX9_master_9 lkX9_master_7 dX9_master_52 ?_
        refine lv_iload_n hx hb dX9_master_55 rfl (lv_at hl 1 rfl) ?_
        obtain ⟨g8, hf⟩ := gd_use hf
        refine sa_9_1 C h (rfl : Kd 29 = 9) up_eq (F := fun t => va_up σ 29 t) (fun _ => up_up) (inB_in g8) dX9_master_56 (fun τ9 eτ9 H locs h => ?_)
        replace hf := lt_use eτ9 hf
        clear eτ9
        refine lv_aload_n hx hb dX9_master_57 rfl (lv_at hl 0 rfl) ?_
        refine gf_9_6 C h (rfl : Kd 29 = 9) up_eq inX9_master_9 lkX9_master_29 dX9_master_58 ?_
        refine lv_aload_n hx hb dX9_master_61 rfl (lv_at hl 0 rfl) ?_
        refine gf_9_0 C h (rfl : Kd 29 = 9) up_eq inX9_master_9 lkX9_master_7 dX9_master_62 ?_
        refine lv_iload_n hx hb dX9_master_65 rfl (lv_at hl 2 rfl) ?_
        obtain ⟨g10, hf⟩ := gd_use hf
        refine sa_9_2 C h (rfl : Kd 29 = 9) up_eq (F := fun t => va_up σ 29 t) (fun _ => up_up) (inB_in g10) dX9_master_66 (fun τ11 eτ11 H locs h => ?_)
        replace hf := lt_use eτ11 hf
        clear eτ11
        refine lv_aload_n hx hb dX9_master_67 rfl (lv_at hl 0 rfl) ?_
        refine gf_9_7 C h (rfl : Kd 29 = 9) up_eq inX9_master_9 lkX9_master_32 dX9_master_68 ?_
        refine lv_aload_n hx hb dX9_master_71 rfl (lv_at hl 0 rfl) ?_
        refine gf_9_0 C h (rfl : Kd 29 = 9) up_eq inX9_master_9 lkX9_master_7 dX9_master_72 ?_
        refine lv_iload_n hx hb dX9_master_75 rfl (lv_at hl 3 rfl) ?_
        obtain ⟨g12, hf⟩ := gd_use hf
        refine sa_9_3 C h (rfl : Kd 29 = 9) up_eq (F := fun t => va_up σ 29 t) (fun _ => up_up) (inB_in g12) dX9_master_76 (fun τ13 eτ13 H locs h => ?_)
        replace hf := lt_use eτ13 hf
        clear eτ13
        refine lv_aload_n hx hb dX9_master_77 rfl (lv_at hl 0 rfl) ?_
        refine gf_9_8 C h (rfl : Kd 29 = 9) up_eq inX9_master_9 lkX9_master_35 dX9_master_78 ?_
        refine lv_aload_n hx hb dX9_master_81 rfl (lv_at hl 0 rfl) ?_
        refine gf_9_0 C h (rfl : Kd 29 = 9) up_eq inX9_master_9 lkX9_master_7 dX9_master_82 ?_
        refine lv_bipush (v := (-5 : Int32)) hx hb dX9_master_85 (by decide) ?_
        obtain ⟨g14, hf⟩ := gd_use hf
        refine sa_9_4 C h (rfl : Kd 29 = 9) up_eq (F := fun t => va_up σ 29 t) (fun _ => up_up) (inB_in g14) dX9_master_87 (fun τ15 eτ15 H locs h => ?_)
        replace hf := lt_use eτ15 hf
        clear eτ15
        refine lv_aload_n hx hb dX9_master_88 rfl (lv_at hl 0 rfl) ?_
        refine gf_9_9 C h (rfl : Kd 29 = 9) up_eq inX9_master_9 lkX9_master_38 dX9_master_89 ?_
        refine lv_aload_n hx hb dX9_master_92 rfl (lv_at hl 0 rfl) ?_
        refine gf_9_0 C h (rfl : Kd 29 = 9) up_eq inX9_master_9 lkX9_master_7 dX9_master_93 ?_
        refine lv_iconst (v := (0 : Int32)) hx hb dX9_master_96 (by decide) ?_
        obtain ⟨g16, hf⟩ := gd_use hf
        refine sa_9_5 C h (rfl : Kd 29 = 9) up_eq (F := fun t => va_up σ 29 t) (fun _ => up_up) (inB_in g16) dX9_master_97 (fun τ17 eτ17 H locs h => ?_)
        replace hf := lt_use eτ17 hf
        clear eτ17
        refine lv_aload_n hx hb dX9_master_98 rfl (lv_at hl 0 rfl) ?_
        refine gf_9_10 C h (rfl : Kd 29 = 9) up_eq inX9_master_9 lkX9_master_41 dX9_master_99 ?_
        refine lv_aload_n hx hb dX9_master_102 rfl (lv_at hl 0 rfl) ?_
        refine gf_9_0 C h (rfl : Kd 29 = 9) up_eq inX9_master_9 lkX9_master_7 dX9_master_103 ?_
        refine lv_iconst (v := (0 : Int32)) hx hb dX9_master_106 (by decide) ?_
        obtain ⟨g18, hf⟩ := gd_use hf
        refine sa_9_6 C h (rfl : Kd 29 = 9) up_eq (F := fun t => va_up σ 29 t) (fun _ => up_up) (inB_in g18) dX9_master_107 (fun τ19 eτ19 H locs h => ?_)
        replace hf := lt_use eτ19 hf
        clear eτ19
        refine lv_aload_n hx hb dX9_master_108 rfl (lv_at hl 0 rfl) ?_
        refine lv_dup hx hb dX9_master_109 rfl ?_
        refine gf_9_1 C h (rfl : Kd 29 = 9) up_eq inX9_master_9 lkX9_master_13 dX9_master_110 ?_
        refine lv_iconst (v := (1 : Int32)) hx hb dX9_master_113 (by decide) ?_
        refine lv_aload_n hx hb dX9_master_114 rfl (lv_at hl 0 rfl) ?_
        refine gf_9_0 C h (rfl : Kd 29 = 9) up_eq inX9_master_9 lkX9_master_7 dX9_master_115 ?_
        refine lv_ishl hx hb dX9_master_118 ?_
        refine lv_iconst (v := (-1 : Int32)) hx hb dX9_master_119 (by decide) ?_
        refine lv_ixor hx hb dX9_master_120 ?_
        refine lv_iand hx hb dX9_master_121 ?_
        refine pf_9_1 C h (rfl : Kd 29 = 9) up_eq (F := fun t => va_up σ 29 t) (fun _ => up_up) inX9_master_9 lkX9_master_13 dX9_master_122 (fun τ20 eτ20 H locs h => ?_)
        replace hf := lt_use eτ20 hf
        clear eτ20
        refine lv_iconst (v := (0 : Int32)) hx hb dX9_master_125 (by decide) ?_
        refine lv_istore (lv' := [(4, .int (0 : Int32)), (0, .ref (Ea E 29 0)), (1, .int p0), (2, .int p1), (3, .int p2)]) hx hb dX9_master_126 hl (by decide) rfl (fun ls hl => ?_)
        exact w_X9_master_128L    C  _ _ _ _ _ h ls (lv_sub hl [1, 0] rfl) hf
      replace hf := it_t c7 hf
      refine lv_bipush (v := (-4 : Int32)) hx hb dX9_master_44 (by decide) ?_
      replace hf := Option.some.inj hf
      subst hf
      exact r_ire C h dX9_master_46
    replace hf := it_t c6 hf
    refine lv_bipush (v := (-2 : Int32)) hx hb dX9_master_32 (by decide) ?_
    replace hf := Option.some.inj hf
    subst hf
    exact r_ire C h dX9_master_34
  replace hf := it_t c4 hf
  refine lv_iconst (v := (-1 : Int32)) hx hb dX9_master_19 (by decide) ?_
  replace hf := Option.some.inj hf
  subst hf
  exact r_ire C h dX9_master_20
theorem c_X9_master {l : Launch} {E : Ev} {σ : Ms} {ℓ : Mz} {τ : Mm} {p0 : Int32} {p1 : Int32} {p2 : Int32} {out : Int32 × Mm} (hf : f_X9_master τ p0 p1 p2 = some out) : Ct l yX9_master wsX9_master rm_X9_master [.ref (Ea E 29 0), .int p0, .int p1, .int p2] E (va_up σ 29 τ) ℓ (some (.int out.1)) (va_up σ 29 out.2) ℓ := by
  refine Ct_mk (cc := cX9_master) (mL := 5) (ret := (some .int)) (own := RX9) (by decide +kernel) rfl rfl (Nat.le_of_ble_eq_true rfl) (fun p e s m below meth c C h ls hl => ?_)
  exact w_X9_master_0  C τ _ _ h ls (lv_sub hl [0, 1, 2, 3] rfl) hf
theorem k_X9_master {l : Launch} {E : Ev} {σ : Ms} {ℓ : Mz} {τ : Mm} {p0 : Int32} {p1 : Int32} {p2 : Int32} (hτ : σ 29 = τ) {out : Int32 × Mm} (hf : f_X9_master τ p0 p1 p2 = some out) : Ct l yX9_master wsX9_master rm_X9_master [.ref (Ea E 29 0), .int p0, .int p1, .int p2] E σ ℓ (some (.int out.1)) (va_up σ 29 out.2) ℓ := by
  subst hτ
  have h := c_X9_master (l := l) (E := E) (σ := σ) (ℓ := ℓ)  hf
  rw [up_id σ 29] at h
  exact h
theorem hdX9_set : yX9_set.cls = RX9 ∧ yX9_set.cls ≠ "java/lang/invoke/MethodHandle" ∧ yX9_set.cls ≠ "java/lang/invoke/VarHandle" ∧ (parseMethodDescriptor yX9_set.desc).map (fun d => d.parameters.length) = some 3 := by decide +kernel
def rm_X9_set : Room := { frames := 2, cells := 0, slots := 0, locals := 44 }
set_option maxRecDepth 100000 in
theorem inX9_set_9 : ∀ w ∈ wsX90, w ∈ wsX9_set := fun _ h => List.mem_cons_of_mem _ (List.mem_append_right _ h)
set_option maxRecDepth 100000 in
theorem lkX9_set_38 : Cond.fieldLink RX9 38 "BellsBelowModel" "rests" "[I" ∈ wsX9_set := by decide +kernel
set_option maxRecDepth 100000 in
theorem lkX9_set_32 : Cond.fieldLink RX9 32 "BellsBelowModel" "floor" "[I" ∈ wsX9_set := by decide +kernel
set_option maxHeartbeats 4000000 in
set_option maxRecDepth 100000 in
theorem w_X9_set_68 {p : Program} {l : Launch} {e : Env} {s : State} {m : MethodId} {args : Array Value} {below : List Frame} {meth : Method} {c : Code} {E : Ev} {σ : Ms} {ℓ : Mz} {p0 : Int32} {p1 : Int32} {p2 : Int32} {out : Int32 × Mm}   (C : Cx cX9_set 5 (some .int) wsX9_set RX9 E p s m args meth c)  : ∀ (τ : Mm) (w0 : Int32) (H : Heap) (locs : List Loc) (h : HI E (va_up σ 29 τ) ℓ s H locs) (ls : Array Slot) (hl : lv_has ls 5 [(0, .ref (Ea E 29 0)), (1, .int p0), (2, .int p1), (3, .int p2)]), f_X9_set_68 p0 p1 p2  τ w0 = some out → W p l e rm_X9_set s m args below meth c H locs 0 0 (MQ below (Po E s.heap.size (some (.int out.1)) (va_up σ 29 out.2) ℓ) args s 0 0 (AA E s.heap.size)) (F0 m 68 ls [.int w0]) := by
  intro τ w0 H locs h ls hl hf
  unfold f_X9_set_68 at hf
  have C0 := C
  obtain ⟨hx, hb, hr, hml, hown, hts, hlk, hK, hSF⟩ := C0
  refine lv_istore (lv' := [(4, .int w0), (0, .ref (Ea E 29 0)), (1, .int p0), (2, .int p1), (3, .int p2)]) hx hb dX9_set_68 hl (by decide) rfl (fun ls hl => ?_)
  refine lv_iload_n hx hb dX9_set_70 rfl (lv_at hl 3 rfl) ?_
  refine lv_if_ne (tgt := 84) hx hb dX9_set_71 (by decide) (fun c10 => ?_) (fun c10 => ?_)
  · replace hf := it_f c10 hf
    refine lv_aload_n hx hb dX9_set_84 rfl (lv_at hl 1 rfl) ?_
    refine gf_9_9 C h (rfl : Kd 29 = 9) up_eq inX9_set_9 lkX9_set_38 dX9_set_85 ?_
    refine lv_iload_n hx hb dX9_set_88 rfl (lv_at hl 2 rfl) ?_
    refine lv_iload_n hx hb dX9_set_89 rfl (lv_at hl 4 rfl) ?_
    obtain ⟨g11, hf⟩ := gd_use hf
    refine sa_9_5 C h (rfl : Kd 29 = 9) up_eq (F := fun t => va_up σ 29 t) (fun _ => up_up) (inB_in g11) dX9_set_90 (fun τ12 eτ12 H locs h => ?_)
    replace hf := lt_use eτ12 hf
    clear eτ12
    refine lv_iload hx hb dX9_set_91 (lv_at hl 0 rfl) ?_
    replace hf := Option.some.inj hf
    subst hf
    exact r_ire C h dX9_set_93
  replace hf := it_t c10 hf
  refine lv_aload_n hx hb dX9_set_74 rfl (lv_at hl 1 rfl) ?_
  refine gf_9_7 C h (rfl : Kd 29 = 9) up_eq inX9_set_9 lkX9_set_32 dX9_set_75 ?_
  refine lv_iload_n hx hb dX9_set_78 rfl (lv_at hl 2 rfl) ?_
  refine lv_iload_n hx hb dX9_set_79 rfl (lv_at hl 4 rfl) ?_
  obtain ⟨g13, hf⟩ := gd_use hf
  refine sa_9_3 C h (rfl : Kd 29 = 9) up_eq (F := fun t => va_up σ 29 t) (fun _ => up_up) (inB_in g13) dX9_set_80 (fun τ14 eτ14 H locs h => ?_)
  replace hf := lt_use eτ14 hf
  clear eτ14
  refine lv_goto (tgt := 91) hx hb dX9_set_81 (by decide) ?_
  refine lv_iload hx hb dX9_set_91 (lv_at hl 0 rfl) ?_
  replace hf := Option.some.inj hf
  subst hf
  exact r_ire C h dX9_set_93
set_option maxHeartbeats 4000000 in
set_option maxRecDepth 100000 in
theorem w_X9_set_49 {p : Program} {l : Launch} {e : Env} {s : State} {m : MethodId} {args : Array Value} {below : List Frame} {meth : Method} {c : Code} {E : Ev} {σ : Ms} {ℓ : Mz} {p0 : Int32} {p1 : Int32} {p2 : Int32} {out : Int32 × Mm}   (C : Cx cX9_set 5 (some .int) wsX9_set RX9 E p s m args meth c)  : ∀ (τ : Mm) (H : Heap) (locs : List Loc) (h : HI E (va_up σ 29 τ) ℓ s H locs) (ls : Array Slot) (hl : lv_has ls 5 [(0, .ref (Ea E 29 0)), (1, .int p0), (2, .int p1), (3, .int p2)]), f_X9_set_49 p0 p1 p2  τ = some out → W p l e rm_X9_set s m args below meth c H locs 0 0 (MQ below (Po E s.heap.size (some (.int out.1)) (va_up σ 29 out.2) ℓ) args s 0 0 (AA E s.heap.size)) (F0 m 49 ls []) := by
  intro τ H locs h ls hl hf
  unfold f_X9_set_49 at hf
  have C0 := C
  obtain ⟨hx, hb, hr, hml, hown, hts, hlk, hK, hSF⟩ := C0
  refine lv_iload_n hx hb dX9_set_49 rfl (lv_at hl 2 rfl) ?_
  refine lv_if_ne (tgt := 62) hx hb dX9_set_50 (by decide) (fun c8 => ?_) (fun c8 => ?_)
  · replace hf := it_f c8 hf
    refine lv_aload_n hx hb dX9_set_62 rfl (lv_at hl 0 rfl) ?_
    refine gf_9_9 C h (rfl : Kd 29 = 9) up_eq inX9_set_9 lkX9_set_38 dX9_set_63 ?_
    refine lv_iload_n hx hb dX9_set_66 rfl (lv_at hl 1 rfl) ?_
    obtain ⟨g9, hf⟩ := gd_use hf
    refine ld_9_5 C h (rfl : Kd 29 = 9) up_eq (inB_in g9) dX9_set_67 ?_
    exact w_X9_set_68    C  _ _ _ _ h ls (lv_sub hl [0, 1, 2, 3] rfl) hf
  replace hf := it_t c8 hf
  refine lv_aload_n hx hb dX9_set_53 rfl (lv_at hl 0 rfl) ?_
  refine gf_9_7 C h (rfl : Kd 29 = 9) up_eq inX9_set_9 lkX9_set_32 dX9_set_54 ?_
  refine lv_iload_n hx hb dX9_set_57 rfl (lv_at hl 1 rfl) ?_
  obtain ⟨g15, hf⟩ := gd_use hf
  refine ld_9_3 C h (rfl : Kd 29 = 9) up_eq (inB_in g15) dX9_set_58 ?_
  refine lv_goto (tgt := 68) hx hb dX9_set_59 (by decide) ?_
  exact w_X9_set_68    C  _ _ _ _ h ls (lv_sub hl [0, 1, 2, 3] rfl) hf
set_option maxHeartbeats 4000000 in
set_option maxRecDepth 100000 in
theorem w_X9_set_0 {p : Program} {l : Launch} {e : Env} {s : State} {m : MethodId} {args : Array Value} {below : List Frame} {meth : Method} {c : Code} {E : Ev} {σ : Ms} {ℓ : Mz} {p0 : Int32} {p1 : Int32} {p2 : Int32} {out : Int32 × Mm}   (C : Cx cX9_set 5 (some .int) wsX9_set RX9 E p s m args meth c)  : ∀ (τ : Mm) (H : Heap) (locs : List Loc) (h : HI E (va_up σ 29 τ) ℓ s H locs) (ls : Array Slot) (hl : lv_has ls 5 [(0, .ref (Ea E 29 0)), (1, .int p0), (2, .int p1), (3, .int p2)]), f_X9_set_0 p0 p1 p2  τ = some out → W p l e rm_X9_set s m args below meth c H locs 0 0 (MQ below (Po E s.heap.size (some (.int out.1)) (va_up σ 29 out.2) ℓ) args s 0 0 (AA E s.heap.size)) (F0 m 0 ls []) := by
  intro τ H locs h ls hl hf
  unfold f_X9_set_0 at hf
  have C0 := C
  obtain ⟨hx, hb, hr, hml, hown, hts, hlk, hK, hSF⟩ := C0
  refine lv_aload_n hx hb dX9_set_0 rfl (lv_at hl 0 rfl) ?_
  refine lv_iload_n hx hb dX9_set_1 rfl (lv_at hl 1 rfl) ?_
  obtain ⟨u1, hu1, hf⟩ := bd_use hf
  refine r_cv_9 (rest := []) C h (c_X9_isMaster up_eq hu1) (rfl : Kd 29 = 9) gX9_set_X9_isMaster rfl ⟨rfl, rfl⟩ hdX9_isMaster ⟨Nat.le_of_ble_eq_true rfl, Nat.le_of_ble_eq_true rfl⟩ ⟨Nat.zero_le _, Nat.zero_le _⟩ hl.1 rfl (Nat.le_of_ble_eq_true rfl) dX9_set_2 (fun H locs h => ?_)
  refine lv_if_eq (tgt := 18) hx hb dX9_set_5 (by decide) (fun c2 => ?_) (fun c2 => ?_)
  · replace hf := it_t c2 hf
    refine lv_iconst (v := (-1 : Int32)) hx hb dX9_set_18 (by decide) ?_
    replace hf := Option.some.inj hf
    subst hf
    exact r_ire C h dX9_set_19
  replace hf := it_f c2 hf
  refine lv_aload_n hx hb dX9_set_8 rfl (lv_at hl 0 rfl) ?_
  refine lv_iload_n hx hb dX9_set_9 rfl (lv_at hl 2 rfl) ?_
  refine lv_iconst (v := (0 : Int32)) hx hb dX9_set_10 (by decide) ?_
  refine lv_iconst (v := (1 : Int32)) hx hb dX9_set_11 (by decide) ?_
  obtain ⟨u3, hu3, hf⟩ := bd_use hf
  refine r_cv_9 (rest := []) C h (c_X9_in  hu3) (rfl : Kd 29 = 9) gX9_set_X9_in rfl ⟨rfl, rfl⟩ hdX9_in ⟨Nat.le_of_ble_eq_true rfl, Nat.le_of_ble_eq_true rfl⟩ ⟨Nat.zero_le _, Nat.zero_le _⟩ hl.1 rfl (Nat.le_of_ble_eq_true rfl) dX9_set_12 (fun H locs h => ?_)
  refine lv_if_ne (tgt := 20) hx hb dX9_set_15 (by decide) (fun c4 => ?_) (fun c4 => ?_)
  · replace hf := it_f c4 hf
    refine lv_iload_n hx hb dX9_set_20 rfl (lv_at hl 2 rfl) ?_
    refine lv_if_ne (tgt := 35) hx hb dX9_set_21 (by decide) (fun c5 => ?_) (fun c5 => ?_)
    · replace hf := it_f c5 hf
      refine lv_aload_n hx hb dX9_set_35 rfl (lv_at hl 0 rfl) ?_
      refine lv_iload_n hx hb dX9_set_36 rfl (lv_at hl 3 rfl) ?_
      refine lv_iconst (v := (0 : Int32)) hx hb dX9_set_37 (by decide) ?_
      refine lv_bipush (v := (99 : Int32)) hx hb dX9_set_38 (by decide) ?_
      obtain ⟨u6, hu6, hf⟩ := bd_use hf
      refine r_cv_9 (rest := []) C h (c_X9_in  hu6) (rfl : Kd 29 = 9) gX9_set_X9_in rfl ⟨rfl, rfl⟩ hdX9_in ⟨Nat.le_of_ble_eq_true rfl, Nat.le_of_ble_eq_true rfl⟩ ⟨Nat.zero_le _, Nat.zero_le _⟩ hl.1 rfl (Nat.le_of_ble_eq_true rfl) dX9_set_40 (fun H locs h => ?_)
      refine lv_if_ne (tgt := 49) hx hb dX9_set_43 (by decide) (fun c7 => ?_) (fun c7 => ?_)
      · replace hf := it_f c7 hf
        exact w_X9_set_49    C  _ _ _ h ls (lv_sub hl [0, 1, 2, 3] rfl) hf
      replace hf := it_t c7 hf
      refine lv_bipush (v := (-2 : Int32)) hx hb dX9_set_46 (by decide) ?_
      replace hf := Option.some.inj hf
      subst hf
      exact r_ire C h dX9_set_48
    replace hf := it_t c5 hf
    refine lv_aload_n hx hb dX9_set_24 rfl (lv_at hl 0 rfl) ?_
    refine lv_iload_n hx hb dX9_set_25 rfl (lv_at hl 3 rfl) ?_
    obtain ⟨u16, hu16, hf⟩ := bd_use hf
    refine r_cv_9 (rest := []) C h (c_X9_isFloor  hu16) (rfl : Kd 29 = 9) gX9_set_X9_isFloor rfl ⟨rfl, rfl⟩ hdX9_isFloor ⟨Nat.le_of_ble_eq_true rfl, Nat.le_of_ble_eq_true rfl⟩ ⟨Nat.zero_le _, Nat.zero_le _⟩ hl.1 rfl (Nat.le_of_ble_eq_true rfl) dX9_set_26 (fun H locs h => ?_)
    refine lv_if_ne (tgt := 49) hx hb dX9_set_29 (by decide) (fun c17 => ?_) (fun c17 => ?_)
    · replace hf := it_f c17 hf
      exact w_X9_set_49    C  _ _ _ h ls (lv_sub hl [0, 1, 2, 3] rfl) hf
    replace hf := it_t c17 hf
    refine lv_goto (tgt := 46) hx hb dX9_set_32 (by decide) ?_
    refine lv_bipush (v := (-2 : Int32)) hx hb dX9_set_46 (by decide) ?_
    replace hf := Option.some.inj hf
    subst hf
    exact r_ire C h dX9_set_48
  replace hf := it_t c4 hf
  refine lv_iconst (v := (-1 : Int32)) hx hb dX9_set_18 (by decide) ?_
  replace hf := Option.some.inj hf
  subst hf
  exact r_ire C h dX9_set_19
theorem c_X9_set {l : Launch} {E : Ev} {σ : Ms} {ℓ : Mz} {τ : Mm} {p0 : Int32} {p1 : Int32} {p2 : Int32} {out : Int32 × Mm} (hf : f_X9_set τ p0 p1 p2 = some out) : Ct l yX9_set wsX9_set rm_X9_set [.ref (Ea E 29 0), .int p0, .int p1, .int p2] E (va_up σ 29 τ) ℓ (some (.int out.1)) (va_up σ 29 out.2) ℓ := by
  refine Ct_mk (cc := cX9_set) (mL := 5) (ret := (some .int)) (own := RX9) (by decide +kernel) rfl rfl (Nat.le_of_ble_eq_true rfl) (fun p e s m below meth c C h ls hl => ?_)
  exact w_X9_set_0  C τ _ _ h ls (lv_sub hl [0, 1, 2, 3] rfl) hf
theorem k_X9_set {l : Launch} {E : Ev} {σ : Ms} {ℓ : Mz} {τ : Mm} {p0 : Int32} {p1 : Int32} {p2 : Int32} (hτ : σ 29 = τ) {out : Int32 × Mm} (hf : f_X9_set τ p0 p1 p2 = some out) : Ct l yX9_set wsX9_set rm_X9_set [.ref (Ea E 29 0), .int p0, .int p1, .int p2] E σ ℓ (some (.int out.1)) (va_up σ 29 out.2) ℓ := by
  subst hτ
  have h := c_X9_set (l := l) (E := E) (σ := σ) (ℓ := ℓ)  hf
  rw [up_id σ 29] at h
  exact h
theorem hdX9_goes : yX9_goes.cls = RX9 ∧ yX9_goes.cls ≠ "java/lang/invoke/MethodHandle" ∧ yX9_goes.cls ≠ "java/lang/invoke/VarHandle" ∧ (parseMethodDescriptor yX9_goes.desc).map (fun d => d.parameters.length) = some 2 := by decide +kernel
def rm_X9_goes : Room := { frames := 0, cells := 0, slots := 0, locals := 0 }
set_option maxRecDepth 100000 in
theorem inX9_goes_9 : ∀ w ∈ wsX90, w ∈ wsX9_goes := fun _ h => List.mem_cons_of_mem _ (List.mem_append_right _ h)
set_option maxRecDepth 100000 in
theorem lkX9_goes_13 : Cond.fieldLink RX9 13 "BellsBelowModel" "absent" "I" ∈ wsX9_goes := by decide +kernel
set_option maxHeartbeats 4000000 in
set_option maxRecDepth 100000 in
theorem w_X9_goes_26 {p : Program} {l : Launch} {e : Env} {s : State} {m : MethodId} {args : Array Value} {below : List Frame} {meth : Method} {c : Code} {E : Ev} {σ : Ms} {ℓ : Mz} {p0 : Int32} {p1 : Int32} {out : Mm}   (C : Cx cX9_goes 3 none wsX9_goes RX9 E p s m args meth c)  : ∀ (τ : Mm) (w1 : Int32) (H : Heap) (locs : List Loc) (h : HI E (va_up σ 29 τ) ℓ s H locs) (ls : Array Slot) (hl : lv_has ls 3 []), f_X9_goes_26 p0 p1  τ w1 = some out → W p l e rm_X9_goes s m args below meth c H locs 0 0 (MQ below (Po E s.heap.size none (va_up σ 29 out) ℓ) args s 0 0 (AA E s.heap.size)) (F0 m 26 ls [.int w1, .ref (Ea E 29 0)]) := by
  intro τ w1 H locs h ls hl hf
  unfold f_X9_goes_26 at hf
  have C0 := C
  obtain ⟨hx, hb, hr, hml, hown, hts, hlk, hK, hSF⟩ := C0
  refine pf_9_1 C h (rfl : Kd 29 = 9) up_eq (F := fun t => va_up σ 29 t) (fun _ => up_up) inX9_goes_9 lkX9_goes_13 dX9_goes_26 (fun τ2 eτ2 H locs h => ?_)
  replace hf := lt_use eτ2 hf
  clear eτ2
  replace hf := Option.some.inj hf
  subst hf
  exact r_vre C h dX9_goes_29
set_option maxHeartbeats 4000000 in
set_option maxRecDepth 100000 in
theorem w_X9_goes_0 {p : Program} {l : Launch} {e : Env} {s : State} {m : MethodId} {args : Array Value} {below : List Frame} {meth : Method} {c : Code} {E : Ev} {σ : Ms} {ℓ : Mz} {p0 : Int32} {p1 : Int32} {out : Mm}   (C : Cx cX9_goes 3 none wsX9_goes RX9 E p s m args meth c)  : ∀ (τ : Mm) (H : Heap) (locs : List Loc) (h : HI E (va_up σ 29 τ) ℓ s H locs) (ls : Array Slot) (hl : lv_has ls 3 [(0, .ref (Ea E 29 0)), (1, .int p0), (2, .int p1)]), f_X9_goes_0 p0 p1  τ = some out → W p l e rm_X9_goes s m args below meth c H locs 0 0 (MQ below (Po E s.heap.size none (va_up σ 29 out) ℓ) args s 0 0 (AA E s.heap.size)) (F0 m 0 ls []) := by
  intro τ H locs h ls hl hf
  unfold f_X9_goes_0 at hf
  have C0 := C
  obtain ⟨hx, hb, hr, hml, hown, hts, hlk, hK, hSF⟩ := C0
  refine lv_aload_n hx hb dX9_goes_0 rfl (lv_at hl 0 rfl) ?_
  refine lv_iload_n hx hb dX9_goes_1 rfl (lv_at hl 2 rfl) ?_
  refine lv_if_eq (tgt := 16) hx hb dX9_goes_2 (by decide) (fun c1 => ?_) (fun c1 => ?_)
  · replace hf := it_t c1 hf
    refine lv_aload_n hx hb dX9_goes_16 rfl (lv_at hl 0 rfl) ?_
    refine gf_9_1 C h (rfl : Kd 29 = 9) up_eq inX9_goes_9 lkX9_goes_13 dX9_goes_17 ?_
    refine lv_iconst (v := (1 : Int32)) hx hb dX9_goes_20 (by decide) ?_
    refine lv_iload_n hx hb dX9_goes_21 rfl (lv_at hl 1 rfl) ?_
    refine lv_ishl hx hb dX9_goes_22 ?_
    refine lv_iconst (v := (-1 : Int32)) hx hb dX9_goes_23 (by decide) ?_
    refine lv_ixor hx hb dX9_goes_24 ?_
    refine lv_iand hx hb dX9_goes_25 ?_
    exact w_X9_goes_26    C  _ _ _ _ h ls (lv_sub hl [] rfl) hf
  replace hf := it_f c1 hf
  refine lv_aload_n hx hb dX9_goes_5 rfl (lv_at hl 0 rfl) ?_
  refine gf_9_1 C h (rfl : Kd 29 = 9) up_eq inX9_goes_9 lkX9_goes_13 dX9_goes_6 ?_
  refine lv_iconst (v := (1 : Int32)) hx hb dX9_goes_9 (by decide) ?_
  refine lv_iload_n hx hb dX9_goes_10 rfl (lv_at hl 1 rfl) ?_
  refine lv_ishl hx hb dX9_goes_11 ?_
  refine lv_ior hx hb dX9_goes_12 ?_
  refine lv_goto (tgt := 26) hx hb dX9_goes_13 (by decide) ?_
  exact w_X9_goes_26    C  _ _ _ _ h ls (lv_sub hl [] rfl) hf
theorem c_X9_goes {l : Launch} {E : Ev} {σ : Ms} {ℓ : Mz} {τ : Mm} {p0 : Int32} {p1 : Int32} {out : Mm} (hf : f_X9_goes τ p0 p1 = some out) : Ct l yX9_goes wsX9_goes rm_X9_goes [.ref (Ea E 29 0), .int p0, .int p1] E (va_up σ 29 τ) ℓ none (va_up σ 29 out) ℓ := by
  refine Ct_mk (cc := cX9_goes) (mL := 3) (ret := none) (own := RX9) (by decide +kernel) rfl rfl (Nat.le_of_ble_eq_true rfl) (fun p e s m below meth c C h ls hl => ?_)
  exact w_X9_goes_0  C τ _ _ h ls (lv_sub hl [0, 1, 2] rfl) hf
theorem k_X9_goes {l : Launch} {E : Ev} {σ : Ms} {ℓ : Mz} {τ : Mm} {p0 : Int32} {p1 : Int32} (hτ : σ 29 = τ) {out : Mm} (hf : f_X9_goes τ p0 p1 = some out) : Ct l yX9_goes wsX9_goes rm_X9_goes [.ref (Ea E 29 0), .int p0, .int p1] E σ ℓ none (va_up σ 29 out) ℓ := by
  subst hτ
  have h := c_X9_goes (l := l) (E := E) (σ := σ) (ℓ := ℓ)  hf
  rw [up_id σ 29] at h
  exact h
theorem hdX9_away : yX9_away.cls = RX9 ∧ yX9_away.cls ≠ "java/lang/invoke/MethodHandle" ∧ yX9_away.cls ≠ "java/lang/invoke/VarHandle" ∧ (parseMethodDescriptor yX9_away.desc).map (fun d => d.parameters.length) = some 2 := by decide +kernel
def rm_X9_away : Room := { frames := 2, cells := 0, slots := 0, locals := 44 }
set_option maxRecDepth 100000 in
theorem inX9_away_9 : ∀ w ∈ wsX90, w ∈ wsX9_away := fun _ h => List.mem_cons_of_mem _ (List.mem_append_right _ h)
set_option maxRecDepth 100000 in
theorem lkX9_away_13 : Cond.fieldLink RX9 13 "BellsBelowModel" "absent" "I" ∈ wsX9_away := by decide +kernel
set_option maxHeartbeats 4000000 in
set_option maxRecDepth 100000 in
theorem w_X9_away_27 {p : Program} {l : Launch} {e : Env} {s : State} {m : MethodId} {args : Array Value} {below : List Frame} {meth : Method} {c : Code} {E : Ev} {σ : Ms} {ℓ : Mz} {p0 : Int32} {p1 : Int32} {out : Int32 × Mm}   (C : Cx cX9_away 4 (some .int) wsX9_away RX9 E p s m args meth c)  : ∀ (τ : Mm) (w0 : Int32) (H : Heap) (locs : List Loc) (h : HI E (va_up σ 29 τ) ℓ s H locs) (ls : Array Slot) (hl : lv_has ls 4 [(0, .ref (Ea E 29 0)), (1, .int p0), (2, .int p1)]), f_X9_away_27 p0 p1  τ w0 = some out → W p l e rm_X9_away s m args below meth c H locs 0 0 (MQ below (Po E s.heap.size (some (.int out.1)) (va_up σ 29 out.2) ℓ) args s 0 0 (AA E s.heap.size)) (F0 m 27 ls [.int w0]) := by
  intro τ w0 H locs h ls hl hf
  unfold f_X9_away_27 at hf
  have C0 := C
  obtain ⟨hx, hb, hr, hml, hown, hts, hlk, hK, hSF⟩ := C0
  refine lv_istore_n (lv' := [(3, .int w0), (0, .ref (Ea E 29 0)), (1, .int p0), (2, .int p1)]) hx hb dX9_away_27 rfl hl (by decide) rfl (fun ls hl => ?_)
  refine lv_aload_n hx hb dX9_away_28 rfl (lv_at hl 1 rfl) ?_
  refine lv_iload_n hx hb dX9_away_29 rfl (lv_at hl 2 rfl) ?_
  refine lv_iload_n hx hb dX9_away_30 rfl (lv_at hl 3 rfl) ?_
  obtain ⟨u5, hu5, hf⟩ := bd_use hf
  refine r_cv_9 (rest := []) C h (c_X9_goes  hu5) (rfl : Kd 29 = 9) gX9_away_X9_goes rfl ⟨rfl, rfl⟩ hdX9_goes ⟨Nat.le_of_ble_eq_true rfl, Nat.le_of_ble_eq_true rfl⟩ ⟨Nat.zero_le _, Nat.zero_le _⟩ hl.1 rfl (Nat.le_of_ble_eq_true rfl) dX9_away_31 (fun H locs h => ?_)
  refine lv_iload_n hx hb dX9_away_34 rfl (lv_at hl 0 rfl) ?_
  replace hf := Option.some.inj hf
  subst hf
  exact r_ire C h dX9_away_35
set_option maxHeartbeats 4000000 in
set_option maxRecDepth 100000 in
theorem w_X9_away_0 {p : Program} {l : Launch} {e : Env} {s : State} {m : MethodId} {args : Array Value} {below : List Frame} {meth : Method} {c : Code} {E : Ev} {σ : Ms} {ℓ : Mz} {p0 : Int32} {p1 : Int32} {out : Int32 × Mm}   (C : Cx cX9_away 4 (some .int) wsX9_away RX9 E p s m args meth c)  : ∀ (τ : Mm) (H : Heap) (locs : List Loc) (h : HI E (va_up σ 29 τ) ℓ s H locs) (ls : Array Slot) (hl : lv_has ls 4 [(0, .ref (Ea E 29 0)), (1, .int p0), (2, .int p1)]), f_X9_away_0 p0 p1  τ = some out → W p l e rm_X9_away s m args below meth c H locs 0 0 (MQ below (Po E s.heap.size (some (.int out.1)) (va_up σ 29 out.2) ℓ) args s 0 0 (AA E s.heap.size)) (F0 m 0 ls []) := by
  intro τ H locs h ls hl hf
  unfold f_X9_away_0 at hf
  have C0 := C
  obtain ⟨hx, hb, hr, hml, hown, hts, hlk, hK, hSF⟩ := C0
  refine lv_aload_n hx hb dX9_away_0 rfl (lv_at hl 0 rfl) ?_
  refine lv_iload_n hx hb dX9_away_1 rfl (lv_at hl 1 rfl) ?_
  obtain ⟨u1, hu1, hf⟩ := bd_use hf
  refine r_cv_9 (rest := []) C h (c_X9_isMaster up_eq hu1) (rfl : Kd 29 = 9) gX9_away_X9_isMaster rfl ⟨rfl, rfl⟩ hdX9_isMaster ⟨Nat.le_of_ble_eq_true rfl, Nat.le_of_ble_eq_true rfl⟩ ⟨Nat.zero_le _, Nat.zero_le _⟩ hl.1 rfl (Nat.le_of_ble_eq_true rfl) dX9_away_2 (fun H locs h => ?_)
  refine lv_if_ne (tgt := 10) hx hb dX9_away_5 (by decide) (fun c2 => ?_) (fun c2 => ?_)
  · replace hf := it_f c2 hf
    refine lv_aload_n hx hb dX9_away_10 rfl (lv_at hl 0 rfl) ?_
    refine lv_aload_n hx hb dX9_away_11 rfl (lv_at hl 0 rfl) ?_
    refine gf_9_1 C h (rfl : Kd 29 = 9) up_eq inX9_away_9 lkX9_away_13 dX9_away_12 ?_
    refine lv_iload_n hx hb dX9_away_15 rfl (lv_at hl 1 rfl) ?_
    obtain ⟨u3, hu3, hf⟩ := bd_use hf
    refine r_cv_9 (rest := []) C h (c_X9_has  hu3) (rfl : Kd 29 = 9) gX9_away_X9_has rfl ⟨rfl, rfl⟩ hdX9_has ⟨Nat.le_of_ble_eq_true rfl, Nat.le_of_ble_eq_true rfl⟩ ⟨Nat.zero_le _, Nat.zero_le _⟩ hl.1 rfl (Nat.le_of_ble_eq_true rfl) dX9_away_16 (fun H locs h => ?_)
    refine lv_if_eq (tgt := 26) hx hb dX9_away_19 (by decide) (fun c4 => ?_) (fun c4 => ?_)
    · replace hf := it_t c4 hf
      refine lv_iconst (v := (0 : Int32)) hx hb dX9_away_26 (by decide) ?_
      exact w_X9_away_27    C  _ _ _ _ h ls (lv_sub hl [0, 1, 2] rfl) hf
    replace hf := it_f c4 hf
    refine lv_iconst (v := (1 : Int32)) hx hb dX9_away_22 (by decide) ?_
    refine lv_goto (tgt := 27) hx hb dX9_away_23 (by decide) ?_
    exact w_X9_away_27    C  _ _ _ _ h ls (lv_sub hl [0, 1, 2] rfl) hf
  replace hf := it_t c2 hf
  refine lv_iconst (v := (-1 : Int32)) hx hb dX9_away_8 (by decide) ?_
  replace hf := Option.some.inj hf
  subst hf
  exact r_ire C h dX9_away_9
theorem c_X9_away {l : Launch} {E : Ev} {σ : Ms} {ℓ : Mz} {τ : Mm} {p0 : Int32} {p1 : Int32} {out : Int32 × Mm} (hf : f_X9_away τ p0 p1 = some out) : Ct l yX9_away wsX9_away rm_X9_away [.ref (Ea E 29 0), .int p0, .int p1] E (va_up σ 29 τ) ℓ (some (.int out.1)) (va_up σ 29 out.2) ℓ := by
  refine Ct_mk (cc := cX9_away) (mL := 4) (ret := (some .int)) (own := RX9) (by decide +kernel) rfl rfl (Nat.le_of_ble_eq_true rfl) (fun p e s m below meth c C h ls hl => ?_)
  exact w_X9_away_0  C τ _ _ h ls (lv_sub hl [0, 1, 2] rfl) hf
theorem k_X9_away {l : Launch} {E : Ev} {σ : Ms} {ℓ : Mz} {τ : Mm} {p0 : Int32} {p1 : Int32} (hτ : σ 29 = τ) {out : Int32 × Mm} (hf : f_X9_away τ p0 p1 = some out) : Ct l yX9_away wsX9_away rm_X9_away [.ref (Ea E 29 0), .int p0, .int p1] E σ ℓ (some (.int out.1)) (va_up σ 29 out.2) ℓ := by
  subst hτ
  have h := c_X9_away (l := l) (E := E) (σ := σ) (ℓ := ℓ)  hf
  rw [up_id σ 29] at h
  exact h
theorem hdX9_ring : yX9_ring.cls = RX9 ∧ yX9_ring.cls ≠ "java/lang/invoke/MethodHandle" ∧ yX9_ring.cls ≠ "java/lang/invoke/VarHandle" ∧ (parseMethodDescriptor yX9_ring.desc).map (fun d => d.parameters.length) = some 1 := by decide +kernel
def rm_X9_ring : Room := { frames := 2, cells := 0, slots := 0, locals := 44 }
set_option maxRecDepth 100000 in
theorem inX9_ring_9 : ∀ w ∈ wsX90, w ∈ wsX9_ring := fun _ h => List.mem_cons_of_mem _ (List.mem_append_right _ h)
set_option maxRecDepth 100000 in
theorem lkX9_ring_16 : Cond.fieldLink RX9 16 "BellsBelowModel" "rung" "I" ∈ wsX9_ring := by decide +kernel
set_option maxRecDepth 100000 in
theorem lkX9_ring_47 : Cond.fieldLink RX9 47 "BellsBelowModel" "wire" "[I" ∈ wsX9_ring := by decide +kernel
set_option maxHeartbeats 4000000 in
set_option maxRecDepth 100000 in
theorem w_X9_ring_0 {p : Program} {l : Launch} {e : Env} {s : State} {m : MethodId} {args : Array Value} {below : List Frame} {meth : Method} {c : Code} {E : Ev} {σ : Ms} {ℓ : Mz} {p0 : Int32} {out : Int32 × Mm}   (C : Cx cX9_ring 2 (some .int) wsX9_ring RX9 E p s m args meth c)  : ∀ (τ : Mm) (H : Heap) (locs : List Loc) (h : HI E (va_up σ 29 τ) ℓ s H locs) (ls : Array Slot) (hl : lv_has ls 2 [(0, .ref (Ea E 29 0)), (1, .int p0)]), f_X9_ring_0 p0  τ = some out → W p l e rm_X9_ring s m args below meth c H locs 0 0 (MQ below (Po E s.heap.size (some (.int out.1)) (va_up σ 29 out.2) ℓ) args s 0 0 (AA E s.heap.size)) (F0 m 0 ls []) := by
  intro τ H locs h ls hl hf
  unfold f_X9_ring_0 at hf
  have C0 := C
  obtain ⟨hx, hb, hr, hml, hown, hts, hlk, hK, hSF⟩ := C0
  refine lv_aload_n hx hb dX9_ring_0 rfl (lv_at hl 0 rfl) ?_
  refine lv_iload_n hx hb dX9_ring_1 rfl (lv_at hl 1 rfl) ?_
  obtain ⟨u1, hu1, hf⟩ := bd_use hf
  refine r_cv_9 (rest := []) C h (c_X9_isFloor  hu1) (rfl : Kd 29 = 9) gX9_ring_X9_isFloor rfl ⟨rfl, rfl⟩ hdX9_isFloor ⟨Nat.le_of_ble_eq_true rfl, Nat.le_of_ble_eq_true rfl⟩ ⟨Nat.zero_le _, Nat.zero_le _⟩ hl.1 rfl (Nat.le_of_ble_eq_true rfl) dX9_ring_2 (fun H locs h => ?_)
  refine lv_if_ne (tgt := 10) hx hb dX9_ring_5 (by decide) (fun c2 => ?_) (fun c2 => ?_)
  · replace hf := it_f c2 hf
    refine lv_aload_n hx hb dX9_ring_10 rfl (lv_at hl 0 rfl) ?_
    refine lv_dup hx hb dX9_ring_11 rfl ?_
    refine gf_9_2 C h (rfl : Kd 29 = 9) up_eq inX9_ring_9 lkX9_ring_16 dX9_ring_12 ?_
    refine lv_iconst (v := (1 : Int32)) hx hb dX9_ring_15 (by decide) ?_
    refine lv_aload_n hx hb dX9_ring_16 rfl (lv_at hl 0 rfl) ?_
    refine gf_9_12 C h (rfl : Kd 29 = 9) up_eq inX9_ring_9 lkX9_ring_47 dX9_ring_17 ?_
    refine lv_iload_n hx hb dX9_ring_20 rfl (lv_at hl 1 rfl) ?_
    obtain ⟨g3, hf⟩ := gd_use hf
    refine ld_9_8 C h (rfl : Kd 29 = 9) up_eq (inB_in g3) dX9_ring_21 ?_
    refine lv_ishl hx hb dX9_ring_22 ?_
    refine lv_ior hx hb dX9_ring_23 ?_
    refine pf_9_2 C h (rfl : Kd 29 = 9) up_eq (F := fun t => va_up σ 29 t) (fun _ => up_up) inX9_ring_9 lkX9_ring_16 dX9_ring_24 (fun τ4 eτ4 H locs h => ?_)
    replace hf := lt_use eτ4 hf
    clear eτ4
    refine lv_aload_n hx hb dX9_ring_27 rfl (lv_at hl 0 rfl) ?_
    refine gf_9_12 C h (rfl : Kd 29 = 9) up_eq inX9_ring_9 lkX9_ring_47 dX9_ring_28 ?_
    refine lv_iload_n hx hb dX9_ring_31 rfl (lv_at hl 1 rfl) ?_
    obtain ⟨g5, hf⟩ := gd_use hf
    refine ld_9_8 C h (rfl : Kd 29 = 9) up_eq (inB_in g5) dX9_ring_32 ?_
    replace hf := Option.some.inj hf
    subst hf
    exact r_ire C h dX9_ring_33
  replace hf := it_t c2 hf
  refine lv_iconst (v := (-1 : Int32)) hx hb dX9_ring_8 (by decide) ?_
  replace hf := Option.some.inj hf
  subst hf
  exact r_ire C h dX9_ring_9
theorem c_X9_ring {l : Launch} {E : Ev} {σ : Ms} {ℓ : Mz} {τ : Mm} {p0 : Int32} {out : Int32 × Mm} (hf : f_X9_ring τ p0 = some out) : Ct l yX9_ring wsX9_ring rm_X9_ring [.ref (Ea E 29 0), .int p0] E (va_up σ 29 τ) ℓ (some (.int out.1)) (va_up σ 29 out.2) ℓ := by
  refine Ct_mk (cc := cX9_ring) (mL := 2) (ret := (some .int)) (own := RX9) (by decide +kernel) rfl rfl (Nat.le_of_ble_eq_true rfl) (fun p e s m below meth c C h ls hl => ?_)
  exact w_X9_ring_0  C τ _ _ h ls (lv_sub hl [0, 1] rfl) hf
theorem k_X9_ring {l : Launch} {E : Ev} {σ : Ms} {ℓ : Mz} {τ : Mm} {p0 : Int32} (hτ : σ 29 = τ) {out : Int32 × Mm} (hf : f_X9_ring τ p0 = some out) : Ct l yX9_ring wsX9_ring rm_X9_ring [.ref (Ea E 29 0), .int p0] E σ ℓ (some (.int out.1)) (va_up σ 29 out.2) ℓ := by
  subst hτ
  have h := c_X9_ring (l := l) (E := E) (σ := σ) (ℓ := ℓ)  hf
  rw [up_id σ 29] at h
  exact h
theorem hdX9_cross : yX9_cross.cls = RX9 ∧ yX9_cross.cls ≠ "java/lang/invoke/MethodHandle" ∧ yX9_cross.cls ≠ "java/lang/invoke/VarHandle" ∧ (parseMethodDescriptor yX9_cross.desc).map (fun d => d.parameters.length) = some 2 := by decide +kernel
def rm_X9_cross : Room := { frames := 2, cells := 0, slots := 0, locals := 44 }
set_option maxRecDepth 100000 in
theorem inX9_cross_9 : ∀ w ∈ wsX90, w ∈ wsX9_cross := fun _ h => List.mem_cons_of_mem _ (List.mem_append_right _ h)
set_option maxRecDepth 100000 in
theorem lkX9_cross_47 : Cond.fieldLink RX9 47 "BellsBelowModel" "wire" "[I" ∈ wsX9_cross := by decide +kernel
set_option maxHeartbeats 4000000 in
set_option maxRecDepth 100000 in
theorem w_X9_cross_0 {p : Program} {l : Launch} {e : Env} {s : State} {m : MethodId} {args : Array Value} {below : List Frame} {meth : Method} {c : Code} {E : Ev} {σ : Ms} {ℓ : Mz} {p0 : Int32} {p1 : Int32} {out : Int32 × Mm}   (C : Cx cX9_cross 4 (some .int) wsX9_cross RX9 E p s m args meth c)  : ∀ (τ : Mm) (H : Heap) (locs : List Loc) (h : HI E (va_up σ 29 τ) ℓ s H locs) (ls : Array Slot) (hl : lv_has ls 4 [(0, .ref (Ea E 29 0)), (1, .int p0), (2, .int p1)]), f_X9_cross_0 p0 p1  τ = some out → W p l e rm_X9_cross s m args below meth c H locs 0 0 (MQ below (Po E s.heap.size (some (.int out.1)) (va_up σ 29 out.2) ℓ) args s 0 0 (AA E s.heap.size)) (F0 m 0 ls []) := by
  intro τ H locs h ls hl hf
  unfold f_X9_cross_0 at hf
  have C0 := C
  obtain ⟨hx, hb, hr, hml, hown, hts, hlk, hK, hSF⟩ := C0
  refine lv_aload_n hx hb dX9_cross_0 rfl (lv_at hl 0 rfl) ?_
  refine lv_iload_n hx hb dX9_cross_1 rfl (lv_at hl 1 rfl) ?_
  obtain ⟨u1, hu1, hf⟩ := bd_use hf
  refine r_cv_9 (rest := []) C h (c_X9_isFloor  hu1) (rfl : Kd 29 = 9) gX9_cross_X9_isFloor rfl ⟨rfl, rfl⟩ hdX9_isFloor ⟨Nat.le_of_ble_eq_true rfl, Nat.le_of_ble_eq_true rfl⟩ ⟨Nat.zero_le _, Nat.zero_le _⟩ hl.1 rfl (Nat.le_of_ble_eq_true rfl) dX9_cross_2 (fun H locs h => ?_)
  refine lv_if_eq (tgt := 16) hx hb dX9_cross_5 (by decide) (fun c2 => ?_) (fun c2 => ?_)
  · replace hf := it_t c2 hf
    refine lv_iconst (v := (-1 : Int32)) hx hb dX9_cross_16 (by decide) ?_
    replace hf := Option.some.inj hf
    subst hf
    exact r_ire C h dX9_cross_17
  replace hf := it_f c2 hf
  refine lv_aload_n hx hb dX9_cross_8 rfl (lv_at hl 0 rfl) ?_
  refine lv_iload_n hx hb dX9_cross_9 rfl (lv_at hl 2 rfl) ?_
  obtain ⟨u3, hu3, hf⟩ := bd_use hf
  refine r_cv_9 (rest := []) C h (c_X9_isFloor  hu3) (rfl : Kd 29 = 9) gX9_cross_X9_isFloor rfl ⟨rfl, rfl⟩ hdX9_isFloor ⟨Nat.le_of_ble_eq_true rfl, Nat.le_of_ble_eq_true rfl⟩ ⟨Nat.zero_le _, Nat.zero_le _⟩ hl.1 rfl (Nat.le_of_ble_eq_true rfl) dX9_cross_10 (fun H locs h => ?_)
  refine lv_if_ne (tgt := 18) hx hb dX9_cross_13 (by decide) (fun c4 => ?_) (fun c4 => ?_)
  · replace hf := it_f c4 hf
    refine lv_iload_n hx hb dX9_cross_18 rfl (lv_at hl 1 rfl) ?_
    refine lv_iload_n hx hb dX9_cross_19 rfl (lv_at hl 2 rfl) ?_
    refine lv_icmp_ne (tgt := 26) hx hb dX9_cross_20 (by decide) (fun c5 => ?_) (fun c5 => ?_)
    · replace hf := it_f c5 hf
      refine lv_aload_n hx hb dX9_cross_26 rfl (lv_at hl 0 rfl) ?_
      refine gf_9_12 C h (rfl : Kd 29 = 9) up_eq inX9_cross_9 lkX9_cross_47 dX9_cross_27 ?_
      refine lv_iload_n hx hb dX9_cross_30 rfl (lv_at hl 1 rfl) ?_
      obtain ⟨g6, hf⟩ := gd_use hf
      refine ld_9_8 C h (rfl : Kd 29 = 9) up_eq (inB_in g6) dX9_cross_31 ?_
      refine lv_topi (fun x7 ex7 => ?_)
      replace hf := lt_use ex7 hf
      clear ex7
      refine lv_istore_n (lv' := [(3, .int x7), (0, .ref (Ea E 29 0)), (1, .int p0), (2, .int p1)]) hx hb dX9_cross_32 rfl hl (by decide) rfl (fun ls hl => ?_)
      refine lv_aload_n hx hb dX9_cross_33 rfl (lv_at hl 1 rfl) ?_
      refine gf_9_12 C h (rfl : Kd 29 = 9) up_eq inX9_cross_9 lkX9_cross_47 dX9_cross_34 ?_
      refine lv_iload_n hx hb dX9_cross_37 rfl (lv_at hl 2 rfl) ?_
      refine lv_aload_n hx hb dX9_cross_38 rfl (lv_at hl 1 rfl) ?_
      refine gf_9_12 C h (rfl : Kd 29 = 9) up_eq inX9_cross_9 lkX9_cross_47 dX9_cross_39 ?_
      refine lv_iload_n hx hb dX9_cross_42 rfl (lv_at hl 3 rfl) ?_
      obtain ⟨g8, hf⟩ := gd_use hf
      refine ld_9_8 C h (rfl : Kd 29 = 9) up_eq (inB_in g8) dX9_cross_43 ?_
      obtain ⟨g9, hf⟩ := gd_use hf
      refine sa_9_8 C h (rfl : Kd 29 = 9) up_eq (F := fun t => va_up σ 29 t) (fun _ => up_up) (inB_in g9) dX9_cross_44 (fun τ10 eτ10 H locs h => ?_)
      replace hf := lt_use eτ10 hf
      clear eτ10
      refine lv_aload_n hx hb dX9_cross_45 rfl (lv_at hl 1 rfl) ?_
      refine gf_9_12 C h (rfl : Kd 29 = 9) up_eq inX9_cross_9 lkX9_cross_47 dX9_cross_46 ?_
      refine lv_iload_n hx hb dX9_cross_49 rfl (lv_at hl 3 rfl) ?_
      refine lv_iload_n hx hb dX9_cross_50 rfl (lv_at hl 0 rfl) ?_
      obtain ⟨g11, hf⟩ := gd_use hf
      refine sa_9_8 C h (rfl : Kd 29 = 9) up_eq (F := fun t => va_up σ 29 t) (fun _ => up_up) (inB_in g11) dX9_cross_51 (fun τ12 eτ12 H locs h => ?_)
      replace hf := lt_use eτ12 hf
      clear eτ12
      refine lv_aload_n hx hb dX9_cross_52 rfl (lv_at hl 1 rfl) ?_
      refine gf_9_12 C h (rfl : Kd 29 = 9) up_eq inX9_cross_9 lkX9_cross_47 dX9_cross_53 ?_
      refine lv_iload_n hx hb dX9_cross_56 rfl (lv_at hl 2 rfl) ?_
      obtain ⟨g13, hf⟩ := gd_use hf
      refine ld_9_8 C h (rfl : Kd 29 = 9) up_eq (inB_in g13) dX9_cross_57 ?_
      replace hf := Option.some.inj hf
      subst hf
      exact r_ire C h dX9_cross_58
    replace hf := it_t c5 hf
    refine lv_bipush (v := (-2 : Int32)) hx hb dX9_cross_23 (by decide) ?_
    replace hf := Option.some.inj hf
    subst hf
    exact r_ire C h dX9_cross_25
  replace hf := it_t c4 hf
  refine lv_iconst (v := (-1 : Int32)) hx hb dX9_cross_16 (by decide) ?_
  replace hf := Option.some.inj hf
  subst hf
  exact r_ire C h dX9_cross_17
theorem c_X9_cross {l : Launch} {E : Ev} {σ : Ms} {ℓ : Mz} {τ : Mm} {p0 : Int32} {p1 : Int32} {out : Int32 × Mm} (hf : f_X9_cross τ p0 p1 = some out) : Ct l yX9_cross wsX9_cross rm_X9_cross [.ref (Ea E 29 0), .int p0, .int p1] E (va_up σ 29 τ) ℓ (some (.int out.1)) (va_up σ 29 out.2) ℓ := by
  refine Ct_mk (cc := cX9_cross) (mL := 4) (ret := (some .int)) (own := RX9) (by decide +kernel) rfl rfl (Nat.le_of_ble_eq_true rfl) (fun p e s m below meth c C h ls hl => ?_)
  exact w_X9_cross_0  C τ _ _ h ls (lv_sub hl [0, 1, 2] rfl) hf
theorem k_X9_cross {l : Launch} {E : Ev} {σ : Ms} {ℓ : Mz} {τ : Mm} {p0 : Int32} {p1 : Int32} (hτ : σ 29 = τ) {out : Int32 × Mm} (hf : f_X9_cross τ p0 p1 = some out) : Ct l yX9_cross wsX9_cross rm_X9_cross [.ref (Ea E 29 0), .int p0, .int p1] E σ ℓ (some (.int out.1)) (va_up σ 29 out.2) ℓ := by
  subst hτ
  have h := c_X9_cross (l := l) (E := E) (σ := σ) (ℓ := ℓ)  hf
  rw [up_id σ 29] at h
  exact h
theorem hdX9_row : yX9_row.cls = RX9 ∧ yX9_row.cls ≠ "java/lang/invoke/MethodHandle" ∧ yX9_row.cls ≠ "java/lang/invoke/VarHandle" ∧ (parseMethodDescriptor yX9_row.desc).map (fun d => d.parameters.length) = some 3 := by decide +kernel
def rm_X9_row : Room := { frames := 2, cells := 0, slots := 0, locals := 44 }
set_option maxRecDepth 100000 in
theorem inX9_row_9 : ∀ w ∈ wsX90, w ∈ wsX9_row := fun _ h => List.mem_cons_of_mem _ (List.mem_append_right _ h)
set_option maxRecDepth 100000 in
theorem lkX9_row_25 : Cond.fieldLink RX9 25 "BellsBelowModel" "kind" "[I" ∈ wsX9_row := by decide +kernel
set_option maxRecDepth 100000 in
theorem lkX9_row_44 : Cond.fieldLink RX9 44 "BellsBelowModel" "rows" "[I" ∈ wsX9_row := by decide +kernel
set_option maxHeartbeats 4000000 in
set_option maxRecDepth 100000 in
theorem w_X9_row_0 {p : Program} {l : Launch} {e : Env} {s : State} {m : MethodId} {args : Array Value} {below : List Frame} {meth : Method} {c : Code} {E : Ev} {σ : Ms} {ℓ : Mz} {p0 : Int32} {p1 : Int32} {p2 : Int32} {out : Int32 × Mm}   (C : Cx cX9_row 5 (some .int) wsX9_row RX9 E p s m args meth c)  : ∀ (τ : Mm) (H : Heap) (locs : List Loc) (h : HI E (va_up σ 29 τ) ℓ s H locs) (ls : Array Slot) (hl : lv_has ls 5 [(0, .ref (Ea E 29 0)), (1, .int p0), (2, .int p1), (3, .int p2)]), f_X9_row_0 p0 p1 p2  τ = some out → W p l e rm_X9_row s m args below meth c H locs 0 0 (MQ below (Po E s.heap.size (some (.int out.1)) (va_up σ 29 out.2) ℓ) args s 0 0 (AA E s.heap.size)) (F0 m 0 ls []) := by
  intro τ H locs h ls hl hf
  unfold f_X9_row_0 at hf
  have C0 := C
  obtain ⟨hx, hb, hr, hml, hown, hts, hlk, hK, hSF⟩ := C0
  refine lv_aload_n hx hb dX9_row_0 rfl (lv_at hl 0 rfl) ?_
  refine lv_iload_n hx hb dX9_row_1 rfl (lv_at hl 1 rfl) ?_
  obtain ⟨u1, hu1, hf⟩ := bd_use hf
  refine r_cv_9 (rest := []) C h (c_X9_isMaster up_eq hu1) (rfl : Kd 29 = 9) gX9_row_X9_isMaster rfl ⟨rfl, rfl⟩ hdX9_isMaster ⟨Nat.le_of_ble_eq_true rfl, Nat.le_of_ble_eq_true rfl⟩ ⟨Nat.zero_le _, Nat.zero_le _⟩ hl.1 rfl (Nat.le_of_ble_eq_true rfl) dX9_row_2 (fun H locs h => ?_)
  refine lv_if_eq (tgt := 18) hx hb dX9_row_5 (by decide) (fun c2 => ?_) (fun c2 => ?_)
  · replace hf := it_t c2 hf
    refine lv_iconst (v := (-1 : Int32)) hx hb dX9_row_18 (by decide) ?_
    replace hf := Option.some.inj hf
    subst hf
    exact r_ire C h dX9_row_19
  replace hf := it_f c2 hf
  refine lv_aload_n hx hb dX9_row_8 rfl (lv_at hl 0 rfl) ?_
  refine lv_iload_n hx hb dX9_row_9 rfl (lv_at hl 2 rfl) ?_
  refine lv_iconst (v := (0 : Int32)) hx hb dX9_row_10 (by decide) ?_
  refine lv_iconst (v := (3 : Int32)) hx hb dX9_row_11 (by decide) ?_
  obtain ⟨u3, hu3, hf⟩ := bd_use hf
  refine r_cv_9 (rest := []) C h (c_X9_in  hu3) (rfl : Kd 29 = 9) gX9_row_X9_in rfl ⟨rfl, rfl⟩ hdX9_in ⟨Nat.le_of_ble_eq_true rfl, Nat.le_of_ble_eq_true rfl⟩ ⟨Nat.zero_le _, Nat.zero_le _⟩ hl.1 rfl (Nat.le_of_ble_eq_true rfl) dX9_row_12 (fun H locs h => ?_)
  refine lv_if_ne (tgt := 20) hx hb dX9_row_15 (by decide) (fun c4 => ?_) (fun c4 => ?_)
  · replace hf := it_f c4 hf
    refine lv_aload_n hx hb dX9_row_20 rfl (lv_at hl 0 rfl) ?_
    refine lv_iload_n hx hb dX9_row_21 rfl (lv_at hl 3 rfl) ?_
    refine lv_iconst (v := (0 : Int32)) hx hb dX9_row_22 (by decide) ?_
    refine lv_bipush (v := (9 : Int32)) hx hb dX9_row_23 (by decide) ?_
    obtain ⟨u5, hu5, hf⟩ := bd_use hf
    refine r_cv_9 (rest := []) C h (c_X9_in  hu5) (rfl : Kd 29 = 9) gX9_row_X9_in rfl ⟨rfl, rfl⟩ hdX9_in ⟨Nat.le_of_ble_eq_true rfl, Nat.le_of_ble_eq_true rfl⟩ ⟨Nat.zero_le _, Nat.zero_le _⟩ hl.1 rfl (Nat.le_of_ble_eq_true rfl) dX9_row_25 (fun H locs h => ?_)
    refine lv_if_ne (tgt := 34) hx hb dX9_row_28 (by decide) (fun c6 => ?_) (fun c6 => ?_)
    · replace hf := it_f c6 hf
      refine lv_aload_n hx hb dX9_row_34 rfl (lv_at hl 0 rfl) ?_
      refine gf_9_5 C h (rfl : Kd 29 = 9) up_eq inX9_row_9 lkX9_row_25 dX9_row_35 ?_
      refine lv_iload_n hx hb dX9_row_38 rfl (lv_at hl 1 rfl) ?_
      obtain ⟨g7, hf⟩ := gd_use hf
      refine ld_9_1 C h (rfl : Kd 29 = 9) up_eq (inB_in g7) dX9_row_39 ?_
      refine lv_bipush (v := (6 : Int32)) hx hb dX9_row_40 (by decide) ?_
      refine lv_icmp_eq (tgt := 48) hx hb dX9_row_42 (by decide) (fun c8 => ?_) (fun c8 => ?_)
      · replace hf := it_t c8 hf
        refine lv_aload_n hx hb dX9_row_48 rfl (lv_at hl 0 rfl) ?_
        refine gf_9_11 C h (rfl : Kd 29 = 9) up_eq inX9_row_9 lkX9_row_44 dX9_row_49 ?_
        refine lv_iconst (v := (4 : Int32)) hx hb dX9_row_52 (by decide) ?_
        refine lv_iload_n hx hb dX9_row_53 rfl (lv_at hl 1 rfl) ?_
        refine lv_imul hx hb dX9_row_54 ?_
        refine lv_iload_n hx hb dX9_row_55 rfl (lv_at hl 2 rfl) ?_
        refine lv_iadd hx hb dX9_row_56 ?_
        obtain ⟨g9, hf⟩ := gd_use hf
        refine ld_9_7 C h (rfl : Kd 29 = 9) up_eq (inB_in g9) dX9_row_57 ?_
        refine lv_topi (fun x10 ex10 => ?_)
        replace hf := lt_use ex10 hf
        clear ex10
        refine lv_istore (lv' := [(4, .int x10), (0, .ref (Ea E 29 0)), (1, .int p0), (2, .int p1), (3, .int p2)]) hx hb dX9_row_58 hl (by decide) rfl (fun ls hl => ?_)
        refine lv_aload_n hx hb dX9_row_60 rfl (lv_at hl 1 rfl) ?_
        refine gf_9_11 C h (rfl : Kd 29 = 9) up_eq inX9_row_9 lkX9_row_44 dX9_row_61 ?_
        refine lv_iconst (v := (4 : Int32)) hx hb dX9_row_64 (by decide) ?_
        refine lv_iload_n hx hb dX9_row_65 rfl (lv_at hl 2 rfl) ?_
        refine lv_imul hx hb dX9_row_66 ?_
        refine lv_iload_n hx hb dX9_row_67 rfl (lv_at hl 3 rfl) ?_
        refine lv_iadd hx hb dX9_row_68 ?_
        refine lv_iload_n hx hb dX9_row_69 rfl (lv_at hl 4 rfl) ?_
        obtain ⟨g11, hf⟩ := gd_use hf
        refine sa_9_7 C h (rfl : Kd 29 = 9) up_eq (F := fun t => va_up σ 29 t) (fun _ => up_up) (inB_in g11) dX9_row_70 (fun τ12 eτ12 H locs h => ?_)
        replace hf := lt_use eτ12 hf
        clear eτ12
        refine lv_iload hx hb dX9_row_71 (lv_at hl 0 rfl) ?_
        replace hf := Option.some.inj hf
        subst hf
        exact r_ire C h dX9_row_73
      replace hf := it_f c8 hf
      refine lv_bipush (v := (-3 : Int32)) hx hb dX9_row_45 (by decide) ?_
      replace hf := Option.some.inj hf
      subst hf
      exact r_ire C h dX9_row_47
    replace hf := it_t c6 hf
    refine lv_bipush (v := (-2 : Int32)) hx hb dX9_row_31 (by decide) ?_
    replace hf := Option.some.inj hf
    subst hf
    exact r_ire C h dX9_row_33
  replace hf := it_t c4 hf
  refine lv_iconst (v := (-1 : Int32)) hx hb dX9_row_18 (by decide) ?_
  replace hf := Option.some.inj hf
  subst hf
  exact r_ire C h dX9_row_19
theorem c_X9_row {l : Launch} {E : Ev} {σ : Ms} {ℓ : Mz} {τ : Mm} {p0 : Int32} {p1 : Int32} {p2 : Int32} {out : Int32 × Mm} (hf : f_X9_row τ p0 p1 p2 = some out) : Ct l yX9_row wsX9_row rm_X9_row [.ref (Ea E 29 0), .int p0, .int p1, .int p2] E (va_up σ 29 τ) ℓ (some (.int out.1)) (va_up σ 29 out.2) ℓ := by
  refine Ct_mk (cc := cX9_row) (mL := 5) (ret := (some .int)) (own := RX9) (by decide +kernel) rfl rfl (Nat.le_of_ble_eq_true rfl) (fun p e s m below meth c C h ls hl => ?_)
  exact w_X9_row_0  C τ _ _ h ls (lv_sub hl [0, 1, 2, 3] rfl) hf
theorem k_X9_row {l : Launch} {E : Ev} {σ : Ms} {ℓ : Mz} {τ : Mm} {p0 : Int32} {p1 : Int32} {p2 : Int32} (hτ : σ 29 = τ) {out : Int32 × Mm} (hf : f_X9_row τ p0 p1 p2 = some out) : Ct l yX9_row wsX9_row rm_X9_row [.ref (Ea E 29 0), .int p0, .int p1, .int p2] E σ ℓ (some (.int out.1)) (va_up σ 29 out.2) ℓ := by
  subst hτ
  have h := c_X9_row (l := l) (E := E) (σ := σ) (ℓ := ℓ)  hf
  rw [up_id σ 29] at h
  exact h
theorem hdX9_feed : yX9_feed.cls = RX9 ∧ yX9_feed.cls ≠ "java/lang/invoke/MethodHandle" ∧ yX9_feed.cls ≠ "java/lang/invoke/VarHandle" ∧ (parseMethodDescriptor yX9_feed.desc).map (fun d => d.parameters.length) = some 1 := by decide +kernel
def rm_X9_feed : Room := { frames := 1, cells := 0, slots := 0, locals := 23 }
set_option maxRecDepth 100000 in
theorem inX9_feed_9 : ∀ w ∈ wsX90, w ∈ wsX9_feed := fun _ h => List.mem_cons_of_mem _ (List.mem_append_right _ h)
set_option maxRecDepth 100000 in
theorem lkX9_feed_56 : Cond.fieldLink RX9 56 "BellsBelowModel" "fed" "I" ∈ wsX9_feed := by decide +kernel
set_option maxRecDepth 100000 in
theorem lkX9_feed_65 : Cond.fieldLink RX9 65 "BellsBelowModel" "text" "[I" ∈ wsX9_feed := by decide +kernel
set_option maxHeartbeats 4000000 in
set_option maxRecDepth 100000 in
theorem w_X9_feed_0 {p : Program} {l : Launch} {e : Env} {s : State} {m : MethodId} {args : Array Value} {below : List Frame} {meth : Method} {c : Code} {E : Ev} {σ : Ms} {ℓ : Mz} {p0 : Int32} {out : Int32 × Mm}   (C : Cx cX9_feed 2 (some .int) wsX9_feed RX9 E p s m args meth c)  : ∀ (τ : Mm) (H : Heap) (locs : List Loc) (h : HI E (va_up σ 29 τ) ℓ s H locs) (ls : Array Slot) (hl : lv_has ls 2 [(0, .ref (Ea E 29 0)), (1, .int p0)]), f_X9_feed_0 p0  τ = some out → W p l e rm_X9_feed s m args below meth c H locs 0 0 (MQ below (Po E s.heap.size (some (.int out.1)) (va_up σ 29 out.2) ℓ) args s 0 0 (AA E s.heap.size)) (F0 m 0 ls []) := by
  intro τ H locs h ls hl hf
  unfold f_X9_feed_0 at hf
  have C0 := C
  obtain ⟨hx, hb, hr, hml, hown, hts, hlk, hK, hSF⟩ := C0
  refine lv_aload_n hx hb dX9_feed_0 rfl (lv_at hl 0 rfl) ?_
  refine lv_iload_n hx hb dX9_feed_1 rfl (lv_at hl 1 rfl) ?_
  refine lv_iconst (v := (0 : Int32)) hx hb dX9_feed_2 (by decide) ?_
  refine lv_bipush (v := (127 : Int32)) hx hb dX9_feed_3 (by decide) ?_
  obtain ⟨u1, hu1, hf⟩ := bd_use hf
  refine r_cv_9 (rest := []) C h (c_X9_in  hu1) (rfl : Kd 29 = 9) gX9_feed_X9_in rfl ⟨rfl, rfl⟩ hdX9_in ⟨Nat.le_of_ble_eq_true rfl, Nat.le_of_ble_eq_true rfl⟩ ⟨Nat.zero_le _, Nat.zero_le _⟩ hl.1 rfl (Nat.le_of_ble_eq_true rfl) dX9_feed_5 (fun H locs h => ?_)
  refine lv_if_ne (tgt := 14) hx hb dX9_feed_8 (by decide) (fun c2 => ?_) (fun c2 => ?_)
  · replace hf := it_f c2 hf
    refine lv_aload_n hx hb dX9_feed_14 rfl (lv_at hl 0 rfl) ?_
    refine gf_9_15 C h (rfl : Kd 29 = 9) up_eq inX9_feed_9 lkX9_feed_56 dX9_feed_15 ?_
    refine lv_bipush (v := (100 : Int32)) hx hb dX9_feed_18 (by decide) ?_
    refine lv_icmp_ne (tgt := 26) hx hb dX9_feed_20 (by decide) (fun c3 => ?_) (fun c3 => ?_)
    · replace hf := it_f c3 hf
      refine lv_aload_n hx hb dX9_feed_26 rfl (lv_at hl 0 rfl) ?_
      refine gf_9_18 C h (rfl : Kd 29 = 9) up_eq inX9_feed_9 lkX9_feed_65 dX9_feed_27 ?_
      refine lv_aload_n hx hb dX9_feed_30 rfl (lv_at hl 0 rfl) ?_
      refine gf_9_15 C h (rfl : Kd 29 = 9) up_eq inX9_feed_9 lkX9_feed_56 dX9_feed_31 ?_
      refine lv_iload_n hx hb dX9_feed_34 rfl (lv_at hl 1 rfl) ?_
      obtain ⟨g4, hf⟩ := gd_use hf
      refine sa_9_9 C h (rfl : Kd 29 = 9) up_eq (F := fun t => va_up σ 29 t) (fun _ => up_up) (inB_in g4) dX9_feed_35 (fun τ5 eτ5 H locs h => ?_)
      replace hf := lt_use eτ5 hf
      clear eτ5
      refine lv_aload_n hx hb dX9_feed_36 rfl (lv_at hl 0 rfl) ?_
      refine lv_dup hx hb dX9_feed_37 rfl ?_
      refine gf_9_15 C h (rfl : Kd 29 = 9) up_eq inX9_feed_9 lkX9_feed_56 dX9_feed_38 ?_
      refine lv_iconst (v := (1 : Int32)) hx hb dX9_feed_41 (by decide) ?_
      refine lv_iadd hx hb dX9_feed_42 ?_
      refine pf_9_15 C h (rfl : Kd 29 = 9) up_eq (F := fun t => va_up σ 29 t) (fun _ => up_up) inX9_feed_9 lkX9_feed_56 dX9_feed_43 (fun τ6 eτ6 H locs h => ?_)
      replace hf := lt_use eτ6 hf
      clear eτ6
      refine lv_aload_n hx hb dX9_feed_46 rfl (lv_at hl 0 rfl) ?_
      refine gf_9_15 C h (rfl : Kd 29 = 9) up_eq inX9_feed_9 lkX9_feed_56 dX9_feed_47 ?_
      replace hf := Option.some.inj hf
      subst hf
      exact r_ire C h dX9_feed_50
    replace hf := it_t c3 hf
    refine lv_bipush (v := (-4 : Int32)) hx hb dX9_feed_23 (by decide) ?_
    replace hf := Option.some.inj hf
    subst hf
    exact r_ire C h dX9_feed_25
  replace hf := it_t c2 hf
  refine lv_bipush (v := (-2 : Int32)) hx hb dX9_feed_11 (by decide) ?_
  replace hf := Option.some.inj hf
  subst hf
  exact r_ire C h dX9_feed_13
theorem c_X9_feed {l : Launch} {E : Ev} {σ : Ms} {ℓ : Mz} {τ : Mm} {p0 : Int32} {out : Int32 × Mm} (hf : f_X9_feed τ p0 = some out) : Ct l yX9_feed wsX9_feed rm_X9_feed [.ref (Ea E 29 0), .int p0] E (va_up σ 29 τ) ℓ (some (.int out.1)) (va_up σ 29 out.2) ℓ := by
  refine Ct_mk (cc := cX9_feed) (mL := 2) (ret := (some .int)) (own := RX9) (by decide +kernel) rfl rfl (Nat.le_of_ble_eq_true rfl) (fun p e s m below meth c C h ls hl => ?_)
  exact w_X9_feed_0  C τ _ _ h ls (lv_sub hl [0, 1] rfl) hf
theorem k_X9_feed {l : Launch} {E : Ev} {σ : Ms} {ℓ : Mz} {τ : Mm} {p0 : Int32} (hτ : σ 29 = τ) {out : Int32 × Mm} (hf : f_X9_feed τ p0 = some out) : Ct l yX9_feed wsX9_feed rm_X9_feed [.ref (Ea E 29 0), .int p0] E σ ℓ (some (.int out.1)) (va_up σ 29 out.2) ℓ := by
  subst hτ
  have h := c_X9_feed (l := l) (E := E) (σ := σ) (ℓ := ℓ)  hf
  rw [up_id σ 29] at h
  exact h
theorem hdX9_next : yX9_next.cls = RX9 ∧ yX9_next.cls ≠ "java/lang/invoke/MethodHandle" ∧ yX9_next.cls ≠ "java/lang/invoke/VarHandle" ∧ (parseMethodDescriptor yX9_next.desc).map (fun d => d.parameters.length) = some 0 := by decide +kernel
def rm_X9_next : Room := { frames := 0, cells := 0, slots := 0, locals := 0 }
set_option maxRecDepth 100000 in
theorem inX9_next_9 : ∀ w ∈ wsX90, w ∈ wsX9_next := fun _ h => List.mem_cons_of_mem _ (List.mem_append_right _ h)
set_option maxRecDepth 100000 in
theorem lkX9_next_59 : Cond.fieldLink RX9 59 "BellsBelowModel" "at" "I" ∈ wsX9_next := by decide +kernel
set_option maxRecDepth 100000 in
theorem lkX9_next_56 : Cond.fieldLink RX9 56 "BellsBelowModel" "fed" "I" ∈ wsX9_next := by decide +kernel
set_option maxRecDepth 100000 in
theorem lkX9_next_65 : Cond.fieldLink RX9 65 "BellsBelowModel" "text" "[I" ∈ wsX9_next := by decide +kernel
set_option maxHeartbeats 4000000 in
set_option maxRecDepth 100000 in
theorem w_X9_next_0 {p : Program} {l : Launch} {e : Env} {s : State} {m : MethodId} {args : Array Value} {below : List Frame} {meth : Method} {c : Code} {E : Ev} {σ : Ms} {ℓ : Mz} {τ : Mm} {out : Int32} (hτ : σ 29 = τ)   (C : Cx cX9_next 1 (some .int) wsX9_next RX9 E p s m args meth c)  : ∀  (H : Heap) (locs : List Loc) (h : HI E σ ℓ s H locs) (ls : Array Slot) (hl : lv_has ls 1 [(0, .ref (Ea E 29 0))]), f_X9_next_0 τ   = some out → W p l e rm_X9_next s m args below meth c H locs 0 0 (MQ below (Po E s.heap.size (some (.int out)) σ ℓ) args s 0 0 (AA E s.heap.size)) (F0 m 0 ls []) := by
  intro  H locs h ls hl hf
  unfold f_X9_next_0 at hf
  have C0 := C
  obtain ⟨hx, hb, hr, hml, hown, hts, hlk, hK, hSF⟩ := C0
  refine lv_aload_n hx hb dX9_next_0 rfl (lv_at hl 0 rfl) ?_
  refine gf_9_16 C h (rfl : Kd 29 = 9) hτ inX9_next_9 lkX9_next_59 dX9_next_1 ?_
  refine lv_aload_n hx hb dX9_next_4 rfl (lv_at hl 0 rfl) ?_
  refine gf_9_15 C h (rfl : Kd 29 = 9) hτ inX9_next_9 lkX9_next_56 dX9_next_5 ?_
  refine lv_icmp_ge (tgt := 23) hx hb dX9_next_8 (by decide) (fun c1 => ?_) (fun c1 => ?_)
  · replace hf := it_t c1 hf
    refine lv_iconst (v := (-1 : Int32)) hx hb dX9_next_23 (by decide) ?_
    replace hf := Option.some.inj hf
    subst hf
    exact r_ire C h dX9_next_24
  replace hf := it_f c1 hf
  refine lv_aload_n hx hb dX9_next_11 rfl (lv_at hl 0 rfl) ?_
  refine gf_9_18 C h (rfl : Kd 29 = 9) hτ inX9_next_9 lkX9_next_65 dX9_next_12 ?_
  refine lv_aload_n hx hb dX9_next_15 rfl (lv_at hl 0 rfl) ?_
  refine gf_9_16 C h (rfl : Kd 29 = 9) hτ inX9_next_9 lkX9_next_59 dX9_next_16 ?_
  obtain ⟨g2, hf⟩ := gd_use hf
  refine ld_9_9 C h (rfl : Kd 29 = 9) hτ (inB_in g2) dX9_next_19 ?_
  refine lv_goto (tgt := 24) hx hb dX9_next_20 (by decide) ?_
  replace hf := Option.some.inj hf
  subst hf
  exact r_ire C h dX9_next_24
theorem c_X9_next {l : Launch} {E : Ev} {σ : Ms} {ℓ : Mz} {τ : Mm} (hτ : σ 29 = τ) {out : Int32} (hf : f_X9_next τ = some out) : Ct l yX9_next wsX9_next rm_X9_next [.ref (Ea E 29 0)] E σ ℓ (some (.int out)) σ ℓ := by
  refine Ct_mk (cc := cX9_next) (mL := 1) (ret := (some .int)) (own := RX9) (by decide +kernel) rfl rfl (Nat.le_of_ble_eq_true rfl) (fun p e s m below meth c C h ls hl => ?_)
  exact w_X9_next_0 hτ C  _ _ h ls (lv_sub hl [0] rfl) hf
theorem hdX9_takes : yX9_takes.cls = RX9 ∧ yX9_takes.cls ≠ "java/lang/invoke/MethodHandle" ∧ yX9_takes.cls ≠ "java/lang/invoke/VarHandle" ∧ (parseMethodDescriptor yX9_takes.desc).map (fun d => d.parameters.length) = some 1 := by decide +kernel
def rm_X9_takes : Room := { frames := 1, cells := 0, slots := 0, locals := 20 }
set_option maxRecDepth 100000 in
theorem inX9_takes_9 : ∀ w ∈ wsX90, w ∈ wsX9_takes := fun _ h => List.mem_cons_of_mem _ (List.mem_append_right _ h)
set_option maxRecDepth 100000 in
theorem lkX9_takes_59 : Cond.fieldLink RX9 59 "BellsBelowModel" "at" "I" ∈ wsX9_takes := by decide +kernel
set_option maxHeartbeats 4000000 in
set_option maxRecDepth 100000 in
theorem w_X9_takes_0 {p : Program} {l : Launch} {e : Env} {s : State} {m : MethodId} {args : Array Value} {below : List Frame} {meth : Method} {c : Code} {E : Ev} {σ : Ms} {ℓ : Mz} {p0 : Int32} {out : Int32 × Mm}   (C : Cx cX9_takes 2 (some .boolean) wsX9_takes RX9 E p s m args meth c)  : ∀ (τ : Mm) (H : Heap) (locs : List Loc) (h : HI E (va_up σ 29 τ) ℓ s H locs) (ls : Array Slot) (hl : lv_has ls 2 [(0, .ref (Ea E 29 0)), (1, .int p0)]), f_X9_takes_0 p0  τ = some out → W p l e rm_X9_takes s m args below meth c H locs 0 0 (MQ below (Po E s.heap.size (some (.int out.1)) (va_up σ 29 out.2) ℓ) args s 0 0 (AA E s.heap.size)) (F0 m 0 ls []) := by
  intro τ H locs h ls hl hf
  unfold f_X9_takes_0 at hf
  have C0 := C
  obtain ⟨hx, hb, hr, hml, hown, hts, hlk, hK, hSF⟩ := C0
  refine lv_aload_n hx hb dX9_takes_0 rfl (lv_at hl 0 rfl) ?_
  obtain ⟨u1, hu1, hf⟩ := bd_use hf
  refine r_cv_9 (rest := []) C h (c_X9_next up_eq hu1) (rfl : Kd 29 = 9) gX9_takes_X9_next rfl ⟨rfl, rfl⟩ hdX9_next ⟨Nat.le_of_ble_eq_true rfl, Nat.le_of_ble_eq_true rfl⟩ ⟨Nat.zero_le _, Nat.zero_le _⟩ hl.1 rfl (Nat.le_of_ble_eq_true rfl) dX9_takes_1 (fun H locs h => ?_)
  refine lv_iload_n hx hb dX9_takes_4 rfl (lv_at hl 1 rfl) ?_
  refine lv_icmp_eq (tgt := 10) hx hb dX9_takes_5 (by decide) (fun c2 => ?_) (fun c2 => ?_)
  · replace hf := it_t c2 hf
    refine lv_aload_n hx hb dX9_takes_10 rfl (lv_at hl 0 rfl) ?_
    refine lv_dup hx hb dX9_takes_11 rfl ?_
    refine gf_9_16 C h (rfl : Kd 29 = 9) up_eq inX9_takes_9 lkX9_takes_59 dX9_takes_12 ?_
    refine lv_iconst (v := (1 : Int32)) hx hb dX9_takes_15 (by decide) ?_
    refine lv_iadd hx hb dX9_takes_16 ?_
    refine pf_9_16 C h (rfl : Kd 29 = 9) up_eq (F := fun t => va_up σ 29 t) (fun _ => up_up) inX9_takes_9 lkX9_takes_59 dX9_takes_17 (fun τ3 eτ3 H locs h => ?_)
    replace hf := lt_use eτ3 hf
    clear eτ3
    refine lv_iconst (v := (1 : Int32)) hx hb dX9_takes_20 (by decide) ?_
    replace hf := Option.some.inj hf
    subst hf
    exact r_zre (v := (1 : Int32)) C h rfl dX9_takes_21
  replace hf := it_f c2 hf
  refine lv_iconst (v := (0 : Int32)) hx hb dX9_takes_8 (by decide) ?_
  replace hf := Option.some.inj hf
  subst hf
  exact r_zre (v := (0 : Int32)) C h rfl dX9_takes_9
theorem c_X9_takes {l : Launch} {E : Ev} {σ : Ms} {ℓ : Mz} {τ : Mm} {p0 : Int32} {out : Int32 × Mm} (hf : f_X9_takes τ p0 = some out) : Ct l yX9_takes wsX9_takes rm_X9_takes [.ref (Ea E 29 0), .int p0] E (va_up σ 29 τ) ℓ (some (.int out.1)) (va_up σ 29 out.2) ℓ := by
  refine Ct_mk (cc := cX9_takes) (mL := 2) (ret := (some .boolean)) (own := RX9) (by decide +kernel) rfl rfl (Nat.le_of_ble_eq_true rfl) (fun p e s m below meth c C h ls hl => ?_)
  exact w_X9_takes_0  C τ _ _ h ls (lv_sub hl [0, 1] rfl) hf
theorem k_X9_takes {l : Launch} {E : Ev} {σ : Ms} {ℓ : Mz} {τ : Mm} {p0 : Int32} (hτ : σ 29 = τ) {out : Int32 × Mm} (hf : f_X9_takes τ p0 = some out) : Ct l yX9_takes wsX9_takes rm_X9_takes [.ref (Ea E 29 0), .int p0] E σ ℓ (some (.int out.1)) (va_up σ 29 out.2) ℓ := by
  subst hτ
  have h := c_X9_takes (l := l) (E := E) (σ := σ) (ℓ := ℓ)  hf
  rw [up_id σ 29] at h
  exact h
theorem hdX9_takesWord : yX9_takesWord.cls = RX9 ∧ yX9_takesWord.cls ≠ "java/lang/invoke/MethodHandle" ∧ yX9_takesWord.cls ≠ "java/lang/invoke/VarHandle" ∧ (parseMethodDescriptor yX9_takesWord.desc).map (fun d => d.parameters.length) = some 2 := by decide +kernel
def rm_X9_takesWord : Room := { frames := 2, cells := 0, slots := 0, locals := 41 }
set_option maxRecDepth 100000 in
theorem inX9_takesWord_9 : ∀ w ∈ wsX90, w ∈ wsX9_takesWord := fun _ h => List.mem_cons_of_mem _ (List.mem_append_right _ h)
set_option maxRecDepth 100000 in
theorem lkX9_takesWord_98 : Cond.fieldLink RX9 98 "BellsBelowModel" "letters" "[I" ∈ wsX9_takesWord := by decide +kernel
set_option maxHeartbeats 4000000 in
set_option maxRecDepth 100000 in
theorem w_X9_takesWord_2 {p : Program} {l : Launch} {e : Env} {s : State} {m : MethodId} {args : Array Value} {below : List Frame} {meth : Method} {c : Code} {E : Ev} {σ : Ms} {ℓ : Mz} {p0 : Int32} {p1 : Int32} {out : Int32 × Mm}   (C : Cx cX9_takesWord 4 (some .boolean) wsX9_takesWord RX9 E p s m args meth c) {k2 : Mm → Int32 → Option (Int32 × Mm)} (hk2 : ∀ (τ : Mm) (v3 : Int32) (H : Heap) (locs : List Loc), HI E (va_up σ 29 τ) ℓ s H locs → ∀ ls : Array Slot, lv_has ls 4 [(0, .ref (Ea E 29 0)), (1, .int p0), (2, .int p1), (3, .int v3)] → k2 τ v3 = some out → W p l e rm_X9_takesWord s m args below meth c H locs 0 0 (MQ below (Po E s.heap.size (some (.int out.1)) (va_up σ 29 out.2) ℓ) args s 0 0 (AA E s.heap.size)) (F0 m 2 ls [])) : ∀ (τ : Mm) (v3 : Int32) (H : Heap) (locs : List Loc) (h : HI E (va_up σ 29 τ) ℓ s H locs) (ls : Array Slot) (hl : lv_has ls 4 [(0, .ref (Ea E 29 0)), (1, .int p0), (2, .int p1), (3, .int v3)]), f_X9_takesWord_2 p0 p1 k2 τ v3 = some out → W p l e rm_X9_takesWord s m args below meth c H locs 0 0 (MQ below (Po E s.heap.size (some (.int out.1)) (va_up σ 29 out.2) ℓ) args s 0 0 (AA E s.heap.size)) (F0 m 2 ls []) := by
  intro τ v3 H locs h ls hl hf
  unfold f_X9_takesWord_2 at hf
  have C0 := C
  obtain ⟨hx, hb, hr, hml, hown, hts, hlk, hK, hSF⟩ := C0
  refine lv_iload_n hx hb dX9_takesWord_2 rfl (lv_at hl 3 rfl) ?_
  refine lv_iload_n hx hb dX9_takesWord_3 rfl (lv_at hl 2 rfl) ?_
  refine lv_icmp_ge (tgt := 30) hx hb dX9_takesWord_4 (by decide) (fun c1 => ?_) (fun c1 => ?_)
  · replace hf := it_t c1 hf
    refine lv_aload_n hx hb dX9_takesWord_30 rfl (lv_at hl 0 rfl) ?_
    refine lv_bipush (v := (32 : Int32)) hx hb dX9_takesWord_31 (by decide) ?_
    obtain ⟨u2, hu2, hf⟩ := bd_use hf
    refine r_cv_9 (rest := []) C h (c_X9_takes  hu2) (rfl : Kd 29 = 9) gX9_takesWord_X9_takes rfl ⟨rfl, rfl⟩ hdX9_takes ⟨Nat.le_of_ble_eq_true rfl, Nat.le_of_ble_eq_true rfl⟩ ⟨Nat.zero_le _, Nat.zero_le _⟩ hl.1 rfl (Nat.le_of_ble_eq_true rfl) dX9_takesWord_33 (fun H locs h => ?_)
    obtain ⟨g3, hf⟩ := gd_use hf
    replace hf := Option.some.inj hf
    subst hf
    exact r_zre C h (isB_use g3) dX9_takesWord_36
  replace hf := it_f c1 hf
  refine lv_aload_n hx hb dX9_takesWord_7 rfl (lv_at hl 0 rfl) ?_
  refine lv_aload_n hx hb dX9_takesWord_8 rfl (lv_at hl 0 rfl) ?_
  refine gf_9_29 C h (rfl : Kd 29 = 9) up_eq inX9_takesWord_9 lkX9_takesWord_98 dX9_takesWord_9 ?_
  refine lv_iload_n hx hb dX9_takesWord_12 rfl (lv_at hl 1 rfl) ?_
  refine lv_iload_n hx hb dX9_takesWord_13 rfl (lv_at hl 3 rfl) ?_
  refine lv_iadd hx hb dX9_takesWord_14 ?_
  obtain ⟨g4, hf⟩ := gd_use hf
  refine ld_9_17 C h (rfl : Kd 29 = 9) up_eq (inB_in g4) dX9_takesWord_15 ?_
  obtain ⟨u5, hu5, hf⟩ := bd_use hf
  refine r_cv_9 (rest := []) C h (c_X9_takes  hu5) (rfl : Kd 29 = 9) gX9_takesWord_X9_takes rfl ⟨rfl, rfl⟩ hdX9_takes ⟨Nat.le_of_ble_eq_true rfl, Nat.le_of_ble_eq_true rfl⟩ ⟨Nat.zero_le _, Nat.zero_le _⟩ hl.1 rfl (Nat.le_of_ble_eq_true rfl) dX9_takesWord_16 (fun H locs h => ?_)
  refine lv_if_ne (tgt := 24) hx hb dX9_takesWord_19 (by decide) (fun c6 => ?_) (fun c6 => ?_)
  · replace hf := it_f c6 hf
    obtain ⟨x7, ex7⟩ : ∃ y : Int32, y = (v3 + (1 : Int32)) := ⟨_, rfl⟩
    refine lv_iinc (v := x7) (lv' := [(3, .int x7), (0, .ref (Ea E 29 0)), (1, .int p0), (2, .int p1)]) hx hb dX9_takesWord_24 hl (k := 3) rfl (by rw [ex7]; rfl) (by decide) rfl (fun ls hl => ?_)
    replace hf := lt_use ex7 hf
    clear ex7
    refine lv_goto (tgt := 2) hx hb dX9_takesWord_27 (by decide) ?_
    exact hk2 _ _ _ _ h ls (lv_sub hl [1, 2, 3, 0] rfl) hf
  replace hf := it_t c6 hf
  refine lv_iconst (v := (0 : Int32)) hx hb dX9_takesWord_22 (by decide) ?_
  replace hf := Option.some.inj hf
  subst hf
  exact r_zre (v := (0 : Int32)) C h rfl dX9_takesWord_23
set_option maxHeartbeats 4000000 in
set_option maxRecDepth 100000 in
theorem w_X9_takesWord_2L {p : Program} {l : Launch} {e : Env} {s : State} {m : MethodId} {args : Array Value} {below : List Frame} {meth : Method} {c : Code} {E : Ev} {σ : Ms} {ℓ : Mz} {p0 : Int32} {p1 : Int32} {out : Int32 × Mm}   (C : Cx cX9_takesWord 4 (some .boolean) wsX9_takesWord RX9 E p s m args meth c)  : ∀ (n9 : Nat) (τ : Mm) (v3 : Int32) (H : Heap) (locs : List Loc) (h : HI E (va_up σ 29 τ) ℓ s H locs) (ls : Array Slot) (hl : lv_has ls 4 [(0, .ref (Ea E 29 0)), (1, .int p0), (2, .int p1), (3, .int v3)]), f_X9_takesWord_2L p0 p1  n9 τ v3 = some out → W p l e rm_X9_takesWord s m args below meth c H locs 0 0 (MQ below (Po E s.heap.size (some (.int out.1)) (va_up σ 29 out.2) ℓ) args s 0 0 (AA E s.heap.size)) (F0 m 2 ls []) := by
  intro n9
  induction n9 with
  | zero =>
    intro τ v3 H locs h ls hl hf
    cases (show (none : Option (Int32 × Mm)) = some out from hf)
  | succ n9 ih =>
    intro τ v3 H locs h ls hl hf
    exact w_X9_takesWord_2   C  ih τ v3 H locs h ls hl hf
set_option maxHeartbeats 4000000 in
set_option maxRecDepth 100000 in
theorem w_X9_takesWord_0 {p : Program} {l : Launch} {e : Env} {s : State} {m : MethodId} {args : Array Value} {below : List Frame} {meth : Method} {c : Code} {E : Ev} {σ : Ms} {ℓ : Mz} {p0 : Int32} {p1 : Int32} {out : Int32 × Mm}   (C : Cx cX9_takesWord 4 (some .boolean) wsX9_takesWord RX9 E p s m args meth c)  : ∀ (τ : Mm) (H : Heap) (locs : List Loc) (h : HI E (va_up σ 29 τ) ℓ s H locs) (ls : Array Slot) (hl : lv_has ls 4 [(0, .ref (Ea E 29 0)), (1, .int p0), (2, .int p1)]), f_X9_takesWord_0 p0 p1  τ = some out → W p l e rm_X9_takesWord s m args below meth c H locs 0 0 (MQ below (Po E s.heap.size (some (.int out.1)) (va_up σ 29 out.2) ℓ) args s 0 0 (AA E s.heap.size)) (F0 m 0 ls []) := by
  intro τ H locs h ls hl hf
  unfold f_X9_takesWord_0 at hf
  have C0 := C
  obtain ⟨hx, hb, hr, hml, hown, hts, hlk, hK, hSF⟩ := C0
  refine lv_iconst (v := (0 : Int32)) hx hb dX9_takesWord_0 (by decide) ?_
  refine lv_istore_n (lv' := [(3, .int (0 : Int32)), (0, .ref (Ea E 29 0)), (1, .int p0), (2, .int p1)]) hx hb dX9_takesWord_1 rfl hl (by decide) rfl (fun ls hl => ?_)
  exact w_X9_takesWord_2L    C  _ _ _ _ _ h ls (lv_sub hl [1, 2, 3, 0] rfl) hf
theorem c_X9_takesWord {l : Launch} {E : Ev} {σ : Ms} {ℓ : Mz} {τ : Mm} {p0 : Int32} {p1 : Int32} {out : Int32 × Mm} (hf : f_X9_takesWord τ p0 p1 = some out) : Ct l yX9_takesWord wsX9_takesWord rm_X9_takesWord [.ref (Ea E 29 0), .int p0, .int p1] E (va_up σ 29 τ) ℓ (some (.int out.1)) (va_up σ 29 out.2) ℓ := by
  refine Ct_mk (cc := cX9_takesWord) (mL := 4) (ret := (some .boolean)) (own := RX9) (by decide +kernel) rfl rfl (Nat.le_of_ble_eq_true rfl) (fun p e s m below meth c C h ls hl => ?_)
  exact w_X9_takesWord_0  C τ _ _ h ls (lv_sub hl [0, 1, 2] rfl) hf
theorem k_X9_takesWord {l : Launch} {E : Ev} {σ : Ms} {ℓ : Mz} {τ : Mm} {p0 : Int32} {p1 : Int32} (hτ : σ 29 = τ) {out : Int32 × Mm} (hf : f_X9_takesWord τ p0 p1 = some out) : Ct l yX9_takesWord wsX9_takesWord rm_X9_takesWord [.ref (Ea E 29 0), .int p0, .int p1] E σ ℓ (some (.int out.1)) (va_up σ 29 out.2) ℓ := by
  subst hτ
  have h := c_X9_takesWord (l := l) (E := E) (σ := σ) (ℓ := ℓ)  hf
  rw [up_id σ 29] at h
  exact h
theorem hdX9_isDigit : yX9_isDigit.cls = RX9 ∧ yX9_isDigit.cls ≠ "java/lang/invoke/MethodHandle" ∧ yX9_isDigit.cls ≠ "java/lang/invoke/VarHandle" ∧ (parseMethodDescriptor yX9_isDigit.desc).map (fun d => d.parameters.length) = some 0 := by decide +kernel
def rm_X9_isDigit : Room := { frames := 1, cells := 0, slots := 0, locals := 23 }
set_option maxHeartbeats 4000000 in
set_option maxRecDepth 100000 in
theorem w_X9_isDigit_0 {p : Program} {l : Launch} {e : Env} {s : State} {m : MethodId} {args : Array Value} {below : List Frame} {meth : Method} {c : Code} {E : Ev} {σ : Ms} {ℓ : Mz} {τ : Mm} {out : Int32} (hτ : σ 29 = τ)   (C : Cx cX9_isDigit 1 (some .boolean) wsX9_isDigit RX9 E p s m args meth c)  : ∀  (H : Heap) (locs : List Loc) (h : HI E σ ℓ s H locs) (ls : Array Slot) (hl : lv_has ls 1 [(0, .ref (Ea E 29 0))]), f_X9_isDigit_0 τ   = some out → W p l e rm_X9_isDigit s m args below meth c H locs 0 0 (MQ below (Po E s.heap.size (some (.int out)) σ ℓ) args s 0 0 (AA E s.heap.size)) (F0 m 0 ls []) := by
  intro  H locs h ls hl hf
  unfold f_X9_isDigit_0 at hf
  have C0 := C
  obtain ⟨hx, hb, hr, hml, hown, hts, hlk, hK, hSF⟩ := C0
  refine lv_aload_n hx hb dX9_isDigit_0 rfl (lv_at hl 0 rfl) ?_
  refine lv_aload_n hx hb dX9_isDigit_1 rfl (lv_at hl 0 rfl) ?_
  obtain ⟨u1, hu1, hf⟩ := bd_use hf
  refine r_cv_9 (rest := [.ref (Ea E 29 0)]) C h (c_X9_next hτ hu1) (rfl : Kd 29 = 9) gX9_isDigit_X9_next rfl ⟨rfl, rfl⟩ hdX9_next ⟨Nat.le_of_ble_eq_true rfl, Nat.le_of_ble_eq_true rfl⟩ ⟨Nat.zero_le _, Nat.zero_le _⟩ hl.1 rfl (Nat.le_of_ble_eq_true rfl) dX9_isDigit_2 (fun H locs h => ?_)
  refine lv_bipush (v := (48 : Int32)) hx hb dX9_isDigit_5 (by decide) ?_
  refine lv_bipush (v := (57 : Int32)) hx hb dX9_isDigit_7 (by decide) ?_
  obtain ⟨u2, hu2, hf⟩ := bd_use hf
  refine r_cv_9 (rest := []) C h (c_X9_in  hu2) (rfl : Kd 29 = 9) gX9_isDigit_X9_in rfl ⟨rfl, rfl⟩ hdX9_in ⟨Nat.le_of_ble_eq_true rfl, Nat.le_of_ble_eq_true rfl⟩ ⟨Nat.zero_le _, Nat.zero_le _⟩ hl.1 rfl (Nat.le_of_ble_eq_true rfl) dX9_isDigit_9 (fun H locs h => ?_)
  obtain ⟨g3, hf⟩ := gd_use hf
  replace hf := Option.some.inj hf
  subst hf
  exact r_zre C h (isB_use g3) dX9_isDigit_12
theorem c_X9_isDigit {l : Launch} {E : Ev} {σ : Ms} {ℓ : Mz} {τ : Mm} (hτ : σ 29 = τ) {out : Int32} (hf : f_X9_isDigit τ = some out) : Ct l yX9_isDigit wsX9_isDigit rm_X9_isDigit [.ref (Ea E 29 0)] E σ ℓ (some (.int out)) σ ℓ := by
  refine Ct_mk (cc := cX9_isDigit) (mL := 1) (ret := (some .boolean)) (own := RX9) (by decide +kernel) rfl rfl (Nat.le_of_ble_eq_true rfl) (fun p e s m below meth c C h ls hl => ?_)
  exact w_X9_isDigit_0 hτ C  _ _ h ls (lv_sub hl [0] rfl) hf
theorem hdX9_takesNumber : yX9_takesNumber.cls = RX9 ∧ yX9_takesNumber.cls ≠ "java/lang/invoke/MethodHandle" ∧ yX9_takesNumber.cls ≠ "java/lang/invoke/VarHandle" ∧ (parseMethodDescriptor yX9_takesNumber.desc).map (fun d => d.parameters.length) = some 0 := by decide +kernel
def rm_X9_takesNumber : Room := { frames := 2, cells := 0, slots := 0, locals := 43 }
set_option maxRecDepth 100000 in
theorem inX9_takesNumber_9 : ∀ w ∈ wsX90, w ∈ wsX9_takesNumber := fun _ h => List.mem_cons_of_mem _ (List.mem_append_right _ h)
set_option maxRecDepth 100000 in
theorem lkX9_takesNumber_62 : Cond.fieldLink RX9 62 "BellsBelowModel" "digits" "I" ∈ wsX9_takesNumber := by decide +kernel
set_option maxRecDepth 100000 in
theorem lkX9_takesNumber_59 : Cond.fieldLink RX9 59 "BellsBelowModel" "at" "I" ∈ wsX9_takesNumber := by decide +kernel
set_option maxHeartbeats 4000000 in
set_option maxRecDepth 100000 in
theorem w_X9_takesNumber_16 {p : Program} {l : Launch} {e : Env} {s : State} {m : MethodId} {args : Array Value} {below : List Frame} {meth : Method} {c : Code} {E : Ev} {σ : Ms} {ℓ : Mz} {out : Int32 × Mm}   (C : Cx cX9_takesNumber 2 (some .boolean) wsX9_takesNumber RX9 E p s m args meth c) {k16 : Mm → Int32 → Option (Int32 × Mm)} (hk16 : ∀ (τ : Mm) (v1 : Int32) (H : Heap) (locs : List Loc), HI E (va_up σ 29 τ) ℓ s H locs → ∀ ls : Array Slot, lv_has ls 2 [(0, .ref (Ea E 29 0)), (1, .int v1)] → k16 τ v1 = some out → W p l e rm_X9_takesNumber s m args below meth c H locs 0 0 (MQ below (Po E s.heap.size (some (.int out.1)) (va_up σ 29 out.2) ℓ) args s 0 0 (AA E s.heap.size)) (F0 m 16 ls [])) : ∀ (τ : Mm) (v1 : Int32) (H : Heap) (locs : List Loc) (h : HI E (va_up σ 29 τ) ℓ s H locs) (ls : Array Slot) (hl : lv_has ls 2 [(0, .ref (Ea E 29 0)), (1, .int v1)]), f_X9_takesNumber_16  k16 τ v1 = some out → W p l e rm_X9_takesNumber s m args below meth c H locs 0 0 (MQ below (Po E s.heap.size (some (.int out.1)) (va_up σ 29 out.2) ℓ) args s 0 0 (AA E s.heap.size)) (F0 m 16 ls []) := by
  intro τ v1 H locs h ls hl hf
  unfold f_X9_takesNumber_16 at hf
  have C0 := C
  obtain ⟨hx, hb, hr, hml, hown, hts, hlk, hK, hSF⟩ := C0
  refine lv_iload_n hx hb dX9_takesNumber_16 rfl (lv_at hl 1 rfl) ?_
  refine lv_iconst (v := (2 : Int32)) hx hb dX9_takesNumber_17 (by decide) ?_
  refine lv_icmp_ge (tgt := 63) hx hb dX9_takesNumber_18 (by decide) (fun c4 => ?_) (fun c4 => ?_)
  · replace hf := it_t c4 hf
    refine lv_iconst (v := (1 : Int32)) hx hb dX9_takesNumber_63 (by decide) ?_
    replace hf := Option.some.inj hf
    subst hf
    exact r_zre (v := (1 : Int32)) C h rfl dX9_takesNumber_64
  replace hf := it_f c4 hf
  refine lv_aload_n hx hb dX9_takesNumber_21 rfl (lv_at hl 0 rfl) ?_
  obtain ⟨u5, hu5, hf⟩ := bd_use hf
  refine r_cv_9 (rest := []) C h (c_X9_isDigit up_eq hu5) (rfl : Kd 29 = 9) gX9_takesNumber_X9_isDigit rfl ⟨rfl, rfl⟩ hdX9_isDigit ⟨Nat.le_of_ble_eq_true rfl, Nat.le_of_ble_eq_true rfl⟩ ⟨Nat.zero_le _, Nat.zero_le _⟩ hl.1 rfl (Nat.le_of_ble_eq_true rfl) dX9_takesNumber_22 (fun H locs h => ?_)
  refine lv_if_eq (tgt := 63) hx hb dX9_takesNumber_25 (by decide) (fun c6 => ?_) (fun c6 => ?_)
  · replace hf := it_t c6 hf
    refine lv_iconst (v := (1 : Int32)) hx hb dX9_takesNumber_63 (by decide) ?_
    replace hf := Option.some.inj hf
    subst hf
    exact r_zre (v := (1 : Int32)) C h rfl dX9_takesNumber_64
  replace hf := it_f c6 hf
  refine lv_aload_n hx hb dX9_takesNumber_28 rfl (lv_at hl 0 rfl) ?_
  refine lv_bipush (v := (10 : Int32)) hx hb dX9_takesNumber_29 (by decide) ?_
  refine lv_aload_n hx hb dX9_takesNumber_31 rfl (lv_at hl 0 rfl) ?_
  refine gf_9_17 C h (rfl : Kd 29 = 9) up_eq inX9_takesNumber_9 lkX9_takesNumber_62 dX9_takesNumber_32 ?_
  refine lv_imul hx hb dX9_takesNumber_35 ?_
  refine lv_aload_n hx hb dX9_takesNumber_36 rfl (lv_at hl 0 rfl) ?_
  obtain ⟨u7, hu7, hf⟩ := bd_use hf
  refine r_cv_9 (rest := [.int ((10 : Int32) * (τ 17 0)), .ref (Ea E 29 0)]) C h (c_X9_next up_eq hu7) (rfl : Kd 29 = 9) gX9_takesNumber_X9_next rfl ⟨rfl, rfl⟩ hdX9_next ⟨Nat.le_of_ble_eq_true rfl, Nat.le_of_ble_eq_true rfl⟩ ⟨Nat.zero_le _, Nat.zero_le _⟩ hl.1 rfl (Nat.le_of_ble_eq_true rfl) dX9_takesNumber_37 (fun H locs h => ?_)
  refine lv_iadd hx hb dX9_takesNumber_40 ?_
  refine lv_bipush (v := (48 : Int32)) hx hb dX9_takesNumber_41 (by decide) ?_
  refine lv_isub hx hb dX9_takesNumber_43 ?_
  refine pf_9_17 C h (rfl : Kd 29 = 9) up_eq (F := fun t => va_up σ 29 t) (fun _ => up_up) inX9_takesNumber_9 lkX9_takesNumber_62 dX9_takesNumber_44 (fun τ8 eτ8 H locs h => ?_)
  replace hf := lt_use eτ8 hf
  clear eτ8
  refine lv_aload_n hx hb dX9_takesNumber_47 rfl (lv_at hl 0 rfl) ?_
  refine lv_dup hx hb dX9_takesNumber_48 rfl ?_
  refine gf_9_16 C h (rfl : Kd 29 = 9) up_eq inX9_takesNumber_9 lkX9_takesNumber_59 dX9_takesNumber_49 ?_
  refine lv_iconst (v := (1 : Int32)) hx hb dX9_takesNumber_52 (by decide) ?_
  refine lv_iadd hx hb dX9_takesNumber_53 ?_
  refine pf_9_16 C h (rfl : Kd 29 = 9) up_eq (F := fun t => va_up σ 29 t) (fun _ => up_up) inX9_takesNumber_9 lkX9_takesNumber_59 dX9_takesNumber_54 (fun τ9 eτ9 H locs h => ?_)
  replace hf := lt_use eτ9 hf
  clear eτ9
  obtain ⟨x10, ex10⟩ : ∃ y : Int32, y = (v1 + (1 : Int32)) := ⟨_, rfl⟩
  refine lv_iinc (v := x10) (lv' := [(1, .int x10), (0, .ref (Ea E 29 0))]) hx hb dX9_takesNumber_57 hl (k := 1) rfl (by rw [ex10]; rfl) (by decide) rfl (fun ls hl => ?_)
  replace hf := lt_use ex10 hf
  clear ex10
  refine lv_goto (tgt := 16) hx hb dX9_takesNumber_60 (by decide) ?_
  exact hk16 _ _ _ _ h ls (lv_sub hl [1, 0] rfl) hf
set_option maxHeartbeats 4000000 in
set_option maxRecDepth 100000 in
theorem w_X9_takesNumber_16L {p : Program} {l : Launch} {e : Env} {s : State} {m : MethodId} {args : Array Value} {below : List Frame} {meth : Method} {c : Code} {E : Ev} {σ : Ms} {ℓ : Mz} {out : Int32 × Mm}   (C : Cx cX9_takesNumber 2 (some .boolean) wsX9_takesNumber RX9 E p s m args meth c)  : ∀ (n9 : Nat) (τ : Mm) (v1 : Int32) (H : Heap) (locs : List Loc) (h : HI E (va_up σ 29 τ) ℓ s H locs) (ls : Array Slot) (hl : lv_has ls 2 [(0, .ref (Ea E 29 0)), (1, .int v1)]), f_X9_takesNumber_16L   n9 τ v1 = some out → W p l e rm_X9_takesNumber s m args below meth c H locs 0 0 (MQ below (Po E s.heap.size (some (.int out.1)) (va_up σ 29 out.2) ℓ) args s 0 0 (AA E s.heap.size)) (F0 m 16 ls []) := by
  intro n9
  induction n9 with
  | zero =>
    intro τ v1 H locs h ls hl hf
    cases (show (none : Option (Int32 × Mm)) = some out from hf)
  | succ n9 ih =>
    intro τ v1 H locs h ls hl hf
    exact w_X9_takesNumber_16   C  ih τ v1 H locs h ls hl hf
set_option maxHeartbeats 4000000 in
set_option maxRecDepth 100000 in
theorem w_X9_takesNumber_0 {p : Program} {l : Launch} {e : Env} {s : State} {m : MethodId} {args : Array Value} {below : List Frame} {meth : Method} {c : Code} {E : Ev} {σ : Ms} {ℓ : Mz} {out : Int32 × Mm}   (C : Cx cX9_takesNumber 2 (some .boolean) wsX9_takesNumber RX9 E p s m args meth c)  : ∀ (τ : Mm) (H : Heap) (locs : List Loc) (h : HI E (va_up σ 29 τ) ℓ s H locs) (ls : Array Slot) (hl : lv_has ls 2 [(0, .ref (Ea E 29 0))]), f_X9_takesNumber_0   τ = some out → W p l e rm_X9_takesNumber s m args below meth c H locs 0 0 (MQ below (Po E s.heap.size (some (.int out.1)) (va_up σ 29 out.2) ℓ) args s 0 0 (AA E s.heap.size)) (F0 m 0 ls []) := by
  intro τ H locs h ls hl hf
  unfold f_X9_takesNumber_0 at hf
  have C0 := C
  obtain ⟨hx, hb, hr, hml, hown, hts, hlk, hK, hSF⟩ := C0
  refine lv_aload_n hx hb dX9_takesNumber_0 rfl (lv_at hl 0 rfl) ?_
  obtain ⟨u1, hu1, hf⟩ := bd_use hf
  refine r_cv_9 (rest := []) C h (c_X9_isDigit up_eq hu1) (rfl : Kd 29 = 9) gX9_takesNumber_X9_isDigit rfl ⟨rfl, rfl⟩ hdX9_isDigit ⟨Nat.le_of_ble_eq_true rfl, Nat.le_of_ble_eq_true rfl⟩ ⟨Nat.zero_le _, Nat.zero_le _⟩ hl.1 rfl (Nat.le_of_ble_eq_true rfl) dX9_takesNumber_1 (fun H locs h => ?_)
  refine lv_if_ne (tgt := 9) hx hb dX9_takesNumber_4 (by decide) (fun c2 => ?_) (fun c2 => ?_)
  · replace hf := it_f c2 hf
    refine lv_aload_n hx hb dX9_takesNumber_9 rfl (lv_at hl 0 rfl) ?_
    refine lv_iconst (v := (0 : Int32)) hx hb dX9_takesNumber_10 (by decide) ?_
    refine pf_9_17 C h (rfl : Kd 29 = 9) up_eq (F := fun t => va_up σ 29 t) (fun _ => up_up) inX9_takesNumber_9 lkX9_takesNumber_62 dX9_takesNumber_11 (fun τ3 eτ3 H locs h => ?_)
    replace hf := lt_use eτ3 hf
    clear eτ3
    refine lv_iconst (v := (0 : Int32)) hx hb dX9_takesNumber_14 (by decide) ?_
    refine lv_istore_n (lv' := [(1, .int (0 : Int32)), (0, .ref (Ea E 29 0))]) hx hb dX9_takesNumber_15 rfl hl (by decide) rfl (fun ls hl => ?_)
    exact w_X9_takesNumber_16L    C  _ _ _ _ _ h ls (lv_sub hl [1, 0] rfl) hf
  replace hf := it_t c2 hf
  refine lv_iconst (v := (0 : Int32)) hx hb dX9_takesNumber_7 (by decide) ?_
  replace hf := Option.some.inj hf
  subst hf
  exact r_zre (v := (0 : Int32)) C h rfl dX9_takesNumber_8
theorem c_X9_takesNumber {l : Launch} {E : Ev} {σ : Ms} {ℓ : Mz} {τ : Mm} {out : Int32 × Mm} (hf : f_X9_takesNumber τ = some out) : Ct l yX9_takesNumber wsX9_takesNumber rm_X9_takesNumber [.ref (Ea E 29 0)] E (va_up σ 29 τ) ℓ (some (.int out.1)) (va_up σ 29 out.2) ℓ := by
  refine Ct_mk (cc := cX9_takesNumber) (mL := 2) (ret := (some .boolean)) (own := RX9) (by decide +kernel) rfl rfl (Nat.le_of_ble_eq_true rfl) (fun p e s m below meth c C h ls hl => ?_)
  exact w_X9_takesNumber_0  C τ _ _ h ls (lv_sub hl [0] rfl) hf
theorem k_X9_takesNumber {l : Launch} {E : Ev} {σ : Ms} {ℓ : Mz} {τ : Mm} (hτ : σ 29 = τ) {out : Int32 × Mm} (hf : f_X9_takesNumber τ = some out) : Ct l yX9_takesNumber wsX9_takesNumber rm_X9_takesNumber [.ref (Ea E 29 0)] E σ ℓ (some (.int out.1)) (va_up σ 29 out.2) ℓ := by
  subst hτ
  have h := c_X9_takesNumber (l := l) (E := E) (σ := σ) (ℓ := ℓ)  hf
  rw [up_id σ 29] at h
  exact h
theorem hdX9_emits : yX9_emits.cls = RX9 ∧ yX9_emits.cls ≠ "java/lang/invoke/MethodHandle" ∧ yX9_emits.cls ≠ "java/lang/invoke/VarHandle" ∧ (parseMethodDescriptor yX9_emits.desc).map (fun d => d.parameters.length) = some 1 := by decide +kernel
def rm_X9_emits : Room := { frames := 0, cells := 0, slots := 0, locals := 0 }
set_option maxRecDepth 100000 in
theorem inX9_emits_9 : ∀ w ∈ wsX90, w ∈ wsX9_emits := fun _ h => List.mem_cons_of_mem _ (List.mem_append_right _ h)
set_option maxRecDepth 100000 in
theorem lkX9_emits_83 : Cond.fieldLink RX9 83 "BellsBelowModel" "sign" "[I" ∈ wsX9_emits := by decide +kernel
set_option maxRecDepth 100000 in
theorem lkX9_emits_89 : Cond.fieldLink RX9 89 "BellsBelowModel" "signs" "I" ∈ wsX9_emits := by decide +kernel
set_option maxHeartbeats 4000000 in
set_option maxRecDepth 100000 in
theorem w_X9_emits_0 {p : Program} {l : Launch} {e : Env} {s : State} {m : MethodId} {args : Array Value} {below : List Frame} {meth : Method} {c : Code} {E : Ev} {σ : Ms} {ℓ : Mz} {p0 : Int32} {out : Mm}   (C : Cx cX9_emits 2 none wsX9_emits RX9 E p s m args meth c)  : ∀ (τ : Mm) (H : Heap) (locs : List Loc) (h : HI E (va_up σ 29 τ) ℓ s H locs) (ls : Array Slot) (hl : lv_has ls 2 [(0, .ref (Ea E 29 0)), (1, .int p0)]), f_X9_emits_0 p0  τ = some out → W p l e rm_X9_emits s m args below meth c H locs 0 0 (MQ below (Po E s.heap.size none (va_up σ 29 out) ℓ) args s 0 0 (AA E s.heap.size)) (F0 m 0 ls []) := by
  intro τ H locs h ls hl hf
  unfold f_X9_emits_0 at hf
  have C0 := C
  obtain ⟨hx, hb, hr, hml, hown, hts, hlk, hK, hSF⟩ := C0
  refine lv_aload_n hx hb dX9_emits_0 rfl (lv_at hl 0 rfl) ?_
  refine gf_9_24 C h (rfl : Kd 29 = 9) up_eq inX9_emits_9 lkX9_emits_83 dX9_emits_1 ?_
  refine lv_aload_n hx hb dX9_emits_4 rfl (lv_at hl 0 rfl) ?_
  refine gf_9_26 C h (rfl : Kd 29 = 9) up_eq inX9_emits_9 lkX9_emits_89 dX9_emits_5 ?_
  refine lv_iload_n hx hb dX9_emits_8 rfl (lv_at hl 1 rfl) ?_
  obtain ⟨g1, hf⟩ := gd_use hf
  refine sa_9_15 C h (rfl : Kd 29 = 9) up_eq (F := fun t => va_up σ 29 t) (fun _ => up_up) (inB_in g1) dX9_emits_9 (fun τ2 eτ2 H locs h => ?_)
  replace hf := lt_use eτ2 hf
  clear eτ2
  refine lv_aload_n hx hb dX9_emits_10 rfl (lv_at hl 0 rfl) ?_
  refine lv_dup hx hb dX9_emits_11 rfl ?_
  refine gf_9_26 C h (rfl : Kd 29 = 9) up_eq inX9_emits_9 lkX9_emits_89 dX9_emits_12 ?_
  refine lv_iconst (v := (1 : Int32)) hx hb dX9_emits_15 (by decide) ?_
  refine lv_iadd hx hb dX9_emits_16 ?_
  refine pf_9_26 C h (rfl : Kd 29 = 9) up_eq (F := fun t => va_up σ 29 t) (fun _ => up_up) inX9_emits_9 lkX9_emits_89 dX9_emits_17 (fun τ3 eτ3 H locs h => ?_)
  replace hf := lt_use eτ3 hf
  clear eτ3
  replace hf := Option.some.inj hf
  subst hf
  exact r_vre C h dX9_emits_20
theorem c_X9_emits {l : Launch} {E : Ev} {σ : Ms} {ℓ : Mz} {τ : Mm} {p0 : Int32} {out : Mm} (hf : f_X9_emits τ p0 = some out) : Ct l yX9_emits wsX9_emits rm_X9_emits [.ref (Ea E 29 0), .int p0] E (va_up σ 29 τ) ℓ none (va_up σ 29 out) ℓ := by
  refine Ct_mk (cc := cX9_emits) (mL := 2) (ret := none) (own := RX9) (by decide +kernel) rfl rfl (Nat.le_of_ble_eq_true rfl) (fun p e s m below meth c C h ls hl => ?_)
  exact w_X9_emits_0  C τ _ _ h ls (lv_sub hl [0, 1] rfl) hf
theorem k_X9_emits {l : Launch} {E : Ev} {σ : Ms} {ℓ : Mz} {τ : Mm} {p0 : Int32} (hτ : σ 29 = τ) {out : Mm} (hf : f_X9_emits τ p0 = some out) : Ct l yX9_emits wsX9_emits rm_X9_emits [.ref (Ea E 29 0), .int p0] E σ ℓ none (va_up σ 29 out) ℓ := by
  subst hτ
  have h := c_X9_emits (l := l) (E := E) (σ := σ) (ℓ := ℓ)  hf
  rw [up_id σ 29] at h
  exact h
theorem hdX9_whole : yX9_whole.cls = RX9 ∧ yX9_whole.cls ≠ "java/lang/invoke/MethodHandle" ∧ yX9_whole.cls ≠ "java/lang/invoke/VarHandle" ∧ (parseMethodDescriptor yX9_whole.desc).map (fun d => d.parameters.length) = some 0 := by decide +kernel
def rm_X9_whole : Room := { frames := 1, cells := 0, slots := 0, locals := 21 }
set_option maxRecDepth 100000 in
theorem inX9_whole_9 : ∀ w ∈ wsX90, w ∈ wsX9_whole := fun _ h => List.mem_cons_of_mem _ (List.mem_append_right _ h)
set_option maxRecDepth 100000 in
theorem lkX9_whole_92 : Cond.fieldLink RX9 92 "BellsBelowModel" "waiting" "I" ∈ wsX9_whole := by decide +kernel
set_option maxRecDepth 100000 in
theorem lkX9_whole_86 : Cond.fieldLink RX9 86 "BellsBelowModel" "waits" "[I" ∈ wsX9_whole := by decide +kernel
set_option maxRecDepth 100000 in
theorem lkX9_whole_95 : Cond.fieldLink RX9 95 "BellsBelowModel" "open" "I" ∈ wsX9_whole := by decide +kernel
set_option maxHeartbeats 4000000 in
set_option maxRecDepth 100000 in
theorem w_X9_whole_0 {p : Program} {l : Launch} {e : Env} {s : State} {m : MethodId} {args : Array Value} {below : List Frame} {meth : Method} {c : Code} {E : Ev} {σ : Ms} {ℓ : Mz} {out : Mm}   (C : Cx cX9_whole 1 none wsX9_whole RX9 E p s m args meth c) {k0 : Mm → Option (Mm)} (hk0 : ∀ (τ : Mm) (H : Heap) (locs : List Loc), HI E (va_up σ 29 τ) ℓ s H locs → ∀ ls : Array Slot, lv_has ls 1 [(0, .ref (Ea E 29 0))] → k0 τ = some out → W p l e rm_X9_whole s m args below meth c H locs 0 0 (MQ below (Po E s.heap.size none (va_up σ 29 out) ℓ) args s 0 0 (AA E s.heap.size)) (F0 m 0 ls [])) : ∀ (τ : Mm) (H : Heap) (locs : List Loc) (h : HI E (va_up σ 29 τ) ℓ s H locs) (ls : Array Slot) (hl : lv_has ls 1 [(0, .ref (Ea E 29 0))]), f_X9_whole_0  k0 τ = some out → W p l e rm_X9_whole s m args below meth c H locs 0 0 (MQ below (Po E s.heap.size none (va_up σ 29 out) ℓ) args s 0 0 (AA E s.heap.size)) (F0 m 0 ls []) := by
  intro τ H locs h ls hl hf
  unfold f_X9_whole_0 at hf
  have C0 := C
  obtain ⟨hx, hb, hr, hml, hown, hts, hlk, hK, hSF⟩ := C0
  refine lv_aload_n hx hb dX9_whole_0 rfl (lv_at hl 0 rfl) ?_
  refine gf_9_27 C h (rfl : Kd 29 = 9) up_eq inX9_whole_9 lkX9_whole_92 dX9_whole_1 ?_
  refine lv_if_le (tgt := 52) hx hb dX9_whole_4 (by decide) (fun c1 => ?_) (fun c1 => ?_)
  · replace hf := it_t c1 hf
    replace hf := Option.some.inj hf
    subst hf
    exact r_vre C h dX9_whole_52
  replace hf := it_f c1 hf
  refine lv_aload_n hx hb dX9_whole_7 rfl (lv_at hl 0 rfl) ?_
  refine gf_9_25 C h (rfl : Kd 29 = 9) up_eq inX9_whole_9 lkX9_whole_86 dX9_whole_8 ?_
  refine lv_aload_n hx hb dX9_whole_11 rfl (lv_at hl 0 rfl) ?_
  refine gf_9_27 C h (rfl : Kd 29 = 9) up_eq inX9_whole_9 lkX9_whole_92 dX9_whole_12 ?_
  refine lv_iconst (v := (1 : Int32)) hx hb dX9_whole_15 (by decide) ?_
  refine lv_isub hx hb dX9_whole_16 ?_
  obtain ⟨g2, hf⟩ := gd_use hf
  refine ld_9_16 C h (rfl : Kd 29 = 9) up_eq (inB_in g2) dX9_whole_17 ?_
  refine lv_bipush (v := (33 : Int32)) hx hb dX9_whole_18 (by decide) ?_
  refine lv_icmp_ne (tgt := 52) hx hb dX9_whole_20 (by decide) (fun c3 => ?_) (fun c3 => ?_)
  · replace hf := it_f c3 hf
    replace hf := Option.some.inj hf
    subst hf
    exact r_vre C h dX9_whole_52
  replace hf := it_t c3 hf
  refine lv_aload_n hx hb dX9_whole_23 rfl (lv_at hl 0 rfl) ?_
  refine lv_bipush (v := (-33 : Int32)) hx hb dX9_whole_24 (by decide) ?_
  obtain ⟨u4, hu4, hf⟩ := bd_use hf
  refine r_cv_9 (rest := []) C h (c_X9_emits  hu4) (rfl : Kd 29 = 9) gX9_whole_X9_emits rfl ⟨rfl, rfl⟩ hdX9_emits ⟨Nat.le_of_ble_eq_true rfl, Nat.le_of_ble_eq_true rfl⟩ ⟨Nat.zero_le _, Nat.zero_le _⟩ hl.1 rfl (Nat.le_of_ble_eq_true rfl) dX9_whole_26 (fun H locs h => ?_)
  refine lv_aload_n hx hb dX9_whole_29 rfl (lv_at hl 0 rfl) ?_
  refine lv_dup hx hb dX9_whole_30 rfl ?_
  refine gf_9_27 C h (rfl : Kd 29 = 9) up_eq inX9_whole_9 lkX9_whole_92 dX9_whole_31 ?_
  refine lv_iconst (v := (1 : Int32)) hx hb dX9_whole_34 (by decide) ?_
  refine lv_isub hx hb dX9_whole_35 ?_
  refine pf_9_27 C h (rfl : Kd 29 = 9) up_eq (F := fun t => va_up σ 29 t) (fun _ => up_up) inX9_whole_9 lkX9_whole_92 dX9_whole_36 (fun τ5 eτ5 H locs h => ?_)
  replace hf := lt_use eτ5 hf
  clear eτ5
  refine lv_aload_n hx hb dX9_whole_39 rfl (lv_at hl 0 rfl) ?_
  refine lv_dup hx hb dX9_whole_40 rfl ?_
  refine gf_9_28 C h (rfl : Kd 29 = 9) up_eq inX9_whole_9 lkX9_whole_95 dX9_whole_41 ?_
  refine lv_iconst (v := (1 : Int32)) hx hb dX9_whole_44 (by decide) ?_
  refine lv_isub hx hb dX9_whole_45 ?_
  refine pf_9_28 C h (rfl : Kd 29 = 9) up_eq (F := fun t => va_up σ 29 t) (fun _ => up_up) inX9_whole_9 lkX9_whole_95 dX9_whole_46 (fun τ6 eτ6 H locs h => ?_)
  replace hf := lt_use eτ6 hf
  clear eτ6
  refine lv_goto (tgt := 0) hx hb dX9_whole_49 (by decide) ?_
  exact hk0 _ _ _ h ls (lv_sub hl [0] rfl) hf
set_option maxHeartbeats 4000000 in
set_option maxRecDepth 100000 in
theorem w_X9_whole_0L {p : Program} {l : Launch} {e : Env} {s : State} {m : MethodId} {args : Array Value} {below : List Frame} {meth : Method} {c : Code} {E : Ev} {σ : Ms} {ℓ : Mz} {out : Mm}   (C : Cx cX9_whole 1 none wsX9_whole RX9 E p s m args meth c)  : ∀ (n9 : Nat) (τ : Mm) (H : Heap) (locs : List Loc) (h : HI E (va_up σ 29 τ) ℓ s H locs) (ls : Array Slot) (hl : lv_has ls 1 [(0, .ref (Ea E 29 0))]), f_X9_whole_0L   n9 τ = some out → W p l e rm_X9_whole s m args below meth c H locs 0 0 (MQ below (Po E s.heap.size none (va_up σ 29 out) ℓ) args s 0 0 (AA E s.heap.size)) (F0 m 0 ls []) := by
  intro n9
  induction n9 with
  | zero =>
    intro τ H locs h ls hl hf
    cases (show (none : Option (Mm)) = some out from hf)
  | succ n9 ih =>
    intro τ H locs h ls hl hf
    exact w_X9_whole_0   C  ih τ H locs h ls hl hf
theorem c_X9_whole {l : Launch} {E : Ev} {σ : Ms} {ℓ : Mz} {τ : Mm} {out : Mm} (hf : f_X9_whole τ = some out) : Ct l yX9_whole wsX9_whole rm_X9_whole [.ref (Ea E 29 0)] E (va_up σ 29 τ) ℓ none (va_up σ 29 out) ℓ := by
  refine Ct_mk (cc := cX9_whole) (mL := 1) (ret := none) (own := RX9) (by decide +kernel) rfl rfl (Nat.le_of_ble_eq_true rfl) (fun p e s m below meth c C h ls hl => ?_)
  exact w_X9_whole_0L  C FU τ _ _ h ls (lv_sub hl [0] rfl) hf
theorem k_X9_whole {l : Launch} {E : Ev} {σ : Ms} {ℓ : Mz} {τ : Mm} (hτ : σ 29 = τ) {out : Mm} (hf : f_X9_whole τ = some out) : Ct l yX9_whole wsX9_whole rm_X9_whole [.ref (Ea E 29 0)] E σ ℓ none (va_up σ 29 out) ℓ := by
  subst hτ
  have h := c_X9_whole (l := l) (E := E) (σ := σ) (ℓ := ℓ)  hf
  rw [up_id σ 29] at h
  exact h
theorem hdX9_settle : yX9_settle.cls = RX9 ∧ yX9_settle.cls ≠ "java/lang/invoke/MethodHandle" ∧ yX9_settle.cls ≠ "java/lang/invoke/VarHandle" ∧ (parseMethodDescriptor yX9_settle.desc).map (fun d => d.parameters.length) = some 1 := by decide +kernel
def rm_X9_settle : Room := { frames := 1, cells := 0, slots := 0, locals := 21 }
set_option maxRecDepth 100000 in
theorem inX9_settle_9 : ∀ w ∈ wsX90, w ∈ wsX9_settle := fun _ h => List.mem_cons_of_mem _ (List.mem_append_right _ h)
set_option maxRecDepth 100000 in
theorem lkX9_settle_92 : Cond.fieldLink RX9 92 "BellsBelowModel" "waiting" "I" ∈ wsX9_settle := by decide +kernel
set_option maxRecDepth 100000 in
theorem lkX9_settle_86 : Cond.fieldLink RX9 86 "BellsBelowModel" "waits" "[I" ∈ wsX9_settle := by decide +kernel
set_option maxHeartbeats 4000000 in
set_option maxRecDepth 100000 in
theorem w_X9_settle_45 {p : Program} {l : Launch} {e : Env} {s : State} {m : MethodId} {args : Array Value} {below : List Frame} {meth : Method} {c : Code} {E : Ev} {σ : Ms} {ℓ : Mz} {p0 : Int32} {out : Mm}   (C : Cx cX9_settle 2 none wsX9_settle RX9 E p s m args meth c) {k0 : Mm → Option (Mm)} (hk0 : ∀ (τ : Mm) (H : Heap) (locs : List Loc), HI E (va_up σ 29 τ) ℓ s H locs → ∀ ls : Array Slot, lv_has ls 2 [(0, .ref (Ea E 29 0)), (1, .int p0)] → k0 τ = some out → W p l e rm_X9_settle s m args below meth c H locs 0 0 (MQ below (Po E s.heap.size none (va_up σ 29 out) ℓ) args s 0 0 (AA E s.heap.size)) (F0 m 0 ls [])) : ∀ (τ : Mm) (H : Heap) (locs : List Loc) (h : HI E (va_up σ 29 τ) ℓ s H locs) (ls : Array Slot) (hl : lv_has ls 2 [(0, .ref (Ea E 29 0)), (1, .int p0)]), f_X9_settle_45 p0 k0 τ = some out → W p l e rm_X9_settle s m args below meth c H locs 0 0 (MQ below (Po E s.heap.size none (va_up σ 29 out) ℓ) args s 0 0 (AA E s.heap.size)) (F0 m 45 ls []) := by
  intro τ H locs h ls hl hf
  unfold f_X9_settle_45 at hf
  have C0 := C
  obtain ⟨hx, hb, hr, hml, hown, hts, hlk, hK, hSF⟩ := C0
  refine lv_aload_n hx hb dX9_settle_45 rfl (lv_at hl 0 rfl) ?_
  refine lv_dup hx hb dX9_settle_46 rfl ?_
  refine gf_9_27 C h (rfl : Kd 29 = 9) up_eq inX9_settle_9 lkX9_settle_92 dX9_settle_47 ?_
  refine lv_iconst (v := (1 : Int32)) hx hb dX9_settle_50 (by decide) ?_
  refine lv_isub hx hb dX9_settle_51 ?_
  refine pf_9_27 C h (rfl : Kd 29 = 9) up_eq (F := fun t => va_up σ 29 t) (fun _ => up_up) inX9_settle_9 lkX9_settle_92 dX9_settle_52 (fun τ4 eτ4 H locs h => ?_)
  replace hf := lt_use eτ4 hf
  clear eτ4
  refine lv_aload_n hx hb dX9_settle_55 rfl (lv_at hl 0 rfl) ?_
  refine lv_aload_n hx hb dX9_settle_56 rfl (lv_at hl 0 rfl) ?_
  refine gf_9_25 C h (rfl : Kd 29 = 9) up_eq inX9_settle_9 lkX9_settle_86 dX9_settle_57 ?_
  refine lv_aload_n hx hb dX9_settle_60 rfl (lv_at hl 0 rfl) ?_
  refine gf_9_27 C h (rfl : Kd 29 = 9) up_eq inX9_settle_9 lkX9_settle_92 dX9_settle_61 ?_
  obtain ⟨g5, hf⟩ := gd_use hf
  refine ld_9_16 C h (rfl : Kd 29 = 9) up_eq (inB_in g5) dX9_settle_64 ?_
  refine lv_ineg hx hb dX9_settle_65 ?_
  obtain ⟨u6, hu6, hf⟩ := bd_use hf
  refine r_cv_9 (rest := []) C h (c_X9_emits  hu6) (rfl : Kd 29 = 9) gX9_settle_X9_emits rfl ⟨rfl, rfl⟩ hdX9_emits ⟨Nat.le_of_ble_eq_true rfl, Nat.le_of_ble_eq_true rfl⟩ ⟨Nat.zero_le _, Nat.zero_le _⟩ hl.1 rfl (Nat.le_of_ble_eq_true rfl) dX9_settle_66 (fun H locs h => ?_)
  refine lv_goto (tgt := 0) hx hb dX9_settle_69 (by decide) ?_
  exact hk0 _ _ _ h ls (lv_sub hl [0, 1] rfl) hf
set_option maxHeartbeats 4000000 in
set_option maxRecDepth 100000 in
theorem w_X9_settle_0 {p : Program} {l : Launch} {e : Env} {s : State} {m : MethodId} {args : Array Value} {below : List Frame} {meth : Method} {c : Code} {E : Ev} {σ : Ms} {ℓ : Mz} {p0 : Int32} {out : Mm}   (C : Cx cX9_settle 2 none wsX9_settle RX9 E p s m args meth c) {k0 : Mm → Option (Mm)} (hk0 : ∀ (τ : Mm) (H : Heap) (locs : List Loc), HI E (va_up σ 29 τ) ℓ s H locs → ∀ ls : Array Slot, lv_has ls 2 [(0, .ref (Ea E 29 0)), (1, .int p0)] → k0 τ = some out → W p l e rm_X9_settle s m args below meth c H locs 0 0 (MQ below (Po E s.heap.size none (va_up σ 29 out) ℓ) args s 0 0 (AA E s.heap.size)) (F0 m 0 ls [])) : ∀ (τ : Mm) (H : Heap) (locs : List Loc) (h : HI E (va_up σ 29 τ) ℓ s H locs) (ls : Array Slot) (hl : lv_has ls 2 [(0, .ref (Ea E 29 0)), (1, .int p0)]), f_X9_settle_0 p0 k0 τ = some out → W p l e rm_X9_settle s m args below meth c H locs 0 0 (MQ below (Po E s.heap.size none (va_up σ 29 out) ℓ) args s 0 0 (AA E s.heap.size)) (F0 m 0 ls []) := by
  intro τ H locs h ls hl hf
  unfold f_X9_settle_0 at hf
  have C0 := C
  obtain ⟨hx, hb, hr, hml, hown, hts, hlk, hK, hSF⟩ := C0
  refine lv_aload_n hx hb dX9_settle_0 rfl (lv_at hl 0 rfl) ?_
  refine gf_9_27 C h (rfl : Kd 29 = 9) up_eq inX9_settle_9 lkX9_settle_92 dX9_settle_1 ?_
  refine lv_if_le (tgt := 72) hx hb dX9_settle_4 (by decide) (fun c1 => ?_) (fun c1 => ?_)
  · replace hf := it_t c1 hf
    replace hf := Option.some.inj hf
    subst hf
    exact r_vre C h dX9_settle_72
  replace hf := it_f c1 hf
  refine lv_aload_n hx hb dX9_settle_7 rfl (lv_at hl 0 rfl) ?_
  refine gf_9_25 C h (rfl : Kd 29 = 9) up_eq inX9_settle_9 lkX9_settle_86 dX9_settle_8 ?_
  refine lv_aload_n hx hb dX9_settle_11 rfl (lv_at hl 0 rfl) ?_
  refine gf_9_27 C h (rfl : Kd 29 = 9) up_eq inX9_settle_9 lkX9_settle_92 dX9_settle_12 ?_
  refine lv_iconst (v := (1 : Int32)) hx hb dX9_settle_15 (by decide) ?_
  refine lv_isub hx hb dX9_settle_16 ?_
  obtain ⟨g2, hf⟩ := gd_use hf
  refine ld_9_16 C h (rfl : Kd 29 = 9) up_eq (inB_in g2) dX9_settle_17 ?_
  refine lv_bipush (v := (38 : Int32)) hx hb dX9_settle_18 (by decide) ?_
  refine lv_icmp_eq (tgt := 45) hx hb dX9_settle_20 (by decide) (fun c3 => ?_) (fun c3 => ?_)
  · replace hf := it_t c3 hf
    exact w_X9_settle_45    C hk0 _ _ _ h ls (lv_sub hl [0, 1] rfl) hf
  replace hf := it_f c3 hf
  refine lv_aload_n hx hb dX9_settle_23 rfl (lv_at hl 0 rfl) ?_
  refine gf_9_25 C h (rfl : Kd 29 = 9) up_eq inX9_settle_9 lkX9_settle_86 dX9_settle_24 ?_
  refine lv_aload_n hx hb dX9_settle_27 rfl (lv_at hl 0 rfl) ?_
  refine gf_9_27 C h (rfl : Kd 29 = 9) up_eq inX9_settle_9 lkX9_settle_92 dX9_settle_28 ?_
  refine lv_iconst (v := (1 : Int32)) hx hb dX9_settle_31 (by decide) ?_
  refine lv_isub hx hb dX9_settle_32 ?_
  obtain ⟨g7, hf⟩ := gd_use hf
  refine ld_9_16 C h (rfl : Kd 29 = 9) up_eq (inB_in g7) dX9_settle_33 ?_
  refine lv_bipush (v := (124 : Int32)) hx hb dX9_settle_34 (by decide) ?_
  refine lv_icmp_ne (tgt := 72) hx hb dX9_settle_36 (by decide) (fun c8 => ?_) (fun c8 => ?_)
  · replace hf := it_f c8 hf
    replace hf := Option.some.inj hf
    subst hf
    exact r_vre C h dX9_settle_72
  replace hf := it_t c8 hf
  refine lv_iload_n hx hb dX9_settle_39 rfl (lv_at hl 1 rfl) ?_
  refine lv_bipush (v := (38 : Int32)) hx hb dX9_settle_40 (by decide) ?_
  refine lv_icmp_eq (tgt := 72) hx hb dX9_settle_42 (by decide) (fun c9 => ?_) (fun c9 => ?_)
  · replace hf := it_t c9 hf
    replace hf := Option.some.inj hf
    subst hf
    exact r_vre C h dX9_settle_72
  replace hf := it_f c9 hf
  exact w_X9_settle_45    C hk0 _ _ _ h ls (lv_sub hl [0, 1] rfl) hf
set_option maxHeartbeats 4000000 in
set_option maxRecDepth 100000 in
theorem w_X9_settle_0L {p : Program} {l : Launch} {e : Env} {s : State} {m : MethodId} {args : Array Value} {below : List Frame} {meth : Method} {c : Code} {E : Ev} {σ : Ms} {ℓ : Mz} {p0 : Int32} {out : Mm}   (C : Cx cX9_settle 2 none wsX9_settle RX9 E p s m args meth c)  : ∀ (n9 : Nat) (τ : Mm) (H : Heap) (locs : List Loc) (h : HI E (va_up σ 29 τ) ℓ s H locs) (ls : Array Slot) (hl : lv_has ls 2 [(0, .ref (Ea E 29 0)), (1, .int p0)]), f_X9_settle_0L p0  n9 τ = some out → W p l e rm_X9_settle s m args below meth c H locs 0 0 (MQ below (Po E s.heap.size none (va_up σ 29 out) ℓ) args s 0 0 (AA E s.heap.size)) (F0 m 0 ls []) := by
  intro n9
  induction n9 with
  | zero =>
    intro τ H locs h ls hl hf
    cases (show (none : Option (Mm)) = some out from hf)
  | succ n9 ih =>
    intro τ H locs h ls hl hf
    exact w_X9_settle_0   C  ih τ H locs h ls hl hf
theorem c_X9_settle {l : Launch} {E : Ev} {σ : Ms} {ℓ : Mz} {τ : Mm} {p0 : Int32} {out : Mm} (hf : f_X9_settle τ p0 = some out) : Ct l yX9_settle wsX9_settle rm_X9_settle [.ref (Ea E 29 0), .int p0] E (va_up σ 29 τ) ℓ none (va_up σ 29 out) ℓ := by
  refine Ct_mk (cc := cX9_settle) (mL := 2) (ret := none) (own := RX9) (by decide +kernel) rfl rfl (Nat.le_of_ble_eq_true rfl) (fun p e s m below meth c C h ls hl => ?_)
  exact w_X9_settle_0L  C FU τ _ _ h ls (lv_sub hl [0, 1] rfl) hf
theorem k_X9_settle {l : Launch} {E : Ev} {σ : Ms} {ℓ : Mz} {τ : Mm} {p0 : Int32} (hτ : σ 29 = τ) {out : Mm} (hf : f_X9_settle τ p0 = some out) : Ct l yX9_settle wsX9_settle rm_X9_settle [.ref (Ea E 29 0), .int p0] E σ ℓ none (va_up σ 29 out) ℓ := by
  subst hτ
  have h := c_X9_settle (l := l) (E := E) (σ := σ) (ℓ := ℓ)  hf
  rw [up_id σ 29] at h
  exact h
theorem hdX9_place : yX9_place.cls = RX9 ∧ yX9_place.cls ≠ "java/lang/invoke/MethodHandle" ∧ yX9_place.cls ≠ "java/lang/invoke/VarHandle" ∧ (parseMethodDescriptor yX9_place.desc).map (fun d => d.parameters.length) = some 1 := by decide +kernel
def rm_X9_place : Room := { frames := 0, cells := 0, slots := 0, locals := 0 }
set_option maxHeartbeats 4000000 in
set_option maxRecDepth 100000 in
theorem w_X9_place_0 {p : Program} {l : Launch} {e : Env} {s : State} {m : MethodId} {args : Array Value} {below : List Frame} {meth : Method} {c : Code} {E : Ev} {σ : Ms} {ℓ : Mz} {p0 : Int32} {out : Int32}   (C : Cx cX9_place 2 (some .int) wsX9_place RX9 E p s m args meth c)  : ∀  (H : Heap) (locs : List Loc) (h : HI E σ ℓ s H locs) (ls : Array Slot) (hl : lv_has ls 2 [(1, .int p0)]), f_X9_place_0 p0   = some out → W p l e rm_X9_place s m args below meth c H locs 0 0 (MQ below (Po E s.heap.size (some (.int out)) σ ℓ) args s 0 0 (AA E s.heap.size)) (F0 m 0 ls []) := by
  intro  H locs h ls hl hf
  unfold f_X9_place_0 at hf
  have C0 := C
  obtain ⟨hx, hb, hr, hml, hown, hts, hlk, hK, hSF⟩ := C0
  refine lv_iload_n hx hb dX9_place_0 rfl (lv_at hl 0 rfl) ?_
  by_cases c1 : p0 = (97 : Int32)
  · replace hf := it_t c1 hf
    refine r_lin (v := (97 : Int32)) (off := 67) (tgt := 68) hx hb c1 dX9_place_1 (by decide) (by decide) (by decide) ?_
    refine lv_iconst (v := (4 : Int32)) hx hb dX9_place_68 (by decide) ?_
    replace hf := Option.some.inj hf
    subst hf
    exact r_ire C h dX9_place_69
  replace hf := it_f c1 hf
  by_cases c2 : p0 = (102 : Int32)
  · replace hf := it_t c2 hf
    refine r_lin (v := (102 : Int32)) (off := 65) (tgt := 66) hx hb c2 dX9_place_1 (by decide) (by decide) (by decide) ?_
    refine lv_iconst (v := (3 : Int32)) hx hb dX9_place_66 (by decide) ?_
    replace hf := Option.some.inj hf
    subst hf
    exact r_ire C h dX9_place_67
  replace hf := it_f c2 hf
  by_cases c3 : p0 = (107 : Int32)
  · replace hf := it_t c3 hf
    refine r_lin (v := (107 : Int32)) (off := 61) (tgt := 62) hx hb c3 dX9_place_1 (by decide) (by decide) (by decide) ?_
    refine lv_iconst (v := (1 : Int32)) hx hb dX9_place_62 (by decide) ?_
    replace hf := Option.some.inj hf
    subst hf
    exact r_ire C h dX9_place_63
  replace hf := it_f c3 hf
  by_cases c4 : p0 = (109 : Int32)
  · replace hf := it_t c4 hf
    refine r_lin (v := (109 : Int32)) (off := 69) (tgt := 70) hx hb c4 dX9_place_1 (by decide) (by decide) (by decide) ?_
    refine lv_iconst (v := (5 : Int32)) hx hb dX9_place_70 (by decide) ?_
    replace hf := Option.some.inj hf
    subst hf
    exact r_ire C h dX9_place_71
  replace hf := it_f c4 hf
  by_cases c5 : p0 = (112 : Int32)
  · replace hf := it_t c5 hf
    refine r_lin (v := (112 : Int32)) (off := 59) (tgt := 60) hx hb c5 dX9_place_1 (by decide) (by decide) (by decide) ?_
    refine lv_iconst (v := (0 : Int32)) hx hb dX9_place_60 (by decide) ?_
    replace hf := Option.some.inj hf
    subst hf
    exact r_ire C h dX9_place_61
  replace hf := it_f c5 hf
  by_cases c6 : p0 = (118 : Int32)
  · replace hf := it_t c6 hf
    refine r_lin (v := (118 : Int32)) (off := 63) (tgt := 64) hx hb c6 dX9_place_1 (by decide) (by decide) (by decide) ?_
    refine lv_iconst (v := (2 : Int32)) hx hb dX9_place_64 (by decide) ?_
    replace hf := Option.some.inj hf
    subst hf
    exact r_ire C h dX9_place_65
  replace hf := it_f c6 hf
  refine lv_lookup (off := 71) (tgt := 72) hx hb dX9_place_1 (by decide) (lk_out _ (List.forall_mem_cons.mpr ⟨c1, (List.forall_mem_cons.mpr ⟨c2, (List.forall_mem_cons.mpr ⟨c3, (List.forall_mem_cons.mpr ⟨c4, (List.forall_mem_cons.mpr ⟨c5, (List.forall_mem_cons.mpr ⟨c6, (fun _ h => absurd h List.not_mem_nil)⟩)⟩)⟩)⟩)⟩)⟩)) (by decide) ?_
  refine lv_iconst (v := (-1 : Int32)) hx hb dX9_place_72 (by decide) ?_
  replace hf := Option.some.inj hf
  subst hf
  exact r_ire C h dX9_place_73
theorem c_X9_place {l : Launch} {E : Ev} {σ : Ms} {ℓ : Mz} {p0 : Int32} {out : Int32} (hf : f_X9_place p0 = some out) : Ct l yX9_place wsX9_place rm_X9_place [.ref (Ea E 29 0), .int p0] E σ ℓ (some (.int out)) σ ℓ := by
  refine Ct_mk (cc := cX9_place) (mL := 2) (ret := (some .int)) (own := RX9) (by decide +kernel) rfl rfl (Nat.le_of_ble_eq_true rfl) (fun p e s m below meth c C h ls hl => ?_)
  exact w_X9_place_0  C  _ _ h ls (lv_sub hl [1] rfl) hf
theorem hdX9_takesTest : yX9_takesTest.cls = RX9 ∧ yX9_takesTest.cls ≠ "java/lang/invoke/MethodHandle" ∧ yX9_takesTest.cls ≠ "java/lang/invoke/VarHandle" ∧ (parseMethodDescriptor yX9_takesTest.desc).map (fun d => d.parameters.length) = some 0 := by decide +kernel
def rm_X9_takesTest : Room := { frames := 3, cells := 0, slots := 0, locals := 64 }
set_option maxRecDepth 100000 in
theorem inX9_takesTest_9 : ∀ w ∈ wsX90, w ∈ wsX9_takesTest := fun _ h => List.mem_cons_of_mem _ (List.mem_append_right _ h)
set_option maxRecDepth 100000 in
theorem lkX9_takesTest_59 : Cond.fieldLink RX9 59 "BellsBelowModel" "at" "I" ∈ wsX9_takesTest := by decide +kernel
set_option maxRecDepth 100000 in
theorem lkX9_takesTest_62 : Cond.fieldLink RX9 62 "BellsBelowModel" "digits" "I" ∈ wsX9_takesTest := by decide +kernel
set_option maxHeartbeats 4000000 in
set_option maxRecDepth 100000 in
theorem w_X9_takesTest_0 {p : Program} {l : Launch} {e : Env} {s : State} {m : MethodId} {args : Array Value} {below : List Frame} {meth : Method} {c : Code} {E : Ev} {σ : Ms} {ℓ : Mz} {out : Int32 × Mm}   (C : Cx cX9_takesTest 3 (some .boolean) wsX9_takesTest RX9 E p s m args meth c)  : ∀ (τ : Mm) (H : Heap) (locs : List Loc) (h : HI E (va_up σ 29 τ) ℓ s H locs) (ls : Array Slot) (hl : lv_has ls 3 [(0, .ref (Ea E 29 0))]), f_X9_takesTest_0   τ = some out → W p l e rm_X9_takesTest s m args below meth c H locs 0 0 (MQ below (Po E s.heap.size (some (.int out.1)) (va_up σ 29 out.2) ℓ) args s 0 0 (AA E s.heap.size)) (F0 m 0 ls []) := by
  intro τ H locs h ls hl hf
  unfold f_X9_takesTest_0 at hf
  have C0 := C
  obtain ⟨hx, hb, hr, hml, hown, hts, hlk, hK, hSF⟩ := C0
  refine lv_aload_n hx hb dX9_takesTest_0 rfl (lv_at hl 0 rfl) ?_
  refine lv_aload_n hx hb dX9_takesTest_1 rfl (lv_at hl 0 rfl) ?_
  obtain ⟨u1, hu1, hf⟩ := bd_use hf
  refine r_cv_9 (rest := [.ref (Ea E 29 0)]) C h (c_X9_next up_eq hu1) (rfl : Kd 29 = 9) gX9_takesTest_X9_next rfl ⟨rfl, rfl⟩ hdX9_next ⟨Nat.le_of_ble_eq_true rfl, Nat.le_of_ble_eq_true rfl⟩ ⟨Nat.zero_le _, Nat.zero_le _⟩ hl.1 rfl (Nat.le_of_ble_eq_true rfl) dX9_takesTest_2 (fun H locs h => ?_)
  obtain ⟨u2, hu2, hf⟩ := bd_use hf
  refine r_cv_9 (rest := []) C h (c_X9_place  hu2) (rfl : Kd 29 = 9) gX9_takesTest_X9_place rfl ⟨rfl, rfl⟩ hdX9_place ⟨Nat.le_of_ble_eq_true rfl, Nat.le_of_ble_eq_true rfl⟩ ⟨Nat.zero_le _, Nat.zero_le _⟩ hl.1 rfl (Nat.le_of_ble_eq_true rfl) dX9_takesTest_5 (fun H locs h => ?_)
  refine lv_istore_n (lv' := [(1, .int u2), (0, .ref (Ea E 29 0))]) hx hb dX9_takesTest_8 rfl hl (by decide) rfl (fun ls hl => ?_)
  refine lv_iload_n hx hb dX9_takesTest_9 rfl (lv_at hl 0 rfl) ?_
  refine lv_if_ge (tgt := 15) hx hb dX9_takesTest_10 (by decide) (fun c3 => ?_) (fun c3 => ?_)
  · replace hf := it_t c3 hf
    refine lv_aload_n hx hb dX9_takesTest_15 rfl (lv_at hl 1 rfl) ?_
    refine lv_dup hx hb dX9_takesTest_16 rfl ?_
    refine gf_9_16 C h (rfl : Kd 29 = 9) up_eq inX9_takesTest_9 lkX9_takesTest_59 dX9_takesTest_17 ?_
    refine lv_iconst (v := (1 : Int32)) hx hb dX9_takesTest_20 (by decide) ?_
    refine lv_iadd hx hb dX9_takesTest_21 ?_
    refine pf_9_16 C h (rfl : Kd 29 = 9) up_eq (F := fun t => va_up σ 29 t) (fun _ => up_up) inX9_takesTest_9 lkX9_takesTest_59 dX9_takesTest_22 (fun τ4 eτ4 H locs h => ?_)
    replace hf := lt_use eτ4 hf
    clear eτ4
    refine lv_aload_n hx hb dX9_takesTest_25 rfl (lv_at hl 1 rfl) ?_
    obtain ⟨u5, hu5, hf⟩ := bd_use hf
    refine r_cv_9 (rest := []) C h (c_X9_next up_eq hu5) (rfl : Kd 29 = 9) gX9_takesTest_X9_next rfl ⟨rfl, rfl⟩ hdX9_next ⟨Nat.le_of_ble_eq_true rfl, Nat.le_of_ble_eq_true rfl⟩ ⟨Nat.zero_le _, Nat.zero_le _⟩ hl.1 rfl (Nat.le_of_ble_eq_true rfl) dX9_takesTest_26 (fun H locs h => ?_)
    refine lv_istore_n (lv' := [(2, .int u5), (1, .int u2), (0, .ref (Ea E 29 0))]) hx hb dX9_takesTest_29 rfl hl (by decide) rfl (fun ls hl => ?_)
    refine lv_aload_n hx hb dX9_takesTest_30 rfl (lv_at hl 2 rfl) ?_
    refine lv_iload_n hx hb dX9_takesTest_31 rfl (lv_at hl 0 rfl) ?_
    refine lv_bipush (v := (60 : Int32)) hx hb dX9_takesTest_32 (by decide) ?_
    refine lv_bipush (v := (62 : Int32)) hx hb dX9_takesTest_34 (by decide) ?_
    obtain ⟨u6, hu6, hf⟩ := bd_use hf
    refine r_cv_9 (rest := []) C h (c_X9_in  hu6) (rfl : Kd 29 = 9) gX9_takesTest_X9_in rfl ⟨rfl, rfl⟩ hdX9_in ⟨Nat.le_of_ble_eq_true rfl, Nat.le_of_ble_eq_true rfl⟩ ⟨Nat.zero_le _, Nat.zero_le _⟩ hl.1 rfl (Nat.le_of_ble_eq_true rfl) dX9_takesTest_36 (fun H locs h => ?_)
    refine lv_if_ne (tgt := 44) hx hb dX9_takesTest_39 (by decide) (fun c7 => ?_) (fun c7 => ?_)
    · replace hf := it_f c7 hf
      refine lv_aload_n hx hb dX9_takesTest_44 rfl (lv_at hl 2 rfl) ?_
      refine lv_dup hx hb dX9_takesTest_45 rfl ?_
      refine gf_9_16 C h (rfl : Kd 29 = 9) up_eq inX9_takesTest_9 lkX9_takesTest_59 dX9_takesTest_46 ?_
      refine lv_iconst (v := (1 : Int32)) hx hb dX9_takesTest_49 (by decide) ?_
      refine lv_iadd hx hb dX9_takesTest_50 ?_
      refine pf_9_16 C h (rfl : Kd 29 = 9) up_eq (F := fun t => va_up σ 29 t) (fun _ => up_up) inX9_takesTest_9 lkX9_takesTest_59 dX9_takesTest_51 (fun τ8 eτ8 H locs h => ?_)
      replace hf := lt_use eτ8 hf
      clear eτ8
      refine lv_aload_n hx hb dX9_takesTest_54 rfl (lv_at hl 2 rfl) ?_
      obtain ⟨u9, hu9, hf⟩ := bd_use hf
      refine r_cv_9 (rest := []) C h (c_X9_takesNumber  hu9) (rfl : Kd 29 = 9) gX9_takesTest_X9_takesNumber rfl ⟨rfl, rfl⟩ hdX9_takesNumber ⟨Nat.le_of_ble_eq_true rfl, Nat.le_of_ble_eq_true rfl⟩ ⟨Nat.zero_le _, Nat.zero_le _⟩ hl.1 rfl (Nat.le_of_ble_eq_true rfl) dX9_takesTest_55 (fun H locs h => ?_)
      refine lv_if_ne (tgt := 63) hx hb dX9_takesTest_58 (by decide) (fun c10 => ?_) (fun c10 => ?_)
      · replace hf := it_f c10 hf
        refine lv_aload_n hx hb dX9_takesTest_63 rfl (lv_at hl 2 rfl) ?_
        refine lv_sipush (v := (1000 : Int32)) hx hb dX9_takesTest_64 (by decide) ?_
        refine lv_iload_n hx hb dX9_takesTest_67 rfl (lv_at hl 1 rfl) ?_
        refine lv_imul hx hb dX9_takesTest_68 ?_
        refine lv_bipush (v := (100 : Int32)) hx hb dX9_takesTest_69 (by decide) ?_
        refine lv_iload_n hx hb dX9_takesTest_71 rfl (lv_at hl 0 rfl) ?_
        refine lv_bipush (v := (60 : Int32)) hx hb dX9_takesTest_72 (by decide) ?_
        refine lv_isub hx hb dX9_takesTest_74 ?_
        refine lv_imul hx hb dX9_takesTest_75 ?_
        refine lv_iadd hx hb dX9_takesTest_76 ?_
        refine lv_aload_n hx hb dX9_takesTest_77 rfl (lv_at hl 2 rfl) ?_
        refine gf_9_17 C h (rfl : Kd 29 = 9) up_eq inX9_takesTest_9 lkX9_takesTest_62 dX9_takesTest_78 ?_
        refine lv_iadd hx hb dX9_takesTest_81 ?_
        obtain ⟨u11, hu11, hf⟩ := bd_use hf
        refine r_cv_9 (rest := []) C h (c_X9_emits  hu11) (rfl : Kd 29 = 9) gX9_takesTest_X9_emits rfl ⟨rfl, rfl⟩ hdX9_emits ⟨Nat.le_of_ble_eq_true rfl, Nat.le_of_ble_eq_true rfl⟩ ⟨Nat.zero_le _, Nat.zero_le _⟩ hl.1 rfl (Nat.le_of_ble_eq_true rfl) dX9_takesTest_82 (fun H locs h => ?_)
        refine lv_aload_n hx hb dX9_takesTest_85 rfl (lv_at hl 2 rfl) ?_
        obtain ⟨u12, hu12, hf⟩ := bd_use hf
        refine r_cv_9 (rest := []) C h (c_X9_whole  hu12) (rfl : Kd 29 = 9) gX9_takesTest_X9_whole rfl ⟨rfl, rfl⟩ hdX9_whole ⟨Nat.le_of_ble_eq_true rfl, Nat.le_of_ble_eq_true rfl⟩ ⟨Nat.zero_le _, Nat.zero_le _⟩ hl.1 rfl (Nat.le_of_ble_eq_true rfl) dX9_takesTest_86 (fun H locs h => ?_)
        refine lv_iconst (v := (1 : Int32)) hx hb dX9_takesTest_89 (by decide) ?_
        replace hf := Option.some.inj hf
        subst hf
        exact r_zre (v := (1 : Int32)) C h rfl dX9_takesTest_90
      replace hf := it_t c10 hf
      refine lv_iconst (v := (0 : Int32)) hx hb dX9_takesTest_61 (by decide) ?_
      replace hf := Option.some.inj hf
      subst hf
      exact r_zre (v := (0 : Int32)) C h rfl dX9_takesTest_62
    replace hf := it_t c7 hf
    refine lv_iconst (v := (0 : Int32)) hx hb dX9_takesTest_42 (by decide) ?_
    replace hf := Option.some.inj hf
    subst hf
    exact r_zre (v := (0 : Int32)) C h rfl dX9_takesTest_43
  replace hf := it_f c3 hf
  refine lv_iconst (v := (0 : Int32)) hx hb dX9_takesTest_13 (by decide) ?_
  replace hf := Option.some.inj hf
  subst hf
  exact r_zre (v := (0 : Int32)) C h rfl dX9_takesTest_14
theorem c_X9_takesTest {l : Launch} {E : Ev} {σ : Ms} {ℓ : Mz} {τ : Mm} {out : Int32 × Mm} (hf : f_X9_takesTest τ = some out) : Ct l yX9_takesTest wsX9_takesTest rm_X9_takesTest [.ref (Ea E 29 0)] E (va_up σ 29 τ) ℓ (some (.int out.1)) (va_up σ 29 out.2) ℓ := by
  refine Ct_mk (cc := cX9_takesTest) (mL := 3) (ret := (some .boolean)) (own := RX9) (by decide +kernel) rfl rfl (Nat.le_of_ble_eq_true rfl) (fun p e s m below meth c C h ls hl => ?_)
  exact w_X9_takesTest_0  C τ _ _ h ls (lv_sub hl [0] rfl) hf
theorem k_X9_takesTest {l : Launch} {E : Ev} {σ : Ms} {ℓ : Mz} {τ : Mm} (hτ : σ 29 = τ) {out : Int32 × Mm} (hf : f_X9_takesTest τ = some out) : Ct l yX9_takesTest wsX9_takesTest rm_X9_takesTest [.ref (Ea E 29 0)] E σ ℓ (some (.int out.1)) (va_up σ 29 out.2) ℓ := by
  subst hτ
  have h := c_X9_takesTest (l := l) (E := E) (σ := σ) (ℓ := ℓ)  hf
  rw [up_id σ 29] at h
  exact h
