/-! WALKS: made by wip/whole/gen -/
theorem hdX9_takesE : yX9_takesE.cls = RX9 ∧ yX9_takesE.cls ≠ "java/lang/invoke/MethodHandle" ∧ yX9_takesE.cls ≠ "java/lang/invoke/VarHandle" ∧ (parseMethodDescriptor yX9_takesE.desc).map (fun d => d.parameters.length) = some 1 := by decide +kernel
def rm_X9_takesE : Room := { frames := 4, cells := 0, slots := 0, locals := 86 }
set_option maxRecDepth 100000 in
theorem inX9_takesE_9 : ∀ w ∈ wsX90, w ∈ wsX9_takesE := fun _ h => List.mem_cons_of_mem _ (List.mem_append_right _ h)
set_option maxRecDepth 100000 in
theorem lkX9_takesE_92 : Cond.fieldLink RX9 92 "BellsBelowModel" "waiting" "I" ∈ wsX9_takesE := by decide +kernel
set_option maxRecDepth 100000 in
theorem lkX9_takesE_95 : Cond.fieldLink RX9 95 "BellsBelowModel" "open" "I" ∈ wsX9_takesE := by decide +kernel
set_option maxRecDepth 100000 in
theorem lkX9_takesE_77 : Cond.fieldLink RX9 77 "BellsBelowModel" "from" "[I" ∈ wsX9_takesE := by decide +kernel
set_option maxRecDepth 100000 in
theorem lkX9_takesE_89 : Cond.fieldLink RX9 89 "BellsBelowModel" "signs" "I" ∈ wsX9_takesE := by decide +kernel
set_option maxRecDepth 100000 in
theorem lkX9_takesE_86 : Cond.fieldLink RX9 86 "BellsBelowModel" "waits" "[I" ∈ wsX9_takesE := by decide +kernel
set_option maxRecDepth 100000 in
theorem lkX9_takesE_59 : Cond.fieldLink RX9 59 "BellsBelowModel" "at" "I" ∈ wsX9_takesE := by decide +kernel
set_option maxRecDepth 100000 in
theorem lkX9_takesE_80 : Cond.fieldLink RX9 80 "BellsBelowModel" "to" "[I" ∈ wsX9_takesE := by decide +kernel
set_option maxHeartbeats 4000000 in
set_option maxRecDepth 100000 in
theorem w_X9_takesE_122 {p : Program} {l : Launch} {e : Env} {s : State} {m : MethodId} {args : Array Value} {below : List Frame} {meth : Method} {c : Code} {E : Ev} {σ : Ms} {ℓ : Mz} {p0 : Int32} {out : Int32 × Mm}   (C : Cx cX9_takesE 4 (some .boolean) wsX9_takesE RX9 E p s m args meth c) {k22 : Mm → Int32 → Option (Int32 × Mm)} (hk22 : ∀ (τ : Mm) (v2 : Int32) (H : Heap) (locs : List Loc), HI E (va_up σ 29 τ) ℓ s H locs → ∀ ls : Array Slot, lv_has ls 4 [(0, .ref (Ea E 29 0)), (1, .int p0), (2, .int v2)] → k22 τ v2 = some out → W p l e rm_X9_takesE s m args below meth c H locs 0 0 (MQ below (Po E s.heap.size (some (.int out.1)) (va_up σ 29 out.2) ℓ) args s 0 0 (AA E s.heap.size)) (F0 m 22 ls [])) : ∀ (τ : Mm) (v3 : Int32) (H : Heap) (locs : List Loc) (h : HI E (va_up σ 29 τ) ℓ s H locs) (ls : Array Slot) (hl : lv_has ls 4 [(0, .ref (Ea E 29 0)), (1, .int p0), (3, .int v3)]), f_X9_takesE_122 p0 k22 τ v3 = some out → W p l e rm_X9_takesE s m args below meth c H locs 0 0 (MQ below (Po E s.heap.size (some (.int out.1)) (va_up σ 29 out.2) ℓ) args s 0 0 (AA E s.heap.size)) (F0 m 122 ls []) := by
  intro τ v3 H locs h ls hl hf
  unfold f_X9_takesE_122 at hf
  have C0 := C
  obtain ⟨hx, hb, hr, hml, hown, hts, hlk, hK, hSF⟩ := C0
  refine lv_aload_n hx hb dX9_takesE_122 rfl (lv_at hl 0 rfl) ?_
  refine lv_iload_n hx hb dX9_takesE_123 rfl (lv_at hl 2 rfl) ?_
  obtain ⟨u8, hu8, hf⟩ := bd_use hf
  refine r_cv_9 (rest := []) C h (c_X9_settle  hu8) (rfl : Kd 29 = 9) gX9_takesE_X9_settle rfl ⟨rfl, rfl⟩ hdX9_settle ⟨Nat.le_of_ble_eq_true rfl, Nat.le_of_ble_eq_true rfl⟩ ⟨Nat.zero_le _, Nat.zero_le _⟩ hl.1 rfl (Nat.le_of_ble_eq_true rfl) dX9_takesE_124 (fun H locs h => ?_)
  refine lv_aload_n hx hb dX9_takesE_127 rfl (lv_at hl 0 rfl) ?_
  refine gf_9_25 C h (rfl : Kd 29 = 9) up_eq inX9_takesE_9 lkX9_takesE_86 dX9_takesE_128 ?_
  refine lv_aload_n hx hb dX9_takesE_131 rfl (lv_at hl 0 rfl) ?_
  refine gf_9_27 C h (rfl : Kd 29 = 9) up_eq inX9_takesE_9 lkX9_takesE_92 dX9_takesE_132 ?_
  refine lv_iload_n hx hb dX9_takesE_135 rfl (lv_at hl 2 rfl) ?_
  obtain ⟨g9, hf⟩ := gd_use hf
  refine sa_9_16 C h (rfl : Kd 29 = 9) up_eq (F := fun t => va_up σ 29 t) (fun _ => up_up) (inB_in g9) dX9_takesE_136 (fun τ10 eτ10 H locs h => ?_)
  replace hf := lt_use eτ10 hf
  clear eτ10
  refine lv_aload_n hx hb dX9_takesE_137 rfl (lv_at hl 0 rfl) ?_
  refine lv_dup hx hb dX9_takesE_138 rfl ?_
  refine gf_9_27 C h (rfl : Kd 29 = 9) up_eq inX9_takesE_9 lkX9_takesE_92 dX9_takesE_139 ?_
  refine lv_iconst (v := (1 : Int32)) hx hb dX9_takesE_142 (by decide) ?_
  refine lv_iadd hx hb dX9_takesE_143 ?_
  refine pf_9_27 C h (rfl : Kd 29 = 9) up_eq (F := fun t => va_up σ 29 t) (fun _ => up_up) inX9_takesE_9 lkX9_takesE_92 dX9_takesE_144 (fun τ11 eτ11 H locs h => ?_)
  replace hf := lt_use eτ11 hf
  clear eτ11
  refine lv_iconst (v := (1 : Int32)) hx hb dX9_takesE_147 (by decide) ?_
  refine lv_istore_n (lv' := [(2, .int (1 : Int32)), (0, .ref (Ea E 29 0)), (1, .int p0), (3, .int v3)]) hx hb dX9_takesE_148 rfl hl (by decide) rfl (fun ls hl => ?_)
  refine lv_aload_n hx hb dX9_takesE_149 rfl (lv_at hl 1 rfl) ?_
  refine lv_dup hx hb dX9_takesE_150 rfl ?_
  refine gf_9_16 C h (rfl : Kd 29 = 9) up_eq inX9_takesE_9 lkX9_takesE_59 dX9_takesE_151 ?_
  refine lv_iconst (v := (1 : Int32)) hx hb dX9_takesE_154 (by decide) ?_
  refine lv_iadd hx hb dX9_takesE_155 ?_
  refine pf_9_16 C h (rfl : Kd 29 = 9) up_eq (F := fun t => va_up σ 29 t) (fun _ => up_up) inX9_takesE_9 lkX9_takesE_59 dX9_takesE_156 (fun τ12 eτ12 H locs h => ?_)
  replace hf := lt_use eτ12 hf
  clear eτ12
  refine lv_goto (tgt := 22) hx hb dX9_takesE_159 (by decide) ?_
  exact hk22 _ _ _ _ h ls (lv_sub hl [1, 2, 0] rfl) hf
set_option maxHeartbeats 4000000 in
set_option maxRecDepth 100000 in
theorem w_X9_takesE_43 {p : Program} {l : Launch} {e : Env} {s : State} {m : MethodId} {args : Array Value} {below : List Frame} {meth : Method} {c : Code} {E : Ev} {σ : Ms} {ℓ : Mz} {p0 : Int32} {out : Int32 × Mm}   (C : Cx cX9_takesE 4 (some .boolean) wsX9_takesE RX9 E p s m args meth c) {k22 : Mm → Int32 → Option (Int32 × Mm)} (hk22 : ∀ (τ : Mm) (v2 : Int32) (H : Heap) (locs : List Loc), HI E (va_up σ 29 τ) ℓ s H locs → ∀ ls : Array Slot, lv_has ls 4 [(0, .ref (Ea E 29 0)), (1, .int p0), (2, .int v2)] → k22 τ v2 = some out → W p l e rm_X9_takesE s m args below meth c H locs 0 0 (MQ below (Po E s.heap.size (some (.int out.1)) (va_up σ 29 out.2) ℓ) args s 0 0 (AA E s.heap.size)) (F0 m 22 ls [])) : ∀ (τ : Mm) (v2 : Int32) (v3 : Int32) (H : Heap) (locs : List Loc) (h : HI E (va_up σ 29 τ) ℓ s H locs) (ls : Array Slot) (hl : lv_has ls 4 [(0, .ref (Ea E 29 0)), (1, .int p0), (2, .int v2), (3, .int v3)]), f_X9_takesE_43 p0 k22 τ v2 v3 = some out → W p l e rm_X9_takesE s m args below meth c H locs 0 0 (MQ below (Po E s.heap.size (some (.int out.1)) (va_up σ 29 out.2) ℓ) args s 0 0 (AA E s.heap.size)) (F0 m 43 ls []) := by
  intro τ v2 v3 H locs h ls hl hf
  unfold f_X9_takesE_43 at hf
  have C0 := C
  obtain ⟨hx, hb, hr, hml, hown, hts, hlk, hK, hSF⟩ := C0
  refine lv_aload_n hx hb dX9_takesE_43 rfl (lv_at hl 0 rfl) ?_
  refine gf_9_28 C h (rfl : Kd 29 = 9) up_eq inX9_takesE_9 lkX9_takesE_95 dX9_takesE_44 ?_
  refine lv_iconst (v := (4 : Int32)) hx hb dX9_takesE_47 (by decide) ?_
  refine lv_icmp_ne (tgt := 53) hx hb dX9_takesE_48 (by decide) (fun c24 => ?_) (fun c24 => ?_)
  · replace hf := it_f c24 hf
    refine lv_aload_n hx hb dX9_takesE_53 rfl (lv_at hl 0 rfl) ?_
    refine lv_dup hx hb dX9_takesE_54 rfl ?_
    refine gf_9_28 C h (rfl : Kd 29 = 9) up_eq inX9_takesE_9 lkX9_takesE_95 dX9_takesE_55 ?_
    refine lv_iconst (v := (1 : Int32)) hx hb dX9_takesE_58 (by decide) ?_
    refine lv_iadd hx hb dX9_takesE_59 ?_
    refine pf_9_28 C h (rfl : Kd 29 = 9) up_eq (F := fun t => va_up σ 29 t) (fun _ => up_up) inX9_takesE_9 lkX9_takesE_95 dX9_takesE_60 (fun τ25 eτ25 H locs h => ?_)
    replace hf := lt_use eτ25 hf
    clear eτ25
    refine lv_aload_n hx hb dX9_takesE_63 rfl (lv_at hl 0 rfl) ?_
    refine gf_9_25 C h (rfl : Kd 29 = 9) up_eq inX9_takesE_9 lkX9_takesE_86 dX9_takesE_64 ?_
    refine lv_aload_n hx hb dX9_takesE_67 rfl (lv_at hl 0 rfl) ?_
    refine gf_9_27 C h (rfl : Kd 29 = 9) up_eq inX9_takesE_9 lkX9_takesE_92 dX9_takesE_68 ?_
    refine lv_iload_n hx hb dX9_takesE_71 rfl (lv_at hl 3 rfl) ?_
    obtain ⟨g26, hf⟩ := gd_use hf
    refine sa_9_16 C h (rfl : Kd 29 = 9) up_eq (F := fun t => va_up σ 29 t) (fun _ => up_up) (inB_in g26) dX9_takesE_72 (fun τ27 eτ27 H locs h => ?_)
    replace hf := lt_use eτ27 hf
    clear eτ27
    refine lv_aload_n hx hb dX9_takesE_73 rfl (lv_at hl 0 rfl) ?_
    refine lv_dup hx hb dX9_takesE_74 rfl ?_
    refine gf_9_27 C h (rfl : Kd 29 = 9) up_eq inX9_takesE_9 lkX9_takesE_92 dX9_takesE_75 ?_
    refine lv_iconst (v := (1 : Int32)) hx hb dX9_takesE_78 (by decide) ?_
    refine lv_iadd hx hb dX9_takesE_79 ?_
    refine pf_9_27 C h (rfl : Kd 29 = 9) up_eq (F := fun t => va_up σ 29 t) (fun _ => up_up) inX9_takesE_9 lkX9_takesE_92 dX9_takesE_80 (fun τ28 eτ28 H locs h => ?_)
    replace hf := lt_use eτ28 hf
    clear eτ28
    refine lv_aload_n hx hb dX9_takesE_83 rfl (lv_at hl 0 rfl) ?_
    refine lv_dup hx hb dX9_takesE_84 rfl ?_
    refine gf_9_16 C h (rfl : Kd 29 = 9) up_eq inX9_takesE_9 lkX9_takesE_59 dX9_takesE_85 ?_
    refine lv_iconst (v := (1 : Int32)) hx hb dX9_takesE_88 (by decide) ?_
    refine lv_iadd hx hb dX9_takesE_89 ?_
    refine pf_9_16 C h (rfl : Kd 29 = 9) up_eq (F := fun t => va_up σ 29 t) (fun _ => up_up) inX9_takesE_9 lkX9_takesE_59 dX9_takesE_90 (fun τ29 eτ29 H locs h => ?_)
    replace hf := lt_use eτ29 hf
    clear eτ29
    refine lv_goto (tgt := 22) hx hb dX9_takesE_93 (by decide) ?_
    exact hk22 _ _ _ _ h ls (lv_sub hl [0, 1, 2] rfl) hf
  replace hf := it_t c24 hf
  refine lv_iconst (v := (0 : Int32)) hx hb dX9_takesE_51 (by decide) ?_
  replace hf := Option.some.inj hf
  subst hf
  exact r_zre (v := (0 : Int32)) C h rfl dX9_takesE_52
set_option maxHeartbeats 4000000 in
set_option maxRecDepth 100000 in
theorem w_X9_takesE_22 {p : Program} {l : Launch} {e : Env} {s : State} {m : MethodId} {args : Array Value} {below : List Frame} {meth : Method} {c : Code} {E : Ev} {σ : Ms} {ℓ : Mz} {p0 : Int32} {out : Int32 × Mm}   (C : Cx cX9_takesE 4 (some .boolean) wsX9_takesE RX9 E p s m args meth c) {k22 : Mm → Int32 → Option (Int32 × Mm)} (hk22 : ∀ (τ : Mm) (v2 : Int32) (H : Heap) (locs : List Loc), HI E (va_up σ 29 τ) ℓ s H locs → ∀ ls : Array Slot, lv_has ls 4 [(0, .ref (Ea E 29 0)), (1, .int p0), (2, .int v2)] → k22 τ v2 = some out → W p l e rm_X9_takesE s m args below meth c H locs 0 0 (MQ below (Po E s.heap.size (some (.int out.1)) (va_up σ 29 out.2) ℓ) args s 0 0 (AA E s.heap.size)) (F0 m 22 ls [])) : ∀ (τ : Mm) (v2 : Int32) (H : Heap) (locs : List Loc) (h : HI E (va_up σ 29 τ) ℓ s H locs) (ls : Array Slot) (hl : lv_has ls 4 [(0, .ref (Ea E 29 0)), (1, .int p0), (2, .int v2)]), f_X9_takesE_22 p0 k22 τ v2 = some out → W p l e rm_X9_takesE s m args below meth c H locs 0 0 (MQ below (Po E s.heap.size (some (.int out.1)) (va_up σ 29 out.2) ℓ) args s 0 0 (AA E s.heap.size)) (F0 m 22 ls []) := by
  intro τ v2 H locs h ls hl hf
  unfold f_X9_takesE_22 at hf
  have C0 := C
  obtain ⟨hx, hb, hr, hml, hown, hts, hlk, hK, hSF⟩ := C0
  refine lv_aload_n hx hb dX9_takesE_22 rfl (lv_at hl 0 rfl) ?_
  obtain ⟨u5, hu5, hf⟩ := bd_use hf
  refine r_cv_9 (rest := []) C h (c_X9_next up_eq hu5) (rfl : Kd 29 = 9) gX9_takesE_X9_next rfl ⟨rfl, rfl⟩ hdX9_next ⟨Nat.le_of_ble_eq_true rfl, Nat.le_of_ble_eq_true rfl⟩ ⟨Nat.zero_le _, Nat.zero_le _⟩ hl.1 rfl (Nat.le_of_ble_eq_true rfl) dX9_takesE_23 (fun H locs h => ?_)
  refine lv_istore_n (lv' := [(3, .int u5), (0, .ref (Ea E 29 0)), (1, .int p0), (2, .int v2)]) hx hb dX9_takesE_26 rfl hl (by decide) rfl (fun ls hl => ?_)
  refine lv_iload_n hx hb dX9_takesE_27 rfl (lv_at hl 3 rfl) ?_
  refine lv_if_eq (tgt := 110) hx hb dX9_takesE_28 (by decide) (fun c6 => ?_) (fun c6 => ?_)
  · replace hf := it_t c6 hf
    refine lv_iload_n hx hb dX9_takesE_110 rfl (lv_at hl 0 rfl) ?_
    refine lv_bipush (v := (38 : Int32)) hx hb dX9_takesE_111 (by decide) ?_
    refine lv_icmp_eq (tgt := 122) hx hb dX9_takesE_113 (by decide) (fun c7 => ?_) (fun c7 => ?_)
    · replace hf := it_t c7 hf
      exact w_X9_takesE_122    C hk22 _ _ _ _ h ls (lv_sub hl [1, 2, 0] rfl) hf
    replace hf := it_f c7 hf
    refine lv_iload_n hx hb dX9_takesE_116 rfl (lv_at hl 0 rfl) ?_
    refine lv_bipush (v := (124 : Int32)) hx hb dX9_takesE_117 (by decide) ?_
    refine lv_icmp_ne (tgt := 162) hx hb dX9_takesE_119 (by decide) (fun c13 => ?_) (fun c13 => ?_)
    · replace hf := it_f c13 hf
      refine lv_aload_n hx hb dX9_takesE_162 rfl (lv_at hl 1 rfl) ?_
      refine lv_bipush (v := (124 : Int32)) hx hb dX9_takesE_163 (by decide) ?_
      obtain ⟨u14, hu14, hf⟩ := bd_use hf
      refine r_cv_9 (rest := []) C h (c_X9_settle  hu14) (rfl : Kd 29 = 9) gX9_takesE_X9_settle rfl ⟨rfl, rfl⟩ hdX9_settle ⟨Nat.le_of_ble_eq_true rfl, Nat.le_of_ble_eq_true rfl⟩ ⟨Nat.zero_le _, Nat.zero_le _⟩ hl.1 rfl (Nat.le_of_ble_eq_true rfl) dX9_takesE_165 (fun H locs h => ?_)
      refine lv_aload_n hx hb dX9_takesE_168 rfl (lv_at hl 1 rfl) ?_
      refine gf_9_23 C h (rfl : Kd 29 = 9) up_eq inX9_takesE_9 lkX9_takesE_80 dX9_takesE_169 ?_
      refine lv_iload_n hx hb dX9_takesE_172 rfl (lv_at hl 2 rfl) ?_
      refine lv_aload_n hx hb dX9_takesE_173 rfl (lv_at hl 1 rfl) ?_
      refine gf_9_26 C h (rfl : Kd 29 = 9) up_eq inX9_takesE_9 lkX9_takesE_89 dX9_takesE_174 ?_
      obtain ⟨g15, hf⟩ := gd_use hf
      refine sa_9_14 C h (rfl : Kd 29 = 9) up_eq (F := fun t => va_up σ 29 t) (fun _ => up_up) (inB_in g15) dX9_takesE_177 (fun τ16 eτ16 H locs h => ?_)
      replace hf := lt_use eτ16 hf
      clear eτ16
      refine lv_aload_n hx hb dX9_takesE_178 rfl (lv_at hl 1 rfl) ?_
      refine gf_9_27 C h (rfl : Kd 29 = 9) up_eq inX9_takesE_9 lkX9_takesE_92 dX9_takesE_179 ?_
      refine lv_if_ne (tgt := 187) hx hb dX9_takesE_182 (by decide) (fun c17 => ?_) (fun c17 => ?_)
      · replace hf := it_f c17 hf
        refine lv_iload_n hx hb dX9_takesE_187 rfl (lv_at hl 0 rfl) ?_
        refine lv_bipush (v := (41 : Int32)) hx hb dX9_takesE_188 (by decide) ?_
        refine lv_icmp_eq (tgt := 195) hx hb dX9_takesE_190 (by decide) (fun c18 => ?_) (fun c18 => ?_)
        · replace hf := it_t c18 hf
          refine lv_aload_n hx hb dX9_takesE_195 rfl (lv_at hl 1 rfl) ?_
          refine lv_dup hx hb dX9_takesE_196 rfl ?_
          refine gf_9_27 C h (rfl : Kd 29 = 9) up_eq inX9_takesE_9 lkX9_takesE_92 dX9_takesE_197 ?_
          refine lv_iconst (v := (1 : Int32)) hx hb dX9_takesE_200 (by decide) ?_
          refine lv_isub hx hb dX9_takesE_201 ?_
          refine pf_9_27 C h (rfl : Kd 29 = 9) up_eq (F := fun t => va_up σ 29 t) (fun _ => up_up) inX9_takesE_9 lkX9_takesE_92 dX9_takesE_202 (fun τ19 eτ19 H locs h => ?_)
          replace hf := lt_use eτ19 hf
          clear eτ19
          refine lv_aload_n hx hb dX9_takesE_205 rfl (lv_at hl 1 rfl) ?_
          refine lv_dup hx hb dX9_takesE_206 rfl ?_
          refine gf_9_28 C h (rfl : Kd 29 = 9) up_eq inX9_takesE_9 lkX9_takesE_95 dX9_takesE_207 ?_
          refine lv_iconst (v := (1 : Int32)) hx hb dX9_takesE_210 (by decide) ?_
          refine lv_isub hx hb dX9_takesE_211 ?_
          refine pf_9_28 C h (rfl : Kd 29 = 9) up_eq (F := fun t => va_up σ 29 t) (fun _ => up_up) inX9_takesE_9 lkX9_takesE_95 dX9_takesE_212 (fun τ20 eτ20 H locs h => ?_)
          replace hf := lt_use eτ20 hf
          clear eτ20
          refine lv_aload_n hx hb dX9_takesE_215 rfl (lv_at hl 1 rfl) ?_
          refine lv_dup hx hb dX9_takesE_216 rfl ?_
          refine gf_9_16 C h (rfl : Kd 29 = 9) up_eq inX9_takesE_9 lkX9_takesE_59 dX9_takesE_217 ?_
          refine lv_iconst (v := (1 : Int32)) hx hb dX9_takesE_220 (by decide) ?_
          refine lv_iadd hx hb dX9_takesE_221 ?_
          refine pf_9_16 C h (rfl : Kd 29 = 9) up_eq (F := fun t => va_up σ 29 t) (fun _ => up_up) inX9_takesE_9 lkX9_takesE_59 dX9_takesE_222 (fun τ21 eτ21 H locs h => ?_)
          replace hf := lt_use eτ21 hf
          clear eτ21
          refine lv_aload_n hx hb dX9_takesE_225 rfl (lv_at hl 1 rfl) ?_
          obtain ⟨u22, hu22, hf⟩ := bd_use hf
          refine r_cv_9 (rest := []) C h (c_X9_whole  hu22) (rfl : Kd 29 = 9) gX9_takesE_X9_whole rfl ⟨rfl, rfl⟩ hdX9_whole ⟨Nat.le_of_ble_eq_true rfl, Nat.le_of_ble_eq_true rfl⟩ ⟨Nat.zero_le _, Nat.zero_le _⟩ hl.1 rfl (Nat.le_of_ble_eq_true rfl) dX9_takesE_226 (fun H locs h => ?_)
          refine lv_goto (tgt := 22) hx hb dX9_takesE_229 (by decide) ?_
          exact hk22 _ _ _ _ h ls (lv_sub hl [1, 2, 3] rfl) hf
        replace hf := it_f c18 hf
        refine lv_iconst (v := (0 : Int32)) hx hb dX9_takesE_193 (by decide) ?_
        replace hf := Option.some.inj hf
        subst hf
        exact r_zre (v := (0 : Int32)) C h rfl dX9_takesE_194
      replace hf := it_t c17 hf
      refine lv_iconst (v := (1 : Int32)) hx hb dX9_takesE_185 (by decide) ?_
      replace hf := Option.some.inj hf
      subst hf
      exact r_zre (v := (1 : Int32)) C h rfl dX9_takesE_186
    replace hf := it_t c13 hf
    exact w_X9_takesE_122    C hk22 _ _ _ _ h ls (lv_sub hl [1, 2, 0] rfl) hf
  replace hf := it_f c6 hf
  refine lv_iload_n hx hb dX9_takesE_31 rfl (lv_at hl 0 rfl) ?_
  refine lv_bipush (v := (33 : Int32)) hx hb dX9_takesE_32 (by decide) ?_
  refine lv_icmp_eq (tgt := 43) hx hb dX9_takesE_34 (by decide) (fun c23 => ?_) (fun c23 => ?_)
  · replace hf := it_t c23 hf
    exact w_X9_takesE_43    C hk22 _ _ _ _ _ h ls (lv_sub hl [1, 2, 3, 0] rfl) hf
  replace hf := it_f c23 hf
  refine lv_iload_n hx hb dX9_takesE_37 rfl (lv_at hl 0 rfl) ?_
  refine lv_bipush (v := (40 : Int32)) hx hb dX9_takesE_38 (by decide) ?_
  refine lv_icmp_ne (tgt := 96) hx hb dX9_takesE_40 (by decide) (fun c30 => ?_) (fun c30 => ?_)
  · replace hf := it_f c30 hf
    refine lv_aload_n hx hb dX9_takesE_96 rfl (lv_at hl 1 rfl) ?_
    obtain ⟨u31, hu31, hf⟩ := bd_use hf
    refine r_cv_9 (rest := []) C h (c_X9_takesTest  hu31) (rfl : Kd 29 = 9) gX9_takesE_X9_takesTest rfl ⟨rfl, rfl⟩ hdX9_takesTest ⟨Nat.le_of_ble_eq_true rfl, Nat.le_of_ble_eq_true rfl⟩ ⟨Nat.zero_le _, Nat.zero_le _⟩ hl.1 rfl (Nat.le_of_ble_eq_true rfl) dX9_takesE_97 (fun H locs h => ?_)
    refine lv_if_eq (tgt := 108) hx hb dX9_takesE_100 (by decide) (fun c32 => ?_) (fun c32 => ?_)
    · replace hf := it_t c32 hf
      refine lv_iconst (v := (0 : Int32)) hx hb dX9_takesE_108 (by decide) ?_
      replace hf := Option.some.inj hf
      subst hf
      exact r_zre (v := (0 : Int32)) C h rfl dX9_takesE_109
    replace hf := it_f c32 hf
    refine lv_iconst (v := (0 : Int32)) hx hb dX9_takesE_103 (by decide) ?_
    refine lv_istore_n (lv' := [(2, .int (0 : Int32)), (3, .int u5), (0, .ref (Ea E 29 0)), (1, .int p0)]) hx hb dX9_takesE_104 rfl hl (by decide) rfl (fun ls hl => ?_)
    refine lv_goto (tgt := 22) hx hb dX9_takesE_105 (by decide) ?_
    exact hk22 _ _ _ _ h ls (lv_sub hl [2, 3, 0] rfl) hf
  replace hf := it_t c30 hf
  exact w_X9_takesE_43    C hk22 _ _ _ _ _ h ls (lv_sub hl [1, 2, 3, 0] rfl) hf
set_option maxHeartbeats 4000000 in
set_option maxRecDepth 100000 in
theorem w_X9_takesE_22L {p : Program} {l : Launch} {e : Env} {s : State} {m : MethodId} {args : Array Value} {below : List Frame} {meth : Method} {c : Code} {E : Ev} {σ : Ms} {ℓ : Mz} {p0 : Int32} {out : Int32 × Mm}   (C : Cx cX9_takesE 4 (some .boolean) wsX9_takesE RX9 E p s m args meth c)  : ∀ (n9 : Nat) (τ : Mm) (v2 : Int32) (H : Heap) (locs : List Loc) (h : HI E (va_up σ 29 τ) ℓ s H locs) (ls : Array Slot) (hl : lv_has ls 4 [(0, .ref (Ea E 29 0)), (1, .int p0), (2, .int v2)]), f_X9_takesE_22L p0  n9 τ v2 = some out → W p l e rm_X9_takesE s m args below meth c H locs 0 0 (MQ below (Po E s.heap.size (some (.int out.1)) (va_up σ 29 out.2) ℓ) args s 0 0 (AA E s.heap.size)) (F0 m 22 ls []) := by
  intro n9
  induction n9 with
  | zero =>
    intro τ v2 H locs h ls hl hf
    cases (show (none : Option (Int32 × Mm)) = some out from hf)
  | succ n9 ih =>
    intro τ v2 H locs h ls hl hf
    exact w_X9_takesE_22   C  ih τ v2 H locs h ls hl hf
set_option maxHeartbeats 4000000 in
set_option maxRecDepth 100000 in
theorem w_X9_takesE_0 {p : Program} {l : Launch} {e : Env} {s : State} {m : MethodId} {args : Array Value} {below : List Frame} {meth : Method} {c : Code} {E : Ev} {σ : Ms} {ℓ : Mz} {p0 : Int32} {out : Int32 × Mm}   (C : Cx cX9_takesE 4 (some .boolean) wsX9_takesE RX9 E p s m args meth c)  : ∀ (τ : Mm) (H : Heap) (locs : List Loc) (h : HI E (va_up σ 29 τ) ℓ s H locs) (ls : Array Slot) (hl : lv_has ls 4 [(0, .ref (Ea E 29 0)), (1, .int p0)]), f_X9_takesE_0 p0  τ = some out → W p l e rm_X9_takesE s m args below meth c H locs 0 0 (MQ below (Po E s.heap.size (some (.int out.1)) (va_up σ 29 out.2) ℓ) args s 0 0 (AA E s.heap.size)) (F0 m 0 ls []) := by
  intro τ H locs h ls hl hf
  unfold f_X9_takesE_0 at hf
  have C0 := C
  obtain ⟨hx, hb, hr, hml, hown, hts, hlk, hK, hSF⟩ := C0
  refine lv_aload_n hx hb dX9_takesE_0 rfl (lv_at hl 0 rfl) ?_
  refine lv_iconst (v := (0 : Int32)) hx hb dX9_takesE_1 (by decide) ?_
  refine pf_9_27 C h (rfl : Kd 29 = 9) up_eq (F := fun t => va_up σ 29 t) (fun _ => up_up) inX9_takesE_9 lkX9_takesE_92 dX9_takesE_2 (fun τ1 eτ1 H locs h => ?_)
  replace hf := lt_use eτ1 hf
  clear eτ1
  refine lv_aload_n hx hb dX9_takesE_5 rfl (lv_at hl 0 rfl) ?_
  refine lv_iconst (v := (0 : Int32)) hx hb dX9_takesE_6 (by decide) ?_
  refine pf_9_28 C h (rfl : Kd 29 = 9) up_eq (F := fun t => va_up σ 29 t) (fun _ => up_up) inX9_takesE_9 lkX9_takesE_95 dX9_takesE_7 (fun τ2 eτ2 H locs h => ?_)
  replace hf := lt_use eτ2 hf
  clear eτ2
  refine lv_aload_n hx hb dX9_takesE_10 rfl (lv_at hl 0 rfl) ?_
  refine gf_9_22 C h (rfl : Kd 29 = 9) up_eq inX9_takesE_9 lkX9_takesE_77 dX9_takesE_11 ?_
  refine lv_iload_n hx hb dX9_takesE_14 rfl (lv_at hl 1 rfl) ?_
  refine lv_aload_n hx hb dX9_takesE_15 rfl (lv_at hl 0 rfl) ?_
  refine gf_9_26 C h (rfl : Kd 29 = 9) up_eq inX9_takesE_9 lkX9_takesE_89 dX9_takesE_16 ?_
  obtain ⟨g3, hf⟩ := gd_use hf
  refine sa_9_13 C h (rfl : Kd 29 = 9) up_eq (F := fun t => va_up σ 29 t) (fun _ => up_up) (inB_in g3) dX9_takesE_19 (fun τ4 eτ4 H locs h => ?_)
  replace hf := lt_use eτ4 hf
  clear eτ4
  refine lv_iconst (v := (1 : Int32)) hx hb dX9_takesE_20 (by decide) ?_
  refine lv_istore_n (lv' := [(2, .int (1 : Int32)), (0, .ref (Ea E 29 0)), (1, .int p0)]) hx hb dX9_takesE_21 rfl hl (by decide) rfl (fun ls hl => ?_)
  exact w_X9_takesE_22L    C  _ _ _ _ _ h ls (lv_sub hl [1, 2, 0] rfl) hf
theorem c_X9_takesE {l : Launch} {E : Ev} {σ : Ms} {ℓ : Mz} {τ : Mm} {p0 : Int32} {out : Int32 × Mm} (hf : f_X9_takesE τ p0 = some out) : Ct l yX9_takesE wsX9_takesE rm_X9_takesE [.ref (Ea E 29 0), .int p0] E (va_up σ 29 τ) ℓ (some (.int out.1)) (va_up σ 29 out.2) ℓ := by
  refine Ct_mk (cc := cX9_takesE) (mL := 4) (ret := (some .boolean)) (own := RX9) (by decide +kernel) rfl rfl (Nat.le_of_ble_eq_true rfl) (fun p e s m below meth c C h ls hl => ?_)
  exact w_X9_takesE_0  C τ _ _ h ls (lv_sub hl [0, 1] rfl) hf
theorem k_X9_takesE {l : Launch} {E : Ev} {σ : Ms} {ℓ : Mz} {τ : Mm} {p0 : Int32} (hτ : σ 29 = τ) {out : Int32 × Mm} (hf : f_X9_takesE τ p0 = some out) : Ct l yX9_takesE wsX9_takesE rm_X9_takesE [.ref (Ea E 29 0), .int p0] E σ ℓ (some (.int out.1)) (va_up σ 29 out.2) ℓ := by
  subst hτ
  have h := c_X9_takesE (l := l) (E := E) (σ := σ) (ℓ := ℓ)  hf
  rw [up_id σ 29] at h
  exact h
theorem hdX9_takesHead : yX9_takesHead.cls = RX9 ∧ yX9_takesHead.cls ≠ "java/lang/invoke/MethodHandle" ∧ yX9_takesHead.cls ≠ "java/lang/invoke/VarHandle" ∧ (parseMethodDescriptor yX9_takesHead.desc).map (fun d => d.parameters.length) = some 1 := by decide +kernel
def rm_X9_takesHead : Room := { frames := 3, cells := 0, slots := 0, locals := 64 }
set_option maxRecDepth 100000 in
theorem inX9_takesHead_9 : ∀ w ∈ wsX90, w ∈ wsX9_takesHead := fun _ h => List.mem_cons_of_mem _ (List.mem_append_right _ h)
set_option maxRecDepth 100000 in
theorem lkX9_takesHead_71 : Cond.fieldLink RX9 71 "BellsBelowModel" "word" "[I" ∈ wsX9_takesHead := by decide +kernel
set_option maxHeartbeats 4000000 in
set_option maxRecDepth 100000 in
theorem w_X9_takesHead_0 {p : Program} {l : Launch} {e : Env} {s : State} {m : MethodId} {args : Array Value} {below : List Frame} {meth : Method} {c : Code} {E : Ev} {σ : Ms} {ℓ : Mz} {p0 : Int32} {out : Int32 × Mm}   (C : Cx cX9_takesHead 2 (some .boolean) wsX9_takesHead RX9 E p s m args meth c)  : ∀ (τ : Mm) (H : Heap) (locs : List Loc) (h : HI E (va_up σ 29 τ) ℓ s H locs) (ls : Array Slot) (hl : lv_has ls 2 [(0, .ref (Ea E 29 0)), (1, .int p0)]), f_X9_takesHead_0 p0  τ = some out → W p l e rm_X9_takesHead s m args below meth c H locs 0 0 (MQ below (Po E s.heap.size (some (.int out.1)) (va_up σ 29 out.2) ℓ) args s 0 0 (AA E s.heap.size)) (F0 m 0 ls []) := by
  intro τ H locs h ls hl hf
  unfold f_X9_takesHead_0 at hf
  have C0 := C
  obtain ⟨hx, hb, hr, hml, hown, hts, hlk, hK, hSF⟩ := C0
  refine lv_aload_n hx hb dX9_takesHead_0 rfl (lv_at hl 0 rfl) ?_
  obtain ⟨u1, hu1, hf⟩ := bd_use hf
  refine r_cv_9 (rest := []) C h (c_X9_next up_eq hu1) (rfl : Kd 29 = 9) gX9_takesHead_X9_next rfl ⟨rfl, rfl⟩ hdX9_next ⟨Nat.le_of_ble_eq_true rfl, Nat.le_of_ble_eq_true rfl⟩ ⟨Nat.zero_le _, Nat.zero_le _⟩ hl.1 rfl (Nat.le_of_ble_eq_true rfl) dX9_takesHead_1 (fun H locs h => ?_)
  by_cases c2 : u1 = (107 : Int32)
  · replace hf := it_t c2 hf
    refine r_lin (v := (107 : Int32)) (off := 42) (tgt := 46) hx hb c2 dX9_takesHead_4 (by decide) (by decide) (by decide) ?_
    refine lv_aload_n hx hb dX9_takesHead_46 rfl (lv_at hl 0 rfl) ?_
    refine gf_9_20 C h (rfl : Kd 29 = 9) up_eq inX9_takesHead_9 lkX9_takesHead_71 dX9_takesHead_47 ?_
    refine lv_iload_n hx hb dX9_takesHead_50 rfl (lv_at hl 1 rfl) ?_
    refine lv_iconst (v := (1 : Int32)) hx hb dX9_takesHead_51 (by decide) ?_
    obtain ⟨g3, hf⟩ := gd_use hf
    refine sa_9_11 C h (rfl : Kd 29 = 9) up_eq (F := fun t => va_up σ 29 t) (fun _ => up_up) (inB_in g3) dX9_takesHead_52 (fun τ4 eτ4 H locs h => ?_)
    replace hf := lt_use eτ4 hf
    clear eτ4
    refine lv_aload_n hx hb dX9_takesHead_53 rfl (lv_at hl 0 rfl) ?_
    refine lv_iconst (v := (4 : Int32)) hx hb dX9_takesHead_54 (by decide) ?_
    refine lv_iconst (v := (4 : Int32)) hx hb dX9_takesHead_55 (by decide) ?_
    obtain ⟨u5, hu5, hf⟩ := bd_use hf
    refine r_cv_9 (rest := []) C h (c_X9_takesWord  hu5) (rfl : Kd 29 = 9) gX9_takesHead_X9_takesWord rfl ⟨rfl, rfl⟩ hdX9_takesWord ⟨Nat.le_of_ble_eq_true rfl, Nat.le_of_ble_eq_true rfl⟩ ⟨Nat.zero_le _, Nat.zero_le _⟩ hl.1 rfl (Nat.le_of_ble_eq_true rfl) dX9_takesHead_56 (fun H locs h => ?_)
    obtain ⟨g6, hf⟩ := gd_use hf
    replace hf := Option.some.inj hf
    subst hf
    exact r_zre C h (isB_use g6) dX9_takesHead_59
  replace hf := it_f c2 hf
  by_cases c7 : u1 = (115 : Int32)
  · replace hf := it_t c7 hf
    refine r_lin (v := (115 : Int32)) (off := 28) (tgt := 32) hx hb c7 dX9_takesHead_4 (by decide) (by decide) (by decide) ?_
    refine lv_aload_n hx hb dX9_takesHead_32 rfl (lv_at hl 0 rfl) ?_
    refine gf_9_20 C h (rfl : Kd 29 = 9) up_eq inX9_takesHead_9 lkX9_takesHead_71 dX9_takesHead_33 ?_
    refine lv_iload_n hx hb dX9_takesHead_36 rfl (lv_at hl 1 rfl) ?_
    refine lv_iconst (v := (0 : Int32)) hx hb dX9_takesHead_37 (by decide) ?_
    obtain ⟨g8, hf⟩ := gd_use hf
    refine sa_9_11 C h (rfl : Kd 29 = 9) up_eq (F := fun t => va_up σ 29 t) (fun _ => up_up) (inB_in g8) dX9_takesHead_38 (fun τ9 eτ9 H locs h => ?_)
    replace hf := lt_use eτ9 hf
    clear eτ9
    refine lv_aload_n hx hb dX9_takesHead_39 rfl (lv_at hl 0 rfl) ?_
    refine lv_iconst (v := (0 : Int32)) hx hb dX9_takesHead_40 (by decide) ?_
    refine lv_iconst (v := (4 : Int32)) hx hb dX9_takesHead_41 (by decide) ?_
    obtain ⟨u10, hu10, hf⟩ := bd_use hf
    refine r_cv_9 (rest := []) C h (c_X9_takesWord  hu10) (rfl : Kd 29 = 9) gX9_takesHead_X9_takesWord rfl ⟨rfl, rfl⟩ hdX9_takesWord ⟨Nat.le_of_ble_eq_true rfl, Nat.le_of_ble_eq_true rfl⟩ ⟨Nat.zero_le _, Nat.zero_le _⟩ hl.1 rfl (Nat.le_of_ble_eq_true rfl) dX9_takesHead_42 (fun H locs h => ?_)
    obtain ⟨g11, hf⟩ := gd_use hf
    replace hf := Option.some.inj hf
    subst hf
    exact r_zre C h (isB_use g11) dX9_takesHead_45
  replace hf := it_f c7 hf
  refine lv_lookup (off := 56) (tgt := 60) hx hb dX9_takesHead_4 (by decide) (lk_out _ (List.forall_mem_cons.mpr ⟨c2, (List.forall_mem_cons.mpr ⟨c7, (fun _ h => absurd h List.not_mem_nil)⟩)⟩)) (by decide) ?_
  refine lv_aload_n hx hb dX9_takesHead_60 rfl (lv_at hl 0 rfl) ?_
  refine gf_9_20 C h (rfl : Kd 29 = 9) up_eq inX9_takesHead_9 lkX9_takesHead_71 dX9_takesHead_61 ?_
  refine lv_iload_n hx hb dX9_takesHead_64 rfl (lv_at hl 1 rfl) ?_
  refine lv_iconst (v := (2 : Int32)) hx hb dX9_takesHead_65 (by decide) ?_
  obtain ⟨g12, hf⟩ := gd_use hf
  refine sa_9_11 C h (rfl : Kd 29 = 9) up_eq (F := fun t => va_up σ 29 t) (fun _ => up_up) (inB_in g12) dX9_takesHead_66 (fun τ13 eτ13 H locs h => ?_)
  replace hf := lt_use eτ13 hf
  clear eτ13
  refine lv_aload_n hx hb dX9_takesHead_67 rfl (lv_at hl 0 rfl) ?_
  refine lv_bipush (v := (8 : Int32)) hx hb dX9_takesHead_68 (by decide) ?_
  refine lv_iconst (v := (4 : Int32)) hx hb dX9_takesHead_70 (by decide) ?_
  obtain ⟨u14, hu14, hf⟩ := bd_use hf
  refine r_cv_9 (rest := []) C h (c_X9_takesWord  hu14) (rfl : Kd 29 = 9) gX9_takesHead_X9_takesWord rfl ⟨rfl, rfl⟩ hdX9_takesWord ⟨Nat.le_of_ble_eq_true rfl, Nat.le_of_ble_eq_true rfl⟩ ⟨Nat.zero_le _, Nat.zero_le _⟩ hl.1 rfl (Nat.le_of_ble_eq_true rfl) dX9_takesHead_71 (fun H locs h => ?_)
  obtain ⟨g15, hf⟩ := gd_use hf
  replace hf := Option.some.inj hf
  subst hf
  exact r_zre C h (isB_use g15) dX9_takesHead_74
theorem c_X9_takesHead {l : Launch} {E : Ev} {σ : Ms} {ℓ : Mz} {τ : Mm} {p0 : Int32} {out : Int32 × Mm} (hf : f_X9_takesHead τ p0 = some out) : Ct l yX9_takesHead wsX9_takesHead rm_X9_takesHead [.ref (Ea E 29 0), .int p0] E (va_up σ 29 τ) ℓ (some (.int out.1)) (va_up σ 29 out.2) ℓ := by
  refine Ct_mk (cc := cX9_takesHead) (mL := 2) (ret := (some .boolean)) (own := RX9) (by decide +kernel) rfl rfl (Nat.le_of_ble_eq_true rfl) (fun p e s m below meth c C h ls hl => ?_)
  exact w_X9_takesHead_0  C τ _ _ h ls (lv_sub hl [0, 1] rfl) hf
theorem k_X9_takesHead {l : Launch} {E : Ev} {σ : Ms} {ℓ : Mz} {τ : Mm} {p0 : Int32} (hτ : σ 29 = τ) {out : Int32 × Mm} (hf : f_X9_takesHead τ p0 = some out) : Ct l yX9_takesHead wsX9_takesHead rm_X9_takesHead [.ref (Ea E 29 0), .int p0] E σ ℓ (some (.int out.1)) (va_up σ 29 out.2) ℓ := by
  subst hτ
  have h := c_X9_takesHead (l := l) (E := E) (σ := σ) (ℓ := ℓ)  hf
  rw [up_id σ 29] at h
  exact h
theorem hdX9_takesClause : yX9_takesClause.cls = RX9 ∧ yX9_takesClause.cls ≠ "java/lang/invoke/MethodHandle" ∧ yX9_takesClause.cls ≠ "java/lang/invoke/VarHandle" ∧ (parseMethodDescriptor yX9_takesClause.desc).map (fun d => d.parameters.length) = some 1 := by decide +kernel
def rm_X9_takesClause : Room := { frames := 5, cells := 0, slots := 0, locals := 109 }
set_option maxRecDepth 100000 in
theorem inX9_takesClause_9 : ∀ w ∈ wsX90, w ∈ wsX9_takesClause := fun _ h => List.mem_cons_of_mem _ (List.mem_append_right _ h)
set_option maxRecDepth 100000 in
theorem lkX9_takesClause_74 : Cond.fieldLink RX9 74 "BellsBelowModel" "number" "[I" ∈ wsX9_takesClause := by decide +kernel
set_option maxRecDepth 100000 in
theorem lkX9_takesClause_62 : Cond.fieldLink RX9 62 "BellsBelowModel" "digits" "I" ∈ wsX9_takesClause := by decide +kernel
set_option maxRecDepth 100000 in
theorem lkX9_takesClause_71 : Cond.fieldLink RX9 71 "BellsBelowModel" "word" "[I" ∈ wsX9_takesClause := by decide +kernel
set_option maxHeartbeats 4000000 in
set_option maxRecDepth 100000 in
theorem w_X9_takesClause_54 {p : Program} {l : Launch} {e : Env} {s : State} {m : MethodId} {args : Array Value} {below : List Frame} {meth : Method} {c : Code} {E : Ev} {σ : Ms} {ℓ : Mz} {p0 : Int32} {out : Int32 × Mm}   (C : Cx cX9_takesClause 2 (some .boolean) wsX9_takesClause RX9 E p s m args meth c)  : ∀ (τ : Mm) (H : Heap) (locs : List Loc) (h : HI E (va_up σ 29 τ) ℓ s H locs) (ls : Array Slot) (hl : lv_has ls 2 []), f_X9_takesClause_54 p0  τ = some out → W p l e rm_X9_takesClause s m args below meth c H locs 0 0 (MQ below (Po E s.heap.size (some (.int out.1)) (va_up σ 29 out.2) ℓ) args s 0 0 (AA E s.heap.size)) (F0 m 54 ls []) := by
  intro τ H locs h ls hl hf
  unfold f_X9_takesClause_54 at hf
  have C0 := C
  obtain ⟨hx, hb, hr, hml, hown, hts, hlk, hK, hSF⟩ := C0
  refine lv_iconst (v := (1 : Int32)) hx hb dX9_takesClause_54 (by decide) ?_
  refine lv_goto (tgt := 59) hx hb dX9_takesClause_55 (by decide) ?_
  replace hf := Option.some.inj hf
  subst hf
  exact r_zre (v := (1 : Int32)) C h rfl dX9_takesClause_59
set_option maxHeartbeats 4000000 in
set_option maxRecDepth 100000 in
theorem w_X9_takesClause_0 {p : Program} {l : Launch} {e : Env} {s : State} {m : MethodId} {args : Array Value} {below : List Frame} {meth : Method} {c : Code} {E : Ev} {σ : Ms} {ℓ : Mz} {p0 : Int32} {out : Int32 × Mm}   (C : Cx cX9_takesClause 2 (some .boolean) wsX9_takesClause RX9 E p s m args meth c)  : ∀ (τ : Mm) (H : Heap) (locs : List Loc) (h : HI E (va_up σ 29 τ) ℓ s H locs) (ls : Array Slot) (hl : lv_has ls 2 [(0, .ref (Ea E 29 0)), (1, .int p0)]), f_X9_takesClause_0 p0  τ = some out → W p l e rm_X9_takesClause s m args below meth c H locs 0 0 (MQ below (Po E s.heap.size (some (.int out.1)) (va_up σ 29 out.2) ℓ) args s 0 0 (AA E s.heap.size)) (F0 m 0 ls []) := by
  intro τ H locs h ls hl hf
  unfold f_X9_takesClause_0 at hf
  have C0 := C
  obtain ⟨hx, hb, hr, hml, hown, hts, hlk, hK, hSF⟩ := C0
  refine lv_aload_n hx hb dX9_takesClause_0 rfl (lv_at hl 0 rfl) ?_
  refine lv_iload_n hx hb dX9_takesClause_1 rfl (lv_at hl 1 rfl) ?_
  obtain ⟨u1, hu1, hf⟩ := bd_use hf
  refine r_cv_9 (rest := []) C h (c_X9_takesHead  hu1) (rfl : Kd 29 = 9) gX9_takesClause_X9_takesHead rfl ⟨rfl, rfl⟩ hdX9_takesHead ⟨Nat.le_of_ble_eq_true rfl, Nat.le_of_ble_eq_true rfl⟩ ⟨Nat.zero_le _, Nat.zero_le _⟩ hl.1 rfl (Nat.le_of_ble_eq_true rfl) dX9_takesClause_2 (fun H locs h => ?_)
  refine lv_if_eq (tgt := 15) hx hb dX9_takesClause_5 (by decide) (fun c2 => ?_) (fun c2 => ?_)
  · replace hf := it_t c2 hf
    refine lv_iconst (v := (0 : Int32)) hx hb dX9_takesClause_15 (by decide) ?_
    replace hf := Option.some.inj hf
    subst hf
    exact r_zre (v := (0 : Int32)) C h rfl dX9_takesClause_16
  replace hf := it_f c2 hf
  refine lv_aload_n hx hb dX9_takesClause_8 rfl (lv_at hl 0 rfl) ?_
  obtain ⟨u3, hu3, hf⟩ := bd_use hf
  refine r_cv_9 (rest := []) C h (c_X9_takesNumber  hu3) (rfl : Kd 29 = 9) gX9_takesClause_X9_takesNumber rfl ⟨rfl, rfl⟩ hdX9_takesNumber ⟨Nat.le_of_ble_eq_true rfl, Nat.le_of_ble_eq_true rfl⟩ ⟨Nat.zero_le _, Nat.zero_le _⟩ hl.1 rfl (Nat.le_of_ble_eq_true rfl) dX9_takesClause_9 (fun H locs h => ?_)
  refine lv_if_ne (tgt := 17) hx hb dX9_takesClause_12 (by decide) (fun c4 => ?_) (fun c4 => ?_)
  · replace hf := it_f c4 hf
    refine lv_aload_n hx hb dX9_takesClause_17 rfl (lv_at hl 0 rfl) ?_
    refine gf_9_21 C h (rfl : Kd 29 = 9) up_eq inX9_takesClause_9 lkX9_takesClause_74 dX9_takesClause_18 ?_
    refine lv_iload_n hx hb dX9_takesClause_21 rfl (lv_at hl 1 rfl) ?_
    refine lv_aload_n hx hb dX9_takesClause_22 rfl (lv_at hl 0 rfl) ?_
    refine gf_9_17 C h (rfl : Kd 29 = 9) up_eq inX9_takesClause_9 lkX9_takesClause_62 dX9_takesClause_23 ?_
    obtain ⟨g5, hf⟩ := gd_use hf
    refine sa_9_12 C h (rfl : Kd 29 = 9) up_eq (F := fun t => va_up σ 29 t) (fun _ => up_up) (inB_in g5) dX9_takesClause_26 (fun τ6 eτ6 H locs h => ?_)
    replace hf := lt_use eτ6 hf
    clear eτ6
    refine lv_aload_n hx hb dX9_takesClause_27 rfl (lv_at hl 0 rfl) ?_
    refine gf_9_20 C h (rfl : Kd 29 = 9) up_eq inX9_takesClause_9 lkX9_takesClause_71 dX9_takesClause_28 ?_
    refine lv_iload_n hx hb dX9_takesClause_31 rfl (lv_at hl 1 rfl) ?_
    obtain ⟨g7, hf⟩ := gd_use hf
    refine ld_9_11 C h (rfl : Kd 29 = 9) up_eq (inB_in g7) dX9_takesClause_32 ?_
    refine lv_iconst (v := (2 : Int32)) hx hb dX9_takesClause_33 (by decide) ?_
    refine lv_icmp_eq (tgt := 54) hx hb dX9_takesClause_34 (by decide) (fun c8 => ?_) (fun c8 => ?_)
    · replace hf := it_t c8 hf
      exact w_X9_takesClause_54    C  _ _ _ h ls (lv_sub hl [] rfl) hf
    replace hf := it_f c8 hf
    refine lv_aload_n hx hb dX9_takesClause_37 rfl (lv_at hl 0 rfl) ?_
    refine lv_bipush (v := (32 : Int32)) hx hb dX9_takesClause_38 (by decide) ?_
    obtain ⟨u9, hu9, hf⟩ := bd_use hf
    refine r_cv_9 (rest := []) C h (c_X9_takes  hu9) (rfl : Kd 29 = 9) gX9_takesClause_X9_takes rfl ⟨rfl, rfl⟩ hdX9_takes ⟨Nat.le_of_ble_eq_true rfl, Nat.le_of_ble_eq_true rfl⟩ ⟨Nat.zero_le _, Nat.zero_le _⟩ hl.1 rfl (Nat.le_of_ble_eq_true rfl) dX9_takesClause_40 (fun H locs h => ?_)
    refine lv_if_eq (tgt := 58) hx hb dX9_takesClause_43 (by decide) (fun c10 => ?_) (fun c10 => ?_)
    · replace hf := it_t c10 hf
      refine lv_iconst (v := (0 : Int32)) hx hb dX9_takesClause_58 (by decide) ?_
      replace hf := Option.some.inj hf
      subst hf
      exact r_zre (v := (0 : Int32)) C h rfl dX9_takesClause_59
    replace hf := it_f c10 hf
    refine lv_aload_n hx hb dX9_takesClause_46 rfl (lv_at hl 0 rfl) ?_
    refine lv_iload_n hx hb dX9_takesClause_47 rfl (lv_at hl 1 rfl) ?_
    obtain ⟨u11, hu11, hf⟩ := bd_use hf
    refine r_cv_9 (rest := []) C h (c_X9_takesE  hu11) (rfl : Kd 29 = 9) gX9_takesClause_X9_takesE rfl ⟨rfl, rfl⟩ hdX9_takesE ⟨Nat.le_of_ble_eq_true rfl, Nat.le_of_ble_eq_true rfl⟩ ⟨Nat.zero_le _, Nat.zero_le _⟩ hl.1 rfl (Nat.le_of_ble_eq_true rfl) dX9_takesClause_48 (fun H locs h => ?_)
    refine lv_if_eq (tgt := 58) hx hb dX9_takesClause_51 (by decide) (fun c12 => ?_) (fun c12 => ?_)
    · replace hf := it_t c12 hf
      refine lv_iconst (v := (0 : Int32)) hx hb dX9_takesClause_58 (by decide) ?_
      replace hf := Option.some.inj hf
      subst hf
      exact r_zre (v := (0 : Int32)) C h rfl dX9_takesClause_59
    replace hf := it_f c12 hf
    exact w_X9_takesClause_54    C  _ _ _ h ls (lv_sub hl [] rfl) hf
  replace hf := it_t c4 hf
  refine lv_iconst (v := (0 : Int32)) hx hb dX9_takesClause_15 (by decide) ?_
  replace hf := Option.some.inj hf
  subst hf
  exact r_zre (v := (0 : Int32)) C h rfl dX9_takesClause_16
theorem c_X9_takesClause {l : Launch} {E : Ev} {σ : Ms} {ℓ : Mz} {τ : Mm} {p0 : Int32} {out : Int32 × Mm} (hf : f_X9_takesClause τ p0 = some out) : Ct l yX9_takesClause wsX9_takesClause rm_X9_takesClause [.ref (Ea E 29 0), .int p0] E (va_up σ 29 τ) ℓ (some (.int out.1)) (va_up σ 29 out.2) ℓ := by
  refine Ct_mk (cc := cX9_takesClause) (mL := 2) (ret := (some .boolean)) (own := RX9) (by decide +kernel) rfl rfl (Nat.le_of_ble_eq_true rfl) (fun p e s m below meth c C h ls hl => ?_)
  exact w_X9_takesClause_0  C τ _ _ h ls (lv_sub hl [0, 1] rfl) hf
theorem k_X9_takesClause {l : Launch} {E : Ev} {σ : Ms} {ℓ : Mz} {τ : Mm} {p0 : Int32} (hτ : σ 29 = τ) {out : Int32 × Mm} (hf : f_X9_takesClause τ p0 = some out) : Ct l yX9_takesClause wsX9_takesClause rm_X9_takesClause [.ref (Ea E 29 0), .int p0] E σ ℓ (some (.int out.1)) (va_up σ 29 out.2) ℓ := by
  subst hτ
  have h := c_X9_takesClause (l := l) (E := E) (σ := σ) (ℓ := ℓ)  hf
  rw [up_id σ 29] at h
  exact h
theorem hdX9_goesText : yX9_goesText.cls = RX9 ∧ yX9_goesText.cls ≠ "java/lang/invoke/MethodHandle" ∧ yX9_goesText.cls ≠ "java/lang/invoke/VarHandle" ∧ (parseMethodDescriptor yX9_goesText.desc).map (fun d => d.parameters.length) = some 1 := by decide +kernel
def rm_X9_goesText : Room := { frames := 6, cells := 0, slots := 0, locals := 130 }
set_option maxRecDepth 100000 in
theorem inX9_goesText_9 : ∀ w ∈ wsX90, w ∈ wsX9_goesText := fun _ h => List.mem_cons_of_mem _ (List.mem_append_right _ h)
set_option maxRecDepth 100000 in
theorem lkX9_goesText_59 : Cond.fieldLink RX9 59 "BellsBelowModel" "at" "I" ∈ wsX9_goesText := by decide +kernel
set_option maxRecDepth 100000 in
theorem lkX9_goesText_89 : Cond.fieldLink RX9 89 "BellsBelowModel" "signs" "I" ∈ wsX9_goesText := by decide +kernel
set_option maxRecDepth 100000 in
theorem lkX9_goesText_68 : Cond.fieldLink RX9 68 "BellsBelowModel" "clauses" "[I" ∈ wsX9_goesText := by decide +kernel
set_option maxRecDepth 100000 in
theorem lkX9_goesText_56 : Cond.fieldLink RX9 56 "BellsBelowModel" "fed" "I" ∈ wsX9_goesText := by decide +kernel
set_option maxHeartbeats 4000000 in
set_option maxRecDepth 100000 in
theorem w_X9_goesText_15 {p : Program} {l : Launch} {e : Env} {s : State} {m : MethodId} {args : Array Value} {below : List Frame} {meth : Method} {c : Code} {E : Ev} {σ : Ms} {ℓ : Mz} {p0 : Int32} {out : Int32 × Mm}   (C : Cx cX9_goesText 3 (some .boolean) wsX9_goesText RX9 E p s m args meth c) {k15 : Mm → Int32 → Option (Int32 × Mm)} (hk15 : ∀ (τ : Mm) (v2 : Int32) (H : Heap) (locs : List Loc), HI E (va_up σ 29 τ) ℓ s H locs → ∀ ls : Array Slot, lv_has ls 3 [(0, .ref (Ea E 29 0)), (1, .int p0), (2, .int v2)] → k15 τ v2 = some out → W p l e rm_X9_goesText s m args below meth c H locs 0 0 (MQ below (Po E s.heap.size (some (.int out.1)) (va_up σ 29 out.2) ℓ) args s 0 0 (AA E s.heap.size)) (F0 m 15 ls [])) : ∀ (τ : Mm) (v2 : Int32) (H : Heap) (locs : List Loc) (h : HI E (va_up σ 29 τ) ℓ s H locs) (ls : Array Slot) (hl : lv_has ls 3 [(0, .ref (Ea E 29 0)), (1, .int p0), (2, .int v2)]), f_X9_goesText_15 p0 k15 τ v2 = some out → W p l e rm_X9_goesText s m args below meth c H locs 0 0 (MQ below (Po E s.heap.size (some (.int out.1)) (va_up σ 29 out.2) ℓ) args s 0 0 (AA E s.heap.size)) (F0 m 15 ls []) := by
  intro τ v2 H locs h ls hl hf
  unfold f_X9_goesText_15 at hf
  have C0 := C
  obtain ⟨hx, hb, hr, hml, hown, hts, hlk, hK, hSF⟩ := C0
  refine lv_aload_n hx hb dX9_goesText_15 rfl (lv_at hl 0 rfl) ?_
  refine lv_bipush (v := (10 : Int32)) hx hb dX9_goesText_16 (by decide) ?_
  refine lv_iload_n hx hb dX9_goesText_18 rfl (lv_at hl 1 rfl) ?_
  refine lv_imul hx hb dX9_goesText_19 ?_
  refine lv_iload_n hx hb dX9_goesText_20 rfl (lv_at hl 2 rfl) ?_
  refine lv_iadd hx hb dX9_goesText_21 ?_
  obtain ⟨u3, hu3, hf⟩ := bd_use hf
  refine r_cv_9 (rest := []) C h (c_X9_takesClause  hu3) (rfl : Kd 29 = 9) gX9_goesText_X9_takesClause rfl ⟨rfl, rfl⟩ hdX9_takesClause ⟨Nat.le_of_ble_eq_true rfl, Nat.le_of_ble_eq_true rfl⟩ ⟨Nat.zero_le _, Nat.zero_le _⟩ hl.1 rfl (Nat.le_of_ble_eq_true rfl) dX9_goesText_22 (fun H locs h => ?_)
  refine lv_if_ne (tgt := 30) hx hb dX9_goesText_25 (by decide) (fun c4 => ?_) (fun c4 => ?_)
  · replace hf := it_f c4 hf
    obtain ⟨x5, ex5⟩ : ∃ y : Int32, y = (v2 + (1 : Int32)) := ⟨_, rfl⟩
    refine lv_iinc (v := x5) (lv' := [(2, .int x5), (0, .ref (Ea E 29 0)), (1, .int p0)]) hx hb dX9_goesText_30 hl (k := 2) rfl (by rw [ex5]; rfl) (by decide) rfl (fun ls hl => ?_)
    replace hf := lt_use ex5 hf
    clear ex5
    refine lv_aload_n hx hb dX9_goesText_33 rfl (lv_at hl 1 rfl) ?_
    refine gf_9_19 C h (rfl : Kd 29 = 9) up_eq inX9_goesText_9 lkX9_goesText_68 dX9_goesText_34 ?_
    refine lv_iload_n hx hb dX9_goesText_37 rfl (lv_at hl 2 rfl) ?_
    refine lv_iload_n hx hb dX9_goesText_38 rfl (lv_at hl 0 rfl) ?_
    obtain ⟨g6, hf⟩ := gd_use hf
    refine sa_9_10 C h (rfl : Kd 29 = 9) up_eq (F := fun t => va_up σ 29 t) (fun _ => up_up) (inB_in g6) dX9_goesText_39 (fun τ7 eτ7 H locs h => ?_)
    replace hf := lt_use eτ7 hf
    clear eτ7
    refine lv_aload_n hx hb dX9_goesText_40 rfl (lv_at hl 1 rfl) ?_
    refine gf_9_16 C h (rfl : Kd 29 = 9) up_eq inX9_goesText_9 lkX9_goesText_59 dX9_goesText_41 ?_
    refine lv_aload_n hx hb dX9_goesText_44 rfl (lv_at hl 1 rfl) ?_
    refine gf_9_15 C h (rfl : Kd 29 = 9) up_eq inX9_goesText_9 lkX9_goesText_56 dX9_goesText_45 ?_
    refine lv_icmp_ne (tgt := 53) hx hb dX9_goesText_48 (by decide) (fun c8 => ?_) (fun c8 => ?_)
    · replace hf := it_f c8 hf
      refine lv_iload_n hx hb dX9_goesText_53 rfl (lv_at hl 0 rfl) ?_
      refine lv_bipush (v := (10 : Int32)) hx hb dX9_goesText_54 (by decide) ?_
      refine lv_icmp_eq (tgt := 68) hx hb dX9_goesText_56 (by decide) (fun c9 => ?_) (fun c9 => ?_)
      · replace hf := it_t c9 hf
        refine lv_iconst (v := (0 : Int32)) hx hb dX9_goesText_68 (by decide) ?_
        replace hf := Option.some.inj hf
        subst hf
        exact r_zre (v := (0 : Int32)) C h rfl dX9_goesText_69
      replace hf := it_f c9 hf
      refine lv_aload_n hx hb dX9_goesText_59 rfl (lv_at hl 1 rfl) ?_
      refine lv_bipush (v := (59 : Int32)) hx hb dX9_goesText_60 (by decide) ?_
      obtain ⟨u10, hu10, hf⟩ := bd_use hf
      refine r_cv_9 (rest := []) C h (c_X9_takes  hu10) (rfl : Kd 29 = 9) gX9_goesText_X9_takes rfl ⟨rfl, rfl⟩ hdX9_takes ⟨Nat.le_of_ble_eq_true rfl, Nat.le_of_ble_eq_true rfl⟩ ⟨Nat.zero_le _, Nat.zero_le _⟩ hl.1 rfl (Nat.le_of_ble_eq_true rfl) dX9_goesText_62 (fun H locs h => ?_)
      refine lv_if_ne (tgt := 15) hx hb dX9_goesText_65 (by decide) (fun c11 => ?_) (fun c11 => ?_)
      · replace hf := it_f c11 hf
        exact hk15 _ _ _ _ h ls (lv_sub hl [1, 2, 0] rfl) hf
      replace hf := it_t c11 hf
      refine lv_iconst (v := (0 : Int32)) hx hb dX9_goesText_68 (by decide) ?_
      replace hf := Option.some.inj hf
      subst hf
      exact r_zre (v := (0 : Int32)) C h rfl dX9_goesText_69
    replace hf := it_t c8 hf
    refine lv_iconst (v := (1 : Int32)) hx hb dX9_goesText_51 (by decide) ?_
    replace hf := Option.some.inj hf
    subst hf
    exact r_zre (v := (1 : Int32)) C h rfl dX9_goesText_52
  replace hf := it_t c4 hf
  refine lv_iconst (v := (0 : Int32)) hx hb dX9_goesText_28 (by decide) ?_
  replace hf := Option.some.inj hf
  subst hf
  exact r_zre (v := (0 : Int32)) C h rfl dX9_goesText_29
set_option maxHeartbeats 4000000 in
set_option maxRecDepth 100000 in
theorem w_X9_goesText_15L {p : Program} {l : Launch} {e : Env} {s : State} {m : MethodId} {args : Array Value} {below : List Frame} {meth : Method} {c : Code} {E : Ev} {σ : Ms} {ℓ : Mz} {p0 : Int32} {out : Int32 × Mm}   (C : Cx cX9_goesText 3 (some .boolean) wsX9_goesText RX9 E p s m args meth c)  : ∀ (n9 : Nat) (τ : Mm) (v2 : Int32) (H : Heap) (locs : List Loc) (h : HI E (va_up σ 29 τ) ℓ s H locs) (ls : Array Slot) (hl : lv_has ls 3 [(0, .ref (Ea E 29 0)), (1, .int p0), (2, .int v2)]), f_X9_goesText_15L p0  n9 τ v2 = some out → W p l e rm_X9_goesText s m args below meth c H locs 0 0 (MQ below (Po E s.heap.size (some (.int out.1)) (va_up σ 29 out.2) ℓ) args s 0 0 (AA E s.heap.size)) (F0 m 15 ls []) := by
  intro n9
  induction n9 with
  | zero =>
    intro τ v2 H locs h ls hl hf
    cases (show (none : Option (Int32 × Mm)) = some out from hf)
  | succ n9 ih =>
    intro τ v2 H locs h ls hl hf
    exact w_X9_goesText_15   C  ih τ v2 H locs h ls hl hf
set_option maxHeartbeats 4000000 in
set_option maxRecDepth 100000 in
theorem w_X9_goesText_0 {p : Program} {l : Launch} {e : Env} {s : State} {m : MethodId} {args : Array Value} {below : List Frame} {meth : Method} {c : Code} {E : Ev} {σ : Ms} {ℓ : Mz} {p0 : Int32} {out : Int32 × Mm}   (C : Cx cX9_goesText 3 (some .boolean) wsX9_goesText RX9 E p s m args meth c)  : ∀ (τ : Mm) (H : Heap) (locs : List Loc) (h : HI E (va_up σ 29 τ) ℓ s H locs) (ls : Array Slot) (hl : lv_has ls 3 [(0, .ref (Ea E 29 0)), (1, .int p0)]), f_X9_goesText_0 p0  τ = some out → W p l e rm_X9_goesText s m args below meth c H locs 0 0 (MQ below (Po E s.heap.size (some (.int out.1)) (va_up σ 29 out.2) ℓ) args s 0 0 (AA E s.heap.size)) (F0 m 0 ls []) := by
  intro τ H locs h ls hl hf
  unfold f_X9_goesText_0 at hf
  have C0 := C
  obtain ⟨hx, hb, hr, hml, hown, hts, hlk, hK, hSF⟩ := C0
  refine lv_aload_n hx hb dX9_goesText_0 rfl (lv_at hl 0 rfl) ?_
  refine lv_iconst (v := (0 : Int32)) hx hb dX9_goesText_1 (by decide) ?_
  refine pf_9_16 C h (rfl : Kd 29 = 9) up_eq (F := fun t => va_up σ 29 t) (fun _ => up_up) inX9_goesText_9 lkX9_goesText_59 dX9_goesText_2 (fun τ1 eτ1 H locs h => ?_)
  replace hf := lt_use eτ1 hf
  clear eτ1
  refine lv_aload_n hx hb dX9_goesText_5 rfl (lv_at hl 0 rfl) ?_
  refine lv_bipush (v := (100 : Int32)) hx hb dX9_goesText_6 (by decide) ?_
  refine lv_iload_n hx hb dX9_goesText_8 rfl (lv_at hl 1 rfl) ?_
  refine lv_imul hx hb dX9_goesText_9 ?_
  refine pf_9_26 C h (rfl : Kd 29 = 9) up_eq (F := fun t => va_up σ 29 t) (fun _ => up_up) inX9_goesText_9 lkX9_goesText_89 dX9_goesText_10 (fun τ2 eτ2 H locs h => ?_)
  replace hf := lt_use eτ2 hf
  clear eτ2
  refine lv_iconst (v := (0 : Int32)) hx hb dX9_goesText_13 (by decide) ?_
  refine lv_istore_n (lv' := [(2, .int (0 : Int32)), (0, .ref (Ea E 29 0)), (1, .int p0)]) hx hb dX9_goesText_14 rfl hl (by decide) rfl (fun ls hl => ?_)
  exact w_X9_goesText_15L    C  _ _ _ _ _ h ls (lv_sub hl [1, 2, 0] rfl) hf
theorem c_X9_goesText {l : Launch} {E : Ev} {σ : Ms} {ℓ : Mz} {τ : Mm} {p0 : Int32} {out : Int32 × Mm} (hf : f_X9_goesText τ p0 = some out) : Ct l yX9_goesText wsX9_goesText rm_X9_goesText [.ref (Ea E 29 0), .int p0] E (va_up σ 29 τ) ℓ (some (.int out.1)) (va_up σ 29 out.2) ℓ := by
  refine Ct_mk (cc := cX9_goesText) (mL := 3) (ret := (some .boolean)) (own := RX9) (by decide +kernel) rfl rfl (Nat.le_of_ble_eq_true rfl) (fun p e s m below meth c C h ls hl => ?_)
  exact w_X9_goesText_0  C τ _ _ h ls (lv_sub hl [0, 1] rfl) hf
theorem k_X9_goesText {l : Launch} {E : Ev} {σ : Ms} {ℓ : Mz} {τ : Mm} {p0 : Int32} (hτ : σ 29 = τ) {out : Int32 × Mm} (hf : f_X9_goesText τ p0 = some out) : Ct l yX9_goesText wsX9_goesText rm_X9_goesText [.ref (Ea E 29 0), .int p0] E σ ℓ (some (.int out.1)) (va_up σ 29 out.2) ℓ := by
  subst hτ
  have h := c_X9_goesText (l := l) (E := E) (σ := σ) (ℓ := ℓ)  hf
  rw [up_id σ 29] at h
  exact h
theorem hdX9_house : yX9_house.cls = RX9 ∧ yX9_house.cls ≠ "java/lang/invoke/MethodHandle" ∧ yX9_house.cls ≠ "java/lang/invoke/VarHandle" ∧ (parseMethodDescriptor yX9_house.desc).map (fun d => d.parameters.length) = some 0 := by decide +kernel
def rm_X9_house : Room := { frames := 7, cells := 0, slots := 0, locals := 152 }
set_option maxRecDepth 100000 in
theorem inX9_house_9 : ∀ w ∈ wsX90, w ∈ wsX9_house := fun _ h => List.mem_cons_of_mem _ (List.mem_append_right _ h)
set_option maxRecDepth 100000 in
theorem lkX9_house_50 : Cond.fieldLink RX9 50 "BellsBelowModel" "houses" "I" ∈ wsX9_house := by decide +kernel
set_option maxRecDepth 100000 in
theorem lkX9_house_56 : Cond.fieldLink RX9 56 "BellsBelowModel" "fed" "I" ∈ wsX9_house := by decide +kernel
set_option maxRecDepth 100000 in
theorem lkX9_house_53 : Cond.fieldLink RX9 53 "BellsBelowModel" "the" "I" ∈ wsX9_house := by decide +kernel
set_option maxRecDepth 100000 in
theorem lkX9_house_59 : Cond.fieldLink RX9 59 "BellsBelowModel" "at" "I" ∈ wsX9_house := by decide +kernel
set_option maxHeartbeats 4000000 in
set_option maxRecDepth 100000 in
theorem w_X9_house_0 {p : Program} {l : Launch} {e : Env} {s : State} {m : MethodId} {args : Array Value} {below : List Frame} {meth : Method} {c : Code} {E : Ev} {σ : Ms} {ℓ : Mz} {out : Int32 × Mm}   (C : Cx cX9_house 2 (some .int) wsX9_house RX9 E p s m args meth c)  : ∀ (τ : Mm) (H : Heap) (locs : List Loc) (h : HI E (va_up σ 29 τ) ℓ s H locs) (ls : Array Slot) (hl : lv_has ls 2 [(0, .ref (Ea E 29 0))]), f_X9_house_0   τ = some out → W p l e rm_X9_house s m args below meth c H locs 0 0 (MQ below (Po E s.heap.size (some (.int out.1)) (va_up σ 29 out.2) ℓ) args s 0 0 (AA E s.heap.size)) (F0 m 0 ls []) := by
  intro τ H locs h ls hl hf
  unfold f_X9_house_0 at hf
  have C0 := C
  obtain ⟨hx, hb, hr, hml, hown, hts, hlk, hK, hSF⟩ := C0
  refine lv_aload_n hx hb dX9_house_0 rfl (lv_at hl 0 rfl) ?_
  refine gf_9_13 C h (rfl : Kd 29 = 9) up_eq inX9_house_9 lkX9_house_50 dX9_house_1 ?_
  refine lv_bipush (v := (6 : Int32)) hx hb dX9_house_4 (by decide) ?_
  refine lv_icmp_ne (tgt := 12) hx hb dX9_house_6 (by decide) (fun c1 => ?_) (fun c1 => ?_)
  · replace hf := it_f c1 hf
    refine lv_aload_n hx hb dX9_house_12 rfl (lv_at hl 0 rfl) ?_
    refine lv_aload_n hx hb dX9_house_13 rfl (lv_at hl 0 rfl) ?_
    refine gf_9_13 C h (rfl : Kd 29 = 9) up_eq inX9_house_9 lkX9_house_50 dX9_house_14 ?_
    obtain ⟨u2, hu2, hf⟩ := bd_use hf
    refine r_cv_9 (rest := []) C h (c_X9_goesText  hu2) (rfl : Kd 29 = 9) gX9_house_X9_goesText rfl ⟨rfl, rfl⟩ hdX9_goesText ⟨Nat.le_of_ble_eq_true rfl, Nat.le_of_ble_eq_true rfl⟩ ⟨Nat.zero_le _, Nat.zero_le _⟩ hl.1 rfl (Nat.le_of_ble_eq_true rfl) dX9_house_17 (fun H locs h => ?_)
    refine lv_istore_n (lv' := [(1, .int u2.1), (0, .ref (Ea E 29 0))]) hx hb dX9_house_20 rfl hl (by decide) rfl (fun ls hl => ?_)
    refine lv_aload_n hx hb dX9_house_21 rfl (lv_at hl 1 rfl) ?_
    refine lv_iconst (v := (0 : Int32)) hx hb dX9_house_22 (by decide) ?_
    refine pf_9_15 C h (rfl : Kd 29 = 9) up_eq (F := fun t => va_up σ 29 t) (fun _ => up_up) inX9_house_9 lkX9_house_56 dX9_house_23 (fun τ3 eτ3 H locs h => ?_)
    replace hf := lt_use eτ3 hf
    clear eτ3
    refine lv_iload_n hx hb dX9_house_26 rfl (lv_at hl 0 rfl) ?_
    refine lv_if_ne (tgt := 38) hx hb dX9_house_27 (by decide) (fun c4 => ?_) (fun c4 => ?_)
    · replace hf := it_f c4 hf
      refine lv_aload_n hx hb dX9_house_38 rfl (lv_at hl 1 rfl) ?_
      refine lv_aload_n hx hb dX9_house_39 rfl (lv_at hl 1 rfl) ?_
      refine gf_9_13 C h (rfl : Kd 29 = 9) up_eq inX9_house_9 lkX9_house_50 dX9_house_40 ?_
      refine pf_9_14 C h (rfl : Kd 29 = 9) up_eq (F := fun t => va_up σ 29 t) (fun _ => up_up) inX9_house_9 lkX9_house_53 dX9_house_43 (fun τ5 eτ5 H locs h => ?_)
      replace hf := lt_use eτ5 hf
      clear eτ5
      refine lv_aload_n hx hb dX9_house_46 rfl (lv_at hl 1 rfl) ?_
      refine lv_dup hx hb dX9_house_47 rfl ?_
      refine gf_9_13 C h (rfl : Kd 29 = 9) up_eq inX9_house_9 lkX9_house_50 dX9_house_48 ?_
      refine lv_iconst (v := (1 : Int32)) hx hb dX9_house_51 (by decide) ?_
      refine lv_iadd hx hb dX9_house_52 ?_
      refine pf_9_13 C h (rfl : Kd 29 = 9) up_eq (F := fun t => va_up σ 29 t) (fun _ => up_up) inX9_house_9 lkX9_house_50 dX9_house_53 (fun τ6 eτ6 H locs h => ?_)
      replace hf := lt_use eτ6 hf
      clear eτ6
      refine lv_aload_n hx hb dX9_house_56 rfl (lv_at hl 1 rfl) ?_
      refine gf_9_14 C h (rfl : Kd 29 = 9) up_eq inX9_house_9 lkX9_house_53 dX9_house_57 ?_
      replace hf := Option.some.inj hf
      subst hf
      exact r_ire C h dX9_house_60
    replace hf := it_t c4 hf
    refine lv_bipush (v := (-10 : Int32)) hx hb dX9_house_30 (by decide) ?_
    refine lv_aload_n hx hb dX9_house_32 rfl (lv_at hl 1 rfl) ?_
    refine gf_9_16 C h (rfl : Kd 29 = 9) up_eq inX9_house_9 lkX9_house_59 dX9_house_33 ?_
    refine lv_isub hx hb dX9_house_36 ?_
    replace hf := Option.some.inj hf
    subst hf
    exact r_ire C h dX9_house_37
  replace hf := it_t c1 hf
  refine lv_bipush (v := (-4 : Int32)) hx hb dX9_house_9 (by decide) ?_
  replace hf := Option.some.inj hf
  subst hf
  exact r_ire C h dX9_house_11
theorem c_X9_house {l : Launch} {E : Ev} {σ : Ms} {ℓ : Mz} {τ : Mm} {out : Int32 × Mm} (hf : f_X9_house τ = some out) : Ct l yX9_house wsX9_house rm_X9_house [.ref (Ea E 29 0)] E (va_up σ 29 τ) ℓ (some (.int out.1)) (va_up σ 29 out.2) ℓ := by
  refine Ct_mk (cc := cX9_house) (mL := 2) (ret := (some .int)) (own := RX9) (by decide +kernel) rfl rfl (Nat.le_of_ble_eq_true rfl) (fun p e s m below meth c C h ls hl => ?_)
  exact w_X9_house_0  C τ _ _ h ls (lv_sub hl [0] rfl) hf
theorem k_X9_house {l : Launch} {E : Ev} {σ : Ms} {ℓ : Mz} {τ : Mm} (hτ : σ 29 = τ) {out : Int32 × Mm} (hf : f_X9_house τ = some out) : Ct l yX9_house wsX9_house rm_X9_house [.ref (Ea E 29 0)] E σ ℓ (some (.int out.1)) (va_up σ 29 out.2) ℓ := by
  subst hτ
  have h := c_X9_house (l := l) (E := E) (σ := σ) (ℓ := ℓ)  hf
  rw [up_id σ 29] at h
  exact h
theorem hdX9_begin : yX9_begin.cls = RX9 ∧ yX9_begin.cls ≠ "java/lang/invoke/MethodHandle" ∧ yX9_begin.cls ≠ "java/lang/invoke/VarHandle" ∧ (parseMethodDescriptor yX9_begin.desc).map (fun d => d.parameters.length) = some 0 := by decide +kernel
def rm_X9_begin : Room := { frames := 0, cells := 0, slots := 0, locals := 0 }
set_option maxRecDepth 100000 in
theorem inX9_begin_9 : ∀ w ∈ wsX90, w ∈ wsX9_begin := fun _ h => List.mem_cons_of_mem _ (List.mem_append_right _ h)
set_option maxRecDepth 100000 in
theorem lkX9_begin_53 : Cond.fieldLink RX9 53 "BellsBelowModel" "the" "I" ∈ wsX9_begin := by decide +kernel
set_option maxHeartbeats 4000000 in
set_option maxRecDepth 100000 in
theorem w_X9_begin_0 {p : Program} {l : Launch} {e : Env} {s : State} {m : MethodId} {args : Array Value} {below : List Frame} {meth : Method} {c : Code} {E : Ev} {σ : Ms} {ℓ : Mz} {τ : Mm} {out : Int32} (hτ : σ 29 = τ)   (C : Cx cX9_begin 1 (some .int) wsX9_begin RX9 E p s m args meth c)  : ∀  (H : Heap) (locs : List Loc) (h : HI E σ ℓ s H locs) (ls : Array Slot) (hl : lv_has ls 1 [(0, .ref (Ea E 29 0))]), f_X9_begin_0 τ   = some out → W p l e rm_X9_begin s m args below meth c H locs 0 0 (MQ below (Po E s.heap.size (some (.int out)) σ ℓ) args s 0 0 (AA E s.heap.size)) (F0 m 0 ls []) := by
  intro  H locs h ls hl hf
  unfold f_X9_begin_0 at hf
  have C0 := C
  obtain ⟨hx, hb, hr, hml, hown, hts, hlk, hK, hSF⟩ := C0
  refine lv_aload_n hx hb dX9_begin_0 rfl (lv_at hl 0 rfl) ?_
  refine gf_9_14 C h (rfl : Kd 29 = 9) hτ inX9_begin_9 lkX9_begin_53 dX9_begin_1 ?_
  refine lv_if_ge (tgt := 11) hx hb dX9_begin_4 (by decide) (fun c1 => ?_) (fun c1 => ?_)
  · replace hf := it_t c1 hf
    refine lv_bipush (v := (10 : Int32)) hx hb dX9_begin_11 (by decide) ?_
    refine lv_aload_n hx hb dX9_begin_13 rfl (lv_at hl 0 rfl) ?_
    refine gf_9_14 C h (rfl : Kd 29 = 9) hτ inX9_begin_9 lkX9_begin_53 dX9_begin_14 ?_
    refine lv_imul hx hb dX9_begin_17 ?_
    replace hf := Option.some.inj hf
    subst hf
    exact r_ire C h dX9_begin_18
  replace hf := it_f c1 hf
  refine lv_iconst (v := (0 : Int32)) hx hb dX9_begin_7 (by decide) ?_
  refine lv_goto (tgt := 18) hx hb dX9_begin_8 (by decide) ?_
  replace hf := Option.some.inj hf
  subst hf
  exact r_ire C h dX9_begin_18
theorem c_X9_begin {l : Launch} {E : Ev} {σ : Ms} {ℓ : Mz} {τ : Mm} (hτ : σ 29 = τ) {out : Int32} (hf : f_X9_begin τ = some out) : Ct l yX9_begin wsX9_begin rm_X9_begin [.ref (Ea E 29 0)] E σ ℓ (some (.int out)) σ ℓ := by
  refine Ct_mk (cc := cX9_begin) (mL := 1) (ret := (some .int)) (own := RX9) (by decide +kernel) rfl rfl (Nat.le_of_ble_eq_true rfl) (fun p e s m below meth c C h ls hl => ?_)
  exact w_X9_begin_0 hτ C  _ _ h ls (lv_sub hl [0] rfl) hf
theorem hdX9_behind : yX9_behind.cls = RX9 ∧ yX9_behind.cls ≠ "java/lang/invoke/MethodHandle" ∧ yX9_behind.cls ≠ "java/lang/invoke/VarHandle" ∧ (parseMethodDescriptor yX9_behind.desc).map (fun d => d.parameters.length) = some 0 := by decide +kernel
def rm_X9_behind : Room := { frames := 0, cells := 0, slots := 0, locals := 0 }
set_option maxRecDepth 100000 in
theorem inX9_behind_9 : ∀ w ∈ wsX90, w ∈ wsX9_behind := fun _ h => List.mem_cons_of_mem _ (List.mem_append_right _ h)
set_option maxRecDepth 100000 in
theorem lkX9_behind_53 : Cond.fieldLink RX9 53 "BellsBelowModel" "the" "I" ∈ wsX9_behind := by decide +kernel
set_option maxRecDepth 100000 in
theorem lkX9_behind_68 : Cond.fieldLink RX9 68 "BellsBelowModel" "clauses" "[I" ∈ wsX9_behind := by decide +kernel
set_option maxHeartbeats 4000000 in
set_option maxRecDepth 100000 in
theorem w_X9_behind_0 {p : Program} {l : Launch} {e : Env} {s : State} {m : MethodId} {args : Array Value} {below : List Frame} {meth : Method} {c : Code} {E : Ev} {σ : Ms} {ℓ : Mz} {τ : Mm} {out : Int32} (hτ : σ 29 = τ)   (C : Cx cX9_behind 1 (some .int) wsX9_behind RX9 E p s m args meth c)  : ∀  (H : Heap) (locs : List Loc) (h : HI E σ ℓ s H locs) (ls : Array Slot) (hl : lv_has ls 1 [(0, .ref (Ea E 29 0))]), f_X9_behind_0 τ   = some out → W p l e rm_X9_behind s m args below meth c H locs 0 0 (MQ below (Po E s.heap.size (some (.int out)) σ ℓ) args s 0 0 (AA E s.heap.size)) (F0 m 0 ls []) := by
  intro  H locs h ls hl hf
  unfold f_X9_behind_0 at hf
  have C0 := C
  obtain ⟨hx, hb, hr, hml, hown, hts, hlk, hK, hSF⟩ := C0
  refine lv_aload_n hx hb dX9_behind_0 rfl (lv_at hl 0 rfl) ?_
  refine gf_9_14 C h (rfl : Kd 29 = 9) hτ inX9_behind_9 lkX9_behind_53 dX9_behind_1 ?_
  refine lv_if_ge (tgt := 11) hx hb dX9_behind_4 (by decide) (fun c1 => ?_) (fun c1 => ?_)
  · replace hf := it_t c1 hf
    refine lv_bipush (v := (10 : Int32)) hx hb dX9_behind_11 (by decide) ?_
    refine lv_aload_n hx hb dX9_behind_13 rfl (lv_at hl 0 rfl) ?_
    refine gf_9_14 C h (rfl : Kd 29 = 9) hτ inX9_behind_9 lkX9_behind_53 dX9_behind_14 ?_
    refine lv_imul hx hb dX9_behind_17 ?_
    refine lv_aload_n hx hb dX9_behind_18 rfl (lv_at hl 0 rfl) ?_
    refine gf_9_19 C h (rfl : Kd 29 = 9) hτ inX9_behind_9 lkX9_behind_68 dX9_behind_19 ?_
    refine lv_aload_n hx hb dX9_behind_22 rfl (lv_at hl 0 rfl) ?_
    refine gf_9_14 C h (rfl : Kd 29 = 9) hτ inX9_behind_9 lkX9_behind_53 dX9_behind_23 ?_
    obtain ⟨g2, hf⟩ := gd_use hf
    refine ld_9_10 C h (rfl : Kd 29 = 9) hτ (inB_in g2) dX9_behind_26 ?_
    refine lv_iadd hx hb dX9_behind_27 ?_
    replace hf := Option.some.inj hf
    subst hf
    exact r_ire C h dX9_behind_28
  replace hf := it_f c1 hf
  refine lv_iconst (v := (0 : Int32)) hx hb dX9_behind_7 (by decide) ?_
  refine lv_goto (tgt := 28) hx hb dX9_behind_8 (by decide) ?_
  replace hf := Option.some.inj hf
  subst hf
  exact r_ire C h dX9_behind_28
theorem c_X9_behind {l : Launch} {E : Ev} {σ : Ms} {ℓ : Mz} {τ : Mm} (hτ : σ 29 = τ) {out : Int32} (hf : f_X9_behind τ = some out) : Ct l yX9_behind wsX9_behind rm_X9_behind [.ref (Ea E 29 0)] E σ ℓ (some (.int out)) σ ℓ := by
  refine Ct_mk (cc := cX9_behind) (mL := 1) (ret := (some .int)) (own := RX9) (by decide +kernel) rfl rfl (Nat.le_of_ble_eq_true rfl) (fun p e s m below meth c C h ls hl => ?_)
  exact w_X9_behind_0 hτ C  _ _ h ls (lv_sub hl [0] rfl) hf
theorem hdX9_rest : yX9_rest.cls = RX9 ∧ yX9_rest.cls ≠ "java/lang/invoke/MethodHandle" ∧ yX9_rest.cls ≠ "java/lang/invoke/VarHandle" ∧ (parseMethodDescriptor yX9_rest.desc).map (fun d => d.parameters.length) = some 0 := by decide +kernel
def rm_X9_rest : Room := { frames := 1, cells := 0, slots := 0, locals := 20 }
set_option maxRecDepth 100000 in
theorem inX9_rest_9 : ∀ w ∈ wsX90, w ∈ wsX9_rest := fun _ h => List.mem_cons_of_mem _ (List.mem_append_right _ h)
set_option maxRecDepth 100000 in
theorem lkX9_rest_71 : Cond.fieldLink RX9 71 "BellsBelowModel" "word" "[I" ∈ wsX9_rest := by decide +kernel
set_option maxRecDepth 100000 in
theorem lkX9_rest_74 : Cond.fieldLink RX9 74 "BellsBelowModel" "number" "[I" ∈ wsX9_rest := by decide +kernel
set_option maxHeartbeats 4000000 in
set_option maxRecDepth 100000 in
theorem w_X9_rest_35 {p : Program} {l : Launch} {e : Env} {s : State} {m : MethodId} {args : Array Value} {below : List Frame} {meth : Method} {c : Code} {E : Ev} {σ : Ms} {ℓ : Mz} {τ : Mm} {out : Int32} (hτ : σ 29 = τ)   (C : Cx cX9_rest 3 (some .int) wsX9_rest RX9 E p s m args meth c) {k7 : Int32 → Int32 → Option (Int32)} (hk7 : ∀ (v1 : Int32) (v2 : Int32) (H : Heap) (locs : List Loc), HI E σ ℓ s H locs → ∀ ls : Array Slot, lv_has ls 3 [(0, .ref (Ea E 29 0)), (1, .int v1), (2, .int v2)] → k7 v1 v2 = some out → W p l e rm_X9_rest s m args below meth c H locs 0 0 (MQ below (Po E s.heap.size (some (.int out)) σ ℓ) args s 0 0 (AA E s.heap.size)) (F0 m 7 ls [])) : ∀ (v2 : Int32) (w0 : Int32) (H : Heap) (locs : List Loc) (h : HI E σ ℓ s H locs) (ls : Array Slot) (hl : lv_has ls 3 [(0, .ref (Ea E 29 0)), (2, .int v2)]), f_X9_rest_35 τ k7 v2 w0 = some out → W p l e rm_X9_rest s m args below meth c H locs 0 0 (MQ below (Po E s.heap.size (some (.int out)) σ ℓ) args s 0 0 (AA E s.heap.size)) (F0 m 35 ls [.int w0]) := by
  intro v2 w0 H locs h ls hl hf
  unfold f_X9_rest_35 at hf
  have C0 := C
  obtain ⟨hx, hb, hr, hml, hown, hts, hlk, hK, hSF⟩ := C0
  refine lv_istore_n (lv' := [(1, .int w0), (0, .ref (Ea E 29 0)), (2, .int v2)]) hx hb dX9_rest_35 rfl hl (by decide) rfl (fun ls hl => ?_)
  obtain ⟨x6, ex6⟩ : ∃ y : Int32, y = (v2 + (1 : Int32)) := ⟨_, rfl⟩
  refine lv_iinc (v := x6) (lv' := [(2, .int x6), (1, .int w0), (0, .ref (Ea E 29 0))]) hx hb dX9_rest_36 hl (k := 2) rfl (by rw [ex6]; rfl) (by decide) rfl (fun ls hl => ?_)
  replace hf := lt_use ex6 hf
  clear ex6
  refine lv_goto (tgt := 7) hx hb dX9_rest_39 (by decide) ?_
  exact hk7 _ _ _ _ h ls (lv_sub hl [2, 1, 0] rfl) hf
set_option maxHeartbeats 4000000 in
set_option maxRecDepth 100000 in
theorem w_X9_rest_7 {p : Program} {l : Launch} {e : Env} {s : State} {m : MethodId} {args : Array Value} {below : List Frame} {meth : Method} {c : Code} {E : Ev} {σ : Ms} {ℓ : Mz} {τ : Mm} {out : Int32} (hτ : σ 29 = τ)   (C : Cx cX9_rest 3 (some .int) wsX9_rest RX9 E p s m args meth c) {k7 : Int32 → Int32 → Option (Int32)} (hk7 : ∀ (v1 : Int32) (v2 : Int32) (H : Heap) (locs : List Loc), HI E σ ℓ s H locs → ∀ ls : Array Slot, lv_has ls 3 [(0, .ref (Ea E 29 0)), (1, .int v1), (2, .int v2)] → k7 v1 v2 = some out → W p l e rm_X9_rest s m args below meth c H locs 0 0 (MQ below (Po E s.heap.size (some (.int out)) σ ℓ) args s 0 0 (AA E s.heap.size)) (F0 m 7 ls [])) : ∀ (v1 : Int32) (v2 : Int32) (H : Heap) (locs : List Loc) (h : HI E σ ℓ s H locs) (ls : Array Slot) (hl : lv_has ls 3 [(0, .ref (Ea E 29 0)), (1, .int v1), (2, .int v2)]), f_X9_rest_7 τ k7 v1 v2 = some out → W p l e rm_X9_rest s m args below meth c H locs 0 0 (MQ below (Po E s.heap.size (some (.int out)) σ ℓ) args s 0 0 (AA E s.heap.size)) (F0 m 7 ls []) := by
  intro v1 v2 H locs h ls hl hf
  unfold f_X9_rest_7 at hf
  have C0 := C
  obtain ⟨hx, hb, hr, hml, hown, hts, hlk, hK, hSF⟩ := C0
  refine lv_iload_n hx hb dX9_rest_7 rfl (lv_at hl 2 rfl) ?_
  refine lv_aload_n hx hb dX9_rest_8 rfl (lv_at hl 0 rfl) ?_
  obtain ⟨u2, hu2, hf⟩ := bd_use hf
  refine r_cv_9 (rest := [.int v2]) C h (c_X9_behind hτ hu2) (rfl : Kd 29 = 9) gX9_rest_X9_behind rfl ⟨rfl, rfl⟩ hdX9_behind ⟨Nat.le_of_ble_eq_true rfl, Nat.le_of_ble_eq_true rfl⟩ ⟨Nat.zero_le _, Nat.zero_le _⟩ hl.1 rfl (Nat.le_of_ble_eq_true rfl) dX9_rest_9 (fun H locs h => ?_)
  refine lv_icmp_ge (tgt := 42) hx hb dX9_rest_12 (by decide) (fun c3 => ?_) (fun c3 => ?_)
  · replace hf := it_t c3 hf
    refine lv_iload_n hx hb dX9_rest_42 rfl (lv_at hl 1 rfl) ?_
    replace hf := Option.some.inj hf
    subst hf
    exact r_ire C h dX9_rest_43
  replace hf := it_f c3 hf
  refine lv_aload_n hx hb dX9_rest_15 rfl (lv_at hl 0 rfl) ?_
  refine gf_9_20 C h (rfl : Kd 29 = 9) hτ inX9_rest_9 lkX9_rest_71 dX9_rest_16 ?_
  refine lv_iload_n hx hb dX9_rest_19 rfl (lv_at hl 2 rfl) ?_
  obtain ⟨g4, hf⟩ := gd_use hf
  refine ld_9_11 C h (rfl : Kd 29 = 9) hτ (inB_in g4) dX9_rest_20 ?_
  refine lv_iconst (v := (2 : Int32)) hx hb dX9_rest_21 (by decide) ?_
  refine lv_icmp_ne (tgt := 34) hx hb dX9_rest_22 (by decide) (fun c5 => ?_) (fun c5 => ?_)
  · replace hf := it_f c5 hf
    refine lv_iload_n hx hb dX9_rest_34 rfl (lv_at hl 1 rfl) ?_
    exact w_X9_rest_35 hτ   C hk7 _ _ _ _ h ls (lv_sub hl [0, 2] rfl) hf
  replace hf := it_t c5 hf
  refine lv_aload_n hx hb dX9_rest_25 rfl (lv_at hl 0 rfl) ?_
  refine gf_9_21 C h (rfl : Kd 29 = 9) hτ inX9_rest_9 lkX9_rest_74 dX9_rest_26 ?_
  refine lv_iload_n hx hb dX9_rest_29 rfl (lv_at hl 2 rfl) ?_
  obtain ⟨g7, hf⟩ := gd_use hf
  refine ld_9_12 C h (rfl : Kd 29 = 9) hτ (inB_in g7) dX9_rest_30 ?_
  refine lv_goto (tgt := 35) hx hb dX9_rest_31 (by decide) ?_
  exact w_X9_rest_35 hτ   C hk7 _ _ _ _ h ls (lv_sub hl [0, 2] rfl) hf
set_option maxHeartbeats 4000000 in
set_option maxRecDepth 100000 in
theorem w_X9_rest_7L {p : Program} {l : Launch} {e : Env} {s : State} {m : MethodId} {args : Array Value} {below : List Frame} {meth : Method} {c : Code} {E : Ev} {σ : Ms} {ℓ : Mz} {τ : Mm} {out : Int32} (hτ : σ 29 = τ)   (C : Cx cX9_rest 3 (some .int) wsX9_rest RX9 E p s m args meth c)  : ∀ (n9 : Nat) (v1 : Int32) (v2 : Int32) (H : Heap) (locs : List Loc) (h : HI E σ ℓ s H locs) (ls : Array Slot) (hl : lv_has ls 3 [(0, .ref (Ea E 29 0)), (1, .int v1), (2, .int v2)]), f_X9_rest_7L τ  n9 v1 v2 = some out → W p l e rm_X9_rest s m args below meth c H locs 0 0 (MQ below (Po E s.heap.size (some (.int out)) σ ℓ) args s 0 0 (AA E s.heap.size)) (F0 m 7 ls []) := by
  intro n9
  induction n9 with
  | zero =>
    intro v1 v2 H locs h ls hl hf
    cases (show (none : Option (Int32)) = some out from hf)
  | succ n9 ih =>
    intro v1 v2 H locs h ls hl hf
    exact w_X9_rest_7 hτ  C  ih v1 v2 H locs h ls hl hf
set_option maxHeartbeats 4000000 in
set_option maxRecDepth 100000 in
theorem w_X9_rest_0 {p : Program} {l : Launch} {e : Env} {s : State} {m : MethodId} {args : Array Value} {below : List Frame} {meth : Method} {c : Code} {E : Ev} {σ : Ms} {ℓ : Mz} {τ : Mm} {out : Int32} (hτ : σ 29 = τ)   (C : Cx cX9_rest 3 (some .int) wsX9_rest RX9 E p s m args meth c)  : ∀  (H : Heap) (locs : List Loc) (h : HI E σ ℓ s H locs) (ls : Array Slot) (hl : lv_has ls 3 [(0, .ref (Ea E 29 0))]), f_X9_rest_0 τ   = some out → W p l e rm_X9_rest s m args below meth c H locs 0 0 (MQ below (Po E s.heap.size (some (.int out)) σ ℓ) args s 0 0 (AA E s.heap.size)) (F0 m 0 ls []) := by
  intro  H locs h ls hl hf
  unfold f_X9_rest_0 at hf
  have C0 := C
  obtain ⟨hx, hb, hr, hml, hown, hts, hlk, hK, hSF⟩ := C0
  refine lv_iconst (v := (2 : Int32)) hx hb dX9_rest_0 (by decide) ?_
  refine lv_istore_n (lv' := [(1, .int (2 : Int32)), (0, .ref (Ea E 29 0))]) hx hb dX9_rest_1 rfl hl (by decide) rfl (fun ls hl => ?_)
  refine lv_aload_n hx hb dX9_rest_2 rfl (lv_at hl 1 rfl) ?_
  obtain ⟨u1, hu1, hf⟩ := bd_use hf
  refine r_cv_9 (rest := []) C h (c_X9_begin hτ hu1) (rfl : Kd 29 = 9) gX9_rest_X9_begin rfl ⟨rfl, rfl⟩ hdX9_begin ⟨Nat.le_of_ble_eq_true rfl, Nat.le_of_ble_eq_true rfl⟩ ⟨Nat.zero_le _, Nat.zero_le _⟩ hl.1 rfl (Nat.le_of_ble_eq_true rfl) dX9_rest_3 (fun H locs h => ?_)
  refine lv_istore_n (lv' := [(2, .int u1), (1, .int (2 : Int32)), (0, .ref (Ea E 29 0))]) hx hb dX9_rest_6 rfl hl (by decide) rfl (fun ls hl => ?_)
  exact w_X9_rest_7L hτ   C  _ _ _ _ _ h ls (lv_sub hl [2, 1, 0] rfl) hf
theorem c_X9_rest {l : Launch} {E : Ev} {σ : Ms} {ℓ : Mz} {τ : Mm} (hτ : σ 29 = τ) {out : Int32} (hf : f_X9_rest τ = some out) : Ct l yX9_rest wsX9_rest rm_X9_rest [.ref (Ea E 29 0)] E σ ℓ (some (.int out)) σ ℓ := by
  refine Ct_mk (cc := cX9_rest) (mL := 3) (ret := (some .int)) (own := RX9) (by decide +kernel) rfl rfl (Nat.le_of_ble_eq_true rfl) (fun p e s m below meth c C h ls hl => ?_)
  exact w_X9_rest_0 hτ C  _ _ h ls (lv_sub hl [0] rfl) hf
theorem hdX9_factOf : yX9_factOf.cls = RX9 ∧ yX9_factOf.cls ≠ "java/lang/invoke/MethodHandle" ∧ yX9_factOf.cls ≠ "java/lang/invoke/VarHandle" ∧ (parseMethodDescriptor yX9_factOf.desc).map (fun d => d.parameters.length) = some 3 := by decide +kernel
def rm_X9_factOf : Room := { frames := 1, cells := 0, slots := 0, locals := 22 }
set_option maxRecDepth 100000 in
theorem inX9_factOf_9 : ∀ w ∈ wsX90, w ∈ wsX9_factOf := fun _ h => List.mem_cons_of_mem _ (List.mem_append_right _ h)
set_option maxRecDepth 100000 in
theorem lkX9_factOf_25 : Cond.fieldLink RX9 25 "BellsBelowModel" "kind" "[I" ∈ wsX9_factOf := by decide +kernel
set_option maxRecDepth 100000 in
theorem lkX9_factOf_29 : Cond.fieldLink RX9 29 "BellsBelowModel" "v" "[I" ∈ wsX9_factOf := by decide +kernel
set_option maxRecDepth 100000 in
theorem lkX9_factOf_32 : Cond.fieldLink RX9 32 "BellsBelowModel" "floor" "[I" ∈ wsX9_factOf := by decide +kernel
set_option maxRecDepth 100000 in
theorem lkX9_factOf_22 : Cond.fieldLink RX9 22 "BellsBelowModel" "minute" "I" ∈ wsX9_factOf := by decide +kernel
set_option maxHeartbeats 4000000 in
set_option maxRecDepth 100000 in
theorem w_X9_factOf_0 {p : Program} {l : Launch} {e : Env} {s : State} {m : MethodId} {args : Array Value} {below : List Frame} {meth : Method} {c : Code} {E : Ev} {σ : Ms} {ℓ : Mz} {τ : Mm} {p0 : Int32} {p1 : Int32} {p2 : Int32} {out : Int32} (hτ : σ 29 = τ)   (C : Cx cX9_factOf 4 (some .int) wsX9_factOf RX9 E p s m args meth c)  : ∀  (H : Heap) (locs : List Loc) (h : HI E σ ℓ s H locs) (ls : Array Slot) (hl : lv_has ls 4 [(0, .ref (Ea E 29 0)), (1, .int p0), (2, .int p1), (3, .int p2)]), f_X9_factOf_0 τ p0 p1 p2   = some out → W p l e rm_X9_factOf s m args below meth c H locs 0 0 (MQ below (Po E s.heap.size (some (.int out)) σ ℓ) args s 0 0 (AA E s.heap.size)) (F0 m 0 ls []) := by
  intro  H locs h ls hl hf
  unfold f_X9_factOf_0 at hf
  have C0 := C
  obtain ⟨hx, hb, hr, hml, hown, hts, hlk, hK, hSF⟩ := C0
  refine lv_iload_n hx hb dX9_factOf_0 rfl (lv_at hl 1 rfl) ?_
  by_cases c1 : p0 = (0 : Int32)
  · replace hf := it_t c1 hf
    refine r_tin (v := (0 : Int32)) (off := 35) (tgt := 36) hx hb c1 dX9_factOf_1 (by decide) (by decide) (by decide) (by decide) ?_
    refine lv_iload_n hx hb dX9_factOf_36 rfl (lv_at hl 2 rfl) ?_
    replace hf := Option.some.inj hf
    subst hf
    exact r_ire C h dX9_factOf_37
  replace hf := it_f c1 hf
  by_cases c2 : p0 = (1 : Int32)
  · replace hf := it_t c2 hf
    refine r_tin (v := (1 : Int32)) (off := 37) (tgt := 38) hx hb c2 dX9_factOf_1 (by decide) (by decide) (by decide) (by decide) ?_
    refine lv_aload_n hx hb dX9_factOf_38 rfl (lv_at hl 0 rfl) ?_
    refine gf_9_5 C h (rfl : Kd 29 = 9) hτ inX9_factOf_9 lkX9_factOf_25 dX9_factOf_39 ?_
    refine lv_iload_n hx hb dX9_factOf_42 rfl (lv_at hl 2 rfl) ?_
    obtain ⟨g3, hf⟩ := gd_use hf
    refine ld_9_1 C h (rfl : Kd 29 = 9) hτ (inB_in g3) dX9_factOf_43 ?_
    replace hf := Option.some.inj hf
    subst hf
    exact r_ire C h dX9_factOf_44
  replace hf := it_f c2 hf
  by_cases c4 : p0 = (2 : Int32)
  · replace hf := it_t c4 hf
    refine r_tin (v := (2 : Int32)) (off := 44) (tgt := 45) hx hb c4 dX9_factOf_1 (by decide) (by decide) (by decide) (by decide) ?_
    refine lv_aload_n hx hb dX9_factOf_45 rfl (lv_at hl 0 rfl) ?_
    refine gf_9_6 C h (rfl : Kd 29 = 9) hτ inX9_factOf_9 lkX9_factOf_29 dX9_factOf_46 ?_
    refine lv_iload_n hx hb dX9_factOf_49 rfl (lv_at hl 2 rfl) ?_
    obtain ⟨g5, hf⟩ := gd_use hf
    refine ld_9_2 C h (rfl : Kd 29 = 9) hτ (inB_in g5) dX9_factOf_50 ?_
    replace hf := Option.some.inj hf
    subst hf
    exact r_ire C h dX9_factOf_51
  replace hf := it_f c4 hf
  by_cases c6 : p0 = (3 : Int32)
  · replace hf := it_t c6 hf
    refine r_tin (v := (3 : Int32)) (off := 51) (tgt := 52) hx hb c6 dX9_factOf_1 (by decide) (by decide) (by decide) (by decide) ?_
    refine lv_iload_n hx hb dX9_factOf_52 rfl (lv_at hl 3 rfl) ?_
    replace hf := Option.some.inj hf
    subst hf
    exact r_ire C h dX9_factOf_53
  replace hf := it_f c6 hf
  by_cases c7 : p0 = (4 : Int32)
  · replace hf := it_t c7 hf
    refine r_tin (v := (4 : Int32)) (off := 53) (tgt := 54) hx hb c7 dX9_factOf_1 (by decide) (by decide) (by decide) (by decide) ?_
    refine lv_aload_n hx hb dX9_factOf_54 rfl (lv_at hl 0 rfl) ?_
    refine lv_aload_n hx hb dX9_factOf_55 rfl (lv_at hl 0 rfl) ?_
    refine gf_9_7 C h (rfl : Kd 29 = 9) hτ inX9_factOf_9 lkX9_factOf_32 dX9_factOf_56 ?_
    refine lv_iload_n hx hb dX9_factOf_59 rfl (lv_at hl 2 rfl) ?_
    obtain ⟨g8, hf⟩ := gd_use hf
    refine ld_9_3 C h (rfl : Kd 29 = 9) hτ (inB_in g8) dX9_factOf_60 ?_
    refine lv_iload_n hx hb dX9_factOf_61 rfl (lv_at hl 3 rfl) ?_
    obtain ⟨u9, hu9, hf⟩ := bd_use hf
    refine r_cv_9 (rest := []) C h (c_X9_apart  hu9) (rfl : Kd 29 = 9) gX9_factOf_X9_apart rfl ⟨rfl, rfl⟩ hdX9_apart ⟨Nat.le_of_ble_eq_true rfl, Nat.le_of_ble_eq_true rfl⟩ ⟨Nat.zero_le _, Nat.zero_le _⟩ hl.1 rfl (Nat.le_of_ble_eq_true rfl) dX9_factOf_62 (fun H locs h => ?_)
    replace hf := Option.some.inj hf
    subst hf
    exact r_ire C h dX9_factOf_65
  replace hf := it_f c7 hf
  refine lv_tableOut (tgt := 66) hx hb dX9_factOf_1 (tsw_out [0, 1, 2, 3, 4] (List.forall_mem_cons.mpr ⟨c1, (List.forall_mem_cons.mpr ⟨c2, (List.forall_mem_cons.mpr ⟨c4, (List.forall_mem_cons.mpr ⟨c6, (List.forall_mem_cons.mpr ⟨c7, (fun _ h => absurd h List.not_mem_nil)⟩)⟩)⟩)⟩)⟩) rfl) (by decide) ?_
  refine lv_aload_n hx hb dX9_factOf_66 rfl (lv_at hl 0 rfl) ?_
  refine gf_9_4 C h (rfl : Kd 29 = 9) hτ inX9_factOf_9 lkX9_factOf_22 dX9_factOf_67 ?_
  refine lv_bipush (v := (10 : Int32)) hx hb dX9_factOf_70 (by decide) ?_
  refine lv_irem hx hb dX9_factOf_72 (by decide) ?_
  replace hf := Option.some.inj hf
  subst hf
  exact r_ire C h dX9_factOf_73
theorem c_X9_factOf {l : Launch} {E : Ev} {σ : Ms} {ℓ : Mz} {τ : Mm} {p0 : Int32} {p1 : Int32} {p2 : Int32} (hτ : σ 29 = τ) {out : Int32} (hf : f_X9_factOf τ p0 p1 p2 = some out) : Ct l yX9_factOf wsX9_factOf rm_X9_factOf [.ref (Ea E 29 0), .int p0, .int p1, .int p2] E σ ℓ (some (.int out)) σ ℓ := by
  refine Ct_mk (cc := cX9_factOf) (mL := 4) (ret := (some .int)) (own := RX9) (by decide +kernel) rfl rfl (Nat.le_of_ble_eq_true rfl) (fun p e s m below meth c C h ls hl => ?_)
  exact w_X9_factOf_0 hτ C  _ _ h ls (lv_sub hl [0, 1, 2, 3] rfl) hf
theorem hdX9_holds : yX9_holds.cls = RX9 ∧ yX9_holds.cls ≠ "java/lang/invoke/MethodHandle" ∧ yX9_holds.cls ≠ "java/lang/invoke/VarHandle" ∧ (parseMethodDescriptor yX9_holds.desc).map (fun d => d.parameters.length) = some 3 := by decide +kernel
def rm_X9_holds : Room := { frames := 2, cells := 0, slots := 0, locals := 45 }
set_option maxRecDepth 100000 in
theorem inX9_holds_9 : ∀ w ∈ wsX90, w ∈ wsX9_holds := fun _ h => List.mem_cons_of_mem _ (List.mem_append_right _ h)
set_option maxRecDepth 100000 in
theorem lkX9_holds_77 : Cond.fieldLink RX9 77 "BellsBelowModel" "from" "[I" ∈ wsX9_holds := by decide +kernel
set_option maxRecDepth 100000 in
theorem lkX9_holds_80 : Cond.fieldLink RX9 80 "BellsBelowModel" "to" "[I" ∈ wsX9_holds := by decide +kernel
set_option maxRecDepth 100000 in
theorem lkX9_holds_101 : Cond.fieldLink RX9 101 "BellsBelowModel" "pile" "[Z" ∈ wsX9_holds := by decide +kernel
set_option maxRecDepth 100000 in
theorem lkX9_holds_83 : Cond.fieldLink RX9 83 "BellsBelowModel" "sign" "[I" ∈ wsX9_holds := by decide +kernel
set_option maxHeartbeats 4000000 in
set_option maxRecDepth 100000 in
theorem w_X9_holds_247 {p : Program} {l : Launch} {e : Env} {s : State} {m : MethodId} {args : Array Value} {below : List Frame} {meth : Method} {c : Code} {E : Ev} {σ : Ms} {ℓ : Mz} {p0 : Int32} {p1 : Int32} {p2 : Int32} {out : Int32 × Mm}   (C : Cx cX9_holds 9 (some .boolean) wsX9_holds RX9 E p s m args meth c) {k11 : Mm → Int32 → Int32 → Option (Int32 × Mm)} (hk11 : ∀ (τ : Mm) (v4 : Int32) (v5 : Int32) (H : Heap) (locs : List Loc), HI E (va_up σ 29 τ) ℓ s H locs → ∀ ls : Array Slot, lv_has ls 9 [(0, .ref (Ea E 29 0)), (1, .int p0), (2, .int p1), (3, .int p2), (4, .int v4), (5, .int v5)] → k11 τ v4 v5 = some out → W p l e rm_X9_holds s m args below meth c H locs 0 0 (MQ below (Po E s.heap.size (some (.int out.1)) (va_up σ 29 out.2) ℓ) args s 0 0 (AA E s.heap.size)) (F0 m 11 ls [])) : ∀ (τ : Mm) (v4 : Int32) (v5 : Int32) (H : Heap) (locs : List Loc) (h : HI E (va_up σ 29 τ) ℓ s H locs) (ls : Array Slot) (hl : lv_has ls 9 [(0, .ref (Ea E 29 0)), (1, .int p0), (2, .int p1), (3, .int p2), (4, .int v4), (5, .int v5)]), f_X9_holds_247 p0 p1 p2 k11 τ v4 v5 = some out → W p l e rm_X9_holds s m args below meth c H locs 0 0 (MQ below (Po E s.heap.size (some (.int out.1)) (va_up σ 29 out.2) ℓ) args s 0 0 (AA E s.heap.size)) (F0 m 247 ls []) := by
  intro τ v4 v5 H locs h ls hl hf
  unfold f_X9_holds_247 at hf
  have C0 := C
  obtain ⟨hx, hb, hr, hml, hown, hts, hlk, hK, hSF⟩ := C0
  obtain ⟨x19, ex19⟩ : ∃ y : Int32, y = (v5 + (1 : Int32)) := ⟨_, rfl⟩
  refine lv_iinc (v := x19) (lv' := [(5, .int x19), (0, .ref (Ea E 29 0)), (1, .int p0), (2, .int p1), (3, .int p2), (4, .int v4)]) hx hb dX9_holds_247 hl (k := 5) rfl (by rw [ex19]; rfl) (by decide) rfl (fun ls hl => ?_)
  replace hf := lt_use ex19 hf
  clear ex19
  refine lv_goto (tgt := 11) hx hb dX9_holds_250 (by decide) ?_
  exact hk11 _ _ _ _ _ h ls (lv_sub hl [1, 2, 3, 4, 5, 0] rfl) hf
set_option maxHeartbeats 4000000 in
set_option maxRecDepth 100000 in
theorem w_X9_holds_243 {p : Program} {l : Launch} {e : Env} {s : State} {m : MethodId} {args : Array Value} {below : List Frame} {meth : Method} {c : Code} {E : Ev} {σ : Ms} {ℓ : Mz} {p0 : Int32} {p1 : Int32} {p2 : Int32} {out : Int32 × Mm}   (C : Cx cX9_holds 9 (some .boolean) wsX9_holds RX9 E p s m args meth c) {k11 : Mm → Int32 → Int32 → Option (Int32 × Mm)} (hk11 : ∀ (τ : Mm) (v4 : Int32) (v5 : Int32) (H : Heap) (locs : List Loc), HI E (va_up σ 29 τ) ℓ s H locs → ∀ ls : Array Slot, lv_has ls 9 [(0, .ref (Ea E 29 0)), (1, .int p0), (2, .int p1), (3, .int p2), (4, .int v4), (5, .int v5)] → k11 τ v4 v5 = some out → W p l e rm_X9_holds s m args below meth c H locs 0 0 (MQ below (Po E s.heap.size (some (.int out.1)) (va_up σ 29 out.2) ℓ) args s 0 0 (AA E s.heap.size)) (F0 m 11 ls [])) : ∀ (τ : Mm) (v4 : Int32) (v5 : Int32) (w1 : Int32) (w2 : Int32) (H : Heap) (locs : List Loc) (h : HI E (va_up σ 29 τ) ℓ s H locs) (ls : Array Slot) (hl : lv_has ls 9 [(0, .ref (Ea E 29 0)), (1, .int p0), (2, .int p1), (3, .int p2), (4, .int v4), (5, .int v5)]), f_X9_holds_243 p0 p1 p2 k11 τ v4 v5 w1 w2 = some out → W p l e rm_X9_holds s m args below meth c H locs 0 0 (MQ below (Po E s.heap.size (some (.int out.1)) (va_up σ 29 out.2) ℓ) args s 0 0 (AA E s.heap.size)) (F0 m 243 ls [.int w2, .int w1, .ref (Ea E 29 18)]) := by
  intro τ v4 v5 w1 w2 H locs h ls hl hf
  unfold f_X9_holds_243 at hf
  have C0 := C
  obtain ⟨hx, hb, hr, hml, hown, hts, hlk, hK, hSF⟩ := C0
  obtain ⟨g16, hf⟩ := gd_use hf
  refine sa_9_18 C h (rfl : Kd 29 = 9) up_eq (F := fun t => va_up σ 29 t) (fun _ => up_up) (inB_in g16) dX9_holds_243 (fun τ17 eτ17 H locs h => ?_)
  replace hf := lt_use eτ17 hf
  clear eτ17
  obtain ⟨x18, ex18⟩ : ∃ y : Int32, y = (v4 + (1 : Int32)) := ⟨_, rfl⟩
  refine lv_iinc (v := x18) (lv' := [(4, .int x18), (0, .ref (Ea E 29 0)), (1, .int p0), (2, .int p1), (3, .int p2), (5, .int v5)]) hx hb dX9_holds_244 hl (k := 4) rfl (by rw [ex18]; rfl) (by decide) rfl (fun ls hl => ?_)
  replace hf := lt_use ex18 hf
  clear ex18
  exact w_X9_holds_247    C hk11 _ _ _ _ _ h ls (lv_sub hl [1, 2, 3, 4, 0, 5] rfl) hf
set_option maxHeartbeats 4000000 in
set_option maxRecDepth 100000 in
theorem w_X9_holds_147 {p : Program} {l : Launch} {e : Env} {s : State} {m : MethodId} {args : Array Value} {below : List Frame} {meth : Method} {c : Code} {E : Ev} {σ : Ms} {ℓ : Mz} {p0 : Int32} {p1 : Int32} {p2 : Int32} {out : Int32 × Mm}   (C : Cx cX9_holds 9 (some .boolean) wsX9_holds RX9 E p s m args meth c) {k11 : Mm → Int32 → Int32 → Option (Int32 × Mm)} (hk11 : ∀ (τ : Mm) (v4 : Int32) (v5 : Int32) (H : Heap) (locs : List Loc), HI E (va_up σ 29 τ) ℓ s H locs → ∀ ls : Array Slot, lv_has ls 9 [(0, .ref (Ea E 29 0)), (1, .int p0), (2, .int p1), (3, .int p2), (4, .int v4), (5, .int v5)] → k11 τ v4 v5 = some out → W p l e rm_X9_holds s m args below meth c H locs 0 0 (MQ below (Po E s.heap.size (some (.int out.1)) (va_up σ 29 out.2) ℓ) args s 0 0 (AA E s.heap.size)) (F0 m 11 ls [])) : ∀ (τ : Mm) (v4 : Int32) (v5 : Int32) (w1 : Int32) (w2 : Int32) (H : Heap) (locs : List Loc) (h : HI E (va_up σ 29 τ) ℓ s H locs) (ls : Array Slot) (hl : lv_has ls 9 [(0, .ref (Ea E 29 0)), (1, .int p0), (2, .int p1), (3, .int p2), (4, .int v4), (5, .int v5)]), f_X9_holds_147 p0 p1 p2 k11 τ v4 v5 w1 w2 = some out → W p l e rm_X9_holds s m args below meth c H locs 0 0 (MQ below (Po E s.heap.size (some (.int out.1)) (va_up σ 29 out.2) ℓ) args s 0 0 (AA E s.heap.size)) (F0 m 147 ls [.int w2, .int w1, .ref (Ea E 29 18)]) := by
  intro τ v4 v5 w1 w2 H locs h ls hl hf
  unfold f_X9_holds_147 at hf
  have C0 := C
  obtain ⟨hx, hb, hr, hml, hown, hts, hlk, hK, hSF⟩ := C0
  obtain ⟨g26, hf⟩ := gd_use hf
  refine sa_9_18 C h (rfl : Kd 29 = 9) up_eq (F := fun t => va_up σ 29 t) (fun _ => up_up) (inB_in g26) dX9_holds_147 (fun τ27 eτ27 H locs h => ?_)
  replace hf := lt_use eτ27 hf
  clear eτ27
  refine lv_goto (tgt := 247) hx hb dX9_holds_148 (by decide) ?_
  exact w_X9_holds_247    C hk11 _ _ _ _ _ h ls (lv_sub hl [0, 1, 2, 3, 4, 5] rfl) hf
set_option maxHeartbeats 4000000 in
set_option maxRecDepth 100000 in
theorem w_X9_holds_142 {p : Program} {l : Launch} {e : Env} {s : State} {m : MethodId} {args : Array Value} {below : List Frame} {meth : Method} {c : Code} {E : Ev} {σ : Ms} {ℓ : Mz} {p0 : Int32} {p1 : Int32} {p2 : Int32} {out : Int32 × Mm}   (C : Cx cX9_holds 9 (some .boolean) wsX9_holds RX9 E p s m args meth c) {k11 : Mm → Int32 → Int32 → Option (Int32 × Mm)} (hk11 : ∀ (τ : Mm) (v4 : Int32) (v5 : Int32) (H : Heap) (locs : List Loc), HI E (va_up σ 29 τ) ℓ s H locs → ∀ ls : Array Slot, lv_has ls 9 [(0, .ref (Ea E 29 0)), (1, .int p0), (2, .int p1), (3, .int p2), (4, .int v4), (5, .int v5)] → k11 τ v4 v5 = some out → W p l e rm_X9_holds s m args below meth c H locs 0 0 (MQ below (Po E s.heap.size (some (.int out.1)) (va_up σ 29 out.2) ℓ) args s 0 0 (AA E s.heap.size)) (F0 m 11 ls [])) : ∀ (τ : Mm) (v4 : Int32) (v5 : Int32) (w1 : Int32) (H : Heap) (locs : List Loc) (h : HI E (va_up σ 29 τ) ℓ s H locs) (ls : Array Slot) (hl : lv_has ls 9 [(0, .ref (Ea E 29 0)), (1, .int p0), (2, .int p1), (3, .int p2), (4, .int v4), (5, .int v5)]), f_X9_holds_142 p0 p1 p2 k11 τ v4 v5 w1 = some out → W p l e rm_X9_holds s m args below meth c H locs 0 0 (MQ below (Po E s.heap.size (some (.int out.1)) (va_up σ 29 out.2) ℓ) args s 0 0 (AA E s.heap.size)) (F0 m 142 ls [.int w1, .ref (Ea E 29 18)]) := by
  intro τ v4 v5 w1 H locs h ls hl hf
  unfold f_X9_holds_142 at hf
  have C0 := C
  obtain ⟨hx, hb, hr, hml, hown, hts, hlk, hK, hSF⟩ := C0
  refine lv_iconst (v := (1 : Int32)) hx hb dX9_holds_142 (by decide) ?_
  refine lv_goto (tgt := 147) hx hb dX9_holds_143 (by decide) ?_
  exact w_X9_holds_147    C hk11 _ _ _ _ _ _ _ h ls (lv_sub hl [0, 1, 2, 3, 4, 5] rfl) hf
set_option maxHeartbeats 4000000 in
set_option maxRecDepth 100000 in
theorem w_X9_holds_116 {p : Program} {l : Launch} {e : Env} {s : State} {m : MethodId} {args : Array Value} {below : List Frame} {meth : Method} {c : Code} {E : Ev} {σ : Ms} {ℓ : Mz} {p0 : Int32} {p1 : Int32} {p2 : Int32} {out : Int32 × Mm}   (C : Cx cX9_holds 9 (some .boolean) wsX9_holds RX9 E p s m args meth c) {k11 : Mm → Int32 → Int32 → Option (Int32 × Mm)} (hk11 : ∀ (τ : Mm) (v4 : Int32) (v5 : Int32) (H : Heap) (locs : List Loc), HI E (va_up σ 29 τ) ℓ s H locs → ∀ ls : Array Slot, lv_has ls 9 [(0, .ref (Ea E 29 0)), (1, .int p0), (2, .int p1), (3, .int p2), (4, .int v4), (5, .int v5)] → k11 τ v4 v5 = some out → W p l e rm_X9_holds s m args below meth c H locs 0 0 (MQ below (Po E s.heap.size (some (.int out.1)) (va_up σ 29 out.2) ℓ) args s 0 0 (AA E s.heap.size)) (F0 m 11 ls [])) : ∀ (τ : Mm) (v4 : Int32) (v5 : Int32) (w1 : Int32) (H : Heap) (locs : List Loc) (h : HI E (va_up σ 29 τ) ℓ s H locs) (ls : Array Slot) (hl : lv_has ls 9 [(0, .ref (Ea E 29 0)), (1, .int p0), (2, .int p1), (3, .int p2), (4, .int v4), (5, .int v5)]), f_X9_holds_116 p0 p1 p2 k11 τ v4 v5 w1 = some out → W p l e rm_X9_holds s m args below meth c H locs 0 0 (MQ below (Po E s.heap.size (some (.int out.1)) (va_up σ 29 out.2) ℓ) args s 0 0 (AA E s.heap.size)) (F0 m 116 ls [.int w1, .ref (Ea E 29 18)]) := by
  intro τ v4 v5 w1 H locs h ls hl hf
  unfold f_X9_holds_116 at hf
  have C0 := C
  obtain ⟨hx, hb, hr, hml, hown, hts, hlk, hK, hSF⟩ := C0
  refine lv_iconst (v := (0 : Int32)) hx hb dX9_holds_116 (by decide) ?_
  refine lv_goto (tgt := 147) hx hb dX9_holds_117 (by decide) ?_
  exact w_X9_holds_147    C hk11 _ _ _ _ _ _ _ h ls (lv_sub hl [0, 1, 2, 3, 4, 5] rfl) hf
set_option maxHeartbeats 4000000 in
set_option maxRecDepth 100000 in
theorem w_X9_holds_63 {p : Program} {l : Launch} {e : Env} {s : State} {m : MethodId} {args : Array Value} {below : List Frame} {meth : Method} {c : Code} {E : Ev} {σ : Ms} {ℓ : Mz} {p0 : Int32} {p1 : Int32} {p2 : Int32} {out : Int32 × Mm}   (C : Cx cX9_holds 9 (some .boolean) wsX9_holds RX9 E p s m args meth c) {k11 : Mm → Int32 → Int32 → Option (Int32 × Mm)} (hk11 : ∀ (τ : Mm) (v4 : Int32) (v5 : Int32) (H : Heap) (locs : List Loc), HI E (va_up σ 29 τ) ℓ s H locs → ∀ ls : Array Slot, lv_has ls 9 [(0, .ref (Ea E 29 0)), (1, .int p0), (2, .int p1), (3, .int p2), (4, .int v4), (5, .int v5)] → k11 τ v4 v5 = some out → W p l e rm_X9_holds s m args below meth c H locs 0 0 (MQ below (Po E s.heap.size (some (.int out.1)) (va_up σ 29 out.2) ℓ) args s 0 0 (AA E s.heap.size)) (F0 m 11 ls [])) : ∀ (τ : Mm) (v4 : Int32) (v5 : Int32) (w1 : Int32) (w2 : Int32) (H : Heap) (locs : List Loc) (h : HI E (va_up σ 29 τ) ℓ s H locs) (ls : Array Slot) (hl : lv_has ls 9 [(0, .ref (Ea E 29 0)), (1, .int p0), (2, .int p1), (3, .int p2), (4, .int v4), (5, .int v5)]), f_X9_holds_63 p0 p1 p2 k11 τ v4 v5 w1 w2 = some out → W p l e rm_X9_holds s m args below meth c H locs 0 0 (MQ below (Po E s.heap.size (some (.int out.1)) (va_up σ 29 out.2) ℓ) args s 0 0 (AA E s.heap.size)) (F0 m 63 ls [.int w2, .int w1, .ref (Ea E 29 18)]) := by
  intro τ v4 v5 w1 w2 H locs h ls hl hf
  unfold f_X9_holds_63 at hf
  have C0 := C
  obtain ⟨hx, hb, hr, hml, hown, hts, hlk, hK, hSF⟩ := C0
  obtain ⟨g36, hf⟩ := gd_use hf
  refine sa_9_18 C h (rfl : Kd 29 = 9) up_eq (F := fun t => va_up σ 29 t) (fun _ => up_up) (inB_in g36) dX9_holds_63 (fun τ37 eτ37 H locs h => ?_)
  replace hf := lt_use eτ37 hf
  clear eτ37
  refine lv_goto (tgt := 247) hx hb dX9_holds_64 (by decide) ?_
  exact w_X9_holds_247    C hk11 _ _ _ _ _ h ls (lv_sub hl [0, 1, 2, 3, 4, 5] rfl) hf
set_option maxHeartbeats 4000000 in
set_option maxRecDepth 100000 in
theorem w_X9_holds_11 {p : Program} {l : Launch} {e : Env} {s : State} {m : MethodId} {args : Array Value} {below : List Frame} {meth : Method} {c : Code} {E : Ev} {σ : Ms} {ℓ : Mz} {p0 : Int32} {p1 : Int32} {p2 : Int32} {out : Int32 × Mm}   (C : Cx cX9_holds 9 (some .boolean) wsX9_holds RX9 E p s m args meth c) {k11 : Mm → Int32 → Int32 → Option (Int32 × Mm)} (hk11 : ∀ (τ : Mm) (v4 : Int32) (v5 : Int32) (H : Heap) (locs : List Loc), HI E (va_up σ 29 τ) ℓ s H locs → ∀ ls : Array Slot, lv_has ls 9 [(0, .ref (Ea E 29 0)), (1, .int p0), (2, .int p1), (3, .int p2), (4, .int v4), (5, .int v5)] → k11 τ v4 v5 = some out → W p l e rm_X9_holds s m args below meth c H locs 0 0 (MQ below (Po E s.heap.size (some (.int out.1)) (va_up σ 29 out.2) ℓ) args s 0 0 (AA E s.heap.size)) (F0 m 11 ls [])) : ∀ (τ : Mm) (v4 : Int32) (v5 : Int32) (H : Heap) (locs : List Loc) (h : HI E (va_up σ 29 τ) ℓ s H locs) (ls : Array Slot) (hl : lv_has ls 9 [(0, .ref (Ea E 29 0)), (1, .int p0), (2, .int p1), (3, .int p2), (4, .int v4), (5, .int v5)]), f_X9_holds_11 p0 p1 p2 k11 τ v4 v5 = some out → W p l e rm_X9_holds s m args below meth c H locs 0 0 (MQ below (Po E s.heap.size (some (.int out.1)) (va_up σ 29 out.2) ℓ) args s 0 0 (AA E s.heap.size)) (F0 m 11 ls []) := by
  intro τ v4 v5 H locs h ls hl hf
  unfold f_X9_holds_11 at hf
  have C0 := C
  obtain ⟨hx, hb, hr, hml, hown, hts, hlk, hK, hSF⟩ := C0
  refine lv_iload hx hb dX9_holds_11 (lv_at hl 5 rfl) ?_
  refine lv_aload_n hx hb dX9_holds_13 rfl (lv_at hl 0 rfl) ?_
  refine gf_9_23 C h (rfl : Kd 29 = 9) up_eq inX9_holds_9 lkX9_holds_80 dX9_holds_14 ?_
  refine lv_iload_n hx hb dX9_holds_17 rfl (lv_at hl 1 rfl) ?_
  obtain ⟨g3, hf⟩ := gd_use hf
  refine ld_9_14 C h (rfl : Kd 29 = 9) up_eq (inB_in g3) dX9_holds_18 ?_
  refine lv_icmp_ge (tgt := 253) hx hb dX9_holds_19 (by decide) (fun c4 => ?_) (fun c4 => ?_)
  · replace hf := it_t c4 hf
    refine lv_aload_n hx hb dX9_holds_253 rfl (lv_at hl 0 rfl) ?_
    refine gf_9_30 C h (rfl : Kd 29 = 9) up_eq inX9_holds_9 lkX9_holds_101 dX9_holds_254 ?_
    refine lv_iconst (v := (0 : Int32)) hx hb dX9_holds_257 (by decide) ?_
    obtain ⟨g5, hf⟩ := gd_use hf
    refine ld_9_18 C h (rfl : Kd 29 = 9) up_eq (inB_in g5) dX9_holds_258 ?_
    obtain ⟨g6, hf⟩ := gd_use hf
    replace hf := Option.some.inj hf
    subst hf
    exact r_zre C h (isB_use g6) dX9_holds_259
  replace hf := it_f c4 hf
  refine lv_aload_n hx hb dX9_holds_22 rfl (lv_at hl 0 rfl) ?_
  refine gf_9_24 C h (rfl : Kd 29 = 9) up_eq inX9_holds_9 lkX9_holds_83 dX9_holds_23 ?_
  refine lv_iload hx hb dX9_holds_26 (lv_at hl 5 rfl) ?_
  obtain ⟨g7, hf⟩ := gd_use hf
  refine ld_9_15 C h (rfl : Kd 29 = 9) up_eq (inB_in g7) dX9_holds_28 ?_
  refine lv_topi (fun x8 ex8 => ?_)
  replace hf := lt_use ex8 hf
  clear ex8
  refine lv_istore (lv' := [(6, .int x8), (0, .ref (Ea E 29 0)), (1, .int p0), (2, .int p1), (3, .int p2), (4, .int v4), (5, .int v5)]) hx hb dX9_holds_29 hl (by decide) rfl (fun ls hl => ?_)
  refine lv_iload hx hb dX9_holds_31 (lv_at hl 0 rfl) ?_
  refine lv_bipush (v := (-33 : Int32)) hx hb dX9_holds_33 (by decide) ?_
  refine lv_icmp_ne (tgt := 67) hx hb dX9_holds_35 (by decide) (fun c9 => ?_) (fun c9 => ?_)
  · replace hf := it_f c9 hf
    refine lv_iload hx hb dX9_holds_67 (lv_at hl 0 rfl) ?_
    refine lv_if_ge (tgt := 151) hx hb dX9_holds_69 (by decide) (fun c10 => ?_) (fun c10 => ?_)
    · replace hf := it_t c10 hf
      refine lv_aload_n hx hb dX9_holds_151 rfl (lv_at hl 1 rfl) ?_
      refine lv_iload hx hb dX9_holds_152 (lv_at hl 0 rfl) ?_
      refine lv_sipush (v := (1000 : Int32)) hx hb dX9_holds_154 (by decide) ?_
      refine lv_idiv hx hb dX9_holds_157 (by decide) ?_
      refine lv_iload_n hx hb dX9_holds_158 rfl (lv_at hl 3 rfl) ?_
      refine lv_iload_n hx hb dX9_holds_159 rfl (lv_at hl 4 rfl) ?_
      obtain ⟨u11, hu11, hf⟩ := bd_use hf
      refine r_cv_9 (rest := []) C h (c_X9_factOf up_eq hu11) (rfl : Kd 29 = 9) gX9_holds_X9_factOf rfl ⟨rfl, rfl⟩ hdX9_factOf ⟨Nat.le_of_ble_eq_true rfl, Nat.le_of_ble_eq_true rfl⟩ ⟨Nat.zero_le _, Nat.zero_le _⟩ hl.1 rfl (Nat.le_of_ble_eq_true rfl) dX9_holds_160 (fun H locs h => ?_)
      refine lv_istore (lv' := [(7, .int u11), (6, .int x8), (0, .ref (Ea E 29 0)), (1, .int p0), (2, .int p1), (3, .int p2), (4, .int v4), (5, .int v5)]) hx hb dX9_holds_163 hl (by decide) rfl (fun ls hl => ?_)
      refine lv_iload hx hb dX9_holds_165 (lv_at hl 1 rfl) ?_
      refine lv_bipush (v := (100 : Int32)) hx hb dX9_holds_167 (by decide) ?_
      refine lv_idiv hx hb dX9_holds_169 (by decide) ?_
      refine lv_bipush (v := (10 : Int32)) hx hb dX9_holds_170 (by decide) ?_
      refine lv_irem hx hb dX9_holds_172 (by decide) ?_
      refine lv_topi (fun x12 ex12 => ?_)
      replace hf := lt_use ex12 hf
      clear ex12
      refine lv_istore (lv' := [(8, .int x12), (7, .int u11), (6, .int x8), (0, .ref (Ea E 29 0)), (1, .int p0), (2, .int p1), (3, .int p2), (4, .int v4), (5, .int v5)]) hx hb dX9_holds_173 hl (by decide) rfl (fun ls hl => ?_)
      refine lv_aload_n hx hb dX9_holds_175 rfl (lv_at hl 3 rfl) ?_
      refine gf_9_30 C h (rfl : Kd 29 = 9) up_eq inX9_holds_9 lkX9_holds_101 dX9_holds_176 ?_
      refine lv_iload hx hb dX9_holds_179 (lv_at hl 7 rfl) ?_
      refine lv_iload hx hb dX9_holds_181 (lv_at hl 0 rfl) ?_
      refine lv_if_ne (tgt := 204) hx hb dX9_holds_183 (by decide) (fun c13 => ?_) (fun c13 => ?_)
      · replace hf := it_f c13 hf
        refine lv_iload hx hb dX9_holds_204 (lv_at hl 0 rfl) ?_
        refine lv_iconst (v := (1 : Int32)) hx hb dX9_holds_206 (by decide) ?_
        refine lv_icmp_ne (tgt := 228) hx hb dX9_holds_207 (by decide) (fun c14 => ?_) (fun c14 => ?_)
        · replace hf := it_f c14 hf
          refine lv_iload hx hb dX9_holds_228 (lv_at hl 1 rfl) ?_
          refine lv_iload hx hb dX9_holds_230 (lv_at hl 2 rfl) ?_
          refine lv_bipush (v := (100 : Int32)) hx hb dX9_holds_232 (by decide) ?_
          refine lv_irem hx hb dX9_holds_234 (by decide) ?_
          refine lv_icmp_le (tgt := 242) hx hb dX9_holds_235 (by decide) (fun c15 => ?_) (fun c15 => ?_)
          · replace hf := it_t c15 hf
            refine lv_iconst (v := (0 : Int32)) hx hb dX9_holds_242 (by decide) ?_
            exact w_X9_holds_243    C hk11 _ _ _ _ _ _ _ h ls (lv_sub hl [3, 4, 5, 6, 7, 8] rfl) hf
          replace hf := it_f c15 hf
          refine lv_iconst (v := (1 : Int32)) hx hb dX9_holds_238 (by decide) ?_
          refine lv_goto (tgt := 243) hx hb dX9_holds_239 (by decide) ?_
          exact w_X9_holds_243    C hk11 _ _ _ _ _ _ _ h ls (lv_sub hl [3, 4, 5, 6, 7, 8] rfl) hf
        replace hf := it_t c14 hf
        refine lv_iload hx hb dX9_holds_210 (lv_at hl 1 rfl) ?_
        refine lv_iload hx hb dX9_holds_212 (lv_at hl 2 rfl) ?_
        refine lv_bipush (v := (100 : Int32)) hx hb dX9_holds_214 (by decide) ?_
        refine lv_irem hx hb dX9_holds_216 (by decide) ?_
        refine lv_icmp_ne (tgt := 224) hx hb dX9_holds_217 (by decide) (fun c20 => ?_) (fun c20 => ?_)
        · replace hf := it_f c20 hf
          refine lv_iconst (v := (0 : Int32)) hx hb dX9_holds_224 (by decide) ?_
          refine lv_goto (tgt := 243) hx hb dX9_holds_225 (by decide) ?_
          exact w_X9_holds_243    C hk11 _ _ _ _ _ _ _ h ls (lv_sub hl [3, 4, 5, 6, 7, 8] rfl) hf
        replace hf := it_t c20 hf
        refine lv_iconst (v := (1 : Int32)) hx hb dX9_holds_220 (by decide) ?_
        refine lv_goto (tgt := 243) hx hb dX9_holds_221 (by decide) ?_
        exact w_X9_holds_243    C hk11 _ _ _ _ _ _ _ h ls (lv_sub hl [3, 4, 5, 6, 7, 8] rfl) hf
      replace hf := it_t c13 hf
      refine lv_iload hx hb dX9_holds_186 (lv_at hl 1 rfl) ?_
      refine lv_iload hx hb dX9_holds_188 (lv_at hl 2 rfl) ?_
      refine lv_bipush (v := (100 : Int32)) hx hb dX9_holds_190 (by decide) ?_
      refine lv_irem hx hb dX9_holds_192 (by decide) ?_
      refine lv_icmp_ge (tgt := 200) hx hb dX9_holds_193 (by decide) (fun c21 => ?_) (fun c21 => ?_)
      · replace hf := it_t c21 hf
        refine lv_iconst (v := (0 : Int32)) hx hb dX9_holds_200 (by decide) ?_
        refine lv_goto (tgt := 243) hx hb dX9_holds_201 (by decide) ?_
        exact w_X9_holds_243    C hk11 _ _ _ _ _ _ _ h ls (lv_sub hl [3, 4, 5, 6, 7, 8] rfl) hf
      replace hf := it_f c21 hf
      refine lv_iconst (v := (1 : Int32)) hx hb dX9_holds_196 (by decide) ?_
      refine lv_goto (tgt := 243) hx hb dX9_holds_197 (by decide) ?_
      exact w_X9_holds_243    C hk11 _ _ _ _ _ _ _ h ls (lv_sub hl [3, 4, 5, 6, 7, 8] rfl) hf
    replace hf := it_f c10 hf
    obtain ⟨x22, ex22⟩ : ∃ y : Int32, y = (v4 + (-1 : Int32)) := ⟨_, rfl⟩
    refine lv_iinc (v := x22) (lv' := [(4, .int x22), (6, .int x8), (0, .ref (Ea E 29 0)), (1, .int p0), (2, .int p1), (3, .int p2), (5, .int v5)]) hx hb dX9_holds_72 hl (k := 5) rfl (by rw [ex22]; rfl) (by decide) rfl (fun ls hl => ?_)
    replace hf := lt_use ex22 hf
    clear ex22
    refine lv_aload_n hx hb dX9_holds_75 rfl (lv_at hl 2 rfl) ?_
    refine gf_9_30 C h (rfl : Kd 29 = 9) up_eq inX9_holds_9 lkX9_holds_101 dX9_holds_76 ?_
    refine lv_iload hx hb dX9_holds_79 (lv_at hl 0 rfl) ?_
    refine lv_iconst (v := (1 : Int32)) hx hb dX9_holds_81 (by decide) ?_
    refine lv_isub hx hb dX9_holds_82 ?_
    refine lv_iload hx hb dX9_holds_83 (lv_at hl 1 rfl) ?_
    refine lv_bipush (v := (-38 : Int32)) hx hb dX9_holds_85 (by decide) ?_
    refine lv_icmp_ne (tgt := 120) hx hb dX9_holds_87 (by decide) (fun c23 => ?_) (fun c23 => ?_)
    · replace hf := it_f c23 hf
      refine lv_aload_n hx hb dX9_holds_120 rfl (lv_at hl 2 rfl) ?_
      refine gf_9_30 C h (rfl : Kd 29 = 9) up_eq inX9_holds_9 lkX9_holds_101 dX9_holds_121 ?_
      refine lv_iload hx hb dX9_holds_124 (lv_at hl 0 rfl) ?_
      refine lv_iconst (v := (1 : Int32)) hx hb dX9_holds_126 (by decide) ?_
      refine lv_isub hx hb dX9_holds_127 ?_
      obtain ⟨g24, hf⟩ := gd_use hf
      refine ld_9_18 C h (rfl : Kd 29 = 9) up_eq (inB_in g24) dX9_holds_128 ?_
      refine lv_if_ne (tgt := 142) hx hb dX9_holds_129 (by decide) (fun c25 => ?_) (fun c25 => ?_)
      · replace hf := it_f c25 hf
        exact w_X9_holds_142    C hk11 _ _ _ _ _ _ h ls (lv_sub hl [2, 3, 4, 5, 0, 6] rfl) hf
      replace hf := it_t c25 hf
      refine lv_aload_n hx hb dX9_holds_132 rfl (lv_at hl 2 rfl) ?_
      refine gf_9_30 C h (rfl : Kd 29 = 9) up_eq inX9_holds_9 lkX9_holds_101 dX9_holds_133 ?_
      refine lv_iload hx hb dX9_holds_136 (lv_at hl 0 rfl) ?_
      obtain ⟨g28, hf⟩ := gd_use hf
      refine ld_9_18 C h (rfl : Kd 29 = 9) up_eq (inB_in g28) dX9_holds_138 ?_
      refine lv_if_eq (tgt := 146) hx hb dX9_holds_139 (by decide) (fun c29 => ?_) (fun c29 => ?_)
      · replace hf := it_t c29 hf
        refine lv_iconst (v := (0 : Int32)) hx hb dX9_holds_146 (by decide) ?_
        exact w_X9_holds_147    C hk11 _ _ _ _ _ _ _ h ls (lv_sub hl [2, 3, 4, 5, 0, 6] rfl) hf
      replace hf := it_f c29 hf
      exact w_X9_holds_142    C hk11 _ _ _ _ _ _ h ls (lv_sub hl [2, 3, 4, 5, 0, 6] rfl) hf
    replace hf := it_t c23 hf
    refine lv_aload_n hx hb dX9_holds_90 rfl (lv_at hl 2 rfl) ?_
    refine gf_9_30 C h (rfl : Kd 29 = 9) up_eq inX9_holds_9 lkX9_holds_101 dX9_holds_91 ?_
    refine lv_iload hx hb dX9_holds_94 (lv_at hl 0 rfl) ?_
    refine lv_iconst (v := (1 : Int32)) hx hb dX9_holds_96 (by decide) ?_
    refine lv_isub hx hb dX9_holds_97 ?_
    obtain ⟨g30, hf⟩ := gd_use hf
    refine ld_9_18 C h (rfl : Kd 29 = 9) up_eq (inB_in g30) dX9_holds_98 ?_
    refine lv_if_eq (tgt := 116) hx hb dX9_holds_99 (by decide) (fun c31 => ?_) (fun c31 => ?_)
    · replace hf := it_t c31 hf
      exact w_X9_holds_116    C hk11 _ _ _ _ _ _ h ls (lv_sub hl [2, 3, 4, 5, 0, 6] rfl) hf
    replace hf := it_f c31 hf
    refine lv_aload_n hx hb dX9_holds_102 rfl (lv_at hl 2 rfl) ?_
    refine gf_9_30 C h (rfl : Kd 29 = 9) up_eq inX9_holds_9 lkX9_holds_101 dX9_holds_103 ?_
    refine lv_iload hx hb dX9_holds_106 (lv_at hl 0 rfl) ?_
    obtain ⟨g32, hf⟩ := gd_use hf
    refine ld_9_18 C h (rfl : Kd 29 = 9) up_eq (inB_in g32) dX9_holds_108 ?_
    refine lv_if_eq (tgt := 116) hx hb dX9_holds_109 (by decide) (fun c33 => ?_) (fun c33 => ?_)
    · replace hf := it_t c33 hf
      exact w_X9_holds_116    C hk11 _ _ _ _ _ _ h ls (lv_sub hl [2, 3, 4, 5, 0, 6] rfl) hf
    replace hf := it_f c33 hf
    refine lv_iconst (v := (1 : Int32)) hx hb dX9_holds_112 (by decide) ?_
    refine lv_goto (tgt := 147) hx hb dX9_holds_113 (by decide) ?_
    exact w_X9_holds_147    C hk11 _ _ _ _ _ _ _ h ls (lv_sub hl [2, 3, 4, 5, 0, 6] rfl) hf
  replace hf := it_t c9 hf
  refine lv_aload_n hx hb dX9_holds_38 rfl (lv_at hl 1 rfl) ?_
  refine gf_9_30 C h (rfl : Kd 29 = 9) up_eq inX9_holds_9 lkX9_holds_101 dX9_holds_39 ?_
  refine lv_iload hx hb dX9_holds_42 (lv_at hl 5 rfl) ?_
  refine lv_iconst (v := (1 : Int32)) hx hb dX9_holds_44 (by decide) ?_
  refine lv_isub hx hb dX9_holds_45 ?_
  refine lv_aload_n hx hb dX9_holds_46 rfl (lv_at hl 1 rfl) ?_
  refine gf_9_30 C h (rfl : Kd 29 = 9) up_eq inX9_holds_9 lkX9_holds_101 dX9_holds_47 ?_
  refine lv_iload hx hb dX9_holds_50 (lv_at hl 5 rfl) ?_
  refine lv_iconst (v := (1 : Int32)) hx hb dX9_holds_52 (by decide) ?_
  refine lv_isub hx hb dX9_holds_53 ?_
  obtain ⟨g34, hf⟩ := gd_use hf
  refine ld_9_18 C h (rfl : Kd 29 = 9) up_eq (inB_in g34) dX9_holds_54 ?_
  refine lv_if_ne (tgt := 62) hx hb dX9_holds_55 (by decide) (fun c35 => ?_) (fun c35 => ?_)
  · replace hf := it_f c35 hf
    refine lv_iconst (v := (0 : Int32)) hx hb dX9_holds_62 (by decide) ?_
    exact w_X9_holds_63    C hk11 _ _ _ _ _ _ _ h ls (lv_sub hl [1, 2, 3, 4, 5, 6] rfl) hf
  replace hf := it_t c35 hf
  refine lv_iconst (v := (1 : Int32)) hx hb dX9_holds_58 (by decide) ?_
  refine lv_goto (tgt := 63) hx hb dX9_holds_59 (by decide) ?_
  exact w_X9_holds_63    C hk11 _ _ _ _ _ _ _ h ls (lv_sub hl [1, 2, 3, 4, 5, 6] rfl) hf
set_option maxHeartbeats 4000000 in
set_option maxRecDepth 100000 in
theorem w_X9_holds_11L {p : Program} {l : Launch} {e : Env} {s : State} {m : MethodId} {args : Array Value} {below : List Frame} {meth : Method} {c : Code} {E : Ev} {σ : Ms} {ℓ : Mz} {p0 : Int32} {p1 : Int32} {p2 : Int32} {out : Int32 × Mm}   (C : Cx cX9_holds 9 (some .boolean) wsX9_holds RX9 E p s m args meth c)  : ∀ (n9 : Nat) (τ : Mm) (v4 : Int32) (v5 : Int32) (H : Heap) (locs : List Loc) (h : HI E (va_up σ 29 τ) ℓ s H locs) (ls : Array Slot) (hl : lv_has ls 9 [(0, .ref (Ea E 29 0)), (1, .int p0), (2, .int p1), (3, .int p2), (4, .int v4), (5, .int v5)]), f_X9_holds_11L p0 p1 p2  n9 τ v4 v5 = some out → W p l e rm_X9_holds s m args below meth c H locs 0 0 (MQ below (Po E s.heap.size (some (.int out.1)) (va_up σ 29 out.2) ℓ) args s 0 0 (AA E s.heap.size)) (F0 m 11 ls []) := by
  intro n9
  induction n9 with
  | zero =>
    intro τ v4 v5 H locs h ls hl hf
    cases (show (none : Option (Int32 × Mm)) = some out from hf)
  | succ n9 ih =>
    intro τ v4 v5 H locs h ls hl hf
    exact w_X9_holds_11   C  ih τ v4 v5 H locs h ls hl hf
set_option maxHeartbeats 4000000 in
set_option maxRecDepth 100000 in
theorem w_X9_holds_0 {p : Program} {l : Launch} {e : Env} {s : State} {m : MethodId} {args : Array Value} {below : List Frame} {meth : Method} {c : Code} {E : Ev} {σ : Ms} {ℓ : Mz} {p0 : Int32} {p1 : Int32} {p2 : Int32} {out : Int32 × Mm}   (C : Cx cX9_holds 9 (some .boolean) wsX9_holds RX9 E p s m args meth c)  : ∀ (τ : Mm) (H : Heap) (locs : List Loc) (h : HI E (va_up σ 29 τ) ℓ s H locs) (ls : Array Slot) (hl : lv_has ls 9 [(0, .ref (Ea E 29 0)), (1, .int p0), (2, .int p1), (3, .int p2)]), f_X9_holds_0 p0 p1 p2  τ = some out → W p l e rm_X9_holds s m args below meth c H locs 0 0 (MQ below (Po E s.heap.size (some (.int out.1)) (va_up σ 29 out.2) ℓ) args s 0 0 (AA E s.heap.size)) (F0 m 0 ls []) := by
  intro τ H locs h ls hl hf
  unfold f_X9_holds_0 at hf
  have C0 := C
  obtain ⟨hx, hb, hr, hml, hown, hts, hlk, hK, hSF⟩ := C0
  refine lv_iconst (v := (0 : Int32)) hx hb dX9_holds_0 (by decide) ?_
  refine lv_istore (lv' := [(4, .int (0 : Int32)), (0, .ref (Ea E 29 0)), (1, .int p0), (2, .int p1), (3, .int p2)]) hx hb dX9_holds_1 hl (by decide) rfl (fun ls hl => ?_)
  refine lv_aload_n hx hb dX9_holds_3 rfl (lv_at hl 1 rfl) ?_
  refine gf_9_22 C h (rfl : Kd 29 = 9) up_eq inX9_holds_9 lkX9_holds_77 dX9_holds_4 ?_
  refine lv_iload_n hx hb dX9_holds_7 rfl (lv_at hl 2 rfl) ?_
  obtain ⟨g1, hf⟩ := gd_use hf
  refine ld_9_13 C h (rfl : Kd 29 = 9) up_eq (inB_in g1) dX9_holds_8 ?_
  refine lv_topi (fun x2 ex2 => ?_)
  replace hf := lt_use ex2 hf
  clear ex2
  refine lv_istore (lv' := [(5, .int x2), (4, .int (0 : Int32)), (0, .ref (Ea E 29 0)), (1, .int p0), (2, .int p1), (3, .int p2)]) hx hb dX9_holds_9 hl (by decide) rfl (fun ls hl => ?_)
  exact w_X9_holds_11L    C  _ _ _ _ _ _ h ls (lv_sub hl [2, 3, 4, 5, 1, 0] rfl) hf
theorem c_X9_holds {l : Launch} {E : Ev} {σ : Ms} {ℓ : Mz} {τ : Mm} {p0 : Int32} {p1 : Int32} {p2 : Int32} {out : Int32 × Mm} (hf : f_X9_holds τ p0 p1 p2 = some out) : Ct l yX9_holds wsX9_holds rm_X9_holds [.ref (Ea E 29 0), .int p0, .int p1, .int p2] E (va_up σ 29 τ) ℓ (some (.int out.1)) (va_up σ 29 out.2) ℓ := by
  refine Ct_mk (cc := cX9_holds) (mL := 9) (ret := (some .boolean)) (own := RX9) (by decide +kernel) rfl rfl (Nat.le_of_ble_eq_true rfl) (fun p e s m below meth c C h ls hl => ?_)
  exact w_X9_holds_0  C τ _ _ h ls (lv_sub hl [0, 1, 2, 3] rfl) hf
theorem k_X9_holds {l : Launch} {E : Ev} {σ : Ms} {ℓ : Mz} {τ : Mm} {p0 : Int32} {p1 : Int32} {p2 : Int32} (hτ : σ 29 = τ) {out : Int32 × Mm} (hf : f_X9_holds τ p0 p1 p2 = some out) : Ct l yX9_holds wsX9_holds rm_X9_holds [.ref (Ea E 29 0), .int p0, .int p1, .int p2] E σ ℓ (some (.int out.1)) (va_up σ 29 out.2) ℓ := by
  subst hτ
  have h := c_X9_holds (l := l) (E := E) (σ := σ) (ℓ := ℓ)  hf
  rw [up_id σ 29] at h
  exact h
theorem hdX9_sum : yX9_sum.cls = RX9 ∧ yX9_sum.cls ≠ "java/lang/invoke/MethodHandle" ∧ yX9_sum.cls ≠ "java/lang/invoke/VarHandle" ∧ (parseMethodDescriptor yX9_sum.desc).map (fun d => d.parameters.length) = some 2 := by decide +kernel
def rm_X9_sum : Room := { frames := 3, cells := 0, slots := 0, locals := 73 }
set_option maxRecDepth 100000 in
theorem inX9_sum_9 : ∀ w ∈ wsX90, w ∈ wsX9_sum := fun _ h => List.mem_cons_of_mem _ (List.mem_append_right _ h)
set_option maxRecDepth 100000 in
theorem lkX9_sum_32 : Cond.fieldLink RX9 32 "BellsBelowModel" "floor" "[I" ∈ wsX9_sum := by decide +kernel
set_option maxRecDepth 100000 in
theorem lkX9_sum_71 : Cond.fieldLink RX9 71 "BellsBelowModel" "word" "[I" ∈ wsX9_sum := by decide +kernel
set_option maxRecDepth 100000 in
theorem lkX9_sum_74 : Cond.fieldLink RX9 74 "BellsBelowModel" "number" "[I" ∈ wsX9_sum := by decide +kernel
set_option maxHeartbeats 4000000 in
set_option maxRecDepth 100000 in
theorem w_X9_sum_85 {p : Program} {l : Launch} {e : Env} {s : State} {m : MethodId} {args : Array Value} {below : List Frame} {meth : Method} {c : Code} {E : Ev} {σ : Ms} {ℓ : Mz} {p0 : Int32} {p1 : Int32} {out : Int32 × Mm}   (C : Cx cX9_sum 5 (some .int) wsX9_sum RX9 E p s m args meth c) {k20 : Mm → Int32 → Int32 → Option (Int32 × Mm)} (hk20 : ∀ (τ : Mm) (v3 : Int32) (v4 : Int32) (H : Heap) (locs : List Loc), HI E (va_up σ 29 τ) ℓ s H locs → ∀ ls : Array Slot, lv_has ls 5 [(0, .ref (Ea E 29 0)), (1, .int p0), (2, .int p1), (3, .int v3), (4, .int v4)] → k20 τ v3 v4 = some out → W p l e rm_X9_sum s m args below meth c H locs 0 0 (MQ below (Po E s.heap.size (some (.int out.1)) (va_up σ 29 out.2) ℓ) args s 0 0 (AA E s.heap.size)) (F0 m 20 ls [])) : ∀ (τ : Mm) (v3 : Int32) (v4 : Int32) (H : Heap) (locs : List Loc) (h : HI E (va_up σ 29 τ) ℓ s H locs) (ls : Array Slot) (hl : lv_has ls 5 [(0, .ref (Ea E 29 0)), (1, .int p0), (2, .int p1), (3, .int v3), (4, .int v4)]), f_X9_sum_85 p0 p1 k20 τ v3 v4 = some out → W p l e rm_X9_sum s m args below meth c H locs 0 0 (MQ below (Po E s.heap.size (some (.int out.1)) (va_up σ 29 out.2) ℓ) args s 0 0 (AA E s.heap.size)) (F0 m 85 ls []) := by
  intro τ v3 v4 H locs h ls hl hf
  unfold f_X9_sum_85 at hf
  have C0 := C
  obtain ⟨hx, hb, hr, hml, hown, hts, hlk, hK, hSF⟩ := C0
  obtain ⟨x9, ex9⟩ : ∃ y : Int32, y = (v4 + (1 : Int32)) := ⟨_, rfl⟩
  refine lv_iinc (v := x9) (lv' := [(4, .int x9), (0, .ref (Ea E 29 0)), (1, .int p0), (2, .int p1), (3, .int v3)]) hx hb dX9_sum_85 hl (k := 4) rfl (by rw [ex9]; rfl) (by decide) rfl (fun ls hl => ?_)
  replace hf := lt_use ex9 hf
  clear ex9
  refine lv_goto (tgt := 20) hx hb dX9_sum_88 (by decide) ?_
  exact hk20 _ _ _ _ _ h ls (lv_sub hl [1, 2, 3, 4, 0] rfl) hf
set_option maxHeartbeats 4000000 in
set_option maxRecDepth 100000 in
theorem w_X9_sum_83 {p : Program} {l : Launch} {e : Env} {s : State} {m : MethodId} {args : Array Value} {below : List Frame} {meth : Method} {c : Code} {E : Ev} {σ : Ms} {ℓ : Mz} {p0 : Int32} {p1 : Int32} {out : Int32 × Mm}   (C : Cx cX9_sum 5 (some .int) wsX9_sum RX9 E p s m args meth c) {k20 : Mm → Int32 → Int32 → Option (Int32 × Mm)} (hk20 : ∀ (τ : Mm) (v3 : Int32) (v4 : Int32) (H : Heap) (locs : List Loc), HI E (va_up σ 29 τ) ℓ s H locs → ∀ ls : Array Slot, lv_has ls 5 [(0, .ref (Ea E 29 0)), (1, .int p0), (2, .int p1), (3, .int v3), (4, .int v4)] → k20 τ v3 v4 = some out → W p l e rm_X9_sum s m args below meth c H locs 0 0 (MQ below (Po E s.heap.size (some (.int out.1)) (va_up σ 29 out.2) ℓ) args s 0 0 (AA E s.heap.size)) (F0 m 20 ls [])) : ∀ (τ : Mm) (v4 : Int32) (w0 : Int32) (w1 : Int32) (H : Heap) (locs : List Loc) (h : HI E (va_up σ 29 τ) ℓ s H locs) (ls : Array Slot) (hl : lv_has ls 5 [(0, .ref (Ea E 29 0)), (1, .int p0), (2, .int p1), (4, .int v4)]), f_X9_sum_83 p0 p1 k20 τ v4 w0 w1 = some out → W p l e rm_X9_sum s m args below meth c H locs 0 0 (MQ below (Po E s.heap.size (some (.int out.1)) (va_up σ 29 out.2) ℓ) args s 0 0 (AA E s.heap.size)) (F0 m 83 ls [.int w1, .int w0]) := by
  intro τ v4 w0 w1 H locs h ls hl hf
  unfold f_X9_sum_83 at hf
  have C0 := C
  obtain ⟨hx, hb, hr, hml, hown, hts, hlk, hK, hSF⟩ := C0
  refine lv_iadd hx hb dX9_sum_83 ?_
  refine lv_topi (fun x15 ex15 => ?_)
  replace hf := lt_use ex15 hf
  clear ex15
  refine lv_istore_n (lv' := [(3, .int x15), (0, .ref (Ea E 29 0)), (1, .int p0), (2, .int p1), (4, .int v4)]) hx hb dX9_sum_84 rfl hl (by decide) rfl (fun ls hl => ?_)
  exact w_X9_sum_85    C hk20 _ _ _ _ _ h ls (lv_sub hl [1, 2, 3, 0, 4] rfl) hf
set_option maxHeartbeats 4000000 in
set_option maxRecDepth 100000 in
theorem w_X9_sum_20 {p : Program} {l : Launch} {e : Env} {s : State} {m : MethodId} {args : Array Value} {below : List Frame} {meth : Method} {c : Code} {E : Ev} {σ : Ms} {ℓ : Mz} {p0 : Int32} {p1 : Int32} {out : Int32 × Mm}   (C : Cx cX9_sum 5 (some .int) wsX9_sum RX9 E p s m args meth c) {k20 : Mm → Int32 → Int32 → Option (Int32 × Mm)} (hk20 : ∀ (τ : Mm) (v3 : Int32) (v4 : Int32) (H : Heap) (locs : List Loc), HI E (va_up σ 29 τ) ℓ s H locs → ∀ ls : Array Slot, lv_has ls 5 [(0, .ref (Ea E 29 0)), (1, .int p0), (2, .int p1), (3, .int v3), (4, .int v4)] → k20 τ v3 v4 = some out → W p l e rm_X9_sum s m args below meth c H locs 0 0 (MQ below (Po E s.heap.size (some (.int out.1)) (va_up σ 29 out.2) ℓ) args s 0 0 (AA E s.heap.size)) (F0 m 20 ls [])) : ∀ (τ : Mm) (v3 : Int32) (v4 : Int32) (H : Heap) (locs : List Loc) (h : HI E (va_up σ 29 τ) ℓ s H locs) (ls : Array Slot) (hl : lv_has ls 5 [(0, .ref (Ea E 29 0)), (1, .int p0), (2, .int p1), (3, .int v3), (4, .int v4)]), f_X9_sum_20 p0 p1 k20 τ v3 v4 = some out → W p l e rm_X9_sum s m args below meth c H locs 0 0 (MQ below (Po E s.heap.size (some (.int out.1)) (va_up σ 29 out.2) ℓ) args s 0 0 (AA E s.heap.size)) (F0 m 20 ls []) := by
  intro τ v3 v4 H locs h ls hl hf
  unfold f_X9_sum_20 at hf
  have C0 := C
  obtain ⟨hx, hb, hr, hml, hown, hts, hlk, hK, hSF⟩ := C0
  refine lv_iload hx hb dX9_sum_20 (lv_at hl 4 rfl) ?_
  refine lv_aload_n hx hb dX9_sum_22 rfl (lv_at hl 0 rfl) ?_
  obtain ⟨u5, hu5, hf⟩ := bd_use hf
  refine r_cv_9 (rest := [.int v4]) C h (c_X9_behind up_eq hu5) (rfl : Kd 29 = 9) gX9_sum_X9_behind rfl ⟨rfl, rfl⟩ hdX9_behind ⟨Nat.le_of_ble_eq_true rfl, Nat.le_of_ble_eq_true rfl⟩ ⟨Nat.zero_le _, Nat.zero_le _⟩ hl.1 rfl (Nat.le_of_ble_eq_true rfl) dX9_sum_23 (fun H locs h => ?_)
  refine lv_icmp_ge (tgt := 91) hx hb dX9_sum_26 (by decide) (fun c6 => ?_) (fun c6 => ?_)
  · replace hf := it_t c6 hf
    refine lv_iload_n hx hb dX9_sum_91 rfl (lv_at hl 3 rfl) ?_
    replace hf := Option.some.inj hf
    subst hf
    exact r_ire C h dX9_sum_92
  replace hf := it_f c6 hf
  refine lv_aload_n hx hb dX9_sum_29 rfl (lv_at hl 0 rfl) ?_
  refine gf_9_20 C h (rfl : Kd 29 = 9) up_eq inX9_sum_9 lkX9_sum_71 dX9_sum_30 ?_
  refine lv_iload hx hb dX9_sum_33 (lv_at hl 4 rfl) ?_
  obtain ⟨g7, hf⟩ := gd_use hf
  refine ld_9_11 C h (rfl : Kd 29 = 9) up_eq (inB_in g7) dX9_sum_35 ?_
  refine lv_iconst (v := (1 : Int32)) hx hb dX9_sum_36 (by decide) ?_
  refine lv_icmp_gt (tgt := 85) hx hb dX9_sum_37 (by decide) (fun c8 => ?_) (fun c8 => ?_)
  · replace hf := it_t c8 hf
    exact w_X9_sum_85    C hk20 _ _ _ _ _ h ls (lv_sub hl [0, 1, 2, 3, 4] rfl) hf
  replace hf := it_f c8 hf
  refine lv_aload_n hx hb dX9_sum_40 rfl (lv_at hl 0 rfl) ?_
  refine lv_iload hx hb dX9_sum_41 (lv_at hl 4 rfl) ?_
  refine lv_iload_n hx hb dX9_sum_43 rfl (lv_at hl 1 rfl) ?_
  refine lv_iload_n hx hb dX9_sum_44 rfl (lv_at hl 2 rfl) ?_
  obtain ⟨u10, hu10, hf⟩ := bd_use hf
  refine r_cv_9 (rest := []) C h (c_X9_holds  hu10) (rfl : Kd 29 = 9) gX9_sum_X9_holds rfl ⟨rfl, rfl⟩ hdX9_holds ⟨Nat.le_of_ble_eq_true rfl, Nat.le_of_ble_eq_true rfl⟩ ⟨Nat.zero_le _, Nat.zero_le _⟩ hl.1 rfl (Nat.le_of_ble_eq_true rfl) dX9_sum_45 (fun H locs h => ?_)
  refine lv_if_ne (tgt := 54) hx hb dX9_sum_48 (by decide) (fun c11 => ?_) (fun c11 => ?_)
  · replace hf := it_f c11 hf
    refine lv_iload_n hx hb dX9_sum_54 rfl (lv_at hl 3 rfl) ?_
    refine lv_aload_n hx hb dX9_sum_55 rfl (lv_at hl 0 rfl) ?_
    refine gf_9_20 C h (rfl : Kd 29 = 9) up_eq inX9_sum_9 lkX9_sum_71 dX9_sum_56 ?_
    refine lv_iload hx hb dX9_sum_59 (lv_at hl 4 rfl) ?_
    obtain ⟨g12, hf⟩ := gd_use hf
    refine ld_9_11 C h (rfl : Kd 29 = 9) up_eq (inB_in g12) dX9_sum_61 ?_
    refine lv_if_ne (tgt := 75) hx hb dX9_sum_62 (by decide) (fun c13 => ?_) (fun c13 => ?_)
    · replace hf := it_f c13 hf
      refine lv_aload_n hx hb dX9_sum_75 rfl (lv_at hl 0 rfl) ?_
      refine gf_9_21 C h (rfl : Kd 29 = 9) up_eq inX9_sum_9 lkX9_sum_74 dX9_sum_76 ?_
      refine lv_iload hx hb dX9_sum_79 (lv_at hl 4 rfl) ?_
      obtain ⟨g14, hf⟩ := gd_use hf
      refine ld_9_12 C h (rfl : Kd 29 = 9) up_eq (inB_in g14) dX9_sum_81 ?_
      refine lv_ineg hx hb dX9_sum_82 ?_
      exact w_X9_sum_83    C hk20 _ _ _ _ _ _ h ls (lv_sub hl [0, 1, 2, 4] rfl) hf
    replace hf := it_t c13 hf
    refine lv_aload_n hx hb dX9_sum_65 rfl (lv_at hl 0 rfl) ?_
    refine gf_9_21 C h (rfl : Kd 29 = 9) up_eq inX9_sum_9 lkX9_sum_74 dX9_sum_66 ?_
    refine lv_iload hx hb dX9_sum_69 (lv_at hl 4 rfl) ?_
    obtain ⟨g16, hf⟩ := gd_use hf
    refine ld_9_12 C h (rfl : Kd 29 = 9) up_eq (inB_in g16) dX9_sum_71 ?_
    refine lv_goto (tgt := 83) hx hb dX9_sum_72 (by decide) ?_
    exact w_X9_sum_83    C hk20 _ _ _ _ _ _ h ls (lv_sub hl [0, 1, 2, 4] rfl) hf
  replace hf := it_t c11 hf
  refine lv_goto (tgt := 85) hx hb dX9_sum_51 (by decide) ?_
  exact w_X9_sum_85    C hk20 _ _ _ _ _ h ls (lv_sub hl [0, 1, 2, 3, 4] rfl) hf
set_option maxHeartbeats 4000000 in
set_option maxRecDepth 100000 in
theorem w_X9_sum_20L {p : Program} {l : Launch} {e : Env} {s : State} {m : MethodId} {args : Array Value} {below : List Frame} {meth : Method} {c : Code} {E : Ev} {σ : Ms} {ℓ : Mz} {p0 : Int32} {p1 : Int32} {out : Int32 × Mm}   (C : Cx cX9_sum 5 (some .int) wsX9_sum RX9 E p s m args meth c)  : ∀ (n9 : Nat) (τ : Mm) (v3 : Int32) (v4 : Int32) (H : Heap) (locs : List Loc) (h : HI E (va_up σ 29 τ) ℓ s H locs) (ls : Array Slot) (hl : lv_has ls 5 [(0, .ref (Ea E 29 0)), (1, .int p0), (2, .int p1), (3, .int v3), (4, .int v4)]), f_X9_sum_20L p0 p1  n9 τ v3 v4 = some out → W p l e rm_X9_sum s m args below meth c H locs 0 0 (MQ below (Po E s.heap.size (some (.int out.1)) (va_up σ 29 out.2) ℓ) args s 0 0 (AA E s.heap.size)) (F0 m 20 ls []) := by
  intro n9
  induction n9 with
  | zero =>
    intro τ v3 v4 H locs h ls hl hf
    cases (show (none : Option (Int32 × Mm)) = some out from hf)
  | succ n9 ih =>
    intro τ v3 v4 H locs h ls hl hf
    exact w_X9_sum_20   C  ih τ v3 v4 H locs h ls hl hf
set_option maxHeartbeats 4000000 in
set_option maxRecDepth 100000 in
theorem w_X9_sum_0 {p : Program} {l : Launch} {e : Env} {s : State} {m : MethodId} {args : Array Value} {below : List Frame} {meth : Method} {c : Code} {E : Ev} {σ : Ms} {ℓ : Mz} {p0 : Int32} {p1 : Int32} {out : Int32 × Mm}   (C : Cx cX9_sum 5 (some .int) wsX9_sum RX9 E p s m args meth c)  : ∀ (τ : Mm) (H : Heap) (locs : List Loc) (h : HI E (va_up σ 29 τ) ℓ s H locs) (ls : Array Slot) (hl : lv_has ls 5 [(0, .ref (Ea E 29 0)), (1, .int p0), (2, .int p1)]), f_X9_sum_0 p0 p1  τ = some out → W p l e rm_X9_sum s m args below meth c H locs 0 0 (MQ below (Po E s.heap.size (some (.int out.1)) (va_up σ 29 out.2) ℓ) args s 0 0 (AA E s.heap.size)) (F0 m 0 ls []) := by
  intro τ H locs h ls hl hf
  unfold f_X9_sum_0 at hf
  have C0 := C
  obtain ⟨hx, hb, hr, hml, hown, hts, hlk, hK, hSF⟩ := C0
  refine lv_iconst (v := (2 : Int32)) hx hb dX9_sum_0 (by decide) ?_
  refine lv_aload_n hx hb dX9_sum_1 rfl (lv_at hl 0 rfl) ?_
  refine lv_aload_n hx hb dX9_sum_2 rfl (lv_at hl 0 rfl) ?_
  refine gf_9_7 C h (rfl : Kd 29 = 9) up_eq inX9_sum_9 lkX9_sum_32 dX9_sum_3 ?_
  refine lv_iload_n hx hb dX9_sum_6 rfl (lv_at hl 1 rfl) ?_
  obtain ⟨g1, hf⟩ := gd_use hf
  refine ld_9_3 C h (rfl : Kd 29 = 9) up_eq (inB_in g1) dX9_sum_7 ?_
  refine lv_iload_n hx hb dX9_sum_8 rfl (lv_at hl 2 rfl) ?_
  obtain ⟨u2, hu2, hf⟩ := bd_use hf
  refine r_cv_9 (rest := [.int (2 : Int32)]) C h (c_X9_apart  hu2) (rfl : Kd 29 = 9) gX9_sum_X9_apart rfl ⟨rfl, rfl⟩ hdX9_apart ⟨Nat.le_of_ble_eq_true rfl, Nat.le_of_ble_eq_true rfl⟩ ⟨Nat.zero_le _, Nat.zero_le _⟩ hl.1 rfl (Nat.le_of_ble_eq_true rfl) dX9_sum_9 (fun H locs h => ?_)
  refine lv_imul hx hb dX9_sum_12 ?_
  refine lv_topi (fun x3 ex3 => ?_)
  replace hf := lt_use ex3 hf
  clear ex3
  refine lv_istore_n (lv' := [(3, .int x3), (0, .ref (Ea E 29 0)), (1, .int p0), (2, .int p1)]) hx hb dX9_sum_13 rfl hl (by decide) rfl (fun ls hl => ?_)
  refine lv_aload_n hx hb dX9_sum_14 rfl (lv_at hl 1 rfl) ?_
  obtain ⟨u4, hu4, hf⟩ := bd_use hf
  refine r_cv_9 (rest := []) C h (c_X9_begin up_eq hu4) (rfl : Kd 29 = 9) gX9_sum_X9_begin rfl ⟨rfl, rfl⟩ hdX9_begin ⟨Nat.le_of_ble_eq_true rfl, Nat.le_of_ble_eq_true rfl⟩ ⟨Nat.zero_le _, Nat.zero_le _⟩ hl.1 rfl (Nat.le_of_ble_eq_true rfl) dX9_sum_15 (fun H locs h => ?_)
  refine lv_istore (lv' := [(4, .int u4), (3, .int x3), (0, .ref (Ea E 29 0)), (1, .int p0), (2, .int p1)]) hx hb dX9_sum_18 hl (by decide) rfl (fun ls hl => ?_)
  exact w_X9_sum_20L    C  _ _ _ _ _ _ h ls (lv_sub hl [2, 3, 4, 1, 0] rfl) hf
theorem c_X9_sum {l : Launch} {E : Ev} {σ : Ms} {ℓ : Mz} {τ : Mm} {p0 : Int32} {p1 : Int32} {out : Int32 × Mm} (hf : f_X9_sum τ p0 p1 = some out) : Ct l yX9_sum wsX9_sum rm_X9_sum [.ref (Ea E 29 0), .int p0, .int p1] E (va_up σ 29 τ) ℓ (some (.int out.1)) (va_up σ 29 out.2) ℓ := by
  refine Ct_mk (cc := cX9_sum) (mL := 5) (ret := (some .int)) (own := RX9) (by decide +kernel) rfl rfl (Nat.le_of_ble_eq_true rfl) (fun p e s m below meth c C h ls hl => ?_)
  exact w_X9_sum_0  C τ _ _ h ls (lv_sub hl [0, 1, 2] rfl) hf
theorem k_X9_sum {l : Launch} {E : Ev} {σ : Ms} {ℓ : Mz} {τ : Mm} {p0 : Int32} {p1 : Int32} (hτ : σ 29 = τ) {out : Int32 × Mm} (hf : f_X9_sum τ p0 p1 = some out) : Ct l yX9_sum wsX9_sum rm_X9_sum [.ref (Ea E 29 0), .int p0, .int p1] E σ ℓ (some (.int out.1)) (va_up σ 29 out.2) ℓ := by
  subst hτ
  have h := c_X9_sum (l := l) (E := E) (σ := σ) (ℓ := ℓ)  hf
  rw [up_id σ 29] at h
  exact h
theorem hdX9_cost : yX9_cost.cls = RX9 ∧ yX9_cost.cls ≠ "java/lang/invoke/MethodHandle" ∧ yX9_cost.cls ≠ "java/lang/invoke/VarHandle" ∧ (parseMethodDescriptor yX9_cost.desc).map (fun d => d.parameters.length) = some 2 := by decide +kernel
def rm_X9_cost : Room := { frames := 4, cells := 0, slots := 0, locals := 97 }
set_option maxRecDepth 100000 in
theorem inX9_cost_9 : ∀ w ∈ wsX90, w ∈ wsX9_cost := fun _ h => List.mem_cons_of_mem _ (List.mem_append_right _ h)
set_option maxRecDepth 100000 in
theorem lkX9_cost_32 : Cond.fieldLink RX9 32 "BellsBelowModel" "floor" "[I" ∈ wsX9_cost := by decide +kernel
set_option maxRecDepth 100000 in
theorem lkX9_cost_25 : Cond.fieldLink RX9 25 "BellsBelowModel" "kind" "[I" ∈ wsX9_cost := by decide +kernel
set_option maxRecDepth 100000 in
theorem lkX9_cost_41 : Cond.fieldLink RX9 41 "BellsBelowModel" "came" "[I" ∈ wsX9_cost := by decide +kernel
set_option maxRecDepth 100000 in
theorem lkX9_cost_22 : Cond.fieldLink RX9 22 "BellsBelowModel" "minute" "I" ∈ wsX9_cost := by decide +kernel
set_option maxRecDepth 100000 in
theorem lkX9_cost_29 : Cond.fieldLink RX9 29 "BellsBelowModel" "v" "[I" ∈ wsX9_cost := by decide +kernel
set_option maxRecDepth 100000 in
theorem lkX9_cost_44 : Cond.fieldLink RX9 44 "BellsBelowModel" "rows" "[I" ∈ wsX9_cost := by decide +kernel
set_option maxHeartbeats 4000000 in
set_option maxRecDepth 100000 in
theorem w_X9_cost_116 {p : Program} {l : Launch} {e : Env} {s : State} {m : MethodId} {args : Array Value} {below : List Frame} {meth : Method} {c : Code} {E : Ev} {σ : Ms} {ℓ : Mz} {p0 : Int32} {p1 : Int32} {out : Int32 × Mm}   (C : Cx cX9_cost 5 (some .int) wsX9_cost RX9 E p s m args meth c)  : ∀ (τ : Mm) (w0 : Int32) (w1 : Int32) (H : Heap) (locs : List Loc) (h : HI E (va_up σ 29 τ) ℓ s H locs) (ls : Array Slot) (hl : lv_has ls 5 []), f_X9_cost_116 p0 p1  τ w0 w1 = some out → W p l e rm_X9_cost s m args below meth c H locs 0 0 (MQ below (Po E s.heap.size (some (.int out.1)) (va_up σ 29 out.2) ℓ) args s 0 0 (AA E s.heap.size)) (F0 m 116 ls [.int w1, .int w0]) := by
  intro τ w0 w1 H locs h ls hl hf
  unfold f_X9_cost_116 at hf
  have C0 := C
  obtain ⟨hx, hb, hr, hml, hown, hts, hlk, hK, hSF⟩ := C0
  refine lv_iadd hx hb dX9_cost_116 ?_
  replace hf := Option.some.inj hf
  subst hf
  exact r_ire C h dX9_cost_117
set_option maxHeartbeats 4000000 in
set_option maxRecDepth 100000 in
theorem w_X9_cost_29 {p : Program} {l : Launch} {e : Env} {s : State} {m : MethodId} {args : Array Value} {below : List Frame} {meth : Method} {c : Code} {E : Ev} {σ : Ms} {ℓ : Mz} {p0 : Int32} {p1 : Int32} {out : Int32 × Mm}   (C : Cx cX9_cost 5 (some .int) wsX9_cost RX9 E p s m args meth c)  : ∀ (τ : Mm) (v3 : Int32) (w0 : Int32) (H : Heap) (locs : List Loc) (h : HI E (va_up σ 29 τ) ℓ s H locs) (ls : Array Slot) (hl : lv_has ls 5 [(0, .ref (Ea E 29 0)), (1, .int p0), (3, .int v3)]), f_X9_cost_29 p0 p1  τ v3 w0 = some out → W p l e rm_X9_cost s m args below meth c H locs 0 0 (MQ below (Po E s.heap.size (some (.int out.1)) (va_up σ 29 out.2) ℓ) args s 0 0 (AA E s.heap.size)) (F0 m 29 ls [.int w0]) := by
  intro τ v3 w0 H locs h ls hl hf
  unfold f_X9_cost_29 at hf
  have C0 := C
  obtain ⟨hx, hb, hr, hml, hown, hts, hlk, hK, hSF⟩ := C0
  refine lv_istore (lv' := [(4, .int w0), (0, .ref (Ea E 29 0)), (1, .int p0), (3, .int v3)]) hx hb dX9_cost_29 hl (by decide) rfl (fun ls hl => ?_)
  refine lv_aload_n hx hb dX9_cost_31 rfl (lv_at hl 1 rfl) ?_
  refine gf_9_5 C h (rfl : Kd 29 = 9) up_eq inX9_cost_9 lkX9_cost_25 dX9_cost_32 ?_
  refine lv_iload_n hx hb dX9_cost_35 rfl (lv_at hl 2 rfl) ?_
  obtain ⟨g4, hf⟩ := gd_use hf
  refine ld_9_1 C h (rfl : Kd 29 = 9) up_eq (inB_in g4) dX9_cost_36 ?_
  by_cases c5 : (τ 5 p0.toNatClampNeg) = (1 : Int32)
  · replace hf := it_t c5 hf
    refine r_tin (v := (1 : Int32)) (off := 39) (tgt := 76) hx hb c5 dX9_cost_37 (by decide) (by decide) (by decide) (by decide) ?_
    refine lv_iload_n hx hb dX9_cost_76 rfl (lv_at hl 3 rfl) ?_
    refine lv_aload_n hx hb dX9_cost_77 rfl (lv_at hl 1 rfl) ?_
    refine gf_9_10 C h (rfl : Kd 29 = 9) up_eq inX9_cost_9 lkX9_cost_41 dX9_cost_78 ?_
    refine lv_iload_n hx hb dX9_cost_81 rfl (lv_at hl 2 rfl) ?_
    obtain ⟨g6, hf⟩ := gd_use hf
    refine ld_9_6 C h (rfl : Kd 29 = 9) up_eq (inB_in g6) dX9_cost_82 ?_
    refine lv_iadd hx hb dX9_cost_83 ?_
    replace hf := Option.some.inj hf
    subst hf
    exact r_ire C h dX9_cost_84
  replace hf := it_f c5 hf
  by_cases c7 : (τ 5 p0.toNatClampNeg) = (2 : Int32)
  · replace hf := it_t c7 hf
    refine r_tin (v := (2 : Int32)) (off := 48) (tgt := 85) hx hb c7 dX9_cost_37 (by decide) (by decide) (by decide) (by decide) ?_
    refine lv_iload_n hx hb dX9_cost_85 rfl (lv_at hl 3 rfl) ?_
    refine lv_iconst (v := (2 : Int32)) hx hb dX9_cost_86 (by decide) ?_
    refine lv_idiv hx hb dX9_cost_87 (by decide) ?_
    replace hf := Option.some.inj hf
    subst hf
    exact r_ire C h dX9_cost_88
  replace hf := it_f c7 hf
  by_cases c8 : (τ 5 p0.toNatClampNeg) = (3 : Int32)
  · replace hf := it_t c8 hf
    refine r_tin (v := (3 : Int32)) (off := 52) (tgt := 89) hx hb c8 dX9_cost_37 (by decide) (by decide) (by decide) (by decide) ?_
    refine lv_iload hx hb dX9_cost_89 (lv_at hl 0 rfl) ?_
    replace hf := Option.some.inj hf
    subst hf
    exact r_ire C h dX9_cost_91
  replace hf := it_f c8 hf
  by_cases c9 : (τ 5 p0.toNatClampNeg) = (4 : Int32)
  · replace hf := it_t c9 hf
    refine r_tin (v := (4 : Int32)) (off := 55) (tgt := 92) hx hb c9 dX9_cost_37 (by decide) (by decide) (by decide) (by decide) ?_
    refine lv_iload_n hx hb dX9_cost_92 rfl (lv_at hl 3 rfl) ?_
    refine lv_aload_n hx hb dX9_cost_93 rfl (lv_at hl 1 rfl) ?_
    refine gf_9_10 C h (rfl : Kd 29 = 9) up_eq inX9_cost_9 lkX9_cost_41 dX9_cost_94 ?_
    refine lv_iload_n hx hb dX9_cost_97 rfl (lv_at hl 2 rfl) ?_
    obtain ⟨g10, hf⟩ := gd_use hf
    refine ld_9_6 C h (rfl : Kd 29 = 9) up_eq (inB_in g10) dX9_cost_98 ?_
    refine lv_iadd hx hb dX9_cost_99 ?_
    refine lv_aload_n hx hb dX9_cost_100 rfl (lv_at hl 1 rfl) ?_
    refine gf_9_4 C h (rfl : Kd 29 = 9) up_eq inX9_cost_9 lkX9_cost_22 dX9_cost_101 ?_
    refine lv_iconst (v := (2 : Int32)) hx hb dX9_cost_104 (by decide) ?_
    refine lv_irem hx hb dX9_cost_105 (by decide) ?_
    refine lv_iconst (v := (1 : Int32)) hx hb dX9_cost_106 (by decide) ?_
    refine lv_icmp_ne (tgt := 115) hx hb dX9_cost_107 (by decide) (fun c11 => ?_) (fun c11 => ?_)
    · replace hf := it_f c11 hf
      refine lv_iconst (v := (0 : Int32)) hx hb dX9_cost_115 (by decide) ?_
      exact w_X9_cost_116    C  _ _ _ _ _ h ls (lv_sub hl [] rfl) hf
    replace hf := it_t c11 hf
    refine lv_bipush (v := (20 : Int32)) hx hb dX9_cost_110 (by decide) ?_
    refine lv_goto (tgt := 116) hx hb dX9_cost_112 (by decide) ?_
    exact w_X9_cost_116    C  _ _ _ _ _ h ls (lv_sub hl [] rfl) hf
  replace hf := it_f c9 hf
  by_cases c12 : (τ 5 p0.toNatClampNeg) = (5 : Int32)
  · replace hf := it_t c12 hf
    refine r_tin (v := (5 : Int32)) (off := 81) (tgt := 118) hx hb c12 dX9_cost_37 (by decide) (by decide) (by decide) (by decide) ?_
    refine lv_iload_n hx hb dX9_cost_118 rfl (lv_at hl 3 rfl) ?_
    refine lv_iconst (v := (2 : Int32)) hx hb dX9_cost_119 (by decide) ?_
    refine lv_idiv hx hb dX9_cost_120 (by decide) ?_
    refine lv_aload_n hx hb dX9_cost_121 rfl (lv_at hl 1 rfl) ?_
    refine gf_9_6 C h (rfl : Kd 29 = 9) up_eq inX9_cost_9 lkX9_cost_29 dX9_cost_122 ?_
    refine lv_iload_n hx hb dX9_cost_125 rfl (lv_at hl 2 rfl) ?_
    obtain ⟨g13, hf⟩ := gd_use hf
    refine ld_9_2 C h (rfl : Kd 29 = 9) up_eq (inB_in g13) dX9_cost_126 ?_
    refine lv_isub hx hb dX9_cost_127 ?_
    replace hf := Option.some.inj hf
    subst hf
    exact r_ire C h dX9_cost_128
  replace hf := it_f c12 hf
  by_cases c14 : (τ 5 p0.toNatClampNeg) = (6 : Int32)
  · replace hf := it_t c14 hf
    refine r_tin (v := (6 : Int32)) (off := 92) (tgt := 129) hx hb c14 dX9_cost_37 (by decide) (by decide) (by decide) (by decide) ?_
    refine lv_iload hx hb dX9_cost_129 (lv_at hl 0 rfl) ?_
    refine lv_aload_n hx hb dX9_cost_131 rfl (lv_at hl 1 rfl) ?_
    refine gf_9_11 C h (rfl : Kd 29 = 9) up_eq inX9_cost_9 lkX9_cost_44 dX9_cost_132 ?_
    refine lv_iconst (v := (4 : Int32)) hx hb dX9_cost_135 (by decide) ?_
    refine lv_iload_n hx hb dX9_cost_136 rfl (lv_at hl 2 rfl) ?_
    refine lv_imul hx hb dX9_cost_137 ?_
    refine lv_aload_n hx hb dX9_cost_138 rfl (lv_at hl 1 rfl) ?_
    refine gf_9_4 C h (rfl : Kd 29 = 9) up_eq inX9_cost_9 lkX9_cost_22 dX9_cost_139 ?_
    refine lv_iconst (v := (4 : Int32)) hx hb dX9_cost_142 (by decide) ?_
    refine lv_irem hx hb dX9_cost_143 (by decide) ?_
    refine lv_iadd hx hb dX9_cost_144 ?_
    refine lv_topi (fun x15 ex15 => ?_)
    replace hf := lt_use ex15 hf
    clear ex15
    obtain ⟨g16, hf⟩ := gd_use hf
    refine ld_9_7 C h (rfl : Kd 29 = 9) up_eq (inB_in g16) dX9_cost_145 ?_
    refine lv_iadd hx hb dX9_cost_146 ?_
    replace hf := Option.some.inj hf
    subst hf
    exact r_ire C h dX9_cost_147
  replace hf := it_f c14 hf
  refine lv_tableOut (tgt := 148) hx hb dX9_cost_37 (tsw_out [1, 2, 3, 4, 5, 6] (List.forall_mem_cons.mpr ⟨c5, (List.forall_mem_cons.mpr ⟨c7, (List.forall_mem_cons.mpr ⟨c8, (List.forall_mem_cons.mpr ⟨c9, (List.forall_mem_cons.mpr ⟨c12, (List.forall_mem_cons.mpr ⟨c14, (fun _ h => absurd h List.not_mem_nil)⟩)⟩)⟩)⟩)⟩)⟩) rfl) (by decide) ?_
  refine lv_iload_n hx hb dX9_cost_148 rfl (lv_at hl 3 rfl) ?_
  replace hf := Option.some.inj hf
  subst hf
  exact r_ire C h dX9_cost_149
set_option maxHeartbeats 4000000 in
set_option maxRecDepth 100000 in
theorem w_X9_cost_0 {p : Program} {l : Launch} {e : Env} {s : State} {m : MethodId} {args : Array Value} {below : List Frame} {meth : Method} {c : Code} {E : Ev} {σ : Ms} {ℓ : Mz} {p0 : Int32} {p1 : Int32} {out : Int32 × Mm}   (C : Cx cX9_cost 5 (some .int) wsX9_cost RX9 E p s m args meth c)  : ∀ (τ : Mm) (H : Heap) (locs : List Loc) (h : HI E (va_up σ 29 τ) ℓ s H locs) (ls : Array Slot) (hl : lv_has ls 5 [(0, .ref (Ea E 29 0)), (1, .int p0), (2, .int p1)]), f_X9_cost_0 p0 p1  τ = some out → W p l e rm_X9_cost s m args below meth c H locs 0 0 (MQ below (Po E s.heap.size (some (.int out.1)) (va_up σ 29 out.2) ℓ) args s 0 0 (AA E s.heap.size)) (F0 m 0 ls []) := by
  intro τ H locs h ls hl hf
  unfold f_X9_cost_0 at hf
  have C0 := C
  obtain ⟨hx, hb, hr, hml, hown, hts, hlk, hK, hSF⟩ := C0
  refine lv_aload_n hx hb dX9_cost_0 rfl (lv_at hl 0 rfl) ?_
  refine lv_iload_n hx hb dX9_cost_1 rfl (lv_at hl 1 rfl) ?_
  refine lv_iload_n hx hb dX9_cost_2 rfl (lv_at hl 2 rfl) ?_
  obtain ⟨u1, hu1, hf⟩ := bd_use hf
  refine r_cv_9 (rest := []) C h (c_X9_sum  hu1) (rfl : Kd 29 = 9) gX9_cost_X9_sum rfl ⟨rfl, rfl⟩ hdX9_sum ⟨Nat.le_of_ble_eq_true rfl, Nat.le_of_ble_eq_true rfl⟩ ⟨Nat.zero_le _, Nat.zero_le _⟩ hl.1 rfl (Nat.le_of_ble_eq_true rfl) dX9_cost_3 (fun H locs h => ?_)
  refine lv_istore_n (lv' := [(3, .int u1.1), (0, .ref (Ea E 29 0)), (1, .int p0), (2, .int p1)]) hx hb dX9_cost_6 rfl hl (by decide) rfl (fun ls hl => ?_)
  refine lv_iload_n hx hb dX9_cost_7 rfl (lv_at hl 3 rfl) ?_
  refine lv_aload_n hx hb dX9_cost_8 rfl (lv_at hl 1 rfl) ?_
  refine gf_9_7 C h (rfl : Kd 29 = 9) up_eq inX9_cost_9 lkX9_cost_32 dX9_cost_9 ?_
  refine lv_iload_n hx hb dX9_cost_12 rfl (lv_at hl 2 rfl) ?_
  obtain ⟨g2, hf⟩ := gd_use hf
  refine ld_9_3 C h (rfl : Kd 29 = 9) up_eq (inB_in g2) dX9_cost_13 ?_
  refine lv_icmp_ge (tgt := 28) hx hb dX9_cost_14 (by decide) (fun c3 => ?_) (fun c3 => ?_)
  · replace hf := it_t c3 hf
    refine lv_iload_n hx hb dX9_cost_28 rfl (lv_at hl 0 rfl) ?_
    exact w_X9_cost_29    C  _ _ _ _ _ h ls (lv_sub hl [1, 2, 0] rfl) hf
  replace hf := it_f c3 hf
  refine lv_iload_n hx hb dX9_cost_17 rfl (lv_at hl 0 rfl) ?_
  refine lv_aload_n hx hb dX9_cost_18 rfl (lv_at hl 1 rfl) ?_
  refine gf_9_6 C h (rfl : Kd 29 = 9) up_eq inX9_cost_9 lkX9_cost_29 dX9_cost_19 ?_
  refine lv_iload_n hx hb dX9_cost_22 rfl (lv_at hl 2 rfl) ?_
  obtain ⟨g17, hf⟩ := gd_use hf
  refine ld_9_2 C h (rfl : Kd 29 = 9) up_eq (inB_in g17) dX9_cost_23 ?_
  refine lv_iadd hx hb dX9_cost_24 ?_
  refine lv_goto (tgt := 29) hx hb dX9_cost_25 (by decide) ?_
  exact w_X9_cost_29    C  _ _ _ _ _ h ls (lv_sub hl [1, 2, 0] rfl) hf
theorem c_X9_cost {l : Launch} {E : Ev} {σ : Ms} {ℓ : Mz} {τ : Mm} {p0 : Int32} {p1 : Int32} {out : Int32 × Mm} (hf : f_X9_cost τ p0 p1 = some out) : Ct l yX9_cost wsX9_cost rm_X9_cost [.ref (Ea E 29 0), .int p0, .int p1] E (va_up σ 29 τ) ℓ (some (.int out.1)) (va_up σ 29 out.2) ℓ := by
  refine Ct_mk (cc := cX9_cost) (mL := 5) (ret := (some .int)) (own := RX9) (by decide +kernel) rfl rfl (Nat.le_of_ble_eq_true rfl) (fun p e s m below meth c C h ls hl => ?_)
  exact w_X9_cost_0  C τ _ _ h ls (lv_sub hl [0, 1, 2] rfl) hf
theorem k_X9_cost {l : Launch} {E : Ev} {σ : Ms} {ℓ : Mz} {τ : Mm} {p0 : Int32} {p1 : Int32} (hτ : σ 29 = τ) {out : Int32 × Mm} (hf : f_X9_cost τ p0 p1 = some out) : Ct l yX9_cost wsX9_cost rm_X9_cost [.ref (Ea E 29 0), .int p0, .int p1] E σ ℓ (some (.int out.1)) (va_up σ 29 out.2) ℓ := by
  subst hτ
  have h := c_X9_cost (l := l) (E := E) (σ := σ) (ℓ := ℓ)  hf
  rw [up_id σ 29] at h
  exact h
theorem hdX9_isFree : yX9_isFree.cls = RX9 ∧ yX9_isFree.cls ≠ "java/lang/invoke/MethodHandle" ∧ yX9_isFree.cls ≠ "java/lang/invoke/VarHandle" ∧ (parseMethodDescriptor yX9_isFree.desc).map (fun d => d.parameters.length) = some 1 := by decide +kernel
def rm_X9_isFree : Room := { frames := 1, cells := 0, slots := 0, locals := 22 }
set_option maxRecDepth 100000 in
theorem inX9_isFree_9 : ∀ w ∈ wsX90, w ∈ wsX9_isFree := fun _ h => List.mem_cons_of_mem _ (List.mem_append_right _ h)
set_option maxRecDepth 100000 in
theorem lkX9_isFree_13 : Cond.fieldLink RX9 13 "BellsBelowModel" "absent" "I" ∈ wsX9_isFree := by decide +kernel
set_option maxRecDepth 100000 in
theorem lkX9_isFree_35 : Cond.fieldLink RX9 35 "BellsBelowModel" "goal" "[I" ∈ wsX9_isFree := by decide +kernel
set_option maxRecDepth 100000 in
theorem lkX9_isFree_38 : Cond.fieldLink RX9 38 "BellsBelowModel" "rests" "[I" ∈ wsX9_isFree := by decide +kernel
set_option maxHeartbeats 4000000 in
set_option maxRecDepth 100000 in
theorem w_X9_isFree_0 {p : Program} {l : Launch} {e : Env} {s : State} {m : MethodId} {args : Array Value} {below : List Frame} {meth : Method} {c : Code} {E : Ev} {σ : Ms} {ℓ : Mz} {τ : Mm} {p0 : Int32} {out : Int32} (hτ : σ 29 = τ)   (C : Cx cX9_isFree 2 (some .boolean) wsX9_isFree RX9 E p s m args meth c)  : ∀  (H : Heap) (locs : List Loc) (h : HI E σ ℓ s H locs) (ls : Array Slot) (hl : lv_has ls 2 [(0, .ref (Ea E 29 0)), (1, .int p0)]), f_X9_isFree_0 τ p0   = some out → W p l e rm_X9_isFree s m args below meth c H locs 0 0 (MQ below (Po E s.heap.size (some (.int out)) σ ℓ) args s 0 0 (AA E s.heap.size)) (F0 m 0 ls []) := by
  intro  H locs h ls hl hf
  unfold f_X9_isFree_0 at hf
  have C0 := C
  obtain ⟨hx, hb, hr, hml, hown, hts, hlk, hK, hSF⟩ := C0
  refine lv_aload_n hx hb dX9_isFree_0 rfl (lv_at hl 0 rfl) ?_
  refine lv_aload_n hx hb dX9_isFree_1 rfl (lv_at hl 0 rfl) ?_
  refine gf_9_1 C h (rfl : Kd 29 = 9) hτ inX9_isFree_9 lkX9_isFree_13 dX9_isFree_2 ?_
  refine lv_iload_n hx hb dX9_isFree_5 rfl (lv_at hl 1 rfl) ?_
  obtain ⟨u1, hu1, hf⟩ := bd_use hf
  refine r_cv_9 (rest := []) C h (c_X9_has  hu1) (rfl : Kd 29 = 9) gX9_isFree_X9_has rfl ⟨rfl, rfl⟩ hdX9_has ⟨Nat.le_of_ble_eq_true rfl, Nat.le_of_ble_eq_true rfl⟩ ⟨Nat.zero_le _, Nat.zero_le _⟩ hl.1 rfl (Nat.le_of_ble_eq_true rfl) dX9_isFree_6 (fun H locs h => ?_)
  refine lv_if_ne (tgt := 34) hx hb dX9_isFree_9 (by decide) (fun c2 => ?_) (fun c2 => ?_)
  · replace hf := it_f c2 hf
    refine lv_iconst (v := (0 : Int32)) hx hb dX9_isFree_34 (by decide) ?_
    replace hf := Option.some.inj hf
    subst hf
    exact r_zre (v := (0 : Int32)) C h rfl dX9_isFree_35
  replace hf := it_t c2 hf
  refine lv_aload_n hx hb dX9_isFree_12 rfl (lv_at hl 0 rfl) ?_
  refine gf_9_8 C h (rfl : Kd 29 = 9) hτ inX9_isFree_9 lkX9_isFree_35 dX9_isFree_13 ?_
  refine lv_iload_n hx hb dX9_isFree_16 rfl (lv_at hl 1 rfl) ?_
  obtain ⟨g3, hf⟩ := gd_use hf
  refine ld_9_4 C h (rfl : Kd 29 = 9) hτ (inB_in g3) dX9_isFree_17 ?_
  refine lv_if_ge (tgt := 34) hx hb dX9_isFree_18 (by decide) (fun c4 => ?_) (fun c4 => ?_)
  · replace hf := it_t c4 hf
    refine lv_iconst (v := (0 : Int32)) hx hb dX9_isFree_34 (by decide) ?_
    replace hf := Option.some.inj hf
    subst hf
    exact r_zre (v := (0 : Int32)) C h rfl dX9_isFree_35
  replace hf := it_f c4 hf
  refine lv_aload_n hx hb dX9_isFree_21 rfl (lv_at hl 0 rfl) ?_
  refine gf_9_9 C h (rfl : Kd 29 = 9) hτ inX9_isFree_9 lkX9_isFree_38 dX9_isFree_22 ?_
  refine lv_iload_n hx hb dX9_isFree_25 rfl (lv_at hl 1 rfl) ?_
  obtain ⟨g5, hf⟩ := gd_use hf
  refine ld_9_5 C h (rfl : Kd 29 = 9) hτ (inB_in g5) dX9_isFree_26 ?_
  refine lv_if_ne (tgt := 34) hx hb dX9_isFree_27 (by decide) (fun c6 => ?_) (fun c6 => ?_)
  · replace hf := it_f c6 hf
    refine lv_iconst (v := (0 : Int32)) hx hb dX9_isFree_34 (by decide) ?_
    replace hf := Option.some.inj hf
    subst hf
    exact r_zre (v := (0 : Int32)) C h rfl dX9_isFree_35
  replace hf := it_t c6 hf
  refine lv_iconst (v := (1 : Int32)) hx hb dX9_isFree_30 (by decide) ?_
  refine lv_goto (tgt := 35) hx hb dX9_isFree_31 (by decide) ?_
  replace hf := Option.some.inj hf
  subst hf
  exact r_zre (v := (1 : Int32)) C h rfl dX9_isFree_35
theorem c_X9_isFree {l : Launch} {E : Ev} {σ : Ms} {ℓ : Mz} {τ : Mm} {p0 : Int32} (hτ : σ 29 = τ) {out : Int32} (hf : f_X9_isFree τ p0 = some out) : Ct l yX9_isFree wsX9_isFree rm_X9_isFree [.ref (Ea E 29 0), .int p0] E σ ℓ (some (.int out)) σ ℓ := by
  refine Ct_mk (cc := cX9_isFree) (mL := 2) (ret := (some .boolean)) (own := RX9) (by decide +kernel) rfl rfl (Nat.le_of_ble_eq_true rfl) (fun p e s m below meth c C h ls hl => ?_)
  exact w_X9_isFree_0 hτ C  _ _ h ls (lv_sub hl [0, 1] rfl) hf
theorem hdX9_whoGoes : yX9_whoGoes.cls = RX9 ∧ yX9_whoGoes.cls ≠ "java/lang/invoke/MethodHandle" ∧ yX9_whoGoes.cls ≠ "java/lang/invoke/VarHandle" ∧ (parseMethodDescriptor yX9_whoGoes.desc).map (fun d => d.parameters.length) = some 1 := by decide +kernel
def rm_X9_whoGoes : Room := { frames := 0, cells := 0, slots := 0, locals := 0 }
set_option maxRecDepth 100000 in
theorem inX9_whoGoes_9 : ∀ w ∈ wsX90, w ∈ wsX9_whoGoes := fun _ h => List.mem_cons_of_mem _ (List.mem_append_right _ h)
set_option maxRecDepth 100000 in
theorem lkX9_whoGoes_7 : Cond.fieldLink RX9 7 "BellsBelowModel" "masters" "I" ∈ wsX9_whoGoes := by decide +kernel
set_option maxRecDepth 100000 in
theorem lkX9_whoGoes_35 : Cond.fieldLink RX9 35 "BellsBelowModel" "goal" "[I" ∈ wsX9_whoGoes := by decide +kernel
set_option maxHeartbeats 4000000 in
set_option maxRecDepth 100000 in
theorem w_X9_whoGoes_2 {p : Program} {l : Launch} {e : Env} {s : State} {m : MethodId} {args : Array Value} {below : List Frame} {meth : Method} {c : Code} {E : Ev} {σ : Ms} {ℓ : Mz} {τ : Mm} {p0 : Int32} {out : Int32} (hτ : σ 29 = τ)   (C : Cx cX9_whoGoes 3 (some .int) wsX9_whoGoes RX9 E p s m args meth c) {k2 : Int32 → Option (Int32)} (hk2 : ∀ (v2 : Int32) (H : Heap) (locs : List Loc), HI E σ ℓ s H locs → ∀ ls : Array Slot, lv_has ls 3 [(0, .ref (Ea E 29 0)), (1, .int p0), (2, .int v2)] → k2 v2 = some out → W p l e rm_X9_whoGoes s m args below meth c H locs 0 0 (MQ below (Po E s.heap.size (some (.int out)) σ ℓ) args s 0 0 (AA E s.heap.size)) (F0 m 2 ls [])) : ∀ (v2 : Int32) (H : Heap) (locs : List Loc) (h : HI E σ ℓ s H locs) (ls : Array Slot) (hl : lv_has ls 3 [(0, .ref (Ea E 29 0)), (1, .int p0), (2, .int v2)]), f_X9_whoGoes_2 τ p0 k2 v2 = some out → W p l e rm_X9_whoGoes s m args below meth c H locs 0 0 (MQ below (Po E s.heap.size (some (.int out)) σ ℓ) args s 0 0 (AA E s.heap.size)) (F0 m 2 ls []) := by
  intro v2 H locs h ls hl hf
  unfold f_X9_whoGoes_2 at hf
  have C0 := C
  obtain ⟨hx, hb, hr, hml, hown, hts, hlk, hK, hSF⟩ := C0
  refine lv_iload_n hx hb dX9_whoGoes_2 rfl (lv_at hl 2 rfl) ?_
  refine lv_aload_n hx hb dX9_whoGoes_3 rfl (lv_at hl 0 rfl) ?_
  refine gf_9_0 C h (rfl : Kd 29 = 9) hτ inX9_whoGoes_9 lkX9_whoGoes_7 dX9_whoGoes_4 ?_
  refine lv_icmp_ge (tgt := 28) hx hb dX9_whoGoes_7 (by decide) (fun c1 => ?_) (fun c1 => ?_)
  · replace hf := it_t c1 hf
    refine lv_bipush (v := (-5 : Int32)) hx hb dX9_whoGoes_28 (by decide) ?_
    replace hf := Option.some.inj hf
    subst hf
    exact r_ire C h dX9_whoGoes_30
  replace hf := it_f c1 hf
  refine lv_aload_n hx hb dX9_whoGoes_10 rfl (lv_at hl 0 rfl) ?_
  refine gf_9_8 C h (rfl : Kd 29 = 9) hτ inX9_whoGoes_9 lkX9_whoGoes_35 dX9_whoGoes_11 ?_
  refine lv_iload_n hx hb dX9_whoGoes_14 rfl (lv_at hl 2 rfl) ?_
  obtain ⟨g2, hf⟩ := gd_use hf
  refine ld_9_4 C h (rfl : Kd 29 = 9) hτ (inB_in g2) dX9_whoGoes_15 ?_
  refine lv_iload_n hx hb dX9_whoGoes_16 rfl (lv_at hl 1 rfl) ?_
  refine lv_icmp_ne (tgt := 22) hx hb dX9_whoGoes_17 (by decide) (fun c3 => ?_) (fun c3 => ?_)
  · replace hf := it_f c3 hf
    obtain ⟨x4, ex4⟩ : ∃ y : Int32, y = (v2 + (1 : Int32)) := ⟨_, rfl⟩
    refine lv_iinc (v := x4) (lv' := [(2, .int x4), (0, .ref (Ea E 29 0)), (1, .int p0)]) hx hb dX9_whoGoes_22 hl (k := 2) rfl (by rw [ex4]; rfl) (by decide) rfl (fun ls hl => ?_)
    replace hf := lt_use ex4 hf
    clear ex4
    refine lv_goto (tgt := 2) hx hb dX9_whoGoes_25 (by decide) ?_
    exact hk2 _ _ _ h ls (lv_sub hl [1, 2, 0] rfl) hf
  replace hf := it_t c3 hf
  refine lv_iload_n hx hb dX9_whoGoes_20 rfl (lv_at hl 2 rfl) ?_
  replace hf := Option.some.inj hf
  subst hf
  exact r_ire C h dX9_whoGoes_21
set_option maxHeartbeats 4000000 in
set_option maxRecDepth 100000 in
theorem w_X9_whoGoes_2L {p : Program} {l : Launch} {e : Env} {s : State} {m : MethodId} {args : Array Value} {below : List Frame} {meth : Method} {c : Code} {E : Ev} {σ : Ms} {ℓ : Mz} {τ : Mm} {p0 : Int32} {out : Int32} (hτ : σ 29 = τ)   (C : Cx cX9_whoGoes 3 (some .int) wsX9_whoGoes RX9 E p s m args meth c)  : ∀ (n9 : Nat) (v2 : Int32) (H : Heap) (locs : List Loc) (h : HI E σ ℓ s H locs) (ls : Array Slot) (hl : lv_has ls 3 [(0, .ref (Ea E 29 0)), (1, .int p0), (2, .int v2)]), f_X9_whoGoes_2L τ p0  n9 v2 = some out → W p l e rm_X9_whoGoes s m args below meth c H locs 0 0 (MQ below (Po E s.heap.size (some (.int out)) σ ℓ) args s 0 0 (AA E s.heap.size)) (F0 m 2 ls []) := by
  intro n9
  induction n9 with
  | zero =>
    intro v2 H locs h ls hl hf
    cases (show (none : Option (Int32)) = some out from hf)
  | succ n9 ih =>
    intro v2 H locs h ls hl hf
    exact w_X9_whoGoes_2 hτ  C  ih v2 H locs h ls hl hf
set_option maxHeartbeats 4000000 in
set_option maxRecDepth 100000 in
theorem w_X9_whoGoes_0 {p : Program} {l : Launch} {e : Env} {s : State} {m : MethodId} {args : Array Value} {below : List Frame} {meth : Method} {c : Code} {E : Ev} {σ : Ms} {ℓ : Mz} {τ : Mm} {p0 : Int32} {out : Int32} (hτ : σ 29 = τ)   (C : Cx cX9_whoGoes 3 (some .int) wsX9_whoGoes RX9 E p s m args meth c)  : ∀  (H : Heap) (locs : List Loc) (h : HI E σ ℓ s H locs) (ls : Array Slot) (hl : lv_has ls 3 [(0, .ref (Ea E 29 0)), (1, .int p0)]), f_X9_whoGoes_0 τ p0   = some out → W p l e rm_X9_whoGoes s m args below meth c H locs 0 0 (MQ below (Po E s.heap.size (some (.int out)) σ ℓ) args s 0 0 (AA E s.heap.size)) (F0 m 0 ls []) := by
  intro  H locs h ls hl hf
  unfold f_X9_whoGoes_0 at hf
  have C0 := C
  obtain ⟨hx, hb, hr, hml, hown, hts, hlk, hK, hSF⟩ := C0
  refine lv_iconst (v := (0 : Int32)) hx hb dX9_whoGoes_0 (by decide) ?_
  refine lv_istore_n (lv' := [(2, .int (0 : Int32)), (0, .ref (Ea E 29 0)), (1, .int p0)]) hx hb dX9_whoGoes_1 rfl hl (by decide) rfl (fun ls hl => ?_)
  exact w_X9_whoGoes_2L hτ   C  _ _ _ _ h ls (lv_sub hl [1, 2, 0] rfl) hf
theorem c_X9_whoGoes {l : Launch} {E : Ev} {σ : Ms} {ℓ : Mz} {τ : Mm} {p0 : Int32} (hτ : σ 29 = τ) {out : Int32} (hf : f_X9_whoGoes τ p0 = some out) : Ct l yX9_whoGoes wsX9_whoGoes rm_X9_whoGoes [.ref (Ea E 29 0), .int p0] E σ ℓ (some (.int out)) σ ℓ := by
  refine Ct_mk (cc := cX9_whoGoes) (mL := 3) (ret := (some .int)) (own := RX9) (by decide +kernel) rfl rfl (Nat.le_of_ble_eq_true rfl) (fun p e s m below meth c C h ls hl => ?_)
  exact w_X9_whoGoes_0 hτ C  _ _ h ls (lv_sub hl [0, 1] rfl) hf
theorem hdX9_cheapest : yX9_cheapest.cls = RX9 ∧ yX9_cheapest.cls ≠ "java/lang/invoke/MethodHandle" ∧ yX9_cheapest.cls ≠ "java/lang/invoke/VarHandle" ∧ (parseMethodDescriptor yX9_cheapest.desc).map (fun d => d.parameters.length) = some 1 := by decide +kernel
def rm_X9_cheapest : Room := { frames := 5, cells := 0, slots := 0, locals := 121 }
set_option maxRecDepth 100000 in
theorem inX9_cheapest_9 : ∀ w ∈ wsX90, w ∈ wsX9_cheapest := fun _ h => List.mem_cons_of_mem _ (List.mem_append_right _ h)
set_option maxRecDepth 100000 in
theorem lkX9_cheapest_7 : Cond.fieldLink RX9 7 "BellsBelowModel" "masters" "I" ∈ wsX9_cheapest := by decide +kernel
set_option maxHeartbeats 4000000 in
set_option maxRecDepth 100000 in
theorem w_X9_cheapest_57 {p : Program} {l : Launch} {e : Env} {s : State} {m : MethodId} {args : Array Value} {below : List Frame} {meth : Method} {c : Code} {E : Ev} {σ : Ms} {ℓ : Mz} {p0 : Int32} {out : Int32 × Mm}   (C : Cx cX9_cheapest 6 (some .int) wsX9_cheapest RX9 E p s m args meth c) {k8 : Mm → Int32 → Int32 → Int32 → Option (Int32 × Mm)} (hk8 : ∀ (τ : Mm) (v2 : Int32) (v3 : Int32) (v4 : Int32) (H : Heap) (locs : List Loc), HI E (va_up σ 29 τ) ℓ s H locs → ∀ ls : Array Slot, lv_has ls 6 [(0, .ref (Ea E 29 0)), (1, .int p0), (2, .int v2), (3, .int v3), (4, .int v4)] → k8 τ v2 v3 v4 = some out → W p l e rm_X9_cheapest s m args below meth c H locs 0 0 (MQ below (Po E s.heap.size (some (.int out.1)) (va_up σ 29 out.2) ℓ) args s 0 0 (AA E s.heap.size)) (F0 m 8 ls [])) : ∀ (τ : Mm) (v2 : Int32) (v3 : Int32) (v4 : Int32) (H : Heap) (locs : List Loc) (h : HI E (va_up σ 29 τ) ℓ s H locs) (ls : Array Slot) (hl : lv_has ls 6 [(0, .ref (Ea E 29 0)), (1, .int p0), (2, .int v2), (3, .int v3), (4, .int v4)]), f_X9_cheapest_57 p0 k8 τ v2 v3 v4 = some out → W p l e rm_X9_cheapest s m args below meth c H locs 0 0 (MQ below (Po E s.heap.size (some (.int out.1)) (va_up σ 29 out.2) ℓ) args s 0 0 (AA E s.heap.size)) (F0 m 57 ls []) := by
  intro τ v2 v3 v4 H locs h ls hl hf
  unfold f_X9_cheapest_57 at hf
  have C0 := C
  obtain ⟨hx, hb, hr, hml, hown, hts, hlk, hK, hSF⟩ := C0
  obtain ⟨x6, ex6⟩ : ∃ y : Int32, y = (v4 + (1 : Int32)) := ⟨_, rfl⟩
  refine lv_iinc (v := x6) (lv' := [(4, .int x6), (0, .ref (Ea E 29 0)), (1, .int p0), (2, .int v2), (3, .int v3)]) hx hb dX9_cheapest_57 hl (k := 4) rfl (by rw [ex6]; rfl) (by decide) rfl (fun ls hl => ?_)
  replace hf := lt_use ex6 hf
  clear ex6
  refine lv_goto (tgt := 8) hx hb dX9_cheapest_60 (by decide) ?_
  exact hk8 _ _ _ _ _ _ h ls (lv_sub hl [1, 2, 3, 4, 0] rfl) hf
set_option maxHeartbeats 4000000 in
set_option maxRecDepth 100000 in
theorem w_X9_cheapest_51 {p : Program} {l : Launch} {e : Env} {s : State} {m : MethodId} {args : Array Value} {below : List Frame} {meth : Method} {c : Code} {E : Ev} {σ : Ms} {ℓ : Mz} {p0 : Int32} {out : Int32 × Mm}   (C : Cx cX9_cheapest 6 (some .int) wsX9_cheapest RX9 E p s m args meth c) {k8 : Mm → Int32 → Int32 → Int32 → Option (Int32 × Mm)} (hk8 : ∀ (τ : Mm) (v2 : Int32) (v3 : Int32) (v4 : Int32) (H : Heap) (locs : List Loc), HI E (va_up σ 29 τ) ℓ s H locs → ∀ ls : Array Slot, lv_has ls 6 [(0, .ref (Ea E 29 0)), (1, .int p0), (2, .int v2), (3, .int v3), (4, .int v4)] → k8 τ v2 v3 v4 = some out → W p l e rm_X9_cheapest s m args below meth c H locs 0 0 (MQ below (Po E s.heap.size (some (.int out.1)) (va_up σ 29 out.2) ℓ) args s 0 0 (AA E s.heap.size)) (F0 m 8 ls [])) : ∀ (τ : Mm) (v4 : Int32) (v5 : Int32) (H : Heap) (locs : List Loc) (h : HI E (va_up σ 29 τ) ℓ s H locs) (ls : Array Slot) (hl : lv_has ls 6 [(0, .ref (Ea E 29 0)), (1, .int p0), (4, .int v4), (5, .int v5)]), f_X9_cheapest_51 p0 k8 τ v4 v5 = some out → W p l e rm_X9_cheapest s m args below meth c H locs 0 0 (MQ below (Po E s.heap.size (some (.int out.1)) (va_up σ 29 out.2) ℓ) args s 0 0 (AA E s.heap.size)) (F0 m 51 ls []) := by
  intro τ v4 v5 H locs h ls hl hf
  unfold f_X9_cheapest_51 at hf
  have C0 := C
  obtain ⟨hx, hb, hr, hml, hown, hts, hlk, hK, hSF⟩ := C0
  refine lv_iload hx hb dX9_cheapest_51 (lv_at hl 2 rfl) ?_
  refine lv_istore_n (lv' := [(2, .int v4), (0, .ref (Ea E 29 0)), (1, .int p0), (4, .int v4), (5, .int v5)]) hx hb dX9_cheapest_53 rfl hl (by decide) rfl (fun ls hl => ?_)
  refine lv_iload hx hb dX9_cheapest_54 (lv_at hl 4 rfl) ?_
  refine lv_istore_n (lv' := [(3, .int v5), (2, .int v4), (0, .ref (Ea E 29 0)), (1, .int p0), (4, .int v4), (5, .int v5)]) hx hb dX9_cheapest_56 rfl hl (by decide) rfl (fun ls hl => ?_)
  exact w_X9_cheapest_57    C hk8 _ _ _ _ _ _ h ls (lv_sub hl [2, 3, 1, 0, 4] rfl) hf
set_option maxHeartbeats 4000000 in
set_option maxRecDepth 100000 in
theorem w_X9_cheapest_8 {p : Program} {l : Launch} {e : Env} {s : State} {m : MethodId} {args : Array Value} {below : List Frame} {meth : Method} {c : Code} {E : Ev} {σ : Ms} {ℓ : Mz} {p0 : Int32} {out : Int32 × Mm}   (C : Cx cX9_cheapest 6 (some .int) wsX9_cheapest RX9 E p s m args meth c) {k8 : Mm → Int32 → Int32 → Int32 → Option (Int32 × Mm)} (hk8 : ∀ (τ : Mm) (v2 : Int32) (v3 : Int32) (v4 : Int32) (H : Heap) (locs : List Loc), HI E (va_up σ 29 τ) ℓ s H locs → ∀ ls : Array Slot, lv_has ls 6 [(0, .ref (Ea E 29 0)), (1, .int p0), (2, .int v2), (3, .int v3), (4, .int v4)] → k8 τ v2 v3 v4 = some out → W p l e rm_X9_cheapest s m args below meth c H locs 0 0 (MQ below (Po E s.heap.size (some (.int out.1)) (va_up σ 29 out.2) ℓ) args s 0 0 (AA E s.heap.size)) (F0 m 8 ls [])) : ∀ (τ : Mm) (v2 : Int32) (v3 : Int32) (v4 : Int32) (H : Heap) (locs : List Loc) (h : HI E (va_up σ 29 τ) ℓ s H locs) (ls : Array Slot) (hl : lv_has ls 6 [(0, .ref (Ea E 29 0)), (1, .int p0), (2, .int v2), (3, .int v3), (4, .int v4)]), f_X9_cheapest_8 p0 k8 τ v2 v3 v4 = some out → W p l e rm_X9_cheapest s m args below meth c H locs 0 0 (MQ below (Po E s.heap.size (some (.int out.1)) (va_up σ 29 out.2) ℓ) args s 0 0 (AA E s.heap.size)) (F0 m 8 ls []) := by
  intro τ v2 v3 v4 H locs h ls hl hf
  unfold f_X9_cheapest_8 at hf
  have C0 := C
  obtain ⟨hx, hb, hr, hml, hown, hts, hlk, hK, hSF⟩ := C0
  refine lv_iload hx hb dX9_cheapest_8 (lv_at hl 4 rfl) ?_
  refine lv_aload_n hx hb dX9_cheapest_10 rfl (lv_at hl 0 rfl) ?_
  refine gf_9_0 C h (rfl : Kd 29 = 9) up_eq inX9_cheapest_9 lkX9_cheapest_7 dX9_cheapest_11 ?_
  refine lv_icmp_ge (tgt := 63) hx hb dX9_cheapest_14 (by decide) (fun c1 => ?_) (fun c1 => ?_)
  · replace hf := it_t c1 hf
    refine lv_iload_n hx hb dX9_cheapest_63 rfl (lv_at hl 2 rfl) ?_
    replace hf := Option.some.inj hf
    subst hf
    exact r_ire C h dX9_cheapest_64
  replace hf := it_f c1 hf
  refine lv_aload_n hx hb dX9_cheapest_17 rfl (lv_at hl 0 rfl) ?_
  refine lv_iload hx hb dX9_cheapest_18 (lv_at hl 4 rfl) ?_
  obtain ⟨u2, hu2, hf⟩ := bd_use hf
  refine r_cv_9 (rest := []) C h (c_X9_isFree up_eq hu2) (rfl : Kd 29 = 9) gX9_cheapest_X9_isFree rfl ⟨rfl, rfl⟩ hdX9_isFree ⟨Nat.le_of_ble_eq_true rfl, Nat.le_of_ble_eq_true rfl⟩ ⟨Nat.zero_le _, Nat.zero_le _⟩ hl.1 rfl (Nat.le_of_ble_eq_true rfl) dX9_cheapest_20 (fun H locs h => ?_)
  refine lv_if_ne (tgt := 29) hx hb dX9_cheapest_23 (by decide) (fun c3 => ?_) (fun c3 => ?_)
  · replace hf := it_f c3 hf
    refine lv_aload_n hx hb dX9_cheapest_29 rfl (lv_at hl 0 rfl) ?_
    refine lv_iload hx hb dX9_cheapest_30 (lv_at hl 4 rfl) ?_
    refine lv_iload_n hx hb dX9_cheapest_32 rfl (lv_at hl 1 rfl) ?_
    obtain ⟨u4, hu4, hf⟩ := bd_use hf
    refine r_cv_9 (rest := []) C h (c_X9_cost  hu4) (rfl : Kd 29 = 9) gX9_cheapest_X9_cost rfl ⟨rfl, rfl⟩ hdX9_cost ⟨Nat.le_of_ble_eq_true rfl, Nat.le_of_ble_eq_true rfl⟩ ⟨Nat.zero_le _, Nat.zero_le _⟩ hl.1 rfl (Nat.le_of_ble_eq_true rfl) dX9_cheapest_33 (fun H locs h => ?_)
    refine lv_istore (lv' := [(5, .int u4.1), (0, .ref (Ea E 29 0)), (1, .int p0), (2, .int v2), (3, .int v3), (4, .int v4)]) hx hb dX9_cheapest_36 hl (by decide) rfl (fun ls hl => ?_)
    refine lv_iload_n hx hb dX9_cheapest_38 rfl (lv_at hl 3 rfl) ?_
    refine lv_if_lt (tgt := 51) hx hb dX9_cheapest_39 (by decide) (fun c5 => ?_) (fun c5 => ?_)
    · replace hf := it_t c5 hf
      exact w_X9_cheapest_51    C hk8 _ _ _ _ _ h ls (lv_sub hl [1, 2, 5, 0] rfl) hf
    replace hf := it_f c5 hf
    refine lv_iload hx hb dX9_cheapest_42 (lv_at hl 0 rfl) ?_
    refine lv_iload_n hx hb dX9_cheapest_44 rfl (lv_at hl 4 rfl) ?_
    refine lv_icmp_lt (tgt := 51) hx hb dX9_cheapest_45 (by decide) (fun c7 => ?_) (fun c7 => ?_)
    · replace hf := it_t c7 hf
      exact w_X9_cheapest_51    C hk8 _ _ _ _ _ h ls (lv_sub hl [1, 2, 5, 0] rfl) hf
    replace hf := it_f c7 hf
    refine lv_goto (tgt := 57) hx hb dX9_cheapest_48 (by decide) ?_
    exact w_X9_cheapest_57    C hk8 _ _ _ _ _ _ h ls (lv_sub hl [1, 2, 3, 4, 5] rfl) hf
  replace hf := it_t c3 hf
  refine lv_goto (tgt := 57) hx hb dX9_cheapest_26 (by decide) ?_
  exact w_X9_cheapest_57    C hk8 _ _ _ _ _ _ h ls (lv_sub hl [0, 1, 2, 3, 4] rfl) hf
set_option maxHeartbeats 4000000 in
set_option maxRecDepth 100000 in
theorem w_X9_cheapest_8L {p : Program} {l : Launch} {e : Env} {s : State} {m : MethodId} {args : Array Value} {below : List Frame} {meth : Method} {c : Code} {E : Ev} {σ : Ms} {ℓ : Mz} {p0 : Int32} {out : Int32 × Mm}   (C : Cx cX9_cheapest 6 (some .int) wsX9_cheapest RX9 E p s m args meth c)  : ∀ (n9 : Nat) (τ : Mm) (v2 : Int32) (v3 : Int32) (v4 : Int32) (H : Heap) (locs : List Loc) (h : HI E (va_up σ 29 τ) ℓ s H locs) (ls : Array Slot) (hl : lv_has ls 6 [(0, .ref (Ea E 29 0)), (1, .int p0), (2, .int v2), (3, .int v3), (4, .int v4)]), f_X9_cheapest_8L p0  n9 τ v2 v3 v4 = some out → W p l e rm_X9_cheapest s m args below meth c H locs 0 0 (MQ below (Po E s.heap.size (some (.int out.1)) (va_up σ 29 out.2) ℓ) args s 0 0 (AA E s.heap.size)) (F0 m 8 ls []) := by
  intro n9
  induction n9 with
  | zero =>
    intro τ v2 v3 v4 H locs h ls hl hf
    cases (show (none : Option (Int32 × Mm)) = some out from hf)
  | succ n9 ih =>
    intro τ v2 v3 v4 H locs h ls hl hf
    exact w_X9_cheapest_8   C  ih τ v2 v3 v4 H locs h ls hl hf
set_option maxHeartbeats 4000000 in
set_option maxRecDepth 100000 in
theorem w_X9_cheapest_0 {p : Program} {l : Launch} {e : Env} {s : State} {m : MethodId} {args : Array Value} {below : List Frame} {meth : Method} {c : Code} {E : Ev} {σ : Ms} {ℓ : Mz} {p0 : Int32} {out : Int32 × Mm}   (C : Cx cX9_cheapest 6 (some .int) wsX9_cheapest RX9 E p s m args meth c)  : ∀ (τ : Mm) (H : Heap) (locs : List Loc) (h : HI E (va_up σ 29 τ) ℓ s H locs) (ls : Array Slot) (hl : lv_has ls 6 [(0, .ref (Ea E 29 0)), (1, .int p0)]), f_X9_cheapest_0 p0  τ = some out → W p l e rm_X9_cheapest s m args below meth c H locs 0 0 (MQ below (Po E s.heap.size (some (.int out.1)) (va_up σ 29 out.2) ℓ) args s 0 0 (AA E s.heap.size)) (F0 m 0 ls []) := by
  intro τ H locs h ls hl hf
  unfold f_X9_cheapest_0 at hf
  have C0 := C
  obtain ⟨hx, hb, hr, hml, hown, hts, hlk, hK, hSF⟩ := C0
  refine lv_bipush (v := (-5 : Int32)) hx hb dX9_cheapest_0 (by decide) ?_
  refine lv_istore_n (lv' := [(2, .int (-5 : Int32)), (0, .ref (Ea E 29 0)), (1, .int p0)]) hx hb dX9_cheapest_2 rfl hl (by decide) rfl (fun ls hl => ?_)
  refine lv_iconst (v := (0 : Int32)) hx hb dX9_cheapest_3 (by decide) ?_
  refine lv_istore_n (lv' := [(3, .int (0 : Int32)), (2, .int (-5 : Int32)), (0, .ref (Ea E 29 0)), (1, .int p0)]) hx hb dX9_cheapest_4 rfl hl (by decide) rfl (fun ls hl => ?_)
  refine lv_iconst (v := (0 : Int32)) hx hb dX9_cheapest_5 (by decide) ?_
  refine lv_istore (lv' := [(4, .int (0 : Int32)), (3, .int (0 : Int32)), (2, .int (-5 : Int32)), (0, .ref (Ea E 29 0)), (1, .int p0)]) hx hb dX9_cheapest_6 hl (by decide) rfl (fun ls hl => ?_)
  exact w_X9_cheapest_8L    C  _ _ _ _ _ _ _ h ls (lv_sub hl [3, 4, 2, 1, 0] rfl) hf
theorem c_X9_cheapest {l : Launch} {E : Ev} {σ : Ms} {ℓ : Mz} {τ : Mm} {p0 : Int32} {out : Int32 × Mm} (hf : f_X9_cheapest τ p0 = some out) : Ct l yX9_cheapest wsX9_cheapest rm_X9_cheapest [.ref (Ea E 29 0), .int p0] E (va_up σ 29 τ) ℓ (some (.int out.1)) (va_up σ 29 out.2) ℓ := by
  refine Ct_mk (cc := cX9_cheapest) (mL := 6) (ret := (some .int)) (own := RX9) (by decide +kernel) rfl rfl (Nat.le_of_ble_eq_true rfl) (fun p e s m below meth c C h ls hl => ?_)
  exact w_X9_cheapest_0  C τ _ _ h ls (lv_sub hl [0, 1] rfl) hf
theorem k_X9_cheapest {l : Launch} {E : Ev} {σ : Ms} {ℓ : Mz} {τ : Mm} {p0 : Int32} (hτ : σ 29 = τ) {out : Int32 × Mm} (hf : f_X9_cheapest τ p0 = some out) : Ct l yX9_cheapest wsX9_cheapest rm_X9_cheapest [.ref (Ea E 29 0), .int p0] E σ ℓ (some (.int out.1)) (va_up σ 29 out.2) ℓ := by
  subst hτ
  have h := c_X9_cheapest (l := l) (E := E) (σ := σ) (ℓ := ℓ)  hf
  rw [up_id σ 29] at h
  exact h
theorem hdX9_isOpen : yX9_isOpen.cls = RX9 ∧ yX9_isOpen.cls ≠ "java/lang/invoke/MethodHandle" ∧ yX9_isOpen.cls ≠ "java/lang/invoke/VarHandle" ∧ (parseMethodDescriptor yX9_isOpen.desc).map (fun d => d.parameters.length) = some 1 := by decide +kernel
def rm_X9_isOpen : Room := { frames := 1, cells := 0, slots := 0, locals := 22 }
set_option maxRecDepth 100000 in
theorem inX9_isOpen_9 : ∀ w ∈ wsX90, w ∈ wsX9_isOpen := fun _ h => List.mem_cons_of_mem _ (List.mem_append_right _ h)
set_option maxRecDepth 100000 in
theorem lkX9_isOpen_16 : Cond.fieldLink RX9 16 "BellsBelowModel" "rung" "I" ∈ wsX9_isOpen := by decide +kernel
set_option maxHeartbeats 4000000 in
set_option maxRecDepth 100000 in
theorem w_X9_isOpen_0 {p : Program} {l : Launch} {e : Env} {s : State} {m : MethodId} {args : Array Value} {below : List Frame} {meth : Method} {c : Code} {E : Ev} {σ : Ms} {ℓ : Mz} {τ : Mm} {p0 : Int32} {out : Int32} (hτ : σ 29 = τ)   (C : Cx cX9_isOpen 2 (some .boolean) wsX9_isOpen RX9 E p s m args meth c)  : ∀  (H : Heap) (locs : List Loc) (h : HI E σ ℓ s H locs) (ls : Array Slot) (hl : lv_has ls 2 [(0, .ref (Ea E 29 0)), (1, .int p0)]), f_X9_isOpen_0 τ p0   = some out → W p l e rm_X9_isOpen s m args below meth c H locs 0 0 (MQ below (Po E s.heap.size (some (.int out)) σ ℓ) args s 0 0 (AA E s.heap.size)) (F0 m 0 ls []) := by
  intro  H locs h ls hl hf
  unfold f_X9_isOpen_0 at hf
  have C0 := C
  obtain ⟨hx, hb, hr, hml, hown, hts, hlk, hK, hSF⟩ := C0
  refine lv_aload_n hx hb dX9_isOpen_0 rfl (lv_at hl 0 rfl) ?_
  refine lv_aload_n hx hb dX9_isOpen_1 rfl (lv_at hl 0 rfl) ?_
  refine gf_9_2 C h (rfl : Kd 29 = 9) hτ inX9_isOpen_9 lkX9_isOpen_16 dX9_isOpen_2 ?_
  refine lv_iload_n hx hb dX9_isOpen_5 rfl (lv_at hl 1 rfl) ?_
  obtain ⟨u1, hu1, hf⟩ := bd_use hf
  refine r_cv_9 (rest := []) C h (c_X9_has  hu1) (rfl : Kd 29 = 9) gX9_isOpen_X9_has rfl ⟨rfl, rfl⟩ hdX9_has ⟨Nat.le_of_ble_eq_true rfl, Nat.le_of_ble_eq_true rfl⟩ ⟨Nat.zero_le _, Nat.zero_le _⟩ hl.1 rfl (Nat.le_of_ble_eq_true rfl) dX9_isOpen_6 (fun H locs h => ?_)
  refine lv_if_eq (tgt := 24) hx hb dX9_isOpen_9 (by decide) (fun c2 => ?_) (fun c2 => ?_)
  · replace hf := it_t c2 hf
    refine lv_iconst (v := (0 : Int32)) hx hb dX9_isOpen_24 (by decide) ?_
    replace hf := Option.some.inj hf
    subst hf
    exact r_zre (v := (0 : Int32)) C h rfl dX9_isOpen_25
  replace hf := it_f c2 hf
  refine lv_aload_n hx hb dX9_isOpen_12 rfl (lv_at hl 0 rfl) ?_
  refine lv_iload_n hx hb dX9_isOpen_13 rfl (lv_at hl 1 rfl) ?_
  obtain ⟨u3, hu3, hf⟩ := bd_use hf
  refine r_cv_9 (rest := []) C h (c_X9_whoGoes hτ hu3) (rfl : Kd 29 = 9) gX9_isOpen_X9_whoGoes rfl ⟨rfl, rfl⟩ hdX9_whoGoes ⟨Nat.le_of_ble_eq_true rfl, Nat.le_of_ble_eq_true rfl⟩ ⟨Nat.zero_le _, Nat.zero_le _⟩ hl.1 rfl (Nat.le_of_ble_eq_true rfl) dX9_isOpen_14 (fun H locs h => ?_)
  refine lv_if_ge (tgt := 24) hx hb dX9_isOpen_17 (by decide) (fun c4 => ?_) (fun c4 => ?_)
  · replace hf := it_t c4 hf
    refine lv_iconst (v := (0 : Int32)) hx hb dX9_isOpen_24 (by decide) ?_
    replace hf := Option.some.inj hf
    subst hf
    exact r_zre (v := (0 : Int32)) C h rfl dX9_isOpen_25
  replace hf := it_f c4 hf
  refine lv_iconst (v := (1 : Int32)) hx hb dX9_isOpen_20 (by decide) ?_
  refine lv_goto (tgt := 25) hx hb dX9_isOpen_21 (by decide) ?_
  replace hf := Option.some.inj hf
  subst hf
  exact r_zre (v := (1 : Int32)) C h rfl dX9_isOpen_25
theorem c_X9_isOpen {l : Launch} {E : Ev} {σ : Ms} {ℓ : Mz} {τ : Mm} {p0 : Int32} (hτ : σ 29 = τ) {out : Int32} (hf : f_X9_isOpen τ p0 = some out) : Ct l yX9_isOpen wsX9_isOpen rm_X9_isOpen [.ref (Ea E 29 0), .int p0] E σ ℓ (some (.int out)) σ ℓ := by
  refine Ct_mk (cc := cX9_isOpen) (mL := 2) (ret := (some .boolean)) (own := RX9) (by decide +kernel) rfl rfl (Nat.le_of_ble_eq_true rfl) (fun p e s m below meth c C h ls hl => ?_)
  exact w_X9_isOpen_0 hτ C  _ _ h ls (lv_sub hl [0, 1] rfl) hf
