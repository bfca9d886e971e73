/-! WALKS: made by wip/whole/gen -/
theorem hdX9_yawnsAct : yX9_yawnsAct.cls = RX9 ∧ yX9_yawnsAct.cls ≠ "java/lang/invoke/MethodHandle" ∧ yX9_yawnsAct.cls ≠ "java/lang/invoke/VarHandle" ∧ (parseMethodDescriptor yX9_yawnsAct.desc).map (fun d => d.parameters.length) = some 2 := by decide +kernel
def rm_X9_yawnsAct : Room := { frames := 5, cells := 0, slots := 0, locals := 109 }
set_option maxRecDepth 100000 in
theorem inX9_yawnsAct_9 : ∀ w ∈ wsX90, w ∈ wsX9_yawnsAct := fun _ h => List.mem_cons_of_mem _ (List.mem_append_right _ h)
set_option maxRecDepth 100000 in
theorem lkX9_yawnsAct_25 : Cond.fieldLink RX9 25 "BellsBelowModel" "kind" "[I" ∈ wsX9_yawnsAct := by decide +kernel
set_option maxHeartbeats 4000000 in
set_option maxRecDepth 100000 in
theorem w_X9_yawnsAct_0 {p : Program} {l : Launch} {e : Env} {s : State} {m : MethodId} {args : Array Value} {below : List Frame} {meth : Method} {c : Code} {E : Ev} {σ : Ms} {ℓ : Mz} {p0 : Int32} {p1 : Int32} {out : Int32 × Mm}   (C : Cx cX9_yawnsAct 4 (some .int) wsX9_yawnsAct RX9 E p s m args meth c)  : ∀ (τ : Mm) (H : Heap) (locs : List Loc) (h : HI E (va_up σ 29 τ) ℓ s H locs) (ls : Array Slot) (hl : lv_has ls 4 [(0, .ref (Ea E 29 0)), (1, .int p0), (2, .int p1)]), f_X9_yawnsAct_0 p0 p1  τ = some out → W p l e rm_X9_yawnsAct s m args below meth c H locs 0 0 (MQ below (Po E s.heap.size (some (.int out.1)) (va_up σ 29 out.2) ℓ) args s 0 0 (AA E s.heap.size)) (F0 m 0 ls []) := by
  intro τ H locs h ls hl hf
  unfold f_X9_yawnsAct_0 at hf
  have C0 := C
  obtain ⟨hx, hb, hr, hml, hown, hts, hlk, hK, hSF⟩ := C0
  refine lv_aload_n hx hb dX9_yawnsAct_0 rfl (lv_at hl 0 rfl) ?_
  refine gf_9_5 C h (rfl : Kd 29 = 9) up_eq inX9_yawnsAct_9 lkX9_yawnsAct_25 dX9_yawnsAct_1 ?_
  refine lv_iload_n hx hb dX9_yawnsAct_4 rfl (lv_at hl 1 rfl) ?_
  obtain ⟨g1, hf⟩ := gd_use hf
  refine ld_9_1 C h (rfl : Kd 29 = 9) up_eq (inB_in g1) dX9_yawnsAct_5 ?_
  by_cases c2 : (τ 5 p0.toNatClampNeg) = (1 : Int32)
  · replace hf := it_t c2 hf
    refine r_lin (v := (1 : Int32)) (off := 34) (tgt := 40) hx hb c2 dX9_yawnsAct_6 (by decide) (by decide) (by decide) ?_
    refine lv_aload_n hx hb dX9_yawnsAct_40 rfl (lv_at hl 0 rfl) ?_
    refine lv_iload_n hx hb dX9_yawnsAct_41 rfl (lv_at hl 1 rfl) ?_
    refine lv_iload_n hx hb dX9_yawnsAct_42 rfl (lv_at hl 2 rfl) ?_
    obtain ⟨u3, hu3, hf⟩ := bd_use hf
    refine r_cv_9 (rest := []) C h (c_X9_dukeYawns  hu3) (rfl : Kd 29 = 9) gX9_yawnsAct_X9_dukeYawns rfl ⟨rfl, rfl⟩ hdX9_dukeYawns ⟨Nat.le_of_ble_eq_true rfl, Nat.le_of_ble_eq_true rfl⟩ ⟨Nat.zero_le _, Nat.zero_le _⟩ hl.1 rfl (Nat.le_of_ble_eq_true rfl) dX9_yawnsAct_43 (fun H locs h => ?_)
    replace hf := Option.some.inj hf
    subst hf
    exact r_ire C h dX9_yawnsAct_46
  replace hf := it_f c2 hf
  by_cases c4 : (τ 5 p0.toNatClampNeg) = (4 : Int32)
  · replace hf := it_t c4 hf
    refine r_lin (v := (4 : Int32)) (off := 41) (tgt := 47) hx hb c4 dX9_yawnsAct_6 (by decide) (by decide) (by decide) ?_
    refine lv_aload_n hx hb dX9_yawnsAct_47 rfl (lv_at hl 0 rfl) ?_
    refine lv_bipush (v := (51 : Int32)) hx hb dX9_yawnsAct_48 (by decide) ?_
    obtain ⟨u5, hu5, hf⟩ := bd_use hf
    refine r_cv_9 (rest := []) C h (c_X9_body  hu5) (rfl : Kd 29 = 9) gX9_yawnsAct_X9_body rfl ⟨rfl, rfl⟩ hdX9_body ⟨Nat.le_of_ble_eq_true rfl, Nat.le_of_ble_eq_true rfl⟩ ⟨Nat.zero_le _, Nat.zero_le _⟩ hl.1 rfl (Nat.le_of_ble_eq_true rfl) dX9_yawnsAct_50 (fun H locs h => ?_)
    refine lv_aload_n hx hb dX9_yawnsAct_53 rfl (lv_at hl 0 rfl) ?_
    refine lv_iload_n hx hb dX9_yawnsAct_54 rfl (lv_at hl 1 rfl) ?_
    refine lv_iload_n hx hb dX9_yawnsAct_55 rfl (lv_at hl 2 rfl) ?_
    refine lv_iconst (v := (1 : Int32)) hx hb dX9_yawnsAct_56 (by decide) ?_
    refine lv_iadd hx hb dX9_yawnsAct_57 ?_
    obtain ⟨u6, hu6, hf⟩ := bd_use hf
    refine r_cv_9 (rest := []) C h (c_X9_dukeYawns  hu6) (rfl : Kd 29 = 9) gX9_yawnsAct_X9_dukeYawns rfl ⟨rfl, rfl⟩ hdX9_dukeYawns ⟨Nat.le_of_ble_eq_true rfl, Nat.le_of_ble_eq_true rfl⟩ ⟨Nat.zero_le _, Nat.zero_le _⟩ hl.1 rfl (Nat.le_of_ble_eq_true rfl) dX9_yawnsAct_58 (fun H locs h => ?_)
    replace hf := Option.some.inj hf
    subst hf
    exact r_ire C h dX9_yawnsAct_61
  replace hf := it_f c4 hf
  by_cases c7 : (τ 5 p0.toNatClampNeg) = (6 : Int32)
  · replace hf := it_t c7 hf
    refine r_lin (v := (6 : Int32)) (off := 56) (tgt := 62) hx hb c7 dX9_yawnsAct_6 (by decide) (by decide) (by decide) ?_
    refine lv_aload_n hx hb dX9_yawnsAct_62 rfl (lv_at hl 0 rfl) ?_
    refine lv_bipush (v := (70 : Int32)) hx hb dX9_yawnsAct_63 (by decide) ?_
    obtain ⟨u8, hu8, hf⟩ := bd_use hf
    refine r_cv_9 (rest := []) C h (c_X9_body  hu8) (rfl : Kd 29 = 9) gX9_yawnsAct_X9_body rfl ⟨rfl, rfl⟩ hdX9_body ⟨Nat.le_of_ble_eq_true rfl, Nat.le_of_ble_eq_true rfl⟩ ⟨Nat.zero_le _, Nat.zero_le _⟩ hl.1 rfl (Nat.le_of_ble_eq_true rfl) dX9_yawnsAct_65 (fun H locs h => ?_)
    refine lv_aload_n hx hb dX9_yawnsAct_68 rfl (lv_at hl 0 rfl) ?_
    refine lv_iload_n hx hb dX9_yawnsAct_69 rfl (lv_at hl 1 rfl) ?_
    refine lv_iload_n hx hb dX9_yawnsAct_70 rfl (lv_at hl 2 rfl) ?_
    obtain ⟨u9, hu9, hf⟩ := bd_use hf
    refine r_cv_9 (rest := []) C h (c_X9_masterYawns  hu9) (rfl : Kd 29 = 9) gX9_yawnsAct_X9_masterYawns rfl ⟨rfl, rfl⟩ hdX9_masterYawns ⟨Nat.le_of_ble_eq_true rfl, Nat.le_of_ble_eq_true rfl⟩ ⟨Nat.zero_le _, Nat.zero_le _⟩ hl.1 rfl (Nat.le_of_ble_eq_true rfl) dX9_yawnsAct_71 (fun H locs h => ?_)
    refine lv_istore_n (lv' := [(3, .int u9.1), (0, .ref (Ea E 29 0)), (1, .int p0), (2, .int p1)]) hx hb dX9_yawnsAct_74 rfl hl (by decide) rfl (fun ls hl => ?_)
    refine lv_iload_n hx hb dX9_yawnsAct_75 rfl (lv_at hl 0 rfl) ?_
    refine lv_aload_n hx hb dX9_yawnsAct_76 rfl (lv_at hl 1 rfl) ?_
    refine lv_iload_n hx hb dX9_yawnsAct_77 rfl (lv_at hl 2 rfl) ?_
    refine lv_iconst (v := (2 : Int32)) hx hb dX9_yawnsAct_78 (by decide) ?_
    obtain ⟨u10, hu10, hf⟩ := bd_use hf
    refine r_cv_9 (rest := [.int u9.1]) C h (c_X9_masterClimbs  hu10) (rfl : Kd 29 = 9) gX9_yawnsAct_X9_masterClimbs rfl ⟨rfl, rfl⟩ hdX9_masterClimbs ⟨Nat.le_of_ble_eq_true rfl, Nat.le_of_ble_eq_true rfl⟩ ⟨Nat.zero_le _, Nat.zero_le _⟩ hl.1 rfl (Nat.le_of_ble_eq_true rfl) dX9_yawnsAct_79 (fun H locs h => ?_)
    refine lv_iadd hx hb dX9_yawnsAct_82 ?_
    replace hf := Option.some.inj hf
    subst hf
    exact r_ire C h dX9_yawnsAct_83
  replace hf := it_f c7 hf
  refine lv_lookup (off := 78) (tgt := 84) hx hb dX9_yawnsAct_6 (by decide) (lk_out _ (List.forall_mem_cons.mpr ⟨c2, (List.forall_mem_cons.mpr ⟨c4, (List.forall_mem_cons.mpr ⟨c7, (fun _ h => absurd h List.not_mem_nil)⟩)⟩)⟩)) (by decide) ?_
  refine lv_aload_n hx hb dX9_yawnsAct_84 rfl (lv_at hl 0 rfl) ?_
  refine lv_iload_n hx hb dX9_yawnsAct_85 rfl (lv_at hl 1 rfl) ?_
  refine lv_iload_n hx hb dX9_yawnsAct_86 rfl (lv_at hl 2 rfl) ?_
  obtain ⟨u11, hu11, hf⟩ := bd_use hf
  refine r_cv_9 (rest := []) C h (c_X9_masterYawns  hu11) (rfl : Kd 29 = 9) gX9_yawnsAct_X9_masterYawns rfl ⟨rfl, rfl⟩ hdX9_masterYawns ⟨Nat.le_of_ble_eq_true rfl, Nat.le_of_ble_eq_true rfl⟩ ⟨Nat.zero_le _, Nat.zero_le _⟩ hl.1 rfl (Nat.le_of_ble_eq_true rfl) dX9_yawnsAct_87 (fun H locs h => ?_)
  replace hf := Option.some.inj hf
  subst hf
  exact r_ire C h dX9_yawnsAct_90
theorem c_X9_yawnsAct {l : Launch} {E : Ev} {σ : Ms} {ℓ : Mz} {τ : Mm} {p0 : Int32} {p1 : Int32} {out : Int32 × Mm} (hf : f_X9_yawnsAct τ p0 p1 = some out) : Ct l yX9_yawnsAct wsX9_yawnsAct rm_X9_yawnsAct [.ref (Ea E 29 0), .int p0, .int p1] E (va_up σ 29 τ) ℓ (some (.int out.1)) (va_up σ 29 out.2) ℓ := by
  refine Ct_mk (cc := cX9_yawnsAct) (mL := 4) (ret := (some .int)) (own := RX9) (by decide +kernel) rfl rfl (Nat.le_of_ble_eq_true rfl) (fun p e s m below meth c C h ls hl => ?_)
  exact w_X9_yawnsAct_0  C τ _ _ h ls (lv_sub hl [0, 1, 2] rfl) hf
theorem k_X9_yawnsAct {l : Launch} {E : Ev} {σ : Ms} {ℓ : Mz} {τ : Mm} {p0 : Int32} {p1 : Int32} (hτ : σ 29 = τ) {out : Int32 × Mm} (hf : f_X9_yawnsAct τ p0 p1 = some out) : Ct l yX9_yawnsAct wsX9_yawnsAct rm_X9_yawnsAct [.ref (Ea E 29 0), .int p0, .int p1] E σ ℓ (some (.int out.1)) (va_up σ 29 out.2) ℓ := by
  subst hτ
  have h := c_X9_yawnsAct (l := l) (E := E) (σ := σ) (ℓ := ℓ)  hf
  rw [up_id σ 29] at h
  exact h
theorem hdX9_masterTells : yX9_masterTells.cls = RX9 ∧ yX9_masterTells.cls ≠ "java/lang/invoke/MethodHandle" ∧ yX9_masterTells.cls ≠ "java/lang/invoke/VarHandle" ∧ (parseMethodDescriptor yX9_masterTells.desc).map (fun d => d.parameters.length) = some 2 := by decide +kernel
def rm_X9_masterTells : Room := { frames := 6, cells := 0, slots := 0, locals := 132 }
set_option maxHeartbeats 4000000 in
set_option maxRecDepth 100000 in
theorem w_X9_masterTells_0 {p : Program} {l : Launch} {e : Env} {s : State} {m : MethodId} {args : Array Value} {below : List Frame} {meth : Method} {c : Code} {E : Ev} {σ : Ms} {ℓ : Mz} {p0 : Int32} {p1 : Int32} {out : Int32 × Mm}   (C : Cx cX9_masterTells 3 (some .int) wsX9_masterTells RX9 E p s m args meth c)  : ∀ (τ : Mm) (H : Heap) (locs : List Loc) (h : HI E (va_up σ 29 τ) ℓ s H locs) (ls : Array Slot) (hl : lv_has ls 3 [(0, .ref (Ea E 29 0)), (1, .int p0), (2, .int p1)]), f_X9_masterTells_0 p0 p1  τ = some out → W p l e rm_X9_masterTells s m args below meth c H locs 0 0 (MQ below (Po E s.heap.size (some (.int out.1)) (va_up σ 29 out.2) ℓ) args s 0 0 (AA E s.heap.size)) (F0 m 0 ls []) := by
  intro τ H locs h ls hl hf
  unfold f_X9_masterTells_0 at hf
  have C0 := C
  obtain ⟨hx, hb, hr, hml, hown, hts, hlk, hK, hSF⟩ := C0
  refine lv_aload_n hx hb dX9_masterTells_0 rfl (lv_at hl 0 rfl) ?_
  refine lv_bipush (v := (12 : Int32)) hx hb dX9_masterTells_1 (by decide) ?_
  obtain ⟨u1, hu1, hf⟩ := bd_use hf
  refine r_cv_9 (rest := []) C h (c_X9_body  hu1) (rfl : Kd 29 = 9) gX9_masterTells_X9_body rfl ⟨rfl, rfl⟩ hdX9_body ⟨Nat.le_of_ble_eq_true rfl, Nat.le_of_ble_eq_true rfl⟩ ⟨Nat.zero_le _, Nat.zero_le _⟩ hl.1 rfl (Nat.le_of_ble_eq_true rfl) dX9_masterTells_3 (fun H locs h => ?_)
  refine lv_aload_n hx hb dX9_masterTells_6 rfl (lv_at hl 0 rfl) ?_
  refine lv_iload_n hx hb dX9_masterTells_7 rfl (lv_at hl 1 rfl) ?_
  refine lv_iload_n hx hb dX9_masterTells_8 rfl (lv_at hl 2 rfl) ?_
  obtain ⟨u2, hu2, hf⟩ := bd_use hf
  refine r_cv_9 (rest := []) C h (c_X9_yawnsAct  hu2) (rfl : Kd 29 = 9) gX9_masterTells_X9_yawnsAct rfl ⟨rfl, rfl⟩ hdX9_yawnsAct ⟨Nat.le_of_ble_eq_true rfl, Nat.le_of_ble_eq_true rfl⟩ ⟨Nat.zero_le _, Nat.zero_le _⟩ hl.1 rfl (Nat.le_of_ble_eq_true rfl) dX9_masterTells_9 (fun H locs h => ?_)
  refine lv_iconst (v := (2 : Int32)) hx hb dX9_masterTells_12 (by decide) ?_
  refine lv_imul hx hb dX9_masterTells_13 ?_
  replace hf := Option.some.inj hf
  subst hf
  exact r_ire C h dX9_masterTells_14
theorem c_X9_masterTells {l : Launch} {E : Ev} {σ : Ms} {ℓ : Mz} {τ : Mm} {p0 : Int32} {p1 : Int32} {out : Int32 × Mm} (hf : f_X9_masterTells τ p0 p1 = some out) : Ct l yX9_masterTells wsX9_masterTells rm_X9_masterTells [.ref (Ea E 29 0), .int p0, .int p1] E (va_up σ 29 τ) ℓ (some (.int out.1)) (va_up σ 29 out.2) ℓ := by
  refine Ct_mk (cc := cX9_masterTells) (mL := 3) (ret := (some .int)) (own := RX9) (by decide +kernel) rfl rfl (Nat.le_of_ble_eq_true rfl) (fun p e s m below meth c C h ls hl => ?_)
  exact w_X9_masterTells_0  C τ _ _ h ls (lv_sub hl [0, 1, 2] rfl) hf
theorem k_X9_masterTells {l : Launch} {E : Ev} {σ : Ms} {ℓ : Mz} {τ : Mm} {p0 : Int32} {p1 : Int32} (hτ : σ 29 = τ) {out : Int32 × Mm} (hf : f_X9_masterTells τ p0 p1 = some out) : Ct l yX9_masterTells wsX9_masterTells rm_X9_masterTells [.ref (Ea E 29 0), .int p0, .int p1] E σ ℓ (some (.int out.1)) (va_up σ 29 out.2) ℓ := by
  subst hτ
  have h := c_X9_masterTells (l := l) (E := E) (σ := σ) (ℓ := ℓ)  hf
  rw [up_id σ 29] at h
  exact h
theorem hdX9_tellsAct : yX9_tellsAct.cls = RX9 ∧ yX9_tellsAct.cls ≠ "java/lang/invoke/MethodHandle" ∧ yX9_tellsAct.cls ≠ "java/lang/invoke/VarHandle" ∧ (parseMethodDescriptor yX9_tellsAct.desc).map (fun d => d.parameters.length) = some 2 := by decide +kernel
def rm_X9_tellsAct : Room := { frames := 7, cells := 0, slots := 0, locals := 154 }
set_option maxRecDepth 100000 in
theorem inX9_tellsAct_9 : ∀ w ∈ wsX90, w ∈ wsX9_tellsAct := fun _ h => List.mem_cons_of_mem _ (List.mem_append_right _ h)
set_option maxRecDepth 100000 in
theorem lkX9_tellsAct_25 : Cond.fieldLink RX9 25 "BellsBelowModel" "kind" "[I" ∈ wsX9_tellsAct := by decide +kernel
set_option maxHeartbeats 4000000 in
set_option maxRecDepth 100000 in
theorem w_X9_tellsAct_36 {p : Program} {l : Launch} {e : Env} {s : State} {m : MethodId} {args : Array Value} {below : List Frame} {meth : Method} {c : Code} {E : Ev} {σ : Ms} {ℓ : Mz} {p0 : Int32} {p1 : Int32} {out : Int32 × Mm}   (C : Cx cX9_tellsAct 4 (some .int) wsX9_tellsAct RX9 E p s m args meth c)  : ∀ (τ : Mm) (H : Heap) (locs : List Loc) (h : HI E (va_up σ 29 τ) ℓ s H locs) (ls : Array Slot) (hl : lv_has ls 4 [(0, .ref (Ea E 29 0)), (1, .int p0), (2, .int p1)]), f_X9_tellsAct_36 p0 p1  τ = some out → W p l e rm_X9_tellsAct s m args below meth c H locs 0 0 (MQ below (Po E s.heap.size (some (.int out.1)) (va_up σ 29 out.2) ℓ) args s 0 0 (AA E s.heap.size)) (F0 m 36 ls []) := by
  intro τ H locs h ls hl hf
  unfold f_X9_tellsAct_36 at hf
  have C0 := C
  obtain ⟨hx, hb, hr, hml, hown, hts, hlk, hK, hSF⟩ := C0
  refine lv_aload_n hx hb dX9_tellsAct_36 rfl (lv_at hl 0 rfl) ?_
  refine lv_bipush (v := (40 : Int32)) hx hb dX9_tellsAct_37 (by decide) ?_
  obtain ⟨u3, hu3, hf⟩ := bd_use hf
  refine r_cv_9 (rest := []) C h (c_X9_body  hu3) (rfl : Kd 29 = 9) gX9_tellsAct_X9_body rfl ⟨rfl, rfl⟩ hdX9_body ⟨Nat.le_of_ble_eq_true rfl, Nat.le_of_ble_eq_true rfl⟩ ⟨Nat.zero_le _, Nat.zero_le _⟩ hl.1 rfl (Nat.le_of_ble_eq_true rfl) dX9_tellsAct_39 (fun H locs h => ?_)
  refine lv_aload_n hx hb dX9_tellsAct_42 rfl (lv_at hl 0 rfl) ?_
  refine lv_iload_n hx hb dX9_tellsAct_43 rfl (lv_at hl 1 rfl) ?_
  refine lv_iload_n hx hb dX9_tellsAct_44 rfl (lv_at hl 2 rfl) ?_
  obtain ⟨u4, hu4, hf⟩ := bd_use hf
  refine r_cv_9 (rest := []) C h (c_X9_masterTells  hu4) (rfl : Kd 29 = 9) gX9_tellsAct_X9_masterTells rfl ⟨rfl, rfl⟩ hdX9_masterTells ⟨Nat.le_of_ble_eq_true rfl, Nat.le_of_ble_eq_true rfl⟩ ⟨Nat.zero_le _, Nat.zero_le _⟩ hl.1 rfl (Nat.le_of_ble_eq_true rfl) dX9_tellsAct_45 (fun H locs h => ?_)
  refine lv_istore_n (lv' := [(3, .int u4.1), (0, .ref (Ea E 29 0)), (1, .int p0), (2, .int p1)]) hx hb dX9_tellsAct_48 rfl hl (by decide) rfl (fun ls hl => ?_)
  refine lv_iload_n hx hb dX9_tellsAct_49 rfl (lv_at hl 0 rfl) ?_
  refine lv_aload_n hx hb dX9_tellsAct_50 rfl (lv_at hl 1 rfl) ?_
  refine lv_iload_n hx hb dX9_tellsAct_51 rfl (lv_at hl 2 rfl) ?_
  refine lv_iconst (v := (1 : Int32)) hx hb dX9_tellsAct_52 (by decide) ?_
  obtain ⟨u5, hu5, hf⟩ := bd_use hf
  refine r_cv_9 (rest := [.int u4.1]) C h (c_X9_yawnsAct  hu5) (rfl : Kd 29 = 9) gX9_tellsAct_X9_yawnsAct rfl ⟨rfl, rfl⟩ hdX9_yawnsAct ⟨Nat.le_of_ble_eq_true rfl, Nat.le_of_ble_eq_true rfl⟩ ⟨Nat.zero_le _, Nat.zero_le _⟩ hl.1 rfl (Nat.le_of_ble_eq_true rfl) dX9_tellsAct_53 (fun H locs h => ?_)
  refine lv_iadd hx hb dX9_tellsAct_56 ?_
  replace hf := Option.some.inj hf
  subst hf
  exact r_ire C h dX9_tellsAct_57
set_option maxHeartbeats 4000000 in
set_option maxRecDepth 100000 in
theorem w_X9_tellsAct_73 {p : Program} {l : Launch} {e : Env} {s : State} {m : MethodId} {args : Array Value} {below : List Frame} {meth : Method} {c : Code} {E : Ev} {σ : Ms} {ℓ : Mz} {p0 : Int32} {p1 : Int32} {out : Int32 × Mm}   (C : Cx cX9_tellsAct 4 (some .int) wsX9_tellsAct RX9 E p s m args meth c)  : ∀ (τ : Mm) (H : Heap) (locs : List Loc) (h : HI E (va_up σ 29 τ) ℓ s H locs) (ls : Array Slot) (hl : lv_has ls 4 [(0, .ref (Ea E 29 0)), (1, .int p0), (2, .int p1)]), f_X9_tellsAct_73 p0 p1  τ = some out → W p l e rm_X9_tellsAct s m args below meth c H locs 0 0 (MQ below (Po E s.heap.size (some (.int out.1)) (va_up σ 29 out.2) ℓ) args s 0 0 (AA E s.heap.size)) (F0 m 73 ls []) := by
  intro τ H locs h ls hl hf
  unfold f_X9_tellsAct_73 at hf
  have C0 := C
  obtain ⟨hx, hb, hr, hml, hown, hts, hlk, hK, hSF⟩ := C0
  refine lv_aload_n hx hb dX9_tellsAct_73 rfl (lv_at hl 0 rfl) ?_
  refine lv_iload_n hx hb dX9_tellsAct_74 rfl (lv_at hl 1 rfl) ?_
  refine lv_iload_n hx hb dX9_tellsAct_75 rfl (lv_at hl 2 rfl) ?_
  obtain ⟨u7, hu7, hf⟩ := bd_use hf
  refine r_cv_9 (rest := []) C h (c_X9_masterTells  hu7) (rfl : Kd 29 = 9) gX9_tellsAct_X9_masterTells rfl ⟨rfl, rfl⟩ hdX9_masterTells ⟨Nat.le_of_ble_eq_true rfl, Nat.le_of_ble_eq_true rfl⟩ ⟨Nat.zero_le _, Nat.zero_le _⟩ hl.1 rfl (Nat.le_of_ble_eq_true rfl) dX9_tellsAct_76 (fun H locs h => ?_)
  replace hf := Option.some.inj hf
  subst hf
  exact r_ire C h dX9_tellsAct_79
set_option maxHeartbeats 4000000 in
set_option maxRecDepth 100000 in
theorem w_X9_tellsAct_0 {p : Program} {l : Launch} {e : Env} {s : State} {m : MethodId} {args : Array Value} {below : List Frame} {meth : Method} {c : Code} {E : Ev} {σ : Ms} {ℓ : Mz} {p0 : Int32} {p1 : Int32} {out : Int32 × Mm}   (C : Cx cX9_tellsAct 4 (some .int) wsX9_tellsAct RX9 E p s m args meth c)  : ∀ (τ : Mm) (H : Heap) (locs : List Loc) (h : HI E (va_up σ 29 τ) ℓ s H locs) (ls : Array Slot) (hl : lv_has ls 4 [(0, .ref (Ea E 29 0)), (1, .int p0), (2, .int p1)]), f_X9_tellsAct_0 p0 p1  τ = some out → W p l e rm_X9_tellsAct s m args below meth c H locs 0 0 (MQ below (Po E s.heap.size (some (.int out.1)) (va_up σ 29 out.2) ℓ) args s 0 0 (AA E s.heap.size)) (F0 m 0 ls []) := by
  intro τ H locs h ls hl hf
  unfold f_X9_tellsAct_0 at hf
  have C0 := C
  obtain ⟨hx, hb, hr, hml, hown, hts, hlk, hK, hSF⟩ := C0
  refine lv_aload_n hx hb dX9_tellsAct_0 rfl (lv_at hl 0 rfl) ?_
  refine gf_9_5 C h (rfl : Kd 29 = 9) up_eq inX9_tellsAct_9 lkX9_tellsAct_25 dX9_tellsAct_1 ?_
  refine lv_iload_n hx hb dX9_tellsAct_4 rfl (lv_at hl 1 rfl) ?_
  obtain ⟨g1, hf⟩ := gd_use hf
  refine ld_9_1 C h (rfl : Kd 29 = 9) up_eq (inB_in g1) dX9_tellsAct_5 ?_
  by_cases c2 : (τ 5 p0.toNatClampNeg) = (3 : Int32)
  · replace hf := it_t c2 hf
    refine r_tin (v := (3 : Int32)) (off := 30) (tgt := 36) hx hb c2 dX9_tellsAct_6 (by decide) (by decide) (by decide) (by decide) ?_
    exact w_X9_tellsAct_36    C  _ _ _ h ls (lv_sub hl [0, 1, 2] rfl) hf
  replace hf := it_f c2 hf
  by_cases c6 : (τ 5 p0.toNatClampNeg) = (4 : Int32)
  · replace hf := it_t c6 hf
    refine r_tin (v := (4 : Int32)) (off := 67) (tgt := 73) hx hb c6 dX9_tellsAct_6 (by decide) (by decide) (by decide) (by decide) ?_
    exact w_X9_tellsAct_73    C  _ _ _ h ls (lv_sub hl [0, 1, 2] rfl) hf
  replace hf := it_f c6 hf
  by_cases c8 : (τ 5 p0.toNatClampNeg) = (5 : Int32)
  · replace hf := it_t c8 hf
    refine r_tin (v := (5 : Int32)) (off := 52) (tgt := 58) hx hb c8 dX9_tellsAct_6 (by decide) (by decide) (by decide) (by decide) ?_
    refine lv_aload_n hx hb dX9_tellsAct_58 rfl (lv_at hl 0 rfl) ?_
    refine lv_bipush (v := (60 : Int32)) hx hb dX9_tellsAct_59 (by decide) ?_
    obtain ⟨u9, hu9, hf⟩ := bd_use hf
    refine r_cv_9 (rest := []) C h (c_X9_body  hu9) (rfl : Kd 29 = 9) gX9_tellsAct_X9_body rfl ⟨rfl, rfl⟩ hdX9_body ⟨Nat.le_of_ble_eq_true rfl, Nat.le_of_ble_eq_true rfl⟩ ⟨Nat.zero_le _, Nat.zero_le _⟩ hl.1 rfl (Nat.le_of_ble_eq_true rfl) dX9_tellsAct_61 (fun H locs h => ?_)
    refine lv_aload_n hx hb dX9_tellsAct_64 rfl (lv_at hl 0 rfl) ?_
    refine lv_iload_n hx hb dX9_tellsAct_65 rfl (lv_at hl 1 rfl) ?_
    refine lv_iload_n hx hb dX9_tellsAct_66 rfl (lv_at hl 2 rfl) ?_
    refine lv_iload_n hx hb dX9_tellsAct_67 rfl (lv_at hl 1 rfl) ?_
    refine lv_isub hx hb dX9_tellsAct_68 ?_
    obtain ⟨u10, hu10, hf⟩ := bd_use hf
    refine r_cv_9 (rest := []) C h (c_X9_masterTells  hu10) (rfl : Kd 29 = 9) gX9_tellsAct_X9_masterTells rfl ⟨rfl, rfl⟩ hdX9_masterTells ⟨Nat.le_of_ble_eq_true rfl, Nat.le_of_ble_eq_true rfl⟩ ⟨Nat.zero_le _, Nat.zero_le _⟩ hl.1 rfl (Nat.le_of_ble_eq_true rfl) dX9_tellsAct_69 (fun H locs h => ?_)
    replace hf := Option.some.inj hf
    subst hf
    exact r_ire C h dX9_tellsAct_72
  replace hf := it_f c8 hf
  by_cases c11 : (τ 5 p0.toNatClampNeg) = (6 : Int32)
  · replace hf := it_t c11 hf
    refine r_tin (v := (6 : Int32)) (off := 30) (tgt := 36) hx hb c11 dX9_tellsAct_6 (by decide) (by decide) (by decide) (by decide) ?_
    exact w_X9_tellsAct_36    C  _ _ _ h ls (lv_sub hl [0, 1, 2] rfl) hf
  replace hf := it_f c11 hf
  refine lv_tableOut (tgt := 73) hx hb dX9_tellsAct_6 (tsw_out [3, 4, 5, 6] (List.forall_mem_cons.mpr ⟨c2, (List.forall_mem_cons.mpr ⟨c6, (List.forall_mem_cons.mpr ⟨c8, (List.forall_mem_cons.mpr ⟨c11, (fun _ h => absurd h List.not_mem_nil)⟩)⟩)⟩)⟩) rfl) (by decide) ?_
  exact w_X9_tellsAct_73    C  _ _ _ h ls (lv_sub hl [0, 1, 2] rfl) hf
theorem c_X9_tellsAct {l : Launch} {E : Ev} {σ : Ms} {ℓ : Mz} {τ : Mm} {p0 : Int32} {p1 : Int32} {out : Int32 × Mm} (hf : f_X9_tellsAct τ p0 p1 = some out) : Ct l yX9_tellsAct wsX9_tellsAct rm_X9_tellsAct [.ref (Ea E 29 0), .int p0, .int p1] E (va_up σ 29 τ) ℓ (some (.int out.1)) (va_up σ 29 out.2) ℓ := by
  refine Ct_mk (cc := cX9_tellsAct) (mL := 4) (ret := (some .int)) (own := RX9) (by decide +kernel) rfl rfl (Nat.le_of_ble_eq_true rfl) (fun p e s m below meth c C h ls hl => ?_)
  exact w_X9_tellsAct_0  C τ _ _ h ls (lv_sub hl [0, 1, 2] rfl) hf
theorem k_X9_tellsAct {l : Launch} {E : Ev} {σ : Ms} {ℓ : Mz} {τ : Mm} {p0 : Int32} {p1 : Int32} (hτ : σ 29 = τ) {out : Int32 × Mm} (hf : f_X9_tellsAct τ p0 p1 = some out) : Ct l yX9_tellsAct wsX9_tellsAct rm_X9_tellsAct [.ref (Ea E 29 0), .int p0, .int p1] E σ ℓ (some (.int out.1)) (va_up σ 29 out.2) ℓ := by
  subst hτ
  have h := c_X9_tellsAct (l := l) (E := E) (σ := σ) (ℓ := ℓ)  hf
  rw [up_id σ 29] at h
  exact h
theorem hdX9_act : yX9_act.cls = RX9 ∧ yX9_act.cls ≠ "java/lang/invoke/MethodHandle" ∧ yX9_act.cls ≠ "java/lang/invoke/VarHandle" ∧ (parseMethodDescriptor yX9_act.desc).map (fun d => d.parameters.length) = some 3 := by decide +kernel
def rm_X9_act : Room := { frames := 8, cells := 0, slots := 0, locals := 177 }
set_option maxRecDepth 100000 in
theorem inX9_act_9 : ∀ w ∈ wsX90, w ∈ wsX9_act := fun _ h => List.mem_cons_of_mem _ (List.mem_append_right _ h)
set_option maxRecDepth 100000 in
theorem lkX9_act_251 : Cond.fieldLink RX9 251 "BellsBelowModel" "ran" "I" ∈ wsX9_act := by decide +kernel
set_option maxHeartbeats 4000000 in
set_option maxRecDepth 100000 in
theorem w_X9_act_0 {p : Program} {l : Launch} {e : Env} {s : State} {m : MethodId} {args : Array Value} {below : List Frame} {meth : Method} {c : Code} {E : Ev} {σ : Ms} {ℓ : Mz} {p0 : Int32} {p1 : Int32} {p2 : Int32} {out : Int32 × Mm}   (C : Cx cX9_act 4 (some .int) wsX9_act RX9 E p s m args meth c)  : ∀ (τ : Mm) (H : Heap) (locs : List Loc) (h : HI E (va_up σ 29 τ) ℓ s H locs) (ls : Array Slot) (hl : lv_has ls 4 [(0, .ref (Ea E 29 0)), (1, .int p0), (2, .int p1), (3, .int p2)]), f_X9_act_0 p0 p1 p2  τ = some out → W p l e rm_X9_act s m args below meth c H locs 0 0 (MQ below (Po E s.heap.size (some (.int out.1)) (va_up σ 29 out.2) ℓ) args s 0 0 (AA E s.heap.size)) (F0 m 0 ls []) := by
  intro τ H locs h ls hl hf
  unfold f_X9_act_0 at hf
  have C0 := C
  obtain ⟨hx, hb, hr, hml, hown, hts, hlk, hK, hSF⟩ := C0
  refine lv_aload_n hx hb dX9_act_0 rfl (lv_at hl 0 rfl) ?_
  refine lv_iconst (v := (0 : Int32)) hx hb dX9_act_1 (by decide) ?_
  refine pf_9_79 C h (rfl : Kd 29 = 9) up_eq (F := fun t => va_up σ 29 t) (fun _ => up_up) inX9_act_9 lkX9_act_251 dX9_act_2 (fun τ1 eτ1 H locs h => ?_)
  replace hf := lt_use eτ1 hf
  clear eτ1
  refine lv_aload_n hx hb dX9_act_5 rfl (lv_at hl 0 rfl) ?_
  refine lv_iload_n hx hb dX9_act_6 rfl (lv_at hl 1 rfl) ?_
  obtain ⟨u2, hu2, hf⟩ := bd_use hf
  refine r_cv_9 (rest := []) C h (c_X9_isMaster up_eq hu2) (rfl : Kd 29 = 9) gX9_act_X9_isMaster rfl ⟨rfl, rfl⟩ hdX9_isMaster ⟨Nat.le_of_ble_eq_true rfl, Nat.le_of_ble_eq_true rfl⟩ ⟨Nat.zero_le _, Nat.zero_le _⟩ hl.1 rfl (Nat.le_of_ble_eq_true rfl) dX9_act_7 (fun H locs h => ?_)
  refine lv_if_eq (tgt := 23) hx hb dX9_act_10 (by decide) (fun c3 => ?_) (fun c3 => ?_)
  · replace hf := it_t c3 hf
    refine lv_iconst (v := (0 : Int32)) hx hb dX9_act_23 (by decide) ?_
    replace hf := Option.some.inj hf
    subst hf
    exact r_ire C h dX9_act_24
  replace hf := it_f c3 hf
  refine lv_aload_n hx hb dX9_act_13 rfl (lv_at hl 0 rfl) ?_
  refine lv_iload_n hx hb dX9_act_14 rfl (lv_at hl 2 rfl) ?_
  refine lv_iconst (v := (0 : Int32)) hx hb dX9_act_15 (by decide) ?_
  refine lv_iconst (v := (2 : Int32)) hx hb dX9_act_16 (by decide) ?_
  obtain ⟨u4, hu4, hf⟩ := bd_use hf
  refine r_cv_9 (rest := []) C h (c_X9_in  hu4) (rfl : Kd 29 = 9) gX9_act_X9_in rfl ⟨rfl, rfl⟩ hdX9_in ⟨Nat.le_of_ble_eq_true rfl, Nat.le_of_ble_eq_true rfl⟩ ⟨Nat.zero_le _, Nat.zero_le _⟩ hl.1 rfl (Nat.le_of_ble_eq_true rfl) dX9_act_17 (fun H locs h => ?_)
  refine lv_if_ne (tgt := 25) hx hb dX9_act_20 (by decide) (fun c5 => ?_) (fun c5 => ?_)
  · replace hf := it_f c5 hf
    refine lv_iload_n hx hb dX9_act_25 rfl (lv_at hl 2 rfl) ?_
    refine lv_if_ne (tgt := 38) hx hb dX9_act_26 (by decide) (fun c6 => ?_) (fun c6 => ?_)
    · replace hf := it_f c6 hf
      refine lv_iload_n hx hb dX9_act_38 rfl (lv_at hl 2 rfl) ?_
      refine lv_iconst (v := (1 : Int32)) hx hb dX9_act_39 (by decide) ?_
      refine lv_icmp_ne (tgt := 52) hx hb dX9_act_40 (by decide) (fun c7 => ?_) (fun c7 => ?_)
      · replace hf := it_f c7 hf
        refine lv_aload_n hx hb dX9_act_52 rfl (lv_at hl 0 rfl) ?_
        refine lv_iload_n hx hb dX9_act_53 rfl (lv_at hl 1 rfl) ?_
        refine lv_iload_n hx hb dX9_act_54 rfl (lv_at hl 3 rfl) ?_
        obtain ⟨u8, hu8, hf⟩ := bd_use hf
        refine r_cv_9 (rest := []) C h (c_X9_tellsAct  hu8) (rfl : Kd 29 = 9) gX9_act_X9_tellsAct rfl ⟨rfl, rfl⟩ hdX9_tellsAct ⟨Nat.le_of_ble_eq_true rfl, Nat.le_of_ble_eq_true rfl⟩ ⟨Nat.zero_le _, Nat.zero_le _⟩ hl.1 rfl (Nat.le_of_ble_eq_true rfl) dX9_act_55 (fun H locs h => ?_)
        replace hf := Option.some.inj hf
        subst hf
        exact r_ire C h dX9_act_58
      replace hf := it_t c7 hf
      refine lv_aload_n hx hb dX9_act_43 rfl (lv_at hl 0 rfl) ?_
      refine lv_iload_n hx hb dX9_act_44 rfl (lv_at hl 1 rfl) ?_
      refine lv_iload_n hx hb dX9_act_45 rfl (lv_at hl 3 rfl) ?_
      obtain ⟨u9, hu9, hf⟩ := bd_use hf
      refine r_cv_9 (rest := []) C h (c_X9_yawnsAct  hu9) (rfl : Kd 29 = 9) gX9_act_X9_yawnsAct rfl ⟨rfl, rfl⟩ hdX9_yawnsAct ⟨Nat.le_of_ble_eq_true rfl, Nat.le_of_ble_eq_true rfl⟩ ⟨Nat.zero_le _, Nat.zero_le _⟩ hl.1 rfl (Nat.le_of_ble_eq_true rfl) dX9_act_46 (fun H locs h => ?_)
      refine lv_goto (tgt := 58) hx hb dX9_act_49 (by decide) ?_
      replace hf := Option.some.inj hf
      subst hf
      exact r_ire C h dX9_act_58
    replace hf := it_t c6 hf
    refine lv_aload_n hx hb dX9_act_29 rfl (lv_at hl 0 rfl) ?_
    refine lv_iload_n hx hb dX9_act_30 rfl (lv_at hl 1 rfl) ?_
    refine lv_iload_n hx hb dX9_act_31 rfl (lv_at hl 3 rfl) ?_
    obtain ⟨u10, hu10, hf⟩ := bd_use hf
    refine r_cv_9 (rest := []) C h (c_X9_climbsAct  hu10) (rfl : Kd 29 = 9) gX9_act_X9_climbsAct rfl ⟨rfl, rfl⟩ hdX9_climbsAct ⟨Nat.le_of_ble_eq_true rfl, Nat.le_of_ble_eq_true rfl⟩ ⟨Nat.zero_le _, Nat.zero_le _⟩ hl.1 rfl (Nat.le_of_ble_eq_true rfl) dX9_act_32 (fun H locs h => ?_)
    refine lv_goto (tgt := 58) hx hb dX9_act_35 (by decide) ?_
    replace hf := Option.some.inj hf
    subst hf
    exact r_ire C h dX9_act_58
  replace hf := it_t c5 hf
  refine lv_iconst (v := (0 : Int32)) hx hb dX9_act_23 (by decide) ?_
  replace hf := Option.some.inj hf
  subst hf
  exact r_ire C h dX9_act_24
theorem c_X9_act {l : Launch} {E : Ev} {σ : Ms} {ℓ : Mz} {τ : Mm} {p0 : Int32} {p1 : Int32} {p2 : Int32} {out : Int32 × Mm} (hf : f_X9_act τ p0 p1 p2 = some out) : Ct l yX9_act wsX9_act rm_X9_act [.ref (Ea E 29 0), .int p0, .int p1, .int p2] E (va_up σ 29 τ) ℓ (some (.int out.1)) (va_up σ 29 out.2) ℓ := by
  refine Ct_mk (cc := cX9_act) (mL := 4) (ret := (some .int)) (own := RX9) (by decide +kernel) rfl rfl (Nat.le_of_ble_eq_true rfl) (fun p e s m below meth c C h ls hl => ?_)
  exact w_X9_act_0  C τ _ _ h ls (lv_sub hl [0, 1, 2, 3] rfl) hf
theorem k_X9_act {l : Launch} {E : Ev} {σ : Ms} {ℓ : Mz} {τ : Mm} {p0 : Int32} {p1 : Int32} {p2 : Int32} (hτ : σ 29 = τ) {out : Int32 × Mm} (hf : f_X9_act τ p0 p1 p2 = some out) : Ct l yX9_act wsX9_act rm_X9_act [.ref (Ea E 29 0), .int p0, .int p1, .int p2] E σ ℓ (some (.int out.1)) (va_up σ 29 out.2) ℓ := by
  subst hτ
  have h := c_X9_act (l := l) (E := E) (σ := σ) (ℓ := ℓ)  hf
  rw [up_id σ 29] at h
  exact h
theorem hdX9_trace : yX9_trace.cls = RX9 ∧ yX9_trace.cls ≠ "java/lang/invoke/MethodHandle" ∧ yX9_trace.cls ≠ "java/lang/invoke/VarHandle" ∧ (parseMethodDescriptor yX9_trace.desc).map (fun d => d.parameters.length) = some 1 := by decide +kernel
def rm_X9_trace : Room := { frames := 1, cells := 0, slots := 0, locals := 23 }
set_option maxRecDepth 100000 in
theorem inX9_trace_9 : ∀ w ∈ wsX90, w ∈ wsX9_trace := fun _ h => List.mem_cons_of_mem _ (List.mem_append_right _ h)
set_option maxRecDepth 100000 in
theorem lkX9_trace_251 : Cond.fieldLink RX9 251 "BellsBelowModel" "ran" "I" ∈ wsX9_trace := by decide +kernel
set_option maxRecDepth 100000 in
theorem lkX9_trace_254 : Cond.fieldLink RX9 254 "BellsBelowModel" "bodies" "[I" ∈ wsX9_trace := by decide +kernel
set_option maxHeartbeats 4000000 in
set_option maxRecDepth 100000 in
theorem w_X9_trace_0 {p : Program} {l : Launch} {e : Env} {s : State} {m : MethodId} {args : Array Value} {below : List Frame} {meth : Method} {c : Code} {E : Ev} {σ : Ms} {ℓ : Mz} {τ : Mm} {p0 : Int32} {out : Int32} (hτ : σ 29 = τ)   (C : Cx cX9_trace 2 (some .int) wsX9_trace RX9 E p s m args meth c)  : ∀  (H : Heap) (locs : List Loc) (h : HI E σ ℓ s H locs) (ls : Array Slot) (hl : lv_has ls 2 [(0, .ref (Ea E 29 0)), (1, .int p0)]), f_X9_trace_0 τ p0   = some out → W p l e rm_X9_trace s m args below meth c H locs 0 0 (MQ below (Po E s.heap.size (some (.int out)) σ ℓ) args s 0 0 (AA E s.heap.size)) (F0 m 0 ls []) := by
  intro  H locs h ls hl hf
  unfold f_X9_trace_0 at hf
  have C0 := C
  obtain ⟨hx, hb, hr, hml, hown, hts, hlk, hK, hSF⟩ := C0
  refine lv_aload_n hx hb dX9_trace_0 rfl (lv_at hl 0 rfl) ?_
  refine lv_iload_n hx hb dX9_trace_1 rfl (lv_at hl 1 rfl) ?_
  refine lv_iconst (v := (0 : Int32)) hx hb dX9_trace_2 (by decide) ?_
  refine lv_bipush (v := (19 : Int32)) hx hb dX9_trace_3 (by decide) ?_
  obtain ⟨u1, hu1, hf⟩ := bd_use hf
  refine r_cv_9 (rest := []) C h (c_X9_in  hu1) (rfl : Kd 29 = 9) gX9_trace_X9_in rfl ⟨rfl, rfl⟩ hdX9_in ⟨Nat.le_of_ble_eq_true rfl, Nat.le_of_ble_eq_true rfl⟩ ⟨Nat.zero_le _, Nat.zero_le _⟩ hl.1 rfl (Nat.le_of_ble_eq_true rfl) dX9_trace_5 (fun H locs h => ?_)
  refine lv_if_eq (tgt := 28) hx hb dX9_trace_8 (by decide) (fun c2 => ?_) (fun c2 => ?_)
  · replace hf := it_t c2 hf
    refine lv_iconst (v := (-1 : Int32)) hx hb dX9_trace_28 (by decide) ?_
    replace hf := Option.some.inj hf
    subst hf
    exact r_ire C h dX9_trace_29
  replace hf := it_f c2 hf
  refine lv_iload_n hx hb dX9_trace_11 rfl (lv_at hl 1 rfl) ?_
  refine lv_aload_n hx hb dX9_trace_12 rfl (lv_at hl 0 rfl) ?_
  refine gf_9_79 C h (rfl : Kd 29 = 9) hτ inX9_trace_9 lkX9_trace_251 dX9_trace_13 ?_
  refine lv_icmp_ge (tgt := 28) hx hb dX9_trace_16 (by decide) (fun c3 => ?_) (fun c3 => ?_)
  · replace hf := it_t c3 hf
    refine lv_iconst (v := (-1 : Int32)) hx hb dX9_trace_28 (by decide) ?_
    replace hf := Option.some.inj hf
    subst hf
    exact r_ire C h dX9_trace_29
  replace hf := it_f c3 hf
  refine lv_aload_n hx hb dX9_trace_19 rfl (lv_at hl 0 rfl) ?_
  refine gf_9_80 C h (rfl : Kd 29 = 9) hτ inX9_trace_9 lkX9_trace_254 dX9_trace_20 ?_
  refine lv_iload_n hx hb dX9_trace_23 rfl (lv_at hl 1 rfl) ?_
  obtain ⟨g4, hf⟩ := gd_use hf
  refine ld_9_48 C h (rfl : Kd 29 = 9) hτ (inB_in g4) dX9_trace_24 ?_
  refine lv_goto (tgt := 29) hx hb dX9_trace_25 (by decide) ?_
  replace hf := Option.some.inj hf
  subst hf
  exact r_ire C h dX9_trace_29
theorem c_X9_trace {l : Launch} {E : Ev} {σ : Ms} {ℓ : Mz} {τ : Mm} {p0 : Int32} (hτ : σ 29 = τ) {out : Int32} (hf : f_X9_trace τ p0 = some out) : Ct l yX9_trace wsX9_trace rm_X9_trace [.ref (Ea E 29 0), .int p0] E σ ℓ (some (.int out)) σ ℓ := by
  refine Ct_mk (cc := cX9_trace) (mL := 2) (ret := (some .int)) (own := RX9) (by decide +kernel) rfl rfl (Nat.le_of_ble_eq_true rfl) (fun p e s m below meth c C h ls hl => ?_)
  exact w_X9_trace_0 hτ C  _ _ h ls (lv_sub hl [0, 1] rfl) hf
theorem hdX9_taken : yX9_taken.cls = RX9 ∧ yX9_taken.cls ≠ "java/lang/invoke/MethodHandle" ∧ yX9_taken.cls ≠ "java/lang/invoke/VarHandle" ∧ (parseMethodDescriptor yX9_taken.desc).map (fun d => d.parameters.length) = some 2 := by decide +kernel
def rm_X9_taken : Room := { frames := 2, cells := 0, slots := 0, locals := 44 }
set_option maxRecDepth 100000 in
theorem inX9_taken_9 : ∀ w ∈ wsX90, w ∈ wsX9_taken := fun _ h => List.mem_cons_of_mem _ (List.mem_append_right _ h)
set_option maxRecDepth 100000 in
theorem lkX9_taken_25 : Cond.fieldLink RX9 25 "BellsBelowModel" "kind" "[I" ∈ wsX9_taken := by decide +kernel
set_option maxHeartbeats 4000000 in
set_option maxRecDepth 100000 in
theorem w_X9_taken_72 {p : Program} {l : Launch} {e : Env} {s : State} {m : MethodId} {args : Array Value} {below : List Frame} {meth : Method} {c : Code} {E : Ev} {σ : Ms} {ℓ : Mz} {τ : Mm} {p0 : Int32} {p1 : Int32} {out : Int32} (hτ : σ 29 = τ)   (C : Cx cX9_taken 4 (some .int) wsX9_taken RX9 E p s m args meth c)  : ∀ (v3 : Int32) (H : Heap) (locs : List Loc) (h : HI E σ ℓ s H locs) (ls : Array Slot) (hl : lv_has ls 4 [(3, .int v3)]), f_X9_taken_72 τ p0 p1  v3 = some out → W p l e rm_X9_taken s m args below meth c H locs 0 0 (MQ below (Po E s.heap.size (some (.int out)) σ ℓ) args s 0 0 (AA E s.heap.size)) (F0 m 72 ls []) := by
  intro v3 H locs h ls hl hf
  unfold f_X9_taken_72 at hf
  have C0 := C
  obtain ⟨hx, hb, hr, hml, hown, hts, hlk, hK, hSF⟩ := C0
  refine lv_iload_n hx hb dX9_taken_72 rfl (lv_at hl 0 rfl) ?_
  refine lv_goto (tgt := 78) hx hb dX9_taken_73 (by decide) ?_
  replace hf := Option.some.inj hf
  subst hf
  exact r_ire C h dX9_taken_78
set_option maxHeartbeats 4000000 in
set_option maxRecDepth 100000 in
theorem w_X9_taken_61 {p : Program} {l : Launch} {e : Env} {s : State} {m : MethodId} {args : Array Value} {below : List Frame} {meth : Method} {c : Code} {E : Ev} {σ : Ms} {ℓ : Mz} {τ : Mm} {p0 : Int32} {p1 : Int32} {out : Int32} (hτ : σ 29 = τ)   (C : Cx cX9_taken 4 (some .int) wsX9_taken RX9 E p s m args meth c)  : ∀ (v3 : Int32) (H : Heap) (locs : List Loc) (h : HI E σ ℓ s H locs) (ls : Array Slot) (hl : lv_has ls 4 [(2, .int p1), (3, .int v3)]), f_X9_taken_61 τ p0 p1  v3 = some out → W p l e rm_X9_taken s m args below meth c H locs 0 0 (MQ below (Po E s.heap.size (some (.int out)) σ ℓ) args s 0 0 (AA E s.heap.size)) (F0 m 61 ls []) := by
  intro v3 H locs h ls hl hf
  unfold f_X9_taken_61 at hf
  have C0 := C
  obtain ⟨hx, hb, hr, hml, hown, hts, hlk, hK, hSF⟩ := C0
  refine lv_iload_n hx hb dX9_taken_61 rfl (lv_at hl 0 rfl) ?_
  refine lv_iconst (v := (3 : Int32)) hx hb dX9_taken_62 (by decide) ?_
  refine lv_icmp_ne (tgt := 76) hx hb dX9_taken_63 (by decide) (fun c11 => ?_) (fun c11 => ?_)
  · replace hf := it_f c11 hf
    refine lv_bipush (v := (-12 : Int32)) hx hb dX9_taken_76 (by decide) ?_
    replace hf := Option.some.inj hf
    subst hf
    exact r_ire C h dX9_taken_78
  replace hf := it_t c11 hf
  refine lv_iload_n hx hb dX9_taken_66 rfl (lv_at hl 1 rfl) ?_
  refine lv_bipush (v := (6 : Int32)) hx hb dX9_taken_67 (by decide) ?_
  refine lv_icmp_ne (tgt := 76) hx hb dX9_taken_69 (by decide) (fun c12 => ?_) (fun c12 => ?_)
  · replace hf := it_f c12 hf
    refine lv_bipush (v := (-12 : Int32)) hx hb dX9_taken_76 (by decide) ?_
    replace hf := Option.some.inj hf
    subst hf
    exact r_ire C h dX9_taken_78
  replace hf := it_t c12 hf
  exact w_X9_taken_72 hτ   C  _ _ _ h ls (lv_sub hl [1] rfl) hf
set_option maxHeartbeats 4000000 in
set_option maxRecDepth 100000 in
theorem w_X9_taken_51 {p : Program} {l : Launch} {e : Env} {s : State} {m : MethodId} {args : Array Value} {below : List Frame} {meth : Method} {c : Code} {E : Ev} {σ : Ms} {ℓ : Mz} {τ : Mm} {p0 : Int32} {p1 : Int32} {out : Int32} (hτ : σ 29 = τ)   (C : Cx cX9_taken 4 (some .int) wsX9_taken RX9 E p s m args meth c)  : ∀ (v3 : Int32) (H : Heap) (locs : List Loc) (h : HI E σ ℓ s H locs) (ls : Array Slot) (hl : lv_has ls 4 [(2, .int p1), (3, .int v3)]), f_X9_taken_51 τ p0 p1  v3 = some out → W p l e rm_X9_taken s m args below meth c H locs 0 0 (MQ below (Po E s.heap.size (some (.int out)) σ ℓ) args s 0 0 (AA E s.heap.size)) (F0 m 51 ls []) := by
  intro v3 H locs h ls hl hf
  unfold f_X9_taken_51 at hf
  have C0 := C
  obtain ⟨hx, hb, hr, hml, hown, hts, hlk, hK, hSF⟩ := C0
  refine lv_iload_n hx hb dX9_taken_51 rfl (lv_at hl 0 rfl) ?_
  refine lv_iconst (v := (2 : Int32)) hx hb dX9_taken_52 (by decide) ?_
  refine lv_icmp_ne (tgt := 61) hx hb dX9_taken_53 (by decide) (fun c10 => ?_) (fun c10 => ?_)
  · replace hf := it_f c10 hf
    exact w_X9_taken_61 hτ   C  _ _ _ h ls (lv_sub hl [0, 1] rfl) hf
  replace hf := it_t c10 hf
  refine lv_iload_n hx hb dX9_taken_56 rfl (lv_at hl 1 rfl) ?_
  refine lv_iconst (v := (5 : Int32)) hx hb dX9_taken_57 (by decide) ?_
  refine lv_icmp_eq (tgt := 72) hx hb dX9_taken_58 (by decide) (fun c13 => ?_) (fun c13 => ?_)
  · replace hf := it_t c13 hf
    exact w_X9_taken_72 hτ   C  _ _ _ h ls (lv_sub hl [1] rfl) hf
  replace hf := it_f c13 hf
  exact w_X9_taken_61 hτ   C  _ _ _ h ls (lv_sub hl [0, 1] rfl) hf
set_option maxHeartbeats 4000000 in
set_option maxRecDepth 100000 in
theorem w_X9_taken_0 {p : Program} {l : Launch} {e : Env} {s : State} {m : MethodId} {args : Array Value} {below : List Frame} {meth : Method} {c : Code} {E : Ev} {σ : Ms} {ℓ : Mz} {τ : Mm} {p0 : Int32} {p1 : Int32} {out : Int32} (hτ : σ 29 = τ)   (C : Cx cX9_taken 4 (some .int) wsX9_taken RX9 E p s m args meth c)  : ∀  (H : Heap) (locs : List Loc) (h : HI E σ ℓ s H locs) (ls : Array Slot) (hl : lv_has ls 4 [(0, .ref (Ea E 29 0)), (1, .int p0), (2, .int p1)]), f_X9_taken_0 τ p0 p1   = some out → W p l e rm_X9_taken s m args below meth c H locs 0 0 (MQ below (Po E s.heap.size (some (.int out)) σ ℓ) args s 0 0 (AA E s.heap.size)) (F0 m 0 ls []) := by
  intro  H locs h ls hl hf
  unfold f_X9_taken_0 at hf
  have C0 := C
  obtain ⟨hx, hb, hr, hml, hown, hts, hlk, hK, hSF⟩ := C0
  refine lv_aload_n hx hb dX9_taken_0 rfl (lv_at hl 0 rfl) ?_
  refine lv_iload_n hx hb dX9_taken_1 rfl (lv_at hl 2 rfl) ?_
  refine lv_iconst (v := (0 : Int32)) hx hb dX9_taken_2 (by decide) ?_
  refine lv_bipush (v := (6 : Int32)) hx hb dX9_taken_3 (by decide) ?_
  obtain ⟨u1, hu1, hf⟩ := bd_use hf
  refine r_cv_9 (rest := []) C h (c_X9_in  hu1) (rfl : Kd 29 = 9) gX9_taken_X9_in rfl ⟨rfl, rfl⟩ hdX9_in ⟨Nat.le_of_ble_eq_true rfl, Nat.le_of_ble_eq_true rfl⟩ ⟨Nat.zero_le _, Nat.zero_le _⟩ hl.1 rfl (Nat.le_of_ble_eq_true rfl) dX9_taken_5 (fun H locs h => ?_)
  refine lv_if_ne (tgt := 14) hx hb dX9_taken_8 (by decide) (fun c2 => ?_) (fun c2 => ?_)
  · replace hf := it_f c2 hf
    refine lv_aload_n hx hb dX9_taken_14 rfl (lv_at hl 0 rfl) ?_
    refine lv_iload_n hx hb dX9_taken_15 rfl (lv_at hl 1 rfl) ?_
    obtain ⟨u3, hu3, hf⟩ := bd_use hf
    refine r_cv_9 (rest := []) C h (c_X9_isMaster hτ hu3) (rfl : Kd 29 = 9) gX9_taken_X9_isMaster rfl ⟨rfl, rfl⟩ hdX9_isMaster ⟨Nat.le_of_ble_eq_true rfl, Nat.le_of_ble_eq_true rfl⟩ ⟨Nat.zero_le _, Nat.zero_le _⟩ hl.1 rfl (Nat.le_of_ble_eq_true rfl) dX9_taken_16 (fun H locs h => ?_)
    refine lv_if_ne (tgt := 25) hx hb dX9_taken_19 (by decide) (fun c4 => ?_) (fun c4 => ?_)
    · replace hf := it_f c4 hf
      refine lv_aload_n hx hb dX9_taken_25 rfl (lv_at hl 0 rfl) ?_
      refine gf_9_5 C h (rfl : Kd 29 = 9) hτ inX9_taken_9 lkX9_taken_25 dX9_taken_26 ?_
      refine lv_iload_n hx hb dX9_taken_29 rfl (lv_at hl 1 rfl) ?_
      obtain ⟨g5, hf⟩ := gd_use hf
      refine ld_9_1 C h (rfl : Kd 29 = 9) hτ (inB_in g5) dX9_taken_30 ?_
      refine lv_topi (fun x6 ex6 => ?_)
      replace hf := lt_use ex6 hf
      clear ex6
      refine lv_istore_n (lv' := [(3, .int x6), (0, .ref (Ea E 29 0)), (1, .int p0), (2, .int p1)]) hx hb dX9_taken_31 rfl hl (by decide) rfl (fun ls hl => ?_)
      refine lv_iload_n hx hb dX9_taken_32 rfl (lv_at hl 3 rfl) ?_
      refine lv_if_eq (tgt := 72) hx hb dX9_taken_33 (by decide) (fun c7 => ?_) (fun c7 => ?_)
      · replace hf := it_t c7 hf
        exact w_X9_taken_72 hτ   C  _ _ _ h ls (lv_sub hl [0] rfl) hf
      replace hf := it_f c7 hf
      refine lv_iload_n hx hb dX9_taken_36 rfl (lv_at hl 0 rfl) ?_
      refine lv_iload_n hx hb dX9_taken_37 rfl (lv_at hl 3 rfl) ?_
      refine lv_icmp_eq (tgt := 72) hx hb dX9_taken_38 (by decide) (fun c8 => ?_) (fun c8 => ?_)
      · replace hf := it_t c8 hf
        exact w_X9_taken_72 hτ   C  _ _ _ h ls (lv_sub hl [0] rfl) hf
      replace hf := it_f c8 hf
      refine lv_iload_n hx hb dX9_taken_41 rfl (lv_at hl 3 rfl) ?_
      refine lv_iconst (v := (1 : Int32)) hx hb dX9_taken_42 (by decide) ?_
      refine lv_icmp_ne (tgt := 51) hx hb dX9_taken_43 (by decide) (fun c9 => ?_) (fun c9 => ?_)
      · replace hf := it_f c9 hf
        exact w_X9_taken_51 hτ   C  _ _ _ h ls (lv_sub hl [3, 0] rfl) hf
      replace hf := it_t c9 hf
      refine lv_iload_n hx hb dX9_taken_46 rfl (lv_at hl 0 rfl) ?_
      refine lv_iconst (v := (4 : Int32)) hx hb dX9_taken_47 (by decide) ?_
      refine lv_icmp_eq (tgt := 72) hx hb dX9_taken_48 (by decide) (fun c14 => ?_) (fun c14 => ?_)
      · replace hf := it_t c14 hf
        exact w_X9_taken_72 hτ   C  _ _ _ h ls (lv_sub hl [0] rfl) hf
      replace hf := it_f c14 hf
      exact w_X9_taken_51 hτ   C  _ _ _ h ls (lv_sub hl [3, 0] rfl) hf
    replace hf := it_t c4 hf
    refine lv_bipush (v := (-11 : Int32)) hx hb dX9_taken_22 (by decide) ?_
    replace hf := Option.some.inj hf
    subst hf
    exact r_ire C h dX9_taken_24
  replace hf := it_t c2 hf
  refine lv_bipush (v := (-2 : Int32)) hx hb dX9_taken_11 (by decide) ?_
  replace hf := Option.some.inj hf
  subst hf
  exact r_ire C h dX9_taken_13
theorem c_X9_taken {l : Launch} {E : Ev} {σ : Ms} {ℓ : Mz} {τ : Mm} {p0 : Int32} {p1 : Int32} (hτ : σ 29 = τ) {out : Int32} (hf : f_X9_taken τ p0 p1 = some out) : Ct l yX9_taken wsX9_taken rm_X9_taken [.ref (Ea E 29 0), .int p0, .int p1] E σ ℓ (some (.int out)) σ ℓ := by
  refine Ct_mk (cc := cX9_taken) (mL := 4) (ret := (some .int)) (own := RX9) (by decide +kernel) rfl rfl (Nat.le_of_ble_eq_true rfl) (fun p e s m below meth c C h ls hl => ?_)
  exact w_X9_taken_0 hτ C  _ _ h ls (lv_sub hl [0, 1, 2] rfl) hf
theorem hdX9_count : yX9_count.cls = RX9 ∧ yX9_count.cls ≠ "java/lang/invoke/MethodHandle" ∧ yX9_count.cls ≠ "java/lang/invoke/VarHandle" ∧ (parseMethodDescriptor yX9_count.desc).map (fun d => d.parameters.length) = some 1 := by decide +kernel
def rm_X9_count : Room := { frames := 0, cells := 0, slots := 0, locals := 0 }
set_option maxRecDepth 100000 in
theorem inX9_count_9 : ∀ w ∈ wsX90, w ∈ wsX9_count := fun _ h => List.mem_cons_of_mem _ (List.mem_append_right _ h)
set_option maxRecDepth 100000 in
theorem lkX9_count_7 : Cond.fieldLink RX9 7 "BellsBelowModel" "masters" "I" ∈ wsX9_count := by decide +kernel
set_option maxRecDepth 100000 in
theorem lkX9_count_50 : Cond.fieldLink RX9 50 "BellsBelowModel" "houses" "I" ∈ wsX9_count := by decide +kernel
set_option maxRecDepth 100000 in
theorem lkX9_count_145 : Cond.fieldLink RX9 145 "BellsBelowModel" "seen" "I" ∈ wsX9_count := by decide +kernel
set_option maxRecDepth 100000 in
theorem lkX9_count_157 : Cond.fieldLink RX9 157 "BellsBelowModel" "plans" "I" ∈ wsX9_count := by decide +kernel
set_option maxRecDepth 100000 in
theorem lkX9_count_160 : Cond.fieldLink RX9 160 "BellsBelowModel" "books" "I" ∈ wsX9_count := by decide +kernel
set_option maxRecDepth 100000 in
theorem lkX9_count_56 : Cond.fieldLink RX9 56 "BellsBelowModel" "fed" "I" ∈ wsX9_count := by decide +kernel
set_option maxRecDepth 100000 in
theorem lkX9_count_251 : Cond.fieldLink RX9 251 "BellsBelowModel" "ran" "I" ∈ wsX9_count := by decide +kernel
set_option maxHeartbeats 4000000 in
set_option maxRecDepth 100000 in
theorem w_X9_count_0 {p : Program} {l : Launch} {e : Env} {s : State} {m : MethodId} {args : Array Value} {below : List Frame} {meth : Method} {c : Code} {E : Ev} {σ : Ms} {ℓ : Mz} {τ : Mm} {p0 : Int32} {out : Int32} (hτ : σ 29 = τ)   (C : Cx cX9_count 2 (some .int) wsX9_count RX9 E p s m args meth c)  : ∀  (H : Heap) (locs : List Loc) (h : HI E σ ℓ s H locs) (ls : Array Slot) (hl : lv_has ls 2 [(0, .ref (Ea E 29 0)), (1, .int p0)]), f_X9_count_0 τ p0   = some out → W p l e rm_X9_count s m args below meth c H locs 0 0 (MQ below (Po E s.heap.size (some (.int out)) σ ℓ) args s 0 0 (AA E s.heap.size)) (F0 m 0 ls []) := by
  intro  H locs h ls hl hf
  unfold f_X9_count_0 at hf
  have C0 := C
  obtain ⟨hx, hb, hr, hml, hown, hts, hlk, hK, hSF⟩ := C0
  refine lv_iload_n hx hb dX9_count_0 rfl (lv_at hl 1 rfl) ?_
  by_cases c1 : p0 = (0 : Int32)
  · replace hf := it_t c1 hf
    refine r_tin (v := (0 : Int32)) (off := 43) (tgt := 44) hx hb c1 dX9_count_1 (by decide) (by decide) (by decide) (by decide) ?_
    refine lv_aload_n hx hb dX9_count_44 rfl (lv_at hl 0 rfl) ?_
    refine gf_9_0 C h (rfl : Kd 29 = 9) hτ inX9_count_9 lkX9_count_7 dX9_count_45 ?_
    replace hf := Option.some.inj hf
    subst hf
    exact r_ire C h dX9_count_48
  replace hf := it_f c1 hf
  by_cases c2 : p0 = (1 : Int32)
  · replace hf := it_t c2 hf
    refine r_tin (v := (1 : Int32)) (off := 48) (tgt := 49) hx hb c2 dX9_count_1 (by decide) (by decide) (by decide) (by decide) ?_
    refine lv_aload_n hx hb dX9_count_49 rfl (lv_at hl 0 rfl) ?_
    refine gf_9_13 C h (rfl : Kd 29 = 9) hτ inX9_count_9 lkX9_count_50 dX9_count_50 ?_
    replace hf := Option.some.inj hf
    subst hf
    exact r_ire C h dX9_count_53
  replace hf := it_f c2 hf
  by_cases c3 : p0 = (2 : Int32)
  · replace hf := it_t c3 hf
    refine r_tin (v := (2 : Int32)) (off := 53) (tgt := 54) hx hb c3 dX9_count_1 (by decide) (by decide) (by decide) (by decide) ?_
    refine lv_aload_n hx hb dX9_count_54 rfl (lv_at hl 0 rfl) ?_
    refine gf_9_44 C h (rfl : Kd 29 = 9) hτ inX9_count_9 lkX9_count_145 dX9_count_55 ?_
    replace hf := Option.some.inj hf
    subst hf
    exact r_ire C h dX9_count_58
  replace hf := it_f c3 hf
  by_cases c4 : p0 = (3 : Int32)
  · replace hf := it_t c4 hf
    refine r_tin (v := (3 : Int32)) (off := 58) (tgt := 59) hx hb c4 dX9_count_1 (by decide) (by decide) (by decide) (by decide) ?_
    refine lv_aload_n hx hb dX9_count_59 rfl (lv_at hl 0 rfl) ?_
    refine gf_9_48 C h (rfl : Kd 29 = 9) hτ inX9_count_9 lkX9_count_157 dX9_count_60 ?_
    replace hf := Option.some.inj hf
    subst hf
    exact r_ire C h dX9_count_63
  replace hf := it_f c4 hf
  by_cases c5 : p0 = (4 : Int32)
  · replace hf := it_t c5 hf
    refine r_tin (v := (4 : Int32)) (off := 63) (tgt := 64) hx hb c5 dX9_count_1 (by decide) (by decide) (by decide) (by decide) ?_
    refine lv_aload_n hx hb dX9_count_64 rfl (lv_at hl 0 rfl) ?_
    refine gf_9_49 C h (rfl : Kd 29 = 9) hτ inX9_count_9 lkX9_count_160 dX9_count_65 ?_
    replace hf := Option.some.inj hf
    subst hf
    exact r_ire C h dX9_count_68
  replace hf := it_f c5 hf
  by_cases c6 : p0 = (5 : Int32)
  · replace hf := it_t c6 hf
    refine r_tin (v := (5 : Int32)) (off := 68) (tgt := 69) hx hb c6 dX9_count_1 (by decide) (by decide) (by decide) (by decide) ?_
    refine lv_aload_n hx hb dX9_count_69 rfl (lv_at hl 0 rfl) ?_
    refine gf_9_15 C h (rfl : Kd 29 = 9) hτ inX9_count_9 lkX9_count_56 dX9_count_70 ?_
    replace hf := Option.some.inj hf
    subst hf
    exact r_ire C h dX9_count_73
  replace hf := it_f c6 hf
  by_cases c7 : p0 = (6 : Int32)
  · replace hf := it_t c7 hf
    refine r_tin (v := (6 : Int32)) (off := 73) (tgt := 74) hx hb c7 dX9_count_1 (by decide) (by decide) (by decide) (by decide) ?_
    refine lv_aload_n hx hb dX9_count_74 rfl (lv_at hl 0 rfl) ?_
    refine gf_9_79 C h (rfl : Kd 29 = 9) hτ inX9_count_9 lkX9_count_251 dX9_count_75 ?_
    replace hf := Option.some.inj hf
    subst hf
    exact r_ire C h dX9_count_78
  replace hf := it_f c7 hf
  refine lv_tableOut (tgt := 79) hx hb dX9_count_1 (tsw_out [0, 1, 2, 3, 4, 5, 6] (List.forall_mem_cons.mpr ⟨c1, (List.forall_mem_cons.mpr ⟨c2, (List.forall_mem_cons.mpr ⟨c3, (List.forall_mem_cons.mpr ⟨c4, (List.forall_mem_cons.mpr ⟨c5, (List.forall_mem_cons.mpr ⟨c6, (List.forall_mem_cons.mpr ⟨c7, (fun _ h => absurd h List.not_mem_nil)⟩)⟩)⟩)⟩)⟩)⟩)⟩) rfl) (by decide) ?_
  refine lv_bipush (v := (-2 : Int32)) hx hb dX9_count_79 (by decide) ?_
  replace hf := Option.some.inj hf
  subst hf
  exact r_ire C h dX9_count_81
theorem c_X9_count {l : Launch} {E : Ev} {σ : Ms} {ℓ : Mz} {τ : Mm} {p0 : Int32} (hτ : σ 29 = τ) {out : Int32} (hf : f_X9_count τ p0 = some out) : Ct l yX9_count wsX9_count rm_X9_count [.ref (Ea E 29 0), .int p0] E σ ℓ (some (.int out)) σ ℓ := by
  refine Ct_mk (cc := cX9_count) (mL := 2) (ret := (some .int)) (own := RX9) (by decide +kernel) rfl rfl (Nat.le_of_ble_eq_true rfl) (fun p e s m below meth c C h ls hl => ?_)
  exact w_X9_count_0 hτ C  _ _ h ls (lv_sub hl [0, 1] rfl) hf
theorem hdX9_tape : yX9_tape.cls = RX9 ∧ yX9_tape.cls ≠ "java/lang/invoke/MethodHandle" ∧ yX9_tape.cls ≠ "java/lang/invoke/VarHandle" ∧ (parseMethodDescriptor yX9_tape.desc).map (fun d => d.parameters.length) = some 3 := by decide +kernel
def rm_X9_tape : Room := { frames := 2, cells := 0, slots := 0, locals := 44 }
set_option maxRecDepth 100000 in
theorem inX9_tape_9 : ∀ w ∈ wsX90, w ∈ wsX9_tape := fun _ h => List.mem_cons_of_mem _ (List.mem_append_right _ h)
set_option maxRecDepth 100000 in
theorem lkX9_tape_257 : Cond.fieldLink RX9 257 "BellsBelowModel" "sort" "[I" ∈ wsX9_tape := by decide +kernel
set_option maxRecDepth 100000 in
theorem lkX9_tape_260 : Cond.fieldLink RX9 260 "BellsBelowModel" "length" "[I" ∈ wsX9_tape := by decide +kernel
set_option maxRecDepth 100000 in
theorem lkX9_tape_263 : Cond.fieldLink RX9 263 "BellsBelowModel" "item" "[J" ∈ wsX9_tape := by decide +kernel
set_option maxHeartbeats 4000000 in
set_option maxRecDepth 100000 in
theorem w_X9_tape_69 {p : Program} {l : Launch} {e : Env} {s : State} {m : MethodId} {args : Array Value} {below : List Frame} {meth : Method} {c : Code} {E : Ev} {σ : Ms} {ℓ : Mz} {p0 : Int32} {p1 : Int32} {p2 : Int32} {out : Int32 × Mm × Mj}   (C : Cx cX9_tape 5 (some .int) wsX9_tape RX9 E p s m args meth c) {k69 : Mm → Mj → Int32 → Option (Int32 × Mm × Mj)} (hk69 : ∀ (τ : Mm) (η : Mj) (v4 : Int32) (H : Heap) (locs : List Loc), HI E (va_up σ 29 τ) (va_up ℓ 29 η) s H locs → ∀ ls : Array Slot, lv_has ls 5 [(0, .ref (Ea E 29 0)), (1, .int p0), (4, .int v4)] → k69 τ η v4 = some out → W p l e rm_X9_tape s m args below meth c H locs 0 0 (MQ below (Po E s.heap.size (some (.int out.1)) (va_up σ 29 out.2.1) (va_up ℓ 29 out.2.2)) args s 0 0 (AA E s.heap.size)) (F0 m 69 ls [])) : ∀ (τ : Mm) (η : Mj) (v4 : Int32) (H : Heap) (locs : List Loc) (h : HI E (va_up σ 29 τ) (va_up ℓ 29 η) s H locs) (ls : Array Slot) (hl : lv_has ls 5 [(0, .ref (Ea E 29 0)), (1, .int p0), (4, .int v4)]), f_X9_tape_69 p0 p1 p2 k69 τ η v4 = some out → W p l e rm_X9_tape s m args below meth c H locs 0 0 (MQ below (Po E s.heap.size (some (.int out.1)) (va_up σ 29 out.2.1) (va_up ℓ 29 out.2.2)) args s 0 0 (AA E s.heap.size)) (F0 m 69 ls []) := by
  intro τ η v4 H locs h ls hl hf
  unfold f_X9_tape_69 at hf
  have C0 := C
  obtain ⟨hx, hb, hr, hml, hown, hts, hlk, hK, hSF⟩ := C0
  refine lv_iload hx hb dX9_tape_69 (lv_at hl 2 rfl) ?_
  refine lv_bipush (v := (60 : Int32)) hx hb dX9_tape_71 (by decide) ?_
  refine lv_icmp_ge (tgt := 95) hx hb dX9_tape_73 (by decide) (fun c12 => ?_) (fun c12 => ?_)
  · replace hf := it_t c12 hf
    refine lv_iconst (v := (1 : Int32)) hx hb dX9_tape_95 (by decide) ?_
    replace hf := Option.some.inj hf
    subst hf
    exact r_ire C h dX9_tape_96
  replace hf := it_f c12 hf
  refine lv_aload_n hx hb dX9_tape_76 rfl (lv_at hl 0 rfl) ?_
  refine gf_9_83 C h (rfl : Kd 29 = 9) up_eq inX9_tape_9 lkX9_tape_263 dX9_tape_77 ?_
  refine lv_bipush (v := (60 : Int32)) hx hb dX9_tape_80 (by decide) ?_
  refine lv_iload_n hx hb dX9_tape_82 rfl (lv_at hl 1 rfl) ?_
  refine lv_imul hx hb dX9_tape_83 ?_
  refine lv_iload hx hb dX9_tape_84 (lv_at hl 2 rfl) ?_
  refine lv_iadd hx hb dX9_tape_86 ?_
  refine lv_lconst (v := (0 : Int64)) hx hb dX9_tape_87 (by decide) ?_
  obtain ⟨g13, hf⟩ := gd_use hf
  refine sa_9_51 C h (rfl : Kd 29 = 9) up_eq (F := fun t => va_up ℓ 29 t) (fun _ => up_up) (inB_in g13) dX9_tape_88 (fun η14 eη14 H locs h => ?_)
  replace hf := lt_use eη14 hf
  clear eη14
  obtain ⟨x15, ex15⟩ : ∃ y : Int32, y = (v4 + (1 : Int32)) := ⟨_, rfl⟩
  refine lv_iinc (v := x15) (lv' := [(4, .int x15), (0, .ref (Ea E 29 0)), (1, .int p0)]) hx hb dX9_tape_89 hl (k := 2) rfl (by rw [ex15]; rfl) (by decide) rfl (fun ls hl => ?_)
  replace hf := lt_use ex15 hf
  clear ex15
  refine lv_goto (tgt := 69) hx hb dX9_tape_92 (by decide) ?_
  exact hk69 _ _ _ _ _ h ls (lv_sub hl [1, 2, 0] rfl) hf
set_option maxHeartbeats 4000000 in
set_option maxRecDepth 100000 in
theorem w_X9_tape_69L {p : Program} {l : Launch} {e : Env} {s : State} {m : MethodId} {args : Array Value} {below : List Frame} {meth : Method} {c : Code} {E : Ev} {σ : Ms} {ℓ : Mz} {p0 : Int32} {p1 : Int32} {p2 : Int32} {out : Int32 × Mm × Mj}   (C : Cx cX9_tape 5 (some .int) wsX9_tape RX9 E p s m args meth c)  : ∀ (n9 : Nat) (τ : Mm) (η : Mj) (v4 : Int32) (H : Heap) (locs : List Loc) (h : HI E (va_up σ 29 τ) (va_up ℓ 29 η) s H locs) (ls : Array Slot) (hl : lv_has ls 5 [(0, .ref (Ea E 29 0)), (1, .int p0), (4, .int v4)]), f_X9_tape_69L p0 p1 p2  n9 τ η v4 = some out → W p l e rm_X9_tape s m args below meth c H locs 0 0 (MQ below (Po E s.heap.size (some (.int out.1)) (va_up σ 29 out.2.1) (va_up ℓ 29 out.2.2)) args s 0 0 (AA E s.heap.size)) (F0 m 69 ls []) := by
  intro n9
  induction n9 with
  | zero =>
    intro τ η v4 H locs h ls hl hf
    cases (show (none : Option (Int32 × Mm × Mj)) = some out from hf)
  | succ n9 ih =>
    intro τ η v4 H locs h ls hl hf
    exact w_X9_tape_69   C  ih τ η v4 H locs h ls hl hf
set_option maxHeartbeats 4000000 in
set_option maxRecDepth 100000 in
theorem w_X9_tape_65 {p : Program} {l : Launch} {e : Env} {s : State} {m : MethodId} {args : Array Value} {below : List Frame} {meth : Method} {c : Code} {E : Ev} {σ : Ms} {ℓ : Mz} {p0 : Int32} {p1 : Int32} {p2 : Int32} {out : Int32 × Mm × Mj}   (C : Cx cX9_tape 5 (some .int) wsX9_tape RX9 E p s m args meth c)  : ∀ (τ : Mm) (η : Mj) (w1 : Int32) (w2 : Int32) (H : Heap) (locs : List Loc) (h : HI E (va_up σ 29 τ) (va_up ℓ 29 η) s H locs) (ls : Array Slot) (hl : lv_has ls 5 [(0, .ref (Ea E 29 0)), (1, .int p0)]), f_X9_tape_65 p0 p1 p2  τ η w1 w2 = some out → W p l e rm_X9_tape s m args below meth c H locs 0 0 (MQ below (Po E s.heap.size (some (.int out.1)) (va_up σ 29 out.2.1) (va_up ℓ 29 out.2.2)) args s 0 0 (AA E s.heap.size)) (F0 m 65 ls [.int w2, .int w1, .ref (Ea E 29 50)]) := by
  intro τ η w1 w2 H locs h ls hl hf
  unfold f_X9_tape_65 at hf
  have C0 := C
  obtain ⟨hx, hb, hr, hml, hown, hts, hlk, hK, hSF⟩ := C0
  obtain ⟨g10, hf⟩ := gd_use hf
  refine sa_9_50 C h (rfl : Kd 29 = 9) up_eq (F := fun t => va_up σ 29 t) (fun _ => up_up) (inB_in g10) dX9_tape_65 (fun τ11 eτ11 H locs h => ?_)
  replace hf := lt_use eτ11 hf
  clear eτ11
  refine lv_iconst (v := (0 : Int32)) hx hb dX9_tape_66 (by decide) ?_
  refine lv_istore (lv' := [(4, .int (0 : Int32)), (0, .ref (Ea E 29 0)), (1, .int p0)]) hx hb dX9_tape_67 hl (by decide) rfl (fun ls hl => ?_)
  exact w_X9_tape_69L    C  _ _ _ _ _ _ h ls (lv_sub hl [1, 2, 0] rfl) hf
set_option maxHeartbeats 4000000 in
set_option maxRecDepth 100000 in
theorem w_X9_tape_44 {p : Program} {l : Launch} {e : Env} {s : State} {m : MethodId} {args : Array Value} {below : List Frame} {meth : Method} {c : Code} {E : Ev} {σ : Ms} {ℓ : Mz} {p0 : Int32} {p1 : Int32} {p2 : Int32} {out : Int32 × Mm × Mj}   (C : Cx cX9_tape 5 (some .int) wsX9_tape RX9 E p s m args meth c)  : ∀ (τ : Mm) (η : Mj) (H : Heap) (locs : List Loc) (h : HI E (va_up σ 29 τ) (va_up ℓ 29 η) s H locs) (ls : Array Slot) (hl : lv_has ls 5 [(0, .ref (Ea E 29 0)), (1, .int p0), (2, .int p1), (3, .int p2)]), f_X9_tape_44 p0 p1 p2  τ η = some out → W p l e rm_X9_tape s m args below meth c H locs 0 0 (MQ below (Po E s.heap.size (some (.int out.1)) (va_up σ 29 out.2.1) (va_up ℓ 29 out.2.2)) args s 0 0 (AA E s.heap.size)) (F0 m 44 ls []) := by
  intro τ η H locs h ls hl hf
  unfold f_X9_tape_44 at hf
  have C0 := C
  obtain ⟨hx, hb, hr, hml, hown, hts, hlk, hK, hSF⟩ := C0
  refine lv_aload_n hx hb dX9_tape_44 rfl (lv_at hl 0 rfl) ?_
  refine gf_9_81 C h (rfl : Kd 29 = 9) up_eq inX9_tape_9 lkX9_tape_257 dX9_tape_45 ?_
  refine lv_iload_n hx hb dX9_tape_48 rfl (lv_at hl 1 rfl) ?_
  refine lv_iload_n hx hb dX9_tape_49 rfl (lv_at hl 2 rfl) ?_
  obtain ⟨g7, hf⟩ := gd_use hf
  refine sa_9_49 C h (rfl : Kd 29 = 9) up_eq (F := fun t => va_up σ 29 t) (fun _ => up_up) (inB_in g7) dX9_tape_50 (fun τ8 eτ8 H locs h => ?_)
  replace hf := lt_use eτ8 hf
  clear eτ8
  refine lv_aload_n hx hb dX9_tape_51 rfl (lv_at hl 0 rfl) ?_
  refine gf_9_82 C h (rfl : Kd 29 = 9) up_eq inX9_tape_9 lkX9_tape_260 dX9_tape_52 ?_
  refine lv_iload_n hx hb dX9_tape_55 rfl (lv_at hl 1 rfl) ?_
  refine lv_iload_n hx hb dX9_tape_56 rfl (lv_at hl 2 rfl) ?_
  refine lv_if_ge (tgt := 64) hx hb dX9_tape_57 (by decide) (fun c9 => ?_) (fun c9 => ?_)
  · replace hf := it_t c9 hf
    refine lv_iload_n hx hb dX9_tape_64 rfl (lv_at hl 3 rfl) ?_
    exact w_X9_tape_65    C  _ _ _ _ _ _ h ls (lv_sub hl [0, 1] rfl) hf
  replace hf := it_f c9 hf
  refine lv_iconst (v := (0 : Int32)) hx hb dX9_tape_60 (by decide) ?_
  refine lv_goto (tgt := 65) hx hb dX9_tape_61 (by decide) ?_
  exact w_X9_tape_65    C  _ _ _ _ _ _ h ls (lv_sub hl [0, 1] rfl) hf
set_option maxHeartbeats 4000000 in
set_option maxRecDepth 100000 in
theorem w_X9_tape_33 {p : Program} {l : Launch} {e : Env} {s : State} {m : MethodId} {args : Array Value} {below : List Frame} {meth : Method} {c : Code} {E : Ev} {σ : Ms} {ℓ : Mz} {p0 : Int32} {p1 : Int32} {p2 : Int32} {out : Int32 × Mm × Mj}   (C : Cx cX9_tape 5 (some .int) wsX9_tape RX9 E p s m args meth c)  : ∀ (τ : Mm) (η : Mj) (H : Heap) (locs : List Loc) (h : HI E (va_up σ 29 τ) (va_up ℓ 29 η) s H locs) (ls : Array Slot) (hl : lv_has ls 5 [(0, .ref (Ea E 29 0)), (1, .int p0), (2, .int p1), (3, .int p2)]), f_X9_tape_33 p0 p1 p2  τ η = some out → W p l e rm_X9_tape s m args below meth c H locs 0 0 (MQ below (Po E s.heap.size (some (.int out.1)) (va_up σ 29 out.2.1) (va_up ℓ 29 out.2.2)) args s 0 0 (AA E s.heap.size)) (F0 m 33 ls []) := by
  intro τ η H locs h ls hl hf
  unfold f_X9_tape_33 at hf
  have C0 := C
  obtain ⟨hx, hb, hr, hml, hown, hts, hlk, hK, hSF⟩ := C0
  refine lv_iload_n hx hb dX9_tape_33 rfl (lv_at hl 2 rfl) ?_
  refine lv_if_lt (tgt := 44) hx hb dX9_tape_34 (by decide) (fun c6 => ?_) (fun c6 => ?_)
  · replace hf := it_t c6 hf
    exact w_X9_tape_44    C  _ _ _ _ h ls (lv_sub hl [0, 1, 2, 3] rfl) hf
  replace hf := it_f c6 hf
  refine lv_iload_n hx hb dX9_tape_37 rfl (lv_at hl 3 rfl) ?_
  refine lv_if_ge (tgt := 44) hx hb dX9_tape_38 (by decide) (fun c16 => ?_) (fun c16 => ?_)
  · replace hf := it_t c16 hf
    exact w_X9_tape_44    C  _ _ _ _ h ls (lv_sub hl [0, 1, 2, 3] rfl) hf
  replace hf := it_f c16 hf
  refine lv_bipush (v := (-14 : Int32)) hx hb dX9_tape_41 (by decide) ?_
  replace hf := Option.some.inj hf
  subst hf
  exact r_ire C h dX9_tape_43
set_option maxHeartbeats 4000000 in
set_option maxRecDepth 100000 in
theorem w_X9_tape_0 {p : Program} {l : Launch} {e : Env} {s : State} {m : MethodId} {args : Array Value} {below : List Frame} {meth : Method} {c : Code} {E : Ev} {σ : Ms} {ℓ : Mz} {p0 : Int32} {p1 : Int32} {p2 : Int32} {out : Int32 × Mm × Mj}   (C : Cx cX9_tape 5 (some .int) wsX9_tape RX9 E p s m args meth c)  : ∀ (τ : Mm) (η : Mj) (H : Heap) (locs : List Loc) (h : HI E (va_up σ 29 τ) (va_up ℓ 29 η) s H locs) (ls : Array Slot) (hl : lv_has ls 5 [(0, .ref (Ea E 29 0)), (1, .int p0), (2, .int p1), (3, .int p2)]), f_X9_tape_0 p0 p1 p2  τ η = some out → W p l e rm_X9_tape s m args below meth c H locs 0 0 (MQ below (Po E s.heap.size (some (.int out.1)) (va_up σ 29 out.2.1) (va_up ℓ 29 out.2.2)) args s 0 0 (AA E s.heap.size)) (F0 m 0 ls []) := by
  intro τ η H locs h ls hl hf
  unfold f_X9_tape_0 at hf
  have C0 := C
  obtain ⟨hx, hb, hr, hml, hown, hts, hlk, hK, hSF⟩ := C0
  refine lv_aload_n hx hb dX9_tape_0 rfl (lv_at hl 0 rfl) ?_
  refine lv_iload_n hx hb dX9_tape_1 rfl (lv_at hl 1 rfl) ?_
  obtain ⟨u1, hu1, hf⟩ := bd_use hf
  refine r_cv_9 (rest := []) C h (c_X9_isTape  hu1) (rfl : Kd 29 = 9) gX9_tape_X9_isTape rfl ⟨rfl, rfl⟩ hdX9_isTape ⟨Nat.le_of_ble_eq_true rfl, Nat.le_of_ble_eq_true rfl⟩ ⟨Nat.zero_le _, Nat.zero_le _⟩ hl.1 rfl (Nat.le_of_ble_eq_true rfl) dX9_tape_2 (fun H locs h => ?_)
  refine lv_if_ne (tgt := 10) hx hb dX9_tape_5 (by decide) (fun c2 => ?_) (fun c2 => ?_)
  · replace hf := it_f c2 hf
    refine lv_aload_n hx hb dX9_tape_10 rfl (lv_at hl 0 rfl) ?_
    refine lv_iload_n hx hb dX9_tape_11 rfl (lv_at hl 2 rfl) ?_
    refine lv_iconst (v := (-1 : Int32)) hx hb dX9_tape_12 (by decide) ?_
    refine lv_iconst (v := (4 : Int32)) hx hb dX9_tape_13 (by decide) ?_
    obtain ⟨u3, hu3, hf⟩ := bd_use hf
    refine r_cv_9 (rest := []) C h (c_X9_in  hu3) (rfl : Kd 29 = 9) gX9_tape_X9_in rfl ⟨rfl, rfl⟩ hdX9_in ⟨Nat.le_of_ble_eq_true rfl, Nat.le_of_ble_eq_true rfl⟩ ⟨Nat.zero_le _, Nat.zero_le _⟩ hl.1 rfl (Nat.le_of_ble_eq_true rfl) dX9_tape_14 (fun H locs h => ?_)
    refine lv_if_eq (tgt := 30) hx hb dX9_tape_17 (by decide) (fun c4 => ?_) (fun c4 => ?_)
    · replace hf := it_t c4 hf
      refine lv_bipush (v := (-2 : Int32)) hx hb dX9_tape_30 (by decide) ?_
      replace hf := Option.some.inj hf
      subst hf
      exact r_ire C h dX9_tape_32
    replace hf := it_f c4 hf
    refine lv_iload_n hx hb dX9_tape_20 rfl (lv_at hl 2 rfl) ?_
    refine lv_if_lt (tgt := 33) hx hb dX9_tape_21 (by decide) (fun c5 => ?_) (fun c5 => ?_)
    · replace hf := it_t c5 hf
      exact w_X9_tape_33    C  _ _ _ _ h ls (lv_sub hl [0, 1, 2, 3] rfl) hf
    replace hf := it_f c5 hf
    refine lv_iload_n hx hb dX9_tape_24 rfl (lv_at hl 3 rfl) ?_
    refine lv_bipush (v := (60 : Int32)) hx hb dX9_tape_25 (by decide) ?_
    refine lv_icmp_le (tgt := 33) hx hb dX9_tape_27 (by decide) (fun c17 => ?_) (fun c17 => ?_)
    · replace hf := it_t c17 hf
      exact w_X9_tape_33    C  _ _ _ _ h ls (lv_sub hl [0, 1, 2, 3] rfl) hf
    replace hf := it_f c17 hf
    refine lv_bipush (v := (-2 : Int32)) hx hb dX9_tape_30 (by decide) ?_
    replace hf := Option.some.inj hf
    subst hf
    exact r_ire C h dX9_tape_32
  replace hf := it_t c2 hf
  refine lv_iconst (v := (-1 : Int32)) hx hb dX9_tape_8 (by decide) ?_
  replace hf := Option.some.inj hf
  subst hf
  exact r_ire C h dX9_tape_9
theorem c_X9_tape {l : Launch} {E : Ev} {σ : Ms} {ℓ : Mz} {τ : Mm} {η : Mj} {p0 : Int32} {p1 : Int32} {p2 : Int32} {out : Int32 × Mm × Mj} (hf : f_X9_tape τ η p0 p1 p2 = some out) : Ct l yX9_tape wsX9_tape rm_X9_tape [.ref (Ea E 29 0), .int p0, .int p1, .int p2] E (va_up σ 29 τ) (va_up ℓ 29 η) (some (.int out.1)) (va_up σ 29 out.2.1) (va_up ℓ 29 out.2.2) := by
  refine Ct_mk (cc := cX9_tape) (mL := 5) (ret := (some .int)) (own := RX9) (by decide +kernel) rfl rfl (Nat.le_of_ble_eq_true rfl) (fun p e s m below meth c C h ls hl => ?_)
  exact w_X9_tape_0  C τ η _ _ h ls (lv_sub hl [0, 1, 2, 3] rfl) hf
theorem k_X9_tape {l : Launch} {E : Ev} {σ : Ms} {ℓ : Mz} {τ : Mm} {η : Mj} {p0 : Int32} {p1 : Int32} {p2 : Int32} (hτ : σ 29 = τ) (hη : ℓ 29 = η) {out : Int32 × Mm × Mj} (hf : f_X9_tape τ η p0 p1 p2 = some out) : Ct l yX9_tape wsX9_tape rm_X9_tape [.ref (Ea E 29 0), .int p0, .int p1, .int p2] E σ ℓ (some (.int out.1)) (va_up σ 29 out.2.1) (va_up ℓ 29 out.2.2) := by
  subst hτ; subst hη
  have h := c_X9_tape (l := l) (E := E) (σ := σ) (ℓ := ℓ)  hf
  rw [up_id σ 29, up_id ℓ 29] at h
  exact h
theorem hdX9_narrow : yX9_narrow.cls = RX9 ∧ yX9_narrow.cls ≠ "java/lang/invoke/MethodHandle" ∧ yX9_narrow.cls ≠ "java/lang/invoke/VarHandle" ∧ (parseMethodDescriptor yX9_narrow.desc).map (fun d => d.parameters.length) = some 2 := by decide +kernel
def rm_X9_narrow : Room := { frames := 0, cells := 0, slots := 0, locals := 0 }
set_option maxHeartbeats 4000000 in
set_option maxRecDepth 100000 in
theorem w_X9_narrow_0 {p : Program} {l : Launch} {e : Env} {s : State} {m : MethodId} {args : Array Value} {below : List Frame} {meth : Method} {c : Code} {E : Ev} {σ : Ms} {ℓ : Mz} {p0 : Int32} {p1 : Int64} {out : Int64}   (C : Cx cX9_narrow 4 (some .long) wsX9_narrow RX9 E p s m args meth c)  : ∀  (H : Heap) (locs : List Loc) (h : HI E σ ℓ s H locs) (ls : Array Slot) (hl : lv_has ls 4 [(1, .int p0), (2, .long p1)]), f_X9_narrow_0 p0 p1   = some out → W p l e rm_X9_narrow s m args below meth c H locs 0 0 (MQ below (Po E s.heap.size (some (.long out)) σ ℓ) args s 0 0 (AA E s.heap.size)) (F0 m 0 ls []) := by
  intro  H locs h ls hl hf
  unfold f_X9_narrow_0 at hf
  have C0 := C
  obtain ⟨hx, hb, hr, hml, hown, hts, hlk, hK, hSF⟩ := C0
  refine lv_iload_n hx hb dX9_narrow_0 rfl (lv_at hl 0 rfl) ?_
  refine lv_if_ne (tgt := 11) hx hb dX9_narrow_1 (by decide) (fun c1 => ?_) (fun c1 => ?_)
  · replace hf := it_f c1 hf
    refine lv_iload_n hx hb dX9_narrow_11 rfl (lv_at hl 0 rfl) ?_
    refine lv_iconst (v := (1 : Int32)) hx hb dX9_narrow_12 (by decide) ?_
    refine lv_icmp_ne (tgt := 23) hx hb dX9_narrow_13 (by decide) (fun c2 => ?_) (fun c2 => ?_)
    · replace hf := it_f c2 hf
      refine lv_iload_n hx hb dX9_narrow_23 rfl (lv_at hl 0 rfl) ?_
      refine lv_iconst (v := (2 : Int32)) hx hb dX9_narrow_24 (by decide) ?_
      refine lv_icmp_ne (tgt := 34) hx hb dX9_narrow_25 (by decide) (fun c3 => ?_) (fun c3 => ?_)
      · replace hf := it_f c3 hf
        refine lv_iload_n hx hb dX9_narrow_34 rfl (lv_at hl 0 rfl) ?_
        refine lv_iconst (v := (4 : Int32)) hx hb dX9_narrow_35 (by decide) ?_
        refine lv_icmp_ne (tgt := 53) hx hb dX9_narrow_36 (by decide) (fun c4 => ?_) (fun c4 => ?_)
        · replace hf := it_f c4 hf
          refine lv_lload_n hx hb dX9_narrow_53 rfl (lv_at hl 1 rfl) ?_
          replace hf := Option.some.inj hf
          subst hf
          exact r_lre C h dX9_narrow_54
        replace hf := it_t c4 hf
        refine lv_lload_n hx hb dX9_narrow_39 rfl (lv_at hl 1 rfl) ?_
        refine lv_lconst (v := (0 : Int64)) hx hb dX9_narrow_40 (by decide) ?_
        refine W.lcmp hx hb dX9_narrow_41 ?_
        refine lv_if_eq (tgt := 49) hx hb dX9_narrow_42 (by decide) (fun c5 => ?_) (fun c5 => ?_)
        · replace hf := it_t c5 hf
          refine lv_lconst (v := (0 : Int64)) hx hb dX9_narrow_49 (by decide) ?_
          refine lv_goto (tgt := 54) hx hb dX9_narrow_50 (by decide) ?_
          replace hf := Option.some.inj hf
          subst hf
          exact r_lre C h dX9_narrow_54
        replace hf := it_f c5 hf
        refine lv_lconst (v := (1 : Int64)) hx hb dX9_narrow_45 (by decide) ?_
        refine lv_goto (tgt := 54) hx hb dX9_narrow_46 (by decide) ?_
        replace hf := Option.some.inj hf
        subst hf
        exact r_lre C h dX9_narrow_54
      replace hf := it_t c3 hf
      refine lv_lload_n hx hb dX9_narrow_28 rfl (lv_at hl 1 rfl) ?_
      refine lv_l2i hx hb dX9_narrow_29 rfl ?_
      refine lv_i2l hx hb dX9_narrow_30 rfl ?_
      refine lv_goto (tgt := 54) hx hb dX9_narrow_31 (by decide) ?_
      replace hf := Option.some.inj hf
      subst hf
      exact r_lre C h dX9_narrow_54
    replace hf := it_t c2 hf
    refine lv_lload_n hx hb dX9_narrow_16 rfl (lv_at hl 1 rfl) ?_
    refine lv_l2i hx hb dX9_narrow_17 rfl ?_
    refine lv_i2s hx hb dX9_narrow_18 rfl ?_
    refine lv_i2l hx hb dX9_narrow_19 rfl ?_
    refine lv_goto (tgt := 54) hx hb dX9_narrow_20 (by decide) ?_
    replace hf := Option.some.inj hf
    subst hf
    exact r_lre C h dX9_narrow_54
  replace hf := it_t c1 hf
  refine lv_lload_n hx hb dX9_narrow_4 rfl (lv_at hl 1 rfl) ?_
  refine lv_l2i hx hb dX9_narrow_5 rfl ?_
  refine lv_i2b hx hb dX9_narrow_6 rfl ?_
  refine lv_i2l hx hb dX9_narrow_7 rfl ?_
  refine lv_goto (tgt := 54) hx hb dX9_narrow_8 (by decide) ?_
  replace hf := Option.some.inj hf
  subst hf
  exact r_lre C h dX9_narrow_54
theorem c_X9_narrow {l : Launch} {E : Ev} {σ : Ms} {ℓ : Mz} {p0 : Int32} {p1 : Int64} {out : Int64} (hf : f_X9_narrow p0 p1 = some out) : Ct l yX9_narrow wsX9_narrow rm_X9_narrow [.ref (Ea E 29 0), .int p0, .long p1] E σ ℓ (some (.long out)) σ ℓ := by
  refine Ct_mk (cc := cX9_narrow) (mL := 4) (ret := (some .long)) (own := RX9) (by decide +kernel) rfl rfl (Nat.le_of_ble_eq_true rfl) (fun p e s m below meth c C h ls hl => ?_)
  exact w_X9_narrow_0  C  _ _ h ls (lv_sub hl [1, 2] rfl) hf
theorem hdX9_item : yX9_item.cls = RX9 ∧ yX9_item.cls ≠ "java/lang/invoke/MethodHandle" ∧ yX9_item.cls ≠ "java/lang/invoke/VarHandle" ∧ (parseMethodDescriptor yX9_item.desc).map (fun d => d.parameters.length) = some 3 := by decide +kernel
def rm_X9_item : Room := { frames := 2, cells := 0, slots := 0, locals := 44 }
set_option maxRecDepth 100000 in
theorem inX9_item_9 : ∀ w ∈ wsX90, w ∈ wsX9_item := fun _ h => List.mem_cons_of_mem _ (List.mem_append_right _ h)
set_option maxRecDepth 100000 in
theorem lkX9_item_257 : Cond.fieldLink RX9 257 "BellsBelowModel" "sort" "[I" ∈ wsX9_item := by decide +kernel
set_option maxRecDepth 100000 in
theorem lkX9_item_260 : Cond.fieldLink RX9 260 "BellsBelowModel" "length" "[I" ∈ wsX9_item := by decide +kernel
set_option maxRecDepth 100000 in
theorem lkX9_item_263 : Cond.fieldLink RX9 263 "BellsBelowModel" "item" "[J" ∈ wsX9_item := by decide +kernel
set_option maxHeartbeats 4000000 in
set_option maxRecDepth 100000 in
theorem w_X9_item_0 {p : Program} {l : Launch} {e : Env} {s : State} {m : MethodId} {args : Array Value} {below : List Frame} {meth : Method} {c : Code} {E : Ev} {σ : Ms} {ℓ : Mz} {τ : Mm} {p0 : Int32} {p1 : Int32} {p2 : Int64} {out : Int32 × Mj} (hτ : σ 29 = τ)   (C : Cx cX9_item 5 (some .int) wsX9_item RX9 E p s m args meth c)  : ∀ (η : Mj) (H : Heap) (locs : List Loc) (h : HI E σ (va_up ℓ 29 η) s H locs) (ls : Array Slot) (hl : lv_has ls 5 [(0, .ref (Ea E 29 0)), (1, .int p0), (2, .int p1), (3, .long p2)]), f_X9_item_0 τ p0 p1 p2  η = some out → W p l e rm_X9_item s m args below meth c H locs 0 0 (MQ below (Po E s.heap.size (some (.int out.1)) σ (va_up ℓ 29 out.2)) args s 0 0 (AA E s.heap.size)) (F0 m 0 ls []) := by
  intro η H locs h ls hl hf
  unfold f_X9_item_0 at hf
  have C0 := C
  obtain ⟨hx, hb, hr, hml, hown, hts, hlk, hK, hSF⟩ := C0
  refine lv_aload_n hx hb dX9_item_0 rfl (lv_at hl 0 rfl) ?_
  refine lv_iload_n hx hb dX9_item_1 rfl (lv_at hl 1 rfl) ?_
  obtain ⟨u1, hu1, hf⟩ := bd_use hf
  refine r_cv_9 (rest := []) C h (c_X9_isTape  hu1) (rfl : Kd 29 = 9) gX9_item_X9_isTape rfl ⟨rfl, rfl⟩ hdX9_isTape ⟨Nat.le_of_ble_eq_true rfl, Nat.le_of_ble_eq_true rfl⟩ ⟨Nat.zero_le _, Nat.zero_le _⟩ hl.1 rfl (Nat.le_of_ble_eq_true rfl) dX9_item_2 (fun H locs h => ?_)
  refine lv_if_ne (tgt := 10) hx hb dX9_item_5 (by decide) (fun c2 => ?_) (fun c2 => ?_)
  · replace hf := it_f c2 hf
    refine lv_aload_n hx hb dX9_item_10 rfl (lv_at hl 0 rfl) ?_
    refine gf_9_81 C h (rfl : Kd 29 = 9) hτ inX9_item_9 lkX9_item_257 dX9_item_11 ?_
    refine lv_iload_n hx hb dX9_item_14 rfl (lv_at hl 1 rfl) ?_
    obtain ⟨g3, hf⟩ := gd_use hf
    refine ld_9_49 C h (rfl : Kd 29 = 9) hτ (inB_in g3) dX9_item_15 ?_
    refine lv_if_ge (tgt := 22) hx hb dX9_item_16 (by decide) (fun c4 => ?_) (fun c4 => ?_)
    · replace hf := it_t c4 hf
      refine lv_aload_n hx hb dX9_item_22 rfl (lv_at hl 0 rfl) ?_
      refine lv_iload_n hx hb dX9_item_23 rfl (lv_at hl 2 rfl) ?_
      refine lv_iconst (v := (0 : Int32)) hx hb dX9_item_24 (by decide) ?_
      refine lv_aload_n hx hb dX9_item_25 rfl (lv_at hl 0 rfl) ?_
      refine gf_9_82 C h (rfl : Kd 29 = 9) hτ inX9_item_9 lkX9_item_260 dX9_item_26 ?_
      refine lv_iload_n hx hb dX9_item_29 rfl (lv_at hl 1 rfl) ?_
      obtain ⟨g5, hf⟩ := gd_use hf
      refine ld_9_50 C h (rfl : Kd 29 = 9) hτ (inB_in g5) dX9_item_30 ?_
      refine lv_iconst (v := (1 : Int32)) hx hb dX9_item_31 (by decide) ?_
      refine lv_isub hx hb dX9_item_32 ?_
      obtain ⟨u6, hu6, hf⟩ := bd_use hf
      refine r_cv_9 (rest := []) C h (c_X9_in  hu6) (rfl : Kd 29 = 9) gX9_item_X9_in rfl ⟨rfl, rfl⟩ hdX9_in ⟨Nat.le_of_ble_eq_true rfl, Nat.le_of_ble_eq_true rfl⟩ ⟨Nat.zero_le _, Nat.zero_le _⟩ hl.1 rfl (Nat.le_of_ble_eq_true rfl) dX9_item_33 (fun H locs h => ?_)
      refine lv_if_ne (tgt := 42) hx hb dX9_item_36 (by decide) (fun c7 => ?_) (fun c7 => ?_)
      · replace hf := it_f c7 hf
        refine lv_aload_n hx hb dX9_item_42 rfl (lv_at hl 0 rfl) ?_
        refine gf_9_83 C h (rfl : Kd 29 = 9) hτ inX9_item_9 lkX9_item_263 dX9_item_43 ?_
        refine lv_bipush (v := (60 : Int32)) hx hb dX9_item_46 (by decide) ?_
        refine lv_iload_n hx hb dX9_item_48 rfl (lv_at hl 1 rfl) ?_
        refine lv_imul hx hb dX9_item_49 ?_
        refine lv_iload_n hx hb dX9_item_50 rfl (lv_at hl 2 rfl) ?_
        refine lv_iadd hx hb dX9_item_51 ?_
        refine lv_aload_n hx hb dX9_item_52 rfl (lv_at hl 0 rfl) ?_
        refine lv_aload_n hx hb dX9_item_53 rfl (lv_at hl 0 rfl) ?_
        refine gf_9_81 C h (rfl : Kd 29 = 9) hτ inX9_item_9 lkX9_item_257 dX9_item_54 ?_
        refine lv_iload_n hx hb dX9_item_57 rfl (lv_at hl 1 rfl) ?_
        obtain ⟨g8, hf⟩ := gd_use hf
        refine ld_9_49 C h (rfl : Kd 29 = 9) hτ (inB_in g8) dX9_item_58 ?_
        refine lv_lload_n hx hb dX9_item_59 rfl (lv_at hl 3 rfl) ?_
        obtain ⟨u9, hu9, hf⟩ := bd_use hf
        refine r_cv_9 (rest := [.int (((60 : Int32) * p0) + p1), .ref (Ea E 29 51)]) C h (c_X9_narrow  hu9) (rfl : Kd 29 = 9) gX9_item_X9_narrow rfl ⟨rfl, rfl⟩ hdX9_narrow ⟨Nat.le_of_ble_eq_true rfl, Nat.le_of_ble_eq_true rfl⟩ ⟨Nat.zero_le _, Nat.zero_le _⟩ hl.1 rfl (Nat.le_of_ble_eq_true rfl) dX9_item_60 (fun H locs h => ?_)
        obtain ⟨g10, hf⟩ := gd_use hf
        refine sa_9_51 C h (rfl : Kd 29 = 9) up_eq (F := fun t => va_up ℓ 29 t) (fun _ => up_up) (inB_in g10) dX9_item_63 (fun η11 eη11 H locs h => ?_)
        replace hf := lt_use eη11 hf
        clear eη11
        refine lv_iconst (v := (1 : Int32)) hx hb dX9_item_64 (by decide) ?_
        replace hf := Option.some.inj hf
        subst hf
        exact r_ire C h dX9_item_65
      replace hf := it_t c7 hf
      refine lv_bipush (v := (-13 : Int32)) hx hb dX9_item_39 (by decide) ?_
      replace hf := Option.some.inj hf
      subst hf
      exact r_ire C h dX9_item_41
    replace hf := it_f c4 hf
    refine lv_bipush (v := (-11 : Int32)) hx hb dX9_item_19 (by decide) ?_
    replace hf := Option.some.inj hf
    subst hf
    exact r_ire C h dX9_item_21
  replace hf := it_t c2 hf
  refine lv_iconst (v := (-1 : Int32)) hx hb dX9_item_8 (by decide) ?_
  replace hf := Option.some.inj hf
  subst hf
  exact r_ire C h dX9_item_9
theorem c_X9_item {l : Launch} {E : Ev} {σ : Ms} {ℓ : Mz} {τ : Mm} {η : Mj} {p0 : Int32} {p1 : Int32} {p2 : Int64} (hτ : σ 29 = τ) {out : Int32 × Mj} (hf : f_X9_item τ η p0 p1 p2 = some out) : Ct l yX9_item wsX9_item rm_X9_item [.ref (Ea E 29 0), .int p0, .int p1, .long p2] E σ (va_up ℓ 29 η) (some (.int out.1)) σ (va_up ℓ 29 out.2) := by
  refine Ct_mk (cc := cX9_item) (mL := 5) (ret := (some .int)) (own := RX9) (by decide +kernel) rfl rfl (Nat.le_of_ble_eq_true rfl) (fun p e s m below meth c C h ls hl => ?_)
  exact w_X9_item_0 hτ C η _ _ h ls (lv_sub hl [0, 1, 2, 3] rfl) hf
theorem k_X9_item {l : Launch} {E : Ev} {σ : Ms} {ℓ : Mz} {τ : Mm} {η : Mj} {p0 : Int32} {p1 : Int32} {p2 : Int64} (hτ : σ 29 = τ) (hη : ℓ 29 = η) {out : Int32 × Mj} (hf : f_X9_item τ η p0 p1 p2 = some out) : Ct l yX9_item wsX9_item rm_X9_item [.ref (Ea E 29 0), .int p0, .int p1, .long p2] E σ ℓ (some (.int out.1)) σ (va_up ℓ 29 out.2) := by
  subst hη
  have h := c_X9_item (l := l) (E := E) (σ := σ) (ℓ := ℓ) hτ hf
  rw [up_id ℓ 29] at h
  exact h
theorem hdX9_read : yX9_read.cls = RX9 ∧ yX9_read.cls ≠ "java/lang/invoke/MethodHandle" ∧ yX9_read.cls ≠ "java/lang/invoke/VarHandle" ∧ (parseMethodDescriptor yX9_read.desc).map (fun d => d.parameters.length) = some 2 := by decide +kernel
def rm_X9_read : Room := { frames := 2, cells := 0, slots := 0, locals := 44 }
set_option maxRecDepth 100000 in
theorem wdX9_read_Cond_constantLong_RX9_438___9223372036854775808_ : Cond.constantLong RX9 438 (-9223372036854775808) ∈ wsX9_read := by decide +kernel
set_option maxRecDepth 100000 in
theorem inX9_read_9 : ∀ w ∈ wsX90, w ∈ wsX9_read := fun _ h => List.mem_cons_of_mem _ (List.mem_append_right _ h)
set_option maxRecDepth 100000 in
theorem lkX9_read_257 : Cond.fieldLink RX9 257 "BellsBelowModel" "sort" "[I" ∈ wsX9_read := by decide +kernel
set_option maxRecDepth 100000 in
theorem lkX9_read_260 : Cond.fieldLink RX9 260 "BellsBelowModel" "length" "[I" ∈ wsX9_read := by decide +kernel
set_option maxRecDepth 100000 in
theorem lkX9_read_263 : Cond.fieldLink RX9 263 "BellsBelowModel" "item" "[J" ∈ wsX9_read := by decide +kernel
set_option maxHeartbeats 4000000 in
set_option maxRecDepth 100000 in
theorem w_X9_read_34 {p : Program} {l : Launch} {e : Env} {s : State} {m : MethodId} {args : Array Value} {below : List Frame} {meth : Method} {c : Code} {E : Ev} {σ : Ms} {ℓ : Mz} {τ : Mm} {η : Mj} {p0 : Int32} {p1 : Int32} {out : Int64} (hτ : σ 29 = τ) (hη : ℓ 29 = η)   (C : Cx cX9_read 3 (some .long) wsX9_read RX9 E p s m args meth c)  : ∀  (H : Heap) (locs : List Loc) (h : HI E σ ℓ s H locs) (ls : Array Slot) (hl : lv_has ls 3 []), f_X9_read_34 τ η p0 p1   = some out → W p l e rm_X9_read s m args below meth c H locs 0 0 (MQ below (Po E s.heap.size (some (.long out)) σ ℓ) args s 0 0 (AA E s.heap.size)) (F0 m 34 ls []) := by
  intro  H locs h ls hl hf
  unfold f_X9_read_34 at hf
  have C0 := C
  obtain ⟨hx, hb, hr, hml, hown, hts, hlk, hK, hSF⟩ := C0
  refine lv_ldc2 hx hb hown (hts _ wdX9_read_Cond_constantLong_RX9_438___9223372036854775808_) dX9_read_34 ?_
  refine lv_goto (tgt := 51) hx hb dX9_read_37 (by decide) ?_
  replace hf := Option.some.inj hf
  subst hf
  exact r_lre C h dX9_read_51
set_option maxHeartbeats 4000000 in
set_option maxRecDepth 100000 in
theorem w_X9_read_0 {p : Program} {l : Launch} {e : Env} {s : State} {m : MethodId} {args : Array Value} {below : List Frame} {meth : Method} {c : Code} {E : Ev} {σ : Ms} {ℓ : Mz} {τ : Mm} {η : Mj} {p0 : Int32} {p1 : Int32} {out : Int64} (hτ : σ 29 = τ) (hη : ℓ 29 = η)   (C : Cx cX9_read 3 (some .long) wsX9_read RX9 E p s m args meth c)  : ∀  (H : Heap) (locs : List Loc) (h : HI E σ ℓ s H locs) (ls : Array Slot) (hl : lv_has ls 3 [(0, .ref (Ea E 29 0)), (1, .int p0), (2, .int p1)]), f_X9_read_0 τ η p0 p1   = some out → W p l e rm_X9_read s m args below meth c H locs 0 0 (MQ below (Po E s.heap.size (some (.long out)) σ ℓ) args s 0 0 (AA E s.heap.size)) (F0 m 0 ls []) := by
  intro  H locs h ls hl hf
  unfold f_X9_read_0 at hf
  have C0 := C
  obtain ⟨hx, hb, hr, hml, hown, hts, hlk, hK, hSF⟩ := C0
  refine lv_aload_n hx hb dX9_read_0 rfl (lv_at hl 0 rfl) ?_
  refine lv_iload_n hx hb dX9_read_1 rfl (lv_at hl 1 rfl) ?_
  obtain ⟨u1, hu1, hf⟩ := bd_use hf
  refine r_cv_9 (rest := []) C h (c_X9_isTape  hu1) (rfl : Kd 29 = 9) gX9_read_X9_isTape rfl ⟨rfl, rfl⟩ hdX9_isTape ⟨Nat.le_of_ble_eq_true rfl, Nat.le_of_ble_eq_true rfl⟩ ⟨Nat.zero_le _, Nat.zero_le _⟩ hl.1 rfl (Nat.le_of_ble_eq_true rfl) dX9_read_2 (fun H locs h => ?_)
  refine lv_if_eq (tgt := 34) hx hb dX9_read_5 (by decide) (fun c2 => ?_) (fun c2 => ?_)
  · replace hf := it_t c2 hf
    exact w_X9_read_34 hτ hη   C   _ _ h ls (lv_sub hl [] rfl) hf
  replace hf := it_f c2 hf
  refine lv_aload_n hx hb dX9_read_8 rfl (lv_at hl 0 rfl) ?_
  refine gf_9_81 C h (rfl : Kd 29 = 9) hτ inX9_read_9 lkX9_read_257 dX9_read_9 ?_
  refine lv_iload_n hx hb dX9_read_12 rfl (lv_at hl 1 rfl) ?_
  obtain ⟨g3, hf⟩ := gd_use hf
  refine ld_9_49 C h (rfl : Kd 29 = 9) hτ (inB_in g3) dX9_read_13 ?_
  refine lv_if_lt (tgt := 34) hx hb dX9_read_14 (by decide) (fun c4 => ?_) (fun c4 => ?_)
  · replace hf := it_t c4 hf
    exact w_X9_read_34 hτ hη   C   _ _ h ls (lv_sub hl [] rfl) hf
  replace hf := it_f c4 hf
  refine lv_aload_n hx hb dX9_read_17 rfl (lv_at hl 0 rfl) ?_
  refine lv_iload_n hx hb dX9_read_18 rfl (lv_at hl 2 rfl) ?_
  refine lv_iconst (v := (0 : Int32)) hx hb dX9_read_19 (by decide) ?_
  refine lv_aload_n hx hb dX9_read_20 rfl (lv_at hl 0 rfl) ?_
  refine gf_9_82 C h (rfl : Kd 29 = 9) hτ inX9_read_9 lkX9_read_260 dX9_read_21 ?_
  refine lv_iload_n hx hb dX9_read_24 rfl (lv_at hl 1 rfl) ?_
  obtain ⟨g5, hf⟩ := gd_use hf
  refine ld_9_50 C h (rfl : Kd 29 = 9) hτ (inB_in g5) dX9_read_25 ?_
  refine lv_iconst (v := (1 : Int32)) hx hb dX9_read_26 (by decide) ?_
  refine lv_isub hx hb dX9_read_27 ?_
  obtain ⟨u6, hu6, hf⟩ := bd_use hf
  refine r_cv_9 (rest := []) C h (c_X9_in  hu6) (rfl : Kd 29 = 9) gX9_read_X9_in rfl ⟨rfl, rfl⟩ hdX9_in ⟨Nat.le_of_ble_eq_true rfl, Nat.le_of_ble_eq_true rfl⟩ ⟨Nat.zero_le _, Nat.zero_le _⟩ hl.1 rfl (Nat.le_of_ble_eq_true rfl) dX9_read_28 (fun H locs h => ?_)
  refine lv_if_ne (tgt := 40) hx hb dX9_read_31 (by decide) (fun c7 => ?_) (fun c7 => ?_)
  · replace hf := it_f c7 hf
    refine lv_aload_n hx hb dX9_read_40 rfl (lv_at hl 0 rfl) ?_
    refine gf_9_83 C h (rfl : Kd 29 = 9) hτ inX9_read_9 lkX9_read_263 dX9_read_41 ?_
    refine lv_bipush (v := (60 : Int32)) hx hb dX9_read_44 (by decide) ?_
    refine lv_iload_n hx hb dX9_read_46 rfl (lv_at hl 1 rfl) ?_
    refine lv_imul hx hb dX9_read_47 ?_
    refine lv_iload_n hx hb dX9_read_48 rfl (lv_at hl 2 rfl) ?_
    refine lv_iadd hx hb dX9_read_49 ?_
    obtain ⟨g8, hf⟩ := gd_use hf
    refine ld_9_51 C h (rfl : Kd 29 = 9) hη (inB_in g8) dX9_read_50 ?_
    replace hf := Option.some.inj hf
    subst hf
    exact r_lre C h dX9_read_51
  replace hf := it_t c7 hf
  exact w_X9_read_34 hτ hη   C   _ _ h ls (lv_sub hl [] rfl) hf
theorem c_X9_read {l : Launch} {E : Ev} {σ : Ms} {ℓ : Mz} {τ : Mm} {η : Mj} {p0 : Int32} {p1 : Int32} (hτ : σ 29 = τ) (hη : ℓ 29 = η) {out : Int64} (hf : f_X9_read τ η p0 p1 = some out) : Ct l yX9_read wsX9_read rm_X9_read [.ref (Ea E 29 0), .int p0, .int p1] E σ ℓ (some (.long out)) σ ℓ := by
  refine Ct_mk (cc := cX9_read) (mL := 3) (ret := (some .long)) (own := RX9) (by decide +kernel) rfl rfl (Nat.le_of_ble_eq_true rfl) (fun p e s m below meth c C h ls hl => ?_)
  exact w_X9_read_0 hτ hη C  _ _ h ls (lv_sub hl [0, 1, 2] rfl) hf
theorem hdX9_shift : yX9_shift.cls = RX9 ∧ yX9_shift.cls ≠ "java/lang/invoke/MethodHandle" ∧ yX9_shift.cls ≠ "java/lang/invoke/VarHandle" ∧ (parseMethodDescriptor yX9_shift.desc).map (fun d => d.parameters.length) = some 5 := by decide +kernel
def rm_X9_shift : Room := { frames := 2, cells := 0, slots := 0, locals := 44 }
set_option maxRecDepth 100000 in
theorem inX9_shift_9 : ∀ w ∈ wsX90, w ∈ wsX9_shift := fun _ h => List.mem_cons_of_mem _ (List.mem_append_right _ h)
set_option maxRecDepth 100000 in
theorem lkX9_shift_257 : Cond.fieldLink RX9 257 "BellsBelowModel" "sort" "[I" ∈ wsX9_shift := by decide +kernel
set_option maxRecDepth 100000 in
theorem lkX9_shift_260 : Cond.fieldLink RX9 260 "BellsBelowModel" "length" "[I" ∈ wsX9_shift := by decide +kernel
set_option maxRecDepth 100000 in
theorem lkX9_shift_263 : Cond.fieldLink RX9 263 "BellsBelowModel" "item" "[J" ∈ wsX9_shift := by decide +kernel
set_option maxRecDepth 100000 in
theorem lkX9_shift_267 : Cond.fieldLink RX9 267 "BellsBelowModel" "aside" "[J" ∈ wsX9_shift := by decide +kernel
set_option maxHeartbeats 4000000 in
set_option maxRecDepth 100000 in
theorem w_X9_shift_141 {p : Program} {l : Launch} {e : Env} {s : State} {m : MethodId} {args : Array Value} {below : List Frame} {meth : Method} {c : Code} {E : Ev} {σ : Ms} {ℓ : Mz} {τ : Mm} {p0 : Int32} {p1 : Int32} {p2 : Int32} {p3 : Int32} {p4 : Int32} {out : Int32 × Mj} (hτ : σ 29 = τ)   (C : Cx cX9_shift 7 (some .int) wsX9_shift RX9 E p s m args meth c) {k141 : Mj → Int32 → Option (Int32 × Mj)} (hk141 : ∀ (η : Mj) (v6 : Int32) (H : Heap) (locs : List Loc), HI E σ (va_up ℓ 29 η) s H locs → ∀ ls : Array Slot, lv_has ls 7 [(0, .ref (Ea E 29 0)), (3, .int p2), (4, .int p3), (5, .int p4), (6, .int v6)] → k141 η v6 = some out → W p l e rm_X9_shift s m args below meth c H locs 0 0 (MQ below (Po E s.heap.size (some (.int out.1)) σ (va_up ℓ 29 out.2)) args s 0 0 (AA E s.heap.size)) (F0 m 141 ls [])) : ∀ (η : Mj) (v6 : Int32) (H : Heap) (locs : List Loc) (h : HI E σ (va_up ℓ 29 η) s H locs) (ls : Array Slot) (hl : lv_has ls 7 [(0, .ref (Ea E 29 0)), (3, .int p2), (4, .int p3), (5, .int p4), (6, .int v6)]), f_X9_shift_141 τ p0 p1 p2 p3 p4 k141 η v6 = some out → W p l e rm_X9_shift s m args below meth c H locs 0 0 (MQ below (Po E s.heap.size (some (.int out.1)) σ (va_up ℓ 29 out.2)) args s 0 0 (AA E s.heap.size)) (F0 m 141 ls []) := by
  intro η v6 H locs h ls hl hf
  unfold f_X9_shift_141 at hf
  have C0 := C
  obtain ⟨hx, hb, hr, hml, hown, hts, hlk, hK, hSF⟩ := C0
  refine lv_iload hx hb dX9_shift_141 (lv_at hl 4 rfl) ?_
  refine lv_iload hx hb dX9_shift_143 (lv_at hl 3 rfl) ?_
  refine lv_icmp_ge (tgt := 176) hx hb dX9_shift_145 (by decide) (fun c20 => ?_) (fun c20 => ?_)
  · replace hf := it_t c20 hf
    refine lv_iload hx hb dX9_shift_176 (lv_at hl 3 rfl) ?_
    replace hf := Option.some.inj hf
    subst hf
    exact r_ire C h dX9_shift_178
  replace hf := it_f c20 hf
  refine lv_aload_n hx hb dX9_shift_148 rfl (lv_at hl 0 rfl) ?_
  refine gf_9_83 C h (rfl : Kd 29 = 9) hτ inX9_shift_9 lkX9_shift_263 dX9_shift_149 ?_
  refine lv_bipush (v := (60 : Int32)) hx hb dX9_shift_152 (by decide) ?_
  refine lv_iload_n hx hb dX9_shift_154 rfl (lv_at hl 1 rfl) ?_
  refine lv_imul hx hb dX9_shift_155 ?_
  refine lv_iload hx hb dX9_shift_156 (lv_at hl 2 rfl) ?_
  refine lv_iadd hx hb dX9_shift_158 ?_
  refine lv_iload hx hb dX9_shift_159 (lv_at hl 4 rfl) ?_
  refine lv_iadd hx hb dX9_shift_161 ?_
  refine lv_aload_n hx hb dX9_shift_162 rfl (lv_at hl 0 rfl) ?_
  refine gf_9_84 C h (rfl : Kd 29 = 9) hτ inX9_shift_9 lkX9_shift_267 dX9_shift_163 ?_
  refine lv_iload hx hb dX9_shift_166 (lv_at hl 4 rfl) ?_
  obtain ⟨g21, hf⟩ := gd_use hf
  refine ld_9_52 C h (rfl : Kd 29 = 9) up_eq (inB_in g21) dX9_shift_168 ?_
  obtain ⟨g22, hf⟩ := gd_use hf
  refine sa_9_51 C h (rfl : Kd 29 = 9) up_eq (F := fun t => va_up ℓ 29 t) (fun _ => up_up) (inB_in g22) dX9_shift_169 (fun η23 eη23 H locs h => ?_)
  replace hf := lt_use eη23 hf
  clear eη23
  obtain ⟨x24, ex24⟩ : ∃ y : Int32, y = (v6 + (1 : Int32)) := ⟨_, rfl⟩
  refine lv_iinc (v := x24) (lv' := [(6, .int x24), (0, .ref (Ea E 29 0)), (3, .int p2), (4, .int p3), (5, .int p4)]) hx hb dX9_shift_170 hl (k := 4) rfl (by rw [ex24]; rfl) (by decide) rfl (fun ls hl => ?_)
  replace hf := lt_use ex24 hf
  clear ex24
  refine lv_goto (tgt := 141) hx hb dX9_shift_173 (by decide) ?_
  exact hk141 _ _ _ _ h ls (lv_sub hl [1, 2, 3, 4, 0] rfl) hf
set_option maxHeartbeats 4000000 in
set_option maxRecDepth 100000 in
theorem w_X9_shift_141L {p : Program} {l : Launch} {e : Env} {s : State} {m : MethodId} {args : Array Value} {below : List Frame} {meth : Method} {c : Code} {E : Ev} {σ : Ms} {ℓ : Mz} {τ : Mm} {p0 : Int32} {p1 : Int32} {p2 : Int32} {p3 : Int32} {p4 : Int32} {out : Int32 × Mj} (hτ : σ 29 = τ)   (C : Cx cX9_shift 7 (some .int) wsX9_shift RX9 E p s m args meth c)  : ∀ (n9 : Nat) (η : Mj) (v6 : Int32) (H : Heap) (locs : List Loc) (h : HI E σ (va_up ℓ 29 η) s H locs) (ls : Array Slot) (hl : lv_has ls 7 [(0, .ref (Ea E 29 0)), (3, .int p2), (4, .int p3), (5, .int p4), (6, .int v6)]), f_X9_shift_141L τ p0 p1 p2 p3 p4  n9 η v6 = some out → W p l e rm_X9_shift s m args below meth c H locs 0 0 (MQ below (Po E s.heap.size (some (.int out.1)) σ (va_up ℓ 29 out.2)) args s 0 0 (AA E s.heap.size)) (F0 m 141 ls []) := by
  intro n9
  induction n9 with
  | zero =>
    intro η v6 H locs h ls hl hf
    cases (show (none : Option (Int32 × Mj)) = some out from hf)
  | succ n9 ih =>
    intro η v6 H locs h ls hl hf
    exact w_X9_shift_141 hτ  C  ih η v6 H locs h ls hl hf
set_option maxHeartbeats 4000000 in
set_option maxRecDepth 100000 in
theorem w_X9_shift_104 {p : Program} {l : Launch} {e : Env} {s : State} {m : MethodId} {args : Array Value} {below : List Frame} {meth : Method} {c : Code} {E : Ev} {σ : Ms} {ℓ : Mz} {τ : Mm} {p0 : Int32} {p1 : Int32} {p2 : Int32} {p3 : Int32} {p4 : Int32} {out : Int32 × Mj} (hτ : σ 29 = τ)   (C : Cx cX9_shift 7 (some .int) wsX9_shift RX9 E p s m args meth c) {k104 : Mj → Int32 → Option (Int32 × Mj)} (hk104 : ∀ (η : Mj) (v6 : Int32) (H : Heap) (locs : List Loc), HI E σ (va_up ℓ 29 η) s H locs → ∀ ls : Array Slot, lv_has ls 7 [(0, .ref (Ea E 29 0)), (1, .int p0), (2, .int p1), (3, .int p2), (4, .int p3), (5, .int p4), (6, .int v6)] → k104 η v6 = some out → W p l e rm_X9_shift s m args below meth c H locs 0 0 (MQ below (Po E s.heap.size (some (.int out.1)) σ (va_up ℓ 29 out.2)) args s 0 0 (AA E s.heap.size)) (F0 m 104 ls [])) : ∀ (η : Mj) (v6 : Int32) (H : Heap) (locs : List Loc) (h : HI E σ (va_up ℓ 29 η) s H locs) (ls : Array Slot) (hl : lv_has ls 7 [(0, .ref (Ea E 29 0)), (1, .int p0), (2, .int p1), (3, .int p2), (4, .int p3), (5, .int p4), (6, .int v6)]), f_X9_shift_104 τ p0 p1 p2 p3 p4 k104 η v6 = some out → W p l e rm_X9_shift s m args below meth c H locs 0 0 (MQ below (Po E s.heap.size (some (.int out.1)) σ (va_up ℓ 29 out.2)) args s 0 0 (AA E s.heap.size)) (F0 m 104 ls []) := by
  intro η v6 H locs h ls hl hf
  unfold f_X9_shift_104 at hf
  have C0 := C
  obtain ⟨hx, hb, hr, hml, hown, hts, hlk, hK, hSF⟩ := C0
  refine lv_iload hx hb dX9_shift_104 (lv_at hl 6 rfl) ?_
  refine lv_iload hx hb dX9_shift_106 (lv_at hl 5 rfl) ?_
  refine lv_icmp_ge (tgt := 138) hx hb dX9_shift_108 (by decide) (fun c19 => ?_) (fun c19 => ?_)
  · replace hf := it_t c19 hf
    refine lv_iconst (v := (0 : Int32)) hx hb dX9_shift_138 (by decide) ?_
    refine lv_istore (lv' := [(6, .int (0 : Int32)), (0, .ref (Ea E 29 0)), (1, .int p0), (2, .int p1), (3, .int p2), (4, .int p3), (5, .int p4)]) hx hb dX9_shift_139 hl (by decide) rfl (fun ls hl => ?_)
    exact w_X9_shift_141L hτ   C  _ _ _ _ _ h ls (lv_sub hl [1, 4, 5, 6, 0] rfl) hf
  replace hf := it_f c19 hf
  refine lv_aload_n hx hb dX9_shift_111 rfl (lv_at hl 0 rfl) ?_
  refine gf_9_84 C h (rfl : Kd 29 = 9) hτ inX9_shift_9 lkX9_shift_267 dX9_shift_112 ?_
  refine lv_iload hx hb dX9_shift_115 (lv_at hl 6 rfl) ?_
  refine lv_aload_n hx hb dX9_shift_117 rfl (lv_at hl 0 rfl) ?_
  refine gf_9_83 C h (rfl : Kd 29 = 9) hτ inX9_shift_9 lkX9_shift_263 dX9_shift_118 ?_
  refine lv_bipush (v := (60 : Int32)) hx hb dX9_shift_121 (by decide) ?_
  refine lv_iload_n hx hb dX9_shift_123 rfl (lv_at hl 1 rfl) ?_
  refine lv_imul hx hb dX9_shift_124 ?_
  refine lv_iload_n hx hb dX9_shift_125 rfl (lv_at hl 2 rfl) ?_
  refine lv_iadd hx hb dX9_shift_126 ?_
  refine lv_iload hx hb dX9_shift_127 (lv_at hl 6 rfl) ?_
  refine lv_iadd hx hb dX9_shift_129 ?_
  obtain ⟨g25, hf⟩ := gd_use hf
  refine ld_9_51 C h (rfl : Kd 29 = 9) up_eq (inB_in g25) dX9_shift_130 ?_
  obtain ⟨g26, hf⟩ := gd_use hf
  refine sa_9_52 C h (rfl : Kd 29 = 9) up_eq (F := fun t => va_up ℓ 29 t) (fun _ => up_up) (inB_in g26) dX9_shift_131 (fun η27 eη27 H locs h => ?_)
  replace hf := lt_use eη27 hf
  clear eη27
  obtain ⟨x28, ex28⟩ : ∃ y : Int32, y = (v6 + (1 : Int32)) := ⟨_, rfl⟩
  refine lv_iinc (v := x28) (lv' := [(6, .int x28), (0, .ref (Ea E 29 0)), (1, .int p0), (2, .int p1), (3, .int p2), (4, .int p3), (5, .int p4)]) hx hb dX9_shift_132 hl (k := 6) rfl (by rw [ex28]; rfl) (by decide) rfl (fun ls hl => ?_)
  replace hf := lt_use ex28 hf
  clear ex28
  refine lv_goto (tgt := 104) hx hb dX9_shift_135 (by decide) ?_
  exact hk104 _ _ _ _ h ls (lv_sub hl [1, 2, 3, 4, 5, 6, 0] rfl) hf
set_option maxHeartbeats 4000000 in
set_option maxRecDepth 100000 in
theorem w_X9_shift_104L {p : Program} {l : Launch} {e : Env} {s : State} {m : MethodId} {args : Array Value} {below : List Frame} {meth : Method} {c : Code} {E : Ev} {σ : Ms} {ℓ : Mz} {τ : Mm} {p0 : Int32} {p1 : Int32} {p2 : Int32} {p3 : Int32} {p4 : Int32} {out : Int32 × Mj} (hτ : σ 29 = τ)   (C : Cx cX9_shift 7 (some .int) wsX9_shift RX9 E p s m args meth c)  : ∀ (n9 : Nat) (η : Mj) (v6 : Int32) (H : Heap) (locs : List Loc) (h : HI E σ (va_up ℓ 29 η) s H locs) (ls : Array Slot) (hl : lv_has ls 7 [(0, .ref (Ea E 29 0)), (1, .int p0), (2, .int p1), (3, .int p2), (4, .int p3), (5, .int p4), (6, .int v6)]), f_X9_shift_104L τ p0 p1 p2 p3 p4  n9 η v6 = some out → W p l e rm_X9_shift s m args below meth c H locs 0 0 (MQ below (Po E s.heap.size (some (.int out.1)) σ (va_up ℓ 29 out.2)) args s 0 0 (AA E s.heap.size)) (F0 m 104 ls []) := by
  intro n9
  induction n9 with
  | zero =>
    intro η v6 H locs h ls hl hf
    cases (show (none : Option (Int32 × Mj)) = some out from hf)
  | succ n9 ih =>
    intro η v6 H locs h ls hl hf
    exact w_X9_shift_104 hτ  C  ih η v6 H locs h ls hl hf
set_option maxHeartbeats 4000000 in
set_option maxRecDepth 100000 in
theorem w_X9_shift_0 {p : Program} {l : Launch} {e : Env} {s : State} {m : MethodId} {args : Array Value} {below : List Frame} {meth : Method} {c : Code} {E : Ev} {σ : Ms} {ℓ : Mz} {τ : Mm} {p0 : Int32} {p1 : Int32} {p2 : Int32} {p3 : Int32} {p4 : Int32} {out : Int32 × Mj} (hτ : σ 29 = τ)   (C : Cx cX9_shift 7 (some .int) wsX9_shift RX9 E p s m args meth c)  : ∀ (η : Mj) (H : Heap) (locs : List Loc) (h : HI E σ (va_up ℓ 29 η) s H locs) (ls : Array Slot) (hl : lv_has ls 7 [(0, .ref (Ea E 29 0)), (1, .int p0), (2, .int p1), (3, .int p2), (4, .int p3), (5, .int p4)]), f_X9_shift_0 τ p0 p1 p2 p3 p4  η = some out → W p l e rm_X9_shift s m args below meth c H locs 0 0 (MQ below (Po E s.heap.size (some (.int out.1)) σ (va_up ℓ 29 out.2)) args s 0 0 (AA E s.heap.size)) (F0 m 0 ls []) := by
  intro η H locs h ls hl hf
  unfold f_X9_shift_0 at hf
  have C0 := C
  obtain ⟨hx, hb, hr, hml, hown, hts, hlk, hK, hSF⟩ := C0
  refine lv_aload_n hx hb dX9_shift_0 rfl (lv_at hl 0 rfl) ?_
  refine lv_iload_n hx hb dX9_shift_1 rfl (lv_at hl 1 rfl) ?_
  obtain ⟨u1, hu1, hf⟩ := bd_use hf
  refine r_cv_9 (rest := []) C h (c_X9_isTape  hu1) (rfl : Kd 29 = 9) gX9_shift_X9_isTape rfl ⟨rfl, rfl⟩ hdX9_isTape ⟨Nat.le_of_ble_eq_true rfl, Nat.le_of_ble_eq_true rfl⟩ ⟨Nat.zero_le _, Nat.zero_le _⟩ hl.1 rfl (Nat.le_of_ble_eq_true rfl) dX9_shift_2 (fun H locs h => ?_)
  refine lv_if_eq (tgt := 16) hx hb dX9_shift_5 (by decide) (fun c2 => ?_) (fun c2 => ?_)
  · replace hf := it_t c2 hf
    refine lv_iconst (v := (-1 : Int32)) hx hb dX9_shift_16 (by decide) ?_
    replace hf := Option.some.inj hf
    subst hf
    exact r_ire C h dX9_shift_17
  replace hf := it_f c2 hf
  refine lv_aload_n hx hb dX9_shift_8 rfl (lv_at hl 0 rfl) ?_
  refine lv_iload_n hx hb dX9_shift_9 rfl (lv_at hl 3 rfl) ?_
  obtain ⟨u3, hu3, hf⟩ := bd_use hf
  refine r_cv_9 (rest := []) C h (c_X9_isTape  hu3) (rfl : Kd 29 = 9) gX9_shift_X9_isTape rfl ⟨rfl, rfl⟩ hdX9_isTape ⟨Nat.le_of_ble_eq_true rfl, Nat.le_of_ble_eq_true rfl⟩ ⟨Nat.zero_le _, Nat.zero_le _⟩ hl.1 rfl (Nat.le_of_ble_eq_true rfl) dX9_shift_10 (fun H locs h => ?_)
  refine lv_if_ne (tgt := 18) hx hb dX9_shift_13 (by decide) (fun c4 => ?_) (fun c4 => ?_)
  · replace hf := it_f c4 hf
    refine lv_aload_n hx hb dX9_shift_18 rfl (lv_at hl 0 rfl) ?_
    refine gf_9_81 C h (rfl : Kd 29 = 9) hτ inX9_shift_9 lkX9_shift_257 dX9_shift_19 ?_
    refine lv_iload_n hx hb dX9_shift_22 rfl (lv_at hl 1 rfl) ?_
    obtain ⟨g5, hf⟩ := gd_use hf
    refine ld_9_49 C h (rfl : Kd 29 = 9) hτ (inB_in g5) dX9_shift_23 ?_
    refine lv_if_lt (tgt := 36) hx hb dX9_shift_24 (by decide) (fun c6 => ?_) (fun c6 => ?_)
    · replace hf := it_t c6 hf
      refine lv_bipush (v := (-11 : Int32)) hx hb dX9_shift_36 (by decide) ?_
      replace hf := Option.some.inj hf
      subst hf
      exact r_ire C h dX9_shift_38
    replace hf := it_f c6 hf
    refine lv_aload_n hx hb dX9_shift_27 rfl (lv_at hl 0 rfl) ?_
    refine gf_9_81 C h (rfl : Kd 29 = 9) hτ inX9_shift_9 lkX9_shift_257 dX9_shift_28 ?_
    refine lv_iload_n hx hb dX9_shift_31 rfl (lv_at hl 3 rfl) ?_
    obtain ⟨g7, hf⟩ := gd_use hf
    refine ld_9_49 C h (rfl : Kd 29 = 9) hτ (inB_in g7) dX9_shift_32 ?_
    refine lv_if_ge (tgt := 39) hx hb dX9_shift_33 (by decide) (fun c8 => ?_) (fun c8 => ?_)
    · replace hf := it_t c8 hf
      refine lv_aload_n hx hb dX9_shift_39 rfl (lv_at hl 0 rfl) ?_
      refine gf_9_81 C h (rfl : Kd 29 = 9) hτ inX9_shift_9 lkX9_shift_257 dX9_shift_40 ?_
      refine lv_iload_n hx hb dX9_shift_43 rfl (lv_at hl 1 rfl) ?_
      obtain ⟨g9, hf⟩ := gd_use hf
      refine ld_9_49 C h (rfl : Kd 29 = 9) hτ (inB_in g9) dX9_shift_44 ?_
      refine lv_aload_n hx hb dX9_shift_45 rfl (lv_at hl 0 rfl) ?_
      refine gf_9_81 C h (rfl : Kd 29 = 9) hτ inX9_shift_9 lkX9_shift_257 dX9_shift_46 ?_
      refine lv_iload_n hx hb dX9_shift_49 rfl (lv_at hl 3 rfl) ?_
      obtain ⟨g10, hf⟩ := gd_use hf
      refine ld_9_49 C h (rfl : Kd 29 = 9) hτ (inB_in g10) dX9_shift_50 ?_
      refine lv_icmp_eq (tgt := 57) hx hb dX9_shift_51 (by decide) (fun c11 => ?_) (fun c11 => ?_)
      · replace hf := it_t c11 hf
        refine lv_iload hx hb dX9_shift_57 (lv_at hl 5 rfl) ?_
        refine lv_if_lt (tgt := 98) hx hb dX9_shift_59 (by decide) (fun c12 => ?_) (fun c12 => ?_)
        · replace hf := it_t c12 hf
          refine lv_bipush (v := (-13 : Int32)) hx hb dX9_shift_98 (by decide) ?_
          replace hf := Option.some.inj hf
          subst hf
          exact r_ire C h dX9_shift_100
        replace hf := it_f c12 hf
        refine lv_iload_n hx hb dX9_shift_62 rfl (lv_at hl 2 rfl) ?_
        refine lv_if_lt (tgt := 98) hx hb dX9_shift_63 (by decide) (fun c13 => ?_) (fun c13 => ?_)
        · replace hf := it_t c13 hf
          refine lv_bipush (v := (-13 : Int32)) hx hb dX9_shift_98 (by decide) ?_
          replace hf := Option.some.inj hf
          subst hf
          exact r_ire C h dX9_shift_100
        replace hf := it_f c13 hf
        refine lv_iload hx hb dX9_shift_66 (lv_at hl 4 rfl) ?_
        refine lv_if_lt (tgt := 98) hx hb dX9_shift_68 (by decide) (fun c14 => ?_) (fun c14 => ?_)
        · replace hf := it_t c14 hf
          refine lv_bipush (v := (-13 : Int32)) hx hb dX9_shift_98 (by decide) ?_
          replace hf := Option.some.inj hf
          subst hf
          exact r_ire C h dX9_shift_100
        replace hf := it_f c14 hf
        refine lv_iload_n hx hb dX9_shift_71 rfl (lv_at hl 2 rfl) ?_
        refine lv_aload_n hx hb dX9_shift_72 rfl (lv_at hl 0 rfl) ?_
        refine gf_9_82 C h (rfl : Kd 29 = 9) hτ inX9_shift_9 lkX9_shift_260 dX9_shift_73 ?_
        refine lv_iload_n hx hb dX9_shift_76 rfl (lv_at hl 1 rfl) ?_
        obtain ⟨g15, hf⟩ := gd_use hf
        refine ld_9_50 C h (rfl : Kd 29 = 9) hτ (inB_in g15) dX9_shift_77 ?_
        refine lv_iload hx hb dX9_shift_78 (lv_at hl 5 rfl) ?_
        refine lv_isub hx hb dX9_shift_80 ?_
        refine lv_icmp_gt (tgt := 98) hx hb dX9_shift_81 (by decide) (fun c16 => ?_) (fun c16 => ?_)
        · replace hf := it_t c16 hf
          refine lv_bipush (v := (-13 : Int32)) hx hb dX9_shift_98 (by decide) ?_
          replace hf := Option.some.inj hf
          subst hf
          exact r_ire C h dX9_shift_100
        replace hf := it_f c16 hf
        refine lv_iload hx hb dX9_shift_84 (lv_at hl 4 rfl) ?_
        refine lv_aload_n hx hb dX9_shift_86 rfl (lv_at hl 0 rfl) ?_
        refine gf_9_82 C h (rfl : Kd 29 = 9) hτ inX9_shift_9 lkX9_shift_260 dX9_shift_87 ?_
        refine lv_iload_n hx hb dX9_shift_90 rfl (lv_at hl 3 rfl) ?_
        obtain ⟨g17, hf⟩ := gd_use hf
        refine ld_9_50 C h (rfl : Kd 29 = 9) hτ (inB_in g17) dX9_shift_91 ?_
        refine lv_iload hx hb dX9_shift_92 (lv_at hl 5 rfl) ?_
        refine lv_isub hx hb dX9_shift_94 ?_
        refine lv_icmp_le (tgt := 101) hx hb dX9_shift_95 (by decide) (fun c18 => ?_) (fun c18 => ?_)
        · replace hf := it_t c18 hf
          refine lv_iconst (v := (0 : Int32)) hx hb dX9_shift_101 (by decide) ?_
          refine lv_istore (lv' := [(6, .int (0 : Int32)), (0, .ref (Ea E 29 0)), (1, .int p0), (2, .int p1), (3, .int p2), (4, .int p3), (5, .int p4)]) hx hb dX9_shift_102 hl (by decide) rfl (fun ls hl => ?_)
          exact w_X9_shift_104L hτ   C  _ _ _ _ _ h ls (lv_sub hl [1, 2, 3, 4, 5, 6, 0] rfl) hf
        replace hf := it_f c18 hf
        refine lv_bipush (v := (-13 : Int32)) hx hb dX9_shift_98 (by decide) ?_
        replace hf := Option.some.inj hf
        subst hf
        exact r_ire C h dX9_shift_100
      replace hf := it_f c11 hf
      refine lv_bipush (v := (-12 : Int32)) hx hb dX9_shift_54 (by decide) ?_
      replace hf := Option.some.inj hf
      subst hf
      exact r_ire C h dX9_shift_56
    replace hf := it_f c8 hf
    refine lv_bipush (v := (-11 : Int32)) hx hb dX9_shift_36 (by decide) ?_
    replace hf := Option.some.inj hf
    subst hf
    exact r_ire C h dX9_shift_38
  replace hf := it_t c4 hf
  refine lv_iconst (v := (-1 : Int32)) hx hb dX9_shift_16 (by decide) ?_
  replace hf := Option.some.inj hf
  subst hf
  exact r_ire C h dX9_shift_17
theorem c_X9_shift {l : Launch} {E : Ev} {σ : Ms} {ℓ : Mz} {τ : Mm} {η : Mj} {p0 : Int32} {p1 : Int32} {p2 : Int32} {p3 : Int32} {p4 : Int32} (hτ : σ 29 = τ) {out : Int32 × Mj} (hf : f_X9_shift τ η p0 p1 p2 p3 p4 = some out) : Ct l yX9_shift wsX9_shift rm_X9_shift [.ref (Ea E 29 0), .int p0, .int p1, .int p2, .int p3, .int p4] E σ (va_up ℓ 29 η) (some (.int out.1)) σ (va_up ℓ 29 out.2) := by
  refine Ct_mk (cc := cX9_shift) (mL := 7) (ret := (some .int)) (own := RX9) (by decide +kernel) rfl rfl (Nat.le_of_ble_eq_true rfl) (fun p e s m below meth c C h ls hl => ?_)
  exact w_X9_shift_0 hτ C η _ _ h ls (lv_sub hl [0, 1, 2, 3, 4, 5] rfl) hf
theorem k_X9_shift {l : Launch} {E : Ev} {σ : Ms} {ℓ : Mz} {τ : Mm} {η : Mj} {p0 : Int32} {p1 : Int32} {p2 : Int32} {p3 : Int32} {p4 : Int32} (hτ : σ 29 = τ) (hη : ℓ 29 = η) {out : Int32 × Mj} (hf : f_X9_shift τ η p0 p1 p2 p3 p4 = some out) : Ct l yX9_shift wsX9_shift rm_X9_shift [.ref (Ea E 29 0), .int p0, .int p1, .int p2, .int p3, .int p4] E σ ℓ (some (.int out.1)) σ (va_up ℓ 29 out.2) := by
  subst hη
  have h := c_X9_shift (l := l) (E := E) (σ := σ) (ℓ := ℓ) hτ hf
  rw [up_id ℓ 29] at h
  exact h
