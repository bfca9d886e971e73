/-! WALKS: made by wip/whole/gen -/
theorem hdX4_copies : yX4_copies.cls = RX4 ∧ yX4_copies.cls ≠ "java/lang/invoke/MethodHandle" ∧ yX4_copies.cls ≠ "java/lang/invoke/VarHandle" ∧ (parseMethodDescriptor yX4_copies.desc).map (fun d => d.parameters.length) = some 1 := by decide +kernel
def rm_X4_copies : Room := { frames := 2, cells := 0, slots := 0, locals := 81 }
set_option maxRecDepth 100000 in
theorem inX4_copies_4 : ∀ w ∈ wsX40, w ∈ wsX4_copies := fun _ h => List.mem_cons_of_mem _ (List.mem_append_right _ h)
set_option maxRecDepth 100000 in
theorem lkX4_copies_13 : Cond.fieldLink RX4 13 "BellsBelow$Rows" "first" "[I" ∈ wsX4_copies := by decide +kernel
set_option maxRecDepth 100000 in
theorem wdX4_copies_Cond_static_yX8_copy : Cond.static yX8_copy ∈ wsX4_copies := by decide +kernel
set_option maxRecDepth 100000 in
theorem wdX4_copies_Cond_initialized_RX8 : Cond.initialized RX8 ∈ wsX4_copies := by decide +kernel
set_option maxRecDepth 100000 in
theorem lkX4_copies_19 : Cond.fieldLink RX4 19 "BellsBelow$Rows" "second" "[I" ∈ wsX4_copies := by decide +kernel
set_option maxRecDepth 100000 in
theorem lkX4_copies_22 : Cond.fieldLink RX4 22 "BellsBelow$Rows" "third" "[I" ∈ wsX4_copies := by decide +kernel
set_option maxRecDepth 100000 in
theorem lkX4_copies_25 : Cond.fieldLink RX4 25 "BellsBelow$Rows" "many" "I" ∈ wsX4_copies := by decide +kernel
set_option maxHeartbeats 4000000 in
set_option maxRecDepth 100000 in
theorem w_X4_copies_0 {p : Program} {l : Launch} {e : Env} {s : State} {m : MethodId} {args : Array Value} {below : List Frame} {meth : Method} {c : Code} {E : Ev} {σ : Ms} {ℓ : Mz} {o : Nat} {j : Nat} {τo : Mm} {N : Nat} {No : Nat} {out : Mm} (ho : Kd o = 4) (hj : Kd j = 4) (hne : j ≠ o) (hτo : σ j = τo) (hN : rl o = N) (hNo : rl j = No)   (C : Cx cX4_copies 2 none wsX4_copies RX4 E p s m args meth c)  : ∀ (τ : Mm) (H : Heap) (locs : List Loc) (h : HI E (va_up σ o τ) ℓ s H locs) (ls : Array Slot) (hl : lv_has ls 2 [(0, .ref (Ea E o 0)), (1, .ref (Ea E j 0))]), f_X4_copies_0 τo N No  τ = some out → W p l e rm_X4_copies s m args below meth c H locs 0 0 (MQ below (Po E s.heap.size none (va_up σ o out) ℓ) args s 0 0 (AA E s.heap.size)) (F0 m 0 ls []) := by
  intro τ H locs h ls hl hf
  unfold f_X4_copies_0 at hf
  have C0 := C
  obtain ⟨hx, hb, hr, hml, hown, hts, hlk, hK, hSF⟩ := C0
  refine lv_aload_n hx hb dX4_copies_0 rfl (lv_at hl 1 rfl) ?_
  refine gf_4_0 C h hj ((up_ne hne).trans hτo) inX4_copies_4 lkX4_copies_13 dX4_copies_1 ?_
  refine lv_aload_n hx hb dX4_copies_4 rfl (lv_at hl 0 rfl) ?_
  refine gf_4_0 C h ho up_eq inX4_copies_4 lkX4_copies_13 dX4_copies_5 ?_
  obtain ⟨u1, hu1, hf⟩ := bd_use hf
  refine r_csN (rest := []) C h (c_X8_copy_4_1 ho hj hne hτo hN hNo hu1) ggX4_copies_X8_copy rfl ⟨rfl, rfl⟩ (hSF.2.2.2.2.2.2.2.1) (hts _ wdX4_copies_Cond_static_yX8_copy) (hts _ wdX4_copies_Cond_initialized_RX8) hdX8_copy ⟨Nat.le_of_ble_eq_true rfl, Nat.le_of_ble_eq_true rfl⟩ ⟨Nat.zero_le _, Nat.zero_le _⟩ hl.1 rfl (Nat.le_of_ble_eq_true rfl) dX4_copies_8 (fun H locs h => ?_)
  refine lv_aload_n hx hb dX4_copies_11 rfl (lv_at hl 1 rfl) ?_
  refine gf_4_1 C h hj ((up_ne hne).trans hτo) inX4_copies_4 lkX4_copies_19 dX4_copies_12 ?_
  refine lv_aload_n hx hb dX4_copies_15 rfl (lv_at hl 0 rfl) ?_
  refine gf_4_1 C h ho up_eq inX4_copies_4 lkX4_copies_19 dX4_copies_16 ?_
  obtain ⟨u2, hu2, hf⟩ := bd_use hf
  refine r_csN (rest := []) C h (c_X8_copy_4_2 ho hj hne hτo hN hNo hu2) ggX4_copies_X8_copy rfl ⟨rfl, rfl⟩ (hSF.2.2.2.2.2.2.2.1) (hts _ wdX4_copies_Cond_static_yX8_copy) (hts _ wdX4_copies_Cond_initialized_RX8) hdX8_copy ⟨Nat.le_of_ble_eq_true rfl, Nat.le_of_ble_eq_true rfl⟩ ⟨Nat.zero_le _, Nat.zero_le _⟩ hl.1 rfl (Nat.le_of_ble_eq_true rfl) dX4_copies_19 (fun H locs h => ?_)
  refine lv_aload_n hx hb dX4_copies_22 rfl (lv_at hl 1 rfl) ?_
  refine gf_4_2 C h hj ((up_ne hne).trans hτo) inX4_copies_4 lkX4_copies_22 dX4_copies_23 ?_
  refine lv_aload_n hx hb dX4_copies_26 rfl (lv_at hl 0 rfl) ?_
  refine gf_4_2 C h ho up_eq inX4_copies_4 lkX4_copies_22 dX4_copies_27 ?_
  obtain ⟨u3, hu3, hf⟩ := bd_use hf
  refine r_csN (rest := []) C h (c_X8_copy_4_3 ho hj hne hτo hN hNo hu3) ggX4_copies_X8_copy rfl ⟨rfl, rfl⟩ (hSF.2.2.2.2.2.2.2.1) (hts _ wdX4_copies_Cond_static_yX8_copy) (hts _ wdX4_copies_Cond_initialized_RX8) hdX8_copy ⟨Nat.le_of_ble_eq_true rfl, Nat.le_of_ble_eq_true rfl⟩ ⟨Nat.zero_le _, Nat.zero_le _⟩ hl.1 rfl (Nat.le_of_ble_eq_true rfl) dX4_copies_30 (fun H locs h => ?_)
  refine lv_aload_n hx hb dX4_copies_33 rfl (lv_at hl 0 rfl) ?_
  refine lv_aload_n hx hb dX4_copies_34 rfl (lv_at hl 1 rfl) ?_
  refine gf_4_3 C h hj ((up_ne hne).trans hτo) inX4_copies_4 lkX4_copies_25 dX4_copies_35 ?_
  refine pf_4_3 C h ho up_eq (F := fun t => va_up σ o t) (fun _ => up_up) inX4_copies_4 lkX4_copies_25 dX4_copies_38 (fun τ4 eτ4 H locs h => ?_)
  replace hf := lt_use eτ4 hf
  clear eτ4
  replace hf := Option.some.inj hf
  subst hf
  exact r_vre C h dX4_copies_41
theorem c_X4_copies {l : Launch} {E : Ev} {σ : Ms} {ℓ : Mz} {o : Nat} {j : Nat} {τ : Mm} {τo : Mm} {N : Nat} {No : Nat} (ho : Kd o = 4) (hj : Kd j = 4) (hne : j ≠ o) (hτo : σ j = τo) (hN : rl o = N) (hNo : rl j = No) {out : Mm} (hf : f_X4_copies τ τo N No = some out) : Ct l yX4_copies wsX4_copies rm_X4_copies [.ref (Ea E o 0), .ref (Ea E j 0)] E (va_up σ o τ) ℓ none (va_up σ o out) ℓ := by
  refine Ct_mk (cc := cX4_copies) (mL := 2) (ret := none) (own := RX4) (by decide +kernel) rfl rfl (Nat.le_of_ble_eq_true rfl) (fun p e s m below meth c C h ls hl => ?_)
  exact w_X4_copies_0 ho hj hne hτo hN hNo C τ _ _ h ls (lv_sub hl [0, 1] rfl) hf
theorem k_X4_copies {l : Launch} {E : Ev} {σ : Ms} {ℓ : Mz} {o : Nat} {j : Nat} {τ : Mm} {τo : Mm} {N : Nat} {No : Nat} (ho : Kd o = 4) (hj : Kd j = 4) (hne : j ≠ o) (hτ : σ o = τ) (hτo : σ j = τo) (hN : rl o = N) (hNo : rl j = No) {out : Mm} (hf : f_X4_copies τ τo N No = some out) : Ct l yX4_copies wsX4_copies rm_X4_copies [.ref (Ea E o 0), .ref (Ea E j 0)] E σ ℓ none (va_up σ o out) ℓ := by
  subst hτ
  have h := c_X4_copies (l := l) (E := E) (σ := σ) (ℓ := ℓ) ho hj hne hτo hN hNo hf
  rw [up_id σ o] at h
  exact h
theorem hdX3_copies : yX3_copies.cls = RX3 ∧ yX3_copies.cls ≠ "java/lang/invoke/MethodHandle" ∧ yX3_copies.cls ≠ "java/lang/invoke/VarHandle" ∧ (parseMethodDescriptor yX3_copies.desc).map (fun d => d.parameters.length) = some 1 := by decide +kernel
def rm_X3_copies_4 : Room := { frames := 3, cells := 0, slots := 0, locals := 102 }
set_option maxRecDepth 100000 in
theorem inX3_copies_3 : ∀ w ∈ wsX30, w ∈ wsX3_copies := fun _ h => List.mem_cons_of_mem _ (List.mem_append_left _ (List.mem_append_right _ h))
set_option maxRecDepth 100000 in
theorem lkX3_copies_12 : Cond.fieldLink RX3 12 "BellsBelow$Notes" "seen" "LBellsBelow$Rows;" ∈ wsX3_copies := by decide +kernel
set_option maxRecDepth 100000 in
theorem lkX3_copies_18 : Cond.fieldLink RX3 18 "BellsBelow$Notes" "plan" "LBellsBelow$Rows;" ∈ wsX3_copies := by decide +kernel
set_option maxRecDepth 100000 in
theorem lkX3_copies_21 : Cond.fieldLink RX3 21 "BellsBelow$Notes" "book" "LBellsBelow$Rows;" ∈ wsX3_copies := by decide +kernel
set_option maxHeartbeats 4000000 in
set_option maxRecDepth 100000 in
theorem w_X3_copies_4_0 {p : Program} {l : Launch} {e : Env} {s : State} {m : MethodId} {args : Array Value} {below : List Frame} {meth : Method} {c : Code} {E : Ev} {ℓ : Mz} {out : Ms}   (C : Cx cX3_copies 2 none wsX3_copies RX3 E p s m args meth c)  : ∀ (σ : Ms) (H : Heap) (locs : List Loc) (h : HI E σ ℓ s H locs) (ls : Array Slot) (hl : lv_has ls 2 [(0, .ref (Ea E 4 0)), (1, .ref (Ea E 5 0))]), f_X3_copies_4_0   σ = some out → W p l e rm_X3_copies_4 s m args below meth c H locs 0 0 (MQ below (Po E s.heap.size none out ℓ) args s 0 0 (AA E s.heap.size)) (F0 m 0 ls []) := by
  intro σ H locs h ls hl hf
  unfold f_X3_copies_4_0 at hf
  have C0 := C
  obtain ⟨hx, hb, hr, hml, hown, hts, hlk, hK, hSF⟩ := C0
  refine lv_aload_n hx hb dX3_copies_0 rfl (lv_at hl 0 rfl) ?_
  refine gf_31_0 C h (rfl : Kd 4 = 31) rfl inX3_copies_3 lkX3_copies_12 dX3_copies_1 ?_
  refine lv_aload_n hx hb dX3_copies_4 rfl (lv_at hl 1 rfl) ?_
  refine gf_32_0 C h (rfl : Kd 5 = 32) rfl inX3_copies_3 lkX3_copies_12 dX3_copies_5 ?_
  obtain ⟨u1, hu1, hf⟩ := bd_use hf
  refine r_cv_4 (rest := []) C h (k_X4_copies (rfl : Kd 6 = 4) (rfl : Kd 9 = 4) (by decide) rfl rfl rfl rfl hu1) (rfl : Kd 6 = 4) gX3_copies_X4_copies rfl ⟨rfl, rfl⟩ hdX4_copies ⟨Nat.le_of_ble_eq_true rfl, Nat.le_of_ble_eq_true rfl⟩ ⟨Nat.zero_le _, Nat.zero_le _⟩ hl.1 rfl (Nat.le_of_ble_eq_true rfl) dX3_copies_8 (fun H locs h => ?_)
  obtain ⟨σ2, eσ2⟩ : ∃ z, z = va_up σ 6 u1 := ⟨_, rfl⟩
  replace hf := lt_use eσ2 hf
  rw [← eσ2] at h
  clear eσ2
  refine lv_aload_n hx hb dX3_copies_11 rfl (lv_at hl 0 rfl) ?_
  refine gf_31_1 C h (rfl : Kd 4 = 31) rfl inX3_copies_3 lkX3_copies_18 dX3_copies_12 ?_
  refine lv_aload_n hx hb dX3_copies_15 rfl (lv_at hl 1 rfl) ?_
  refine gf_32_1 C h (rfl : Kd 5 = 32) rfl inX3_copies_3 lkX3_copies_18 dX3_copies_16 ?_
  obtain ⟨u3, hu3, hf⟩ := bd_use hf
  refine r_cv_4 (rest := []) C h (k_X4_copies (rfl : Kd 7 = 4) (rfl : Kd 10 = 4) (by decide) rfl rfl rfl rfl hu3) (rfl : Kd 7 = 4) gX3_copies_X4_copies rfl ⟨rfl, rfl⟩ hdX4_copies ⟨Nat.le_of_ble_eq_true rfl, Nat.le_of_ble_eq_true rfl⟩ ⟨Nat.zero_le _, Nat.zero_le _⟩ hl.1 rfl (Nat.le_of_ble_eq_true rfl) dX3_copies_19 (fun H locs h => ?_)
  obtain ⟨σ4, eσ4⟩ : ∃ z, z = va_up σ2 7 u3 := ⟨_, rfl⟩
  replace hf := lt_use eσ4 hf
  rw [← eσ4] at h
  clear eσ4
  refine lv_aload_n hx hb dX3_copies_22 rfl (lv_at hl 0 rfl) ?_
  refine gf_31_2 C h (rfl : Kd 4 = 31) rfl inX3_copies_3 lkX3_copies_21 dX3_copies_23 ?_
  refine lv_aload_n hx hb dX3_copies_26 rfl (lv_at hl 1 rfl) ?_
  refine gf_32_2 C h (rfl : Kd 5 = 32) rfl inX3_copies_3 lkX3_copies_21 dX3_copies_27 ?_
  obtain ⟨u5, hu5, hf⟩ := bd_use hf
  refine r_cv_4 (rest := []) C h (k_X4_copies (rfl : Kd 8 = 4) (rfl : Kd 11 = 4) (by decide) rfl rfl rfl rfl hu5) (rfl : Kd 8 = 4) gX3_copies_X4_copies rfl ⟨rfl, rfl⟩ hdX4_copies ⟨Nat.le_of_ble_eq_true rfl, Nat.le_of_ble_eq_true rfl⟩ ⟨Nat.zero_le _, Nat.zero_le _⟩ hl.1 rfl (Nat.le_of_ble_eq_true rfl) dX3_copies_30 (fun H locs h => ?_)
  obtain ⟨σ6, eσ6⟩ : ∃ z, z = va_up σ4 8 u5 := ⟨_, rfl⟩
  replace hf := lt_use eσ6 hf
  rw [← eσ6] at h
  clear eσ6
  replace hf := Option.some.inj hf
  subst hf
  exact r_vre C h dX3_copies_33
theorem c_X3_copies_4 {l : Launch} {E : Ev} {σ : Ms} {ℓ : Mz}  {out : Ms} (hf : f_X3_copies_4 σ = some out) : Ct l yX3_copies wsX3_copies rm_X3_copies_4 [.ref (Ea E 4 0), .ref (Ea E 5 0)] E σ ℓ none out ℓ := by
  refine Ct_mk (cc := cX3_copies) (mL := 2) (ret := none) (own := RX3) (by decide +kernel) rfl rfl (Nat.le_of_ble_eq_true rfl) (fun p e s m below meth c C h ls hl => ?_)
  exact w_X3_copies_4_0  C σ _ _ h ls (lv_sub hl [0, 1] rfl) hf
def rm_X3_copies_5 : Room := { frames := 3, cells := 0, slots := 0, locals := 102 }
set_option maxHeartbeats 4000000 in
set_option maxRecDepth 100000 in
theorem w_X3_copies_5_0 {p : Program} {l : Launch} {e : Env} {s : State} {m : MethodId} {args : Array Value} {below : List Frame} {meth : Method} {c : Code} {E : Ev} {ℓ : Mz} {out : Ms}   (C : Cx cX3_copies 2 none wsX3_copies RX3 E p s m args meth c)  : ∀ (σ : Ms) (H : Heap) (locs : List Loc) (h : HI E σ ℓ s H locs) (ls : Array Slot) (hl : lv_has ls 2 [(0, .ref (Ea E 5 0)), (1, .ref (Ea E 4 0))]), f_X3_copies_5_0   σ = some out → W p l e rm_X3_copies_5 s m args below meth c H locs 0 0 (MQ below (Po E s.heap.size none out ℓ) args s 0 0 (AA E s.heap.size)) (F0 m 0 ls []) := by
  intro σ H locs h ls hl hf
  unfold f_X3_copies_5_0 at hf
  have C0 := C
  obtain ⟨hx, hb, hr, hml, hown, hts, hlk, hK, hSF⟩ := C0
  refine lv_aload_n hx hb dX3_copies_0 rfl (lv_at hl 0 rfl) ?_
  refine gf_32_0 C h (rfl : Kd 5 = 32) rfl inX3_copies_3 lkX3_copies_12 dX3_copies_1 ?_
  refine lv_aload_n hx hb dX3_copies_4 rfl (lv_at hl 1 rfl) ?_
  refine gf_31_0 C h (rfl : Kd 4 = 31) rfl inX3_copies_3 lkX3_copies_12 dX3_copies_5 ?_
  obtain ⟨u1, hu1, hf⟩ := bd_use hf
  refine r_cv_4 (rest := []) C h (k_X4_copies (rfl : Kd 9 = 4) (rfl : Kd 6 = 4) (by decide) rfl rfl rfl rfl hu1) (rfl : Kd 9 = 4) gX3_copies_X4_copies rfl ⟨rfl, rfl⟩ hdX4_copies ⟨Nat.le_of_ble_eq_true rfl, Nat.le_of_ble_eq_true rfl⟩ ⟨Nat.zero_le _, Nat.zero_le _⟩ hl.1 rfl (Nat.le_of_ble_eq_true rfl) dX3_copies_8 (fun H locs h => ?_)
  obtain ⟨σ2, eσ2⟩ : ∃ z, z = va_up σ 9 u1 := ⟨_, rfl⟩
  replace hf := lt_use eσ2 hf
  rw [← eσ2] at h
  clear eσ2
  refine lv_aload_n hx hb dX3_copies_11 rfl (lv_at hl 0 rfl) ?_
  refine gf_32_1 C h (rfl : Kd 5 = 32) rfl inX3_copies_3 lkX3_copies_18 dX3_copies_12 ?_
  refine lv_aload_n hx hb dX3_copies_15 rfl (lv_at hl 1 rfl) ?_
  refine gf_31_1 C h (rfl : Kd 4 = 31) rfl inX3_copies_3 lkX3_copies_18 dX3_copies_16 ?_
  obtain ⟨u3, hu3, hf⟩ := bd_use hf
  refine r_cv_4 (rest := []) C h (k_X4_copies (rfl : Kd 10 = 4) (rfl : Kd 7 = 4) (by decide) rfl rfl rfl rfl hu3) (rfl : Kd 10 = 4) gX3_copies_X4_copies rfl ⟨rfl, rfl⟩ hdX4_copies ⟨Nat.le_of_ble_eq_true rfl, Nat.le_of_ble_eq_true rfl⟩ ⟨Nat.zero_le _, Nat.zero_le _⟩ hl.1 rfl (Nat.le_of_ble_eq_true rfl) dX3_copies_19 (fun H locs h => ?_)
  obtain ⟨σ4, eσ4⟩ : ∃ z, z = va_up σ2 10 u3 := ⟨_, rfl⟩
  replace hf := lt_use eσ4 hf
  rw [← eσ4] at h
  clear eσ4
  refine lv_aload_n hx hb dX3_copies_22 rfl (lv_at hl 0 rfl) ?_
  refine gf_32_2 C h (rfl : Kd 5 = 32) rfl inX3_copies_3 lkX3_copies_21 dX3_copies_23 ?_
  refine lv_aload_n hx hb dX3_copies_26 rfl (lv_at hl 1 rfl) ?_
  refine gf_31_2 C h (rfl : Kd 4 = 31) rfl inX3_copies_3 lkX3_copies_21 dX3_copies_27 ?_
  obtain ⟨u5, hu5, hf⟩ := bd_use hf
  refine r_cv_4 (rest := []) C h (k_X4_copies (rfl : Kd 11 = 4) (rfl : Kd 8 = 4) (by decide) rfl rfl rfl rfl hu5) (rfl : Kd 11 = 4) gX3_copies_X4_copies rfl ⟨rfl, rfl⟩ hdX4_copies ⟨Nat.le_of_ble_eq_true rfl, Nat.le_of_ble_eq_true rfl⟩ ⟨Nat.zero_le _, Nat.zero_le _⟩ hl.1 rfl (Nat.le_of_ble_eq_true rfl) dX3_copies_30 (fun H locs h => ?_)
  obtain ⟨σ6, eσ6⟩ : ∃ z, z = va_up σ4 11 u5 := ⟨_, rfl⟩
  replace hf := lt_use eσ6 hf
  rw [← eσ6] at h
  clear eσ6
  replace hf := Option.some.inj hf
  subst hf
  exact r_vre C h dX3_copies_33
theorem c_X3_copies_5 {l : Launch} {E : Ev} {σ : Ms} {ℓ : Mz}  {out : Ms} (hf : f_X3_copies_5 σ = some out) : Ct l yX3_copies wsX3_copies rm_X3_copies_5 [.ref (Ea E 5 0), .ref (Ea E 4 0)] E σ ℓ none out ℓ := by
  refine Ct_mk (cc := cX3_copies) (mL := 2) (ret := none) (own := RX3) (by decide +kernel) rfl rfl (Nat.le_of_ble_eq_true rfl) (fun p e s m below meth c C h ls hl => ?_)
  exact w_X3_copies_5_0  C σ _ _ h ls (lv_sub hl [0, 1] rfl) hf
theorem hdX4_isFull : yX4_isFull.cls = RX4 ∧ yX4_isFull.cls ≠ "java/lang/invoke/MethodHandle" ∧ yX4_isFull.cls ≠ "java/lang/invoke/VarHandle" ∧ (parseMethodDescriptor yX4_isFull.desc).map (fun d => d.parameters.length) = some 0 := by decide +kernel
def rm_X4_isFull : Room := { frames := 0, cells := 0, slots := 0, locals := 0 }
set_option maxRecDepth 100000 in
theorem inX4_isFull_4 : ∀ w ∈ wsX40, w ∈ wsX4_isFull := fun _ h => List.mem_cons_of_mem _ (List.mem_append_right _ h)
set_option maxRecDepth 100000 in
theorem lkX4_isFull_25 : Cond.fieldLink RX4 25 "BellsBelow$Rows" "many" "I" ∈ wsX4_isFull := by decide +kernel
set_option maxRecDepth 100000 in
theorem lkX4_isFull_13 : Cond.fieldLink RX4 13 "BellsBelow$Rows" "first" "[I" ∈ wsX4_isFull := by decide +kernel
set_option maxHeartbeats 4000000 in
set_option maxRecDepth 100000 in
theorem w_X4_isFull_0 {p : Program} {l : Launch} {e : Env} {s : State} {m : MethodId} {args : Array Value} {below : List Frame} {meth : Method} {c : Code} {E : Ev} {σ : Ms} {ℓ : Mz} {o : Nat} {τ : Mm} {N : Nat} {out : Int32} (ho : Kd o = 4) (hτ : σ o = τ) (hN : rl o = N)   (C : Cx cX4_isFull 1 (some .boolean) wsX4_isFull RX4 E p s m args meth c)  : ∀  (H : Heap) (locs : List Loc) (h : HI E σ ℓ s H locs) (ls : Array Slot) (hl : lv_has ls 1 [(0, .ref (Ea E o 0))]), f_X4_isFull_0 τ N   = some out → W p l e rm_X4_isFull s m args below meth c H locs 0 0 (MQ below (Po E s.heap.size (some (.int out)) σ ℓ) args s 0 0 (AA E s.heap.size)) (F0 m 0 ls []) := by
  intro  H locs h ls hl hf
  unfold f_X4_isFull_0 at hf
  have C0 := C
  obtain ⟨hx, hb, hr, hml, hown, hts, hlk, hK, hSF⟩ := C0
  refine lv_aload_n hx hb dX4_isFull_0 rfl (lv_at hl 0 rfl) ?_
  refine gf_4_3 C h ho hτ inX4_isFull_4 lkX4_isFull_25 dX4_isFull_1 ?_
  refine lv_aload_n hx hb dX4_isFull_4 rfl (lv_at hl 0 rfl) ?_
  refine gf_4_0 C h ho hτ inX4_isFull_4 lkX4_isFull_13 dX4_isFull_5 ?_
  refine al_4_1 C h ho dX4_isFull_8 ?_
  rw [hN]
  refine lv_icmp_lt (tgt := 16) hx hb dX4_isFull_9 (by decide) (fun c1 => ?_) (fun c1 => ?_)
  · replace hf := it_t c1 hf
    refine lv_iconst (v := (0 : Int32)) hx hb dX4_isFull_16 (by decide) ?_
    replace hf := Option.some.inj hf
    subst hf
    exact r_zre (v := (0 : Int32)) C h rfl dX4_isFull_17
  replace hf := it_f c1 hf
  refine lv_iconst (v := (1 : Int32)) hx hb dX4_isFull_12 (by decide) ?_
  refine lv_goto (tgt := 17) hx hb dX4_isFull_13 (by decide) ?_
  replace hf := Option.some.inj hf
  subst hf
  exact r_zre (v := (1 : Int32)) C h rfl dX4_isFull_17
theorem c_X4_isFull {l : Launch} {E : Ev} {σ : Ms} {ℓ : Mz} {o : Nat} {τ : Mm} {N : Nat} (ho : Kd o = 4) (hτ : σ o = τ) (hN : rl o = N) {out : Int32} (hf : f_X4_isFull τ N = some out) : Ct l yX4_isFull wsX4_isFull rm_X4_isFull [.ref (Ea E o 0)] E σ ℓ (some (.int out)) σ ℓ := by
  refine Ct_mk (cc := cX4_isFull) (mL := 1) (ret := (some .boolean)) (own := RX4) (by decide +kernel) rfl rfl (Nat.le_of_ble_eq_true rfl) (fun p e s m below meth c C h ls hl => ?_)
  exact w_X4_isFull_0 ho hτ hN C  _ _ h ls (lv_sub hl [0] rfl) hf
theorem hdX4_adds : yX4_adds.cls = RX4 ∧ yX4_adds.cls ≠ "java/lang/invoke/MethodHandle" ∧ yX4_adds.cls ≠ "java/lang/invoke/VarHandle" ∧ (parseMethodDescriptor yX4_adds.desc).map (fun d => d.parameters.length) = some 3 := by decide +kernel
def rm_X4_adds : Room := { frames := 1, cells := 0, slots := 0, locals := 20 }
set_option maxRecDepth 100000 in
theorem inX4_adds_4 : ∀ w ∈ wsX40, w ∈ wsX4_adds := fun _ h => List.mem_cons_of_mem _ (List.mem_append_right _ h)
set_option maxRecDepth 100000 in
theorem lkX4_adds_25 : Cond.fieldLink RX4 25 "BellsBelow$Rows" "many" "I" ∈ wsX4_adds := by decide +kernel
set_option maxRecDepth 100000 in
theorem lkX4_adds_13 : Cond.fieldLink RX4 13 "BellsBelow$Rows" "first" "[I" ∈ wsX4_adds := by decide +kernel
set_option maxRecDepth 100000 in
theorem lkX4_adds_19 : Cond.fieldLink RX4 19 "BellsBelow$Rows" "second" "[I" ∈ wsX4_adds := by decide +kernel
set_option maxRecDepth 100000 in
theorem lkX4_adds_22 : Cond.fieldLink RX4 22 "BellsBelow$Rows" "third" "[I" ∈ wsX4_adds := by decide +kernel
set_option maxHeartbeats 4000000 in
set_option maxRecDepth 100000 in
theorem w_X4_adds_47 {p : Program} {l : Launch} {e : Env} {s : State} {m : MethodId} {args : Array Value} {below : List Frame} {meth : Method} {c : Code} {E : Ev} {σ : Ms} {ℓ : Mz} {o : Nat} {N : Nat} {p0 : Int32} {p1 : Int32} {p2 : Int32} {out : Int32 × Mm} (ho : Kd o = 4) (hN : rl o = N)   (C : Cx cX4_adds 4 (some .int) wsX4_adds RX4 E p s m args meth c)  : ∀ (τ : Mm) (H : Heap) (locs : List Loc) (h : HI E (va_up σ o τ) ℓ s H locs) (ls : Array Slot) (hl : lv_has ls 4 [(0, .ref (Ea E o 0))]), f_X4_adds_47 N p0 p1 p2  τ = some out → W p l e rm_X4_adds s m args below meth c H locs 0 0 (MQ below (Po E s.heap.size (some (.int out.1)) (va_up σ o out.2) ℓ) args s 0 0 (AA E s.heap.size)) (F0 m 47 ls []) := by
  intro τ H locs h ls hl hf
  unfold f_X4_adds_47 at hf
  have C0 := C
  obtain ⟨hx, hb, hr, hml, hown, hts, hlk, hK, hSF⟩ := C0
  refine lv_aload_n hx hb dX4_adds_47 rfl (lv_at hl 0 rfl) ?_
  refine gf_4_3 C h ho up_eq inX4_adds_4 lkX4_adds_25 dX4_adds_48 ?_
  replace hf := Option.some.inj hf
  subst hf
  exact r_ire C h dX4_adds_51
set_option maxHeartbeats 4000000 in
set_option maxRecDepth 100000 in
theorem w_X4_adds_0 {p : Program} {l : Launch} {e : Env} {s : State} {m : MethodId} {args : Array Value} {below : List Frame} {meth : Method} {c : Code} {E : Ev} {σ : Ms} {ℓ : Mz} {o : Nat} {N : Nat} {p0 : Int32} {p1 : Int32} {p2 : Int32} {out : Int32 × Mm} (ho : Kd o = 4) (hN : rl o = N)   (C : Cx cX4_adds 4 (some .int) wsX4_adds RX4 E p s m args meth c)  : ∀ (τ : Mm) (H : Heap) (locs : List Loc) (h : HI E (va_up σ o τ) ℓ s H locs) (ls : Array Slot) (hl : lv_has ls 4 [(0, .ref (Ea E o 0)), (1, .int p0), (2, .int p1), (3, .int p2)]), f_X4_adds_0 N p0 p1 p2  τ = some out → W p l e rm_X4_adds s m args below meth c H locs 0 0 (MQ below (Po E s.heap.size (some (.int out.1)) (va_up σ o out.2) ℓ) args s 0 0 (AA E s.heap.size)) (F0 m 0 ls []) := by
  intro τ H locs h ls hl hf
  unfold f_X4_adds_0 at hf
  have C0 := C
  obtain ⟨hx, hb, hr, hml, hown, hts, hlk, hK, hSF⟩ := C0
  refine lv_aload_n hx hb dX4_adds_0 rfl (lv_at hl 0 rfl) ?_
  obtain ⟨u1, hu1, hf⟩ := bd_use hf
  refine r_cv_4 (rest := []) C h (c_X4_isFull ho up_eq hN hu1) ho gX4_adds_X4_isFull rfl ⟨rfl, rfl⟩ hdX4_isFull ⟨Nat.le_of_ble_eq_true rfl, Nat.le_of_ble_eq_true rfl⟩ ⟨Nat.zero_le _, Nat.zero_le _⟩ hl.1 rfl (Nat.le_of_ble_eq_true rfl) dX4_adds_1 (fun H locs h => ?_)
  refine lv_if_ne (tgt := 47) hx hb dX4_adds_4 (by decide) (fun c2 => ?_) (fun c2 => ?_)
  · replace hf := it_f c2 hf
    exact w_X4_adds_47 ho hN   C  _ _ _ h ls (lv_sub hl [0] rfl) hf
  replace hf := it_t c2 hf
  refine lv_aload_n hx hb dX4_adds_7 rfl (lv_at hl 0 rfl) ?_
  refine gf_4_0 C h ho up_eq inX4_adds_4 lkX4_adds_13 dX4_adds_8 ?_
  refine lv_aload_n hx hb dX4_adds_11 rfl (lv_at hl 0 rfl) ?_
  refine gf_4_3 C h ho up_eq inX4_adds_4 lkX4_adds_25 dX4_adds_12 ?_
  refine lv_iload_n hx hb dX4_adds_15 rfl (lv_at hl 1 rfl) ?_
  obtain ⟨g3, hf⟩ := gd_use hf
  refine sa_4_1 C h ho up_eq (F := fun t => va_up σ o t) (fun _ => up_up) (by rw [hN]; exact inB_in g3) dX4_adds_16 (fun τ4 eτ4 H locs h => ?_)
  replace hf := lt_use eτ4 hf
  clear eτ4
  refine lv_aload_n hx hb dX4_adds_17 rfl (lv_at hl 0 rfl) ?_
  refine gf_4_1 C h ho up_eq inX4_adds_4 lkX4_adds_19 dX4_adds_18 ?_
  refine lv_aload_n hx hb dX4_adds_21 rfl (lv_at hl 0 rfl) ?_
  refine gf_4_3 C h ho up_eq inX4_adds_4 lkX4_adds_25 dX4_adds_22 ?_
  refine lv_iload_n hx hb dX4_adds_25 rfl (lv_at hl 2 rfl) ?_
  obtain ⟨g5, hf⟩ := gd_use hf
  refine sa_4_2 C h ho up_eq (F := fun t => va_up σ o t) (fun _ => up_up) (by rw [hN]; exact inB_in g5) dX4_adds_26 (fun τ6 eτ6 H locs h => ?_)
  replace hf := lt_use eτ6 hf
  clear eτ6
  refine lv_aload_n hx hb dX4_adds_27 rfl (lv_at hl 0 rfl) ?_
  refine gf_4_2 C h ho up_eq inX4_adds_4 lkX4_adds_22 dX4_adds_28 ?_
  refine lv_aload_n hx hb dX4_adds_31 rfl (lv_at hl 0 rfl) ?_
  refine gf_4_3 C h ho up_eq inX4_adds_4 lkX4_adds_25 dX4_adds_32 ?_
  refine lv_iload_n hx hb dX4_adds_35 rfl (lv_at hl 3 rfl) ?_
  obtain ⟨g7, hf⟩ := gd_use hf
  refine sa_4_3 C h ho up_eq (F := fun t => va_up σ o t) (fun _ => up_up) (by rw [hN]; exact inB_in g7) dX4_adds_36 (fun τ8 eτ8 H locs h => ?_)
  replace hf := lt_use eτ8 hf
  clear eτ8
  refine lv_aload_n hx hb dX4_adds_37 rfl (lv_at hl 0 rfl) ?_
  refine lv_dup hx hb dX4_adds_38 rfl ?_
  refine gf_4_3 C h ho up_eq inX4_adds_4 lkX4_adds_25 dX4_adds_39 ?_
  refine lv_iconst (v := (1 : Int32)) hx hb dX4_adds_42 (by decide) ?_
  refine lv_iadd hx hb dX4_adds_43 ?_
  refine pf_4_3 C h ho up_eq (F := fun t => va_up σ o t) (fun _ => up_up) inX4_adds_4 lkX4_adds_25 dX4_adds_44 (fun τ9 eτ9 H locs h => ?_)
  replace hf := lt_use eτ9 hf
  clear eτ9
  exact w_X4_adds_47 ho hN   C  _ _ _ h ls (lv_sub hl [0] rfl) hf
theorem c_X4_adds {l : Launch} {E : Ev} {σ : Ms} {ℓ : Mz} {o : Nat} {τ : Mm} {N : Nat} {p0 : Int32} {p1 : Int32} {p2 : Int32} (ho : Kd o = 4) (hN : rl o = N) {out : Int32 × Mm} (hf : f_X4_adds τ N p0 p1 p2 = some out) : Ct l yX4_adds wsX4_adds rm_X4_adds [.ref (Ea E o 0), .int p0, .int p1, .int p2] E (va_up σ o τ) ℓ (some (.int out.1)) (va_up σ o out.2) ℓ := by
  refine Ct_mk (cc := cX4_adds) (mL := 4) (ret := (some .int)) (own := RX4) (by decide +kernel) rfl rfl (Nat.le_of_ble_eq_true rfl) (fun p e s m below meth c C h ls hl => ?_)
  exact w_X4_adds_0 ho hN C τ _ _ h ls (lv_sub hl [0, 1, 2, 3] rfl) hf
theorem k_X4_adds {l : Launch} {E : Ev} {σ : Ms} {ℓ : Mz} {o : Nat} {τ : Mm} {N : Nat} {p0 : Int32} {p1 : Int32} {p2 : Int32} (ho : Kd o = 4) (hτ : σ o = τ) (hN : rl o = N) {out : Int32 × Mm} (hf : f_X4_adds τ N p0 p1 p2 = some out) : Ct l yX4_adds wsX4_adds rm_X4_adds [.ref (Ea E o 0), .int p0, .int p1, .int p2] E σ ℓ (some (.int out.1)) (va_up σ o out.2) ℓ := by
  subst hτ
  have h := c_X4_adds (l := l) (E := E) (σ := σ) (ℓ := ℓ) ho hN hf
  rw [up_id σ o] at h
  exact h
theorem hdX4_empties : yX4_empties.cls = RX4 ∧ yX4_empties.cls ≠ "java/lang/invoke/MethodHandle" ∧ yX4_empties.cls ≠ "java/lang/invoke/VarHandle" ∧ (parseMethodDescriptor yX4_empties.desc).map (fun d => d.parameters.length) = some 0 := by decide +kernel
def rm_X4_empties : Room := { frames := 0, cells := 0, slots := 0, locals := 0 }
set_option maxRecDepth 100000 in
theorem inX4_empties_4 : ∀ w ∈ wsX40, w ∈ wsX4_empties := fun _ h => List.mem_cons_of_mem _ (List.mem_append_right _ h)
set_option maxRecDepth 100000 in
theorem lkX4_empties_25 : Cond.fieldLink RX4 25 "BellsBelow$Rows" "many" "I" ∈ wsX4_empties := by decide +kernel
set_option maxHeartbeats 4000000 in
set_option maxRecDepth 100000 in
theorem w_X4_empties_0 {p : Program} {l : Launch} {e : Env} {s : State} {m : MethodId} {args : Array Value} {below : List Frame} {meth : Method} {c : Code} {E : Ev} {σ : Ms} {ℓ : Mz} {o : Nat} {out : Int32 × Mm} (ho : Kd o = 4)   (C : Cx cX4_empties 1 (some .int) wsX4_empties RX4 E p s m args meth c)  : ∀ (τ : Mm) (H : Heap) (locs : List Loc) (h : HI E (va_up σ o τ) ℓ s H locs) (ls : Array Slot) (hl : lv_has ls 1 [(0, .ref (Ea E o 0))]), f_X4_empties_0   τ = some out → W p l e rm_X4_empties s m args below meth c H locs 0 0 (MQ below (Po E s.heap.size (some (.int out.1)) (va_up σ o out.2) ℓ) args s 0 0 (AA E s.heap.size)) (F0 m 0 ls []) := by
  intro τ H locs h ls hl hf
  unfold f_X4_empties_0 at hf
  have C0 := C
  obtain ⟨hx, hb, hr, hml, hown, hts, hlk, hK, hSF⟩ := C0
  refine lv_aload_n hx hb dX4_empties_0 rfl (lv_at hl 0 rfl) ?_
  refine lv_iconst (v := (0 : Int32)) hx hb dX4_empties_1 (by decide) ?_
  refine pf_4_3 C h ho up_eq (F := fun t => va_up σ o t) (fun _ => up_up) inX4_empties_4 lkX4_empties_25 dX4_empties_2 (fun τ1 eτ1 H locs h => ?_)
  replace hf := lt_use eτ1 hf
  clear eτ1
  refine lv_iconst (v := (0 : Int32)) hx hb dX4_empties_5 (by decide) ?_
  replace hf := Option.some.inj hf
  subst hf
  exact r_ire C h dX4_empties_6
theorem c_X4_empties {l : Launch} {E : Ev} {σ : Ms} {ℓ : Mz} {o : Nat} {τ : Mm} (ho : Kd o = 4) {out : Int32 × Mm} (hf : f_X4_empties τ = some out) : Ct l yX4_empties wsX4_empties rm_X4_empties [.ref (Ea E o 0)] E (va_up σ o τ) ℓ (some (.int out.1)) (va_up σ o out.2) ℓ := by
  refine Ct_mk (cc := cX4_empties) (mL := 1) (ret := (some .int)) (own := RX4) (by decide +kernel) rfl rfl (Nat.le_of_ble_eq_true rfl) (fun p e s m below meth c C h ls hl => ?_)
  exact w_X4_empties_0 ho C τ _ _ h ls (lv_sub hl [0] rfl) hf
theorem k_X4_empties {l : Launch} {E : Ev} {σ : Ms} {ℓ : Mz} {o : Nat} {τ : Mm} (ho : Kd o = 4) (hτ : σ o = τ) {out : Int32 × Mm} (hf : f_X4_empties τ = some out) : Ct l yX4_empties wsX4_empties rm_X4_empties [.ref (Ea E o 0)] E σ ℓ (some (.int out.1)) (va_up σ o out.2) ℓ := by
  subst hτ
  have h := c_X4_empties (l := l) (E := E) (σ := σ) (ℓ := ℓ) ho hf
  rw [up_id σ o] at h
  exact h
theorem hdX5_asks : yX5_asks.cls = RX5 ∧ yX5_asks.cls ≠ "java/lang/invoke/MethodHandle" ∧ yX5_asks.cls ≠ "java/lang/invoke/VarHandle" ∧ (parseMethodDescriptor yX5_asks.desc).map (fun d => d.parameters.length) = some 2 := by decide +kernel
def rm_X5_asks : Room := { frames := 3, cells := 0, slots := 0, locals := 107 }
set_option maxRecDepth 100000 in
theorem inX5_asks_5 : ∀ w ∈ wsX50, w ∈ wsX5_asks := fun _ h => List.mem_cons_of_mem _ (List.mem_append_left _ (List.mem_append_left _ (List.mem_append_right _ h)))
set_option maxRecDepth 100000 in
theorem lkX5_asks_15 : Cond.fieldLink RX5 15 "BellsBelow$Sharing" "open" "[I" ∈ wsX5_asks := by decide +kernel
set_option maxRecDepth 100000 in
theorem inX5_asks_1 : ∀ w ∈ wsX10, w ∈ wsX5_asks := fun _ h => List.mem_cons_of_mem _ (List.mem_append_left _ (List.mem_append_right _ h))
set_option maxRecDepth 100000 in
theorem lkX5_asks_49 : Cond.fieldLink RX5 49 "BellsBelow$Hall" "many" "I" ∈ wsX5_asks := by decide +kernel
set_option maxRecDepth 100000 in
theorem lkX5_asks_18 : Cond.fieldLink RX5 18 "BellsBelow$Sharing" "prices" "[I" ∈ wsX5_asks := by decide +kernel
set_option maxHeartbeats 4000000 in
set_option maxRecDepth 100000 in
theorem w_X5_asks_63 {p : Program} {l : Launch} {e : Env} {s : State} {m : MethodId} {args : Array Value} {below : List Frame} {meth : Method} {c : Code} {E : Ev} {σ : Ms} {ℓ : Mz} {hs : Ms} {p1 : Int32} {out : Mm × Mm} (hhs : ∀ h, Kd h = 2 → σ h = hs h)   (C : Cx cX5_asks 4 none wsX5_asks RX5 E p s m args meth c) {k18 : Mm → Mm → Int32 → Option (Mm × Mm)} (hk18 : ∀ (τ : Mm) (θ : Mm) (v3 : Int32) (H : Heap) (locs : List Loc), HI E (va_up (va_up σ 20 τ) 1 θ) ℓ s H locs → ∀ ls : Array Slot, lv_has ls 4 [(0, .ref (Ea E 20 0)), (1, .ref (Ea E 1 0)), (2, .int p1), (3, .int v3)] → k18 τ θ v3 = some out → W p l e rm_X5_asks s m args below meth c H locs 0 0 (MQ below (Po E s.heap.size none (va_up (va_up σ 20 out.1) 1 out.2) ℓ) args s 0 0 (AA E s.heap.size)) (F0 m 18 ls [])) : ∀ (τ : Mm) (θ : Mm) (v3 : Int32) (H : Heap) (locs : List Loc) (h : HI E (va_up (va_up σ 20 τ) 1 θ) ℓ s H locs) (ls : Array Slot) (hl : lv_has ls 4 [(0, .ref (Ea E 20 0)), (1, .ref (Ea E 1 0)), (2, .int p1), (3, .int v3)]), f_X5_asks_63 hs p1 k18 τ θ v3 = some out → W p l e rm_X5_asks s m args below meth c H locs 0 0 (MQ below (Po E s.heap.size none (va_up (va_up σ 20 out.1) 1 out.2) ℓ) args s 0 0 (AA E s.heap.size)) (F0 m 63 ls []) := by
  intro τ θ v3 H locs h ls hl hf
  unfold f_X5_asks_63 at hf
  have C0 := C
  obtain ⟨hx, hb, hr, hml, hown, hts, hlk, hK, hSF⟩ := C0
  obtain ⟨x8, ex8⟩ : ∃ y : Int32, y = (v3 + (1 : Int32)) := ⟨_, rfl⟩
  refine lv_iinc (v := x8) (lv' := [(3, .int x8), (0, .ref (Ea E 20 0)), (1, .ref (Ea E 1 0)), (2, .int p1)]) hx hb dX5_asks_63 hl (k := 3) rfl (by rw [ex8]; rfl) (by decide) rfl (fun ls hl => ?_)
  replace hf := lt_use ex8 hf
  clear ex8
  refine lv_goto (tgt := 18) hx hb dX5_asks_66 (by decide) ?_
  exact hk18 _ _ _ _ _ h ls (lv_sub hl [1, 2, 3, 0] rfl) hf
set_option maxHeartbeats 4000000 in
set_option maxRecDepth 100000 in
theorem w_X5_asks_18 {p : Program} {l : Launch} {e : Env} {s : State} {m : MethodId} {args : Array Value} {below : List Frame} {meth : Method} {c : Code} {E : Ev} {σ : Ms} {ℓ : Mz} {hs : Ms} {p1 : Int32} {out : Mm × Mm} (hhs : ∀ h, Kd h = 2 → σ h = hs h)   (C : Cx cX5_asks 4 none wsX5_asks RX5 E p s m args meth c) {k18 : Mm → Mm → Int32 → Option (Mm × Mm)} (hk18 : ∀ (τ : Mm) (θ : Mm) (v3 : Int32) (H : Heap) (locs : List Loc), HI E (va_up (va_up σ 20 τ) 1 θ) ℓ s H locs → ∀ ls : Array Slot, lv_has ls 4 [(0, .ref (Ea E 20 0)), (1, .ref (Ea E 1 0)), (2, .int p1), (3, .int v3)] → k18 τ θ v3 = some out → W p l e rm_X5_asks s m args below meth c H locs 0 0 (MQ below (Po E s.heap.size none (va_up (va_up σ 20 out.1) 1 out.2) ℓ) args s 0 0 (AA E s.heap.size)) (F0 m 18 ls [])) : ∀ (τ : Mm) (θ : Mm) (v3 : Int32) (H : Heap) (locs : List Loc) (h : HI E (va_up (va_up σ 20 τ) 1 θ) ℓ s H locs) (ls : Array Slot) (hl : lv_has ls 4 [(0, .ref (Ea E 20 0)), (1, .ref (Ea E 1 0)), (2, .int p1), (3, .int v3)]), f_X5_asks_18 hs p1 k18 τ θ v3 = some out → W p l e rm_X5_asks s m args below meth c H locs 0 0 (MQ below (Po E s.heap.size none (va_up (va_up σ 20 out.1) 1 out.2) ℓ) args s 0 0 (AA E s.heap.size)) (F0 m 18 ls []) := by
  intro τ θ v3 H locs h ls hl hf
  unfold f_X5_asks_18 at hf
  have C0 := C
  obtain ⟨hx, hb, hr, hml, hown, hts, hlk, hK, hSF⟩ := C0
  refine lv_iload_n hx hb dX5_asks_18 rfl (lv_at hl 3 rfl) ?_
  refine lv_aload_n hx hb dX5_asks_19 rfl (lv_at hl 1 rfl) ?_
  refine gf_1_12 C h (rfl : Kd 1 = 1) up_eq inX5_asks_1 lkX5_asks_49 dX5_asks_20 ?_
  refine lv_icmp_ge (tgt := 69) hx hb dX5_asks_23 (by decide) (fun c5 => ?_) (fun c5 => ?_)
  · replace hf := it_t c5 hf
    replace hf := Option.some.inj hf
    subst hf
    exact r_vre C h dX5_asks_69
  replace hf := it_f c5 hf
  refine lv_aload_n hx hb dX5_asks_26 rfl (lv_at hl 1 rfl) ?_
  refine lv_iload_n hx hb dX5_asks_27 rfl (lv_at hl 3 rfl) ?_
  obtain ⟨u6, hu6, hf⟩ := bd_use hf
  refine r_cv_1 (rest := []) C h (c_X1_isFree (rfl : Kd 1 = 1) up_eq hu6) (rfl : Kd 1 = 1) gX5_asks_X1_isFree rfl ⟨rfl, rfl⟩ hdX1_isFree ⟨Nat.le_of_ble_eq_true rfl, Nat.le_of_ble_eq_true rfl⟩ ⟨Nat.zero_le _, Nat.zero_le _⟩ hl.1 rfl (Nat.le_of_ble_eq_true rfl) dX5_asks_28 (fun H locs h => ?_)
  refine lv_if_eq (tgt := 63) hx hb dX5_asks_31 (by decide) (fun c7 => ?_) (fun c7 => ?_)
  · replace hf := it_t c7 hf
    exact w_X5_asks_63 hhs   C hk18 _ _ _ _ _ h ls (lv_sub hl [0, 1, 2, 3] rfl) hf
  replace hf := it_f c7 hf
  refine lv_aload_n hx hb dX5_asks_34 rfl (lv_at hl 0 rfl) ?_
  refine gf_5_3 C h (rfl : Kd 20 = 5) ((up_ne (by decide)).trans up_eq) inX5_asks_5 lkX5_asks_15 dX5_asks_35 ?_
  refine lv_iload_n hx hb dX5_asks_38 rfl (lv_at hl 2 rfl) ?_
  refine lv_dup2_11 hx hb dX5_asks_39 rfl rfl ?_
  obtain ⟨g9, hf⟩ := gd_use hf
  refine ld_5_2 C h (rfl : Kd 20 = 5) ((up_ne (by decide)).trans up_eq) (inB_in g9) dX5_asks_40 ?_
  refine lv_iconst (v := (1 : Int32)) hx hb dX5_asks_41 (by decide) ?_
  refine lv_iload_n hx hb dX5_asks_42 rfl (lv_at hl 3 rfl) ?_
  refine lv_ishl hx hb dX5_asks_43 ?_
  refine lv_ior hx hb dX5_asks_44 ?_
  obtain ⟨g10, hf⟩ := gd_use hf
  refine sa_5_2 C h (rfl : Kd 20 = 5) ((up_ne (by decide)).trans up_eq) (F := fun t => va_up (va_up σ 20 t) 1 θ) (fun _ => up_c (by decide)) (inB_in g10) dX5_asks_45 (fun τ11 eτ11 H locs h => ?_)
  replace hf := lt_use eτ11 hf
  clear eτ11
  refine lv_aload_n hx hb dX5_asks_46 rfl (lv_at hl 0 rfl) ?_
  refine gf_5_4 C h (rfl : Kd 20 = 5) ((up_ne (by decide)).trans up_eq) inX5_asks_5 lkX5_asks_18 dX5_asks_47 ?_
  refine lv_iload_n hx hb dX5_asks_50 rfl (lv_at hl 2 rfl) ?_
  refine lv_bipush (v := (6 : Int32)) hx hb dX5_asks_51 (by decide) ?_
  refine lv_imul hx hb dX5_asks_53 ?_
  refine lv_iload_n hx hb dX5_asks_54 rfl (lv_at hl 3 rfl) ?_
  refine lv_iadd hx hb dX5_asks_55 ?_
  refine lv_aload_n hx hb dX5_asks_56 rfl (lv_at hl 1 rfl) ?_
  refine lv_iload_n hx hb dX5_asks_57 rfl (lv_at hl 3 rfl) ?_
  refine lv_iload_n hx hb dX5_asks_58 rfl (lv_at hl 2 rfl) ?_
  obtain ⟨u12, hu12, hf⟩ := bd_use hf
  refine r_cv_1 (rest := [.int ((p1 * (6 : Int32)) + v3), .ref (Ea E 20 3)]) C h (c_X1_cost (rfl : Kd 1 = 1) (hs_up hhs (rfl : Kd 20 = 5) (by decide)) hu12) (rfl : Kd 1 = 1) gX5_asks_X1_cost rfl ⟨rfl, rfl⟩ hdX1_cost ⟨Nat.le_of_ble_eq_true rfl, Nat.le_of_ble_eq_true rfl⟩ ⟨Nat.zero_le _, Nat.zero_le _⟩ hl.1 rfl (Nat.le_of_ble_eq_true rfl) dX5_asks_59 (fun H locs h => ?_)
  obtain ⟨g13, hf⟩ := gd_use hf
  refine sa_5_3 C h (rfl : Kd 20 = 5) ((up_ne (by decide)).trans up_eq) (F := fun t => va_up (va_up σ 20 t) 1 u12.2) (fun _ => up_c (by decide)) (inB_in g13) dX5_asks_62 (fun τ14 eτ14 H locs h => ?_)
  replace hf := lt_use eτ14 hf
  clear eτ14
  exact w_X5_asks_63 hhs   C hk18 _ _ _ _ _ h ls (lv_sub hl [0, 1, 2, 3] rfl) hf
set_option maxHeartbeats 4000000 in
set_option maxRecDepth 100000 in
theorem w_X5_asks_18L {p : Program} {l : Launch} {e : Env} {s : State} {m : MethodId} {args : Array Value} {below : List Frame} {meth : Method} {c : Code} {E : Ev} {σ : Ms} {ℓ : Mz} {hs : Ms} {p1 : Int32} {out : Mm × Mm} (hhs : ∀ h, Kd h = 2 → σ h = hs h)   (C : Cx cX5_asks 4 none wsX5_asks RX5 E p s m args meth c)  : ∀ (n9 : Nat) (τ : Mm) (θ : Mm) (v3 : Int32) (H : Heap) (locs : List Loc) (h : HI E (va_up (va_up σ 20 τ) 1 θ) ℓ s H locs) (ls : Array Slot) (hl : lv_has ls 4 [(0, .ref (Ea E 20 0)), (1, .ref (Ea E 1 0)), (2, .int p1), (3, .int v3)]), f_X5_asks_18L hs p1  n9 τ θ v3 = some out → W p l e rm_X5_asks s m args below meth c H locs 0 0 (MQ below (Po E s.heap.size none (va_up (va_up σ 20 out.1) 1 out.2) ℓ) args s 0 0 (AA E s.heap.size)) (F0 m 18 ls []) := by
  intro n9
  induction n9 with
  | zero =>
    intro τ θ v3 H locs h ls hl hf
    cases (show (none : Option (Mm × Mm)) = some out from hf)
  | succ n9 ih =>
    intro τ θ v3 H locs h ls hl hf
    exact w_X5_asks_18 hhs  C  ih τ θ v3 H locs h ls hl hf
set_option maxHeartbeats 4000000 in
set_option maxRecDepth 100000 in
theorem w_X5_asks_0 {p : Program} {l : Launch} {e : Env} {s : State} {m : MethodId} {args : Array Value} {below : List Frame} {meth : Method} {c : Code} {E : Ev} {σ : Ms} {ℓ : Mz} {hs : Ms} {p1 : Int32} {out : Mm × Mm} (hhs : ∀ h, Kd h = 2 → σ h = hs h)   (C : Cx cX5_asks 4 none wsX5_asks RX5 E p s m args meth c)  : ∀ (τ : Mm) (θ : Mm) (H : Heap) (locs : List Loc) (h : HI E (va_up (va_up σ 20 τ) 1 θ) ℓ s H locs) (ls : Array Slot) (hl : lv_has ls 4 [(0, .ref (Ea E 20 0)), (1, .ref (Ea E 1 0)), (2, .int p1)]), f_X5_asks_0 hs p1  τ θ = some out → W p l e rm_X5_asks s m args below meth c H locs 0 0 (MQ below (Po E s.heap.size none (va_up (va_up σ 20 out.1) 1 out.2) ℓ) args s 0 0 (AA E s.heap.size)) (F0 m 0 ls []) := by
  intro τ θ H locs h ls hl hf
  unfold f_X5_asks_0 at hf
  have C0 := C
  obtain ⟨hx, hb, hr, hml, hown, hts, hlk, hK, hSF⟩ := C0
  refine lv_aload_n hx hb dX5_asks_0 rfl (lv_at hl 0 rfl) ?_
  refine gf_5_3 C h (rfl : Kd 20 = 5) ((up_ne (by decide)).trans up_eq) inX5_asks_5 lkX5_asks_15 dX5_asks_1 ?_
  refine lv_iload_n hx hb dX5_asks_4 rfl (lv_at hl 2 rfl) ?_
  refine lv_iconst (v := (0 : Int32)) hx hb dX5_asks_5 (by decide) ?_
  obtain ⟨g1, hf⟩ := gd_use hf
  refine sa_5_2 C h (rfl : Kd 20 = 5) ((up_ne (by decide)).trans up_eq) (F := fun t => va_up (va_up σ 20 t) 1 θ) (fun _ => up_c (by decide)) (inB_in g1) dX5_asks_6 (fun τ2 eτ2 H locs h => ?_)
  replace hf := lt_use eτ2 hf
  clear eτ2
  refine lv_aload_n hx hb dX5_asks_7 rfl (lv_at hl 1 rfl) ?_
  refine lv_iload_n hx hb dX5_asks_8 rfl (lv_at hl 2 rfl) ?_
  obtain ⟨u3, hu3, hf⟩ := bd_use hf
  refine r_cv_1 (rest := []) C h (c_X1_waitsFor (rfl : Kd 1 = 1) up_eq hu3) (rfl : Kd 1 = 1) gX5_asks_X1_waitsFor rfl ⟨rfl, rfl⟩ hdX1_waitsFor ⟨Nat.le_of_ble_eq_true rfl, Nat.le_of_ble_eq_true rfl⟩ ⟨Nat.zero_le _, Nat.zero_le _⟩ hl.1 rfl (Nat.le_of_ble_eq_true rfl) dX5_asks_9 (fun H locs h => ?_)
  refine lv_if_ne (tgt := 16) hx hb dX5_asks_12 (by decide) (fun c4 => ?_) (fun c4 => ?_)
  · replace hf := it_f c4 hf
    refine lv_iconst (v := (0 : Int32)) hx hb dX5_asks_16 (by decide) ?_
    refine lv_istore_n (lv' := [(3, .int (0 : Int32)), (0, .ref (Ea E 20 0)), (1, .ref (Ea E 1 0)), (2, .int p1)]) hx hb dX5_asks_17 rfl hl (by decide) rfl (fun ls hl => ?_)
    exact w_X5_asks_18L hhs   C  _ _ _ _ _ _ h ls (lv_sub hl [1, 2, 3, 0] rfl) hf
  replace hf := it_t c4 hf
  replace hf := Option.some.inj hf
  subst hf
  exact r_vre C h dX5_asks_15
theorem c_X5_asks {l : Launch} {E : Ev} {σ : Ms} {ℓ : Mz} {τ : Mm} {θ : Mm} {hs : Ms} {p1 : Int32} (hhs : ∀ h, Kd h = 2 → σ h = hs h) {out : Mm × Mm} (hf : f_X5_asks τ θ hs p1 = some out) : Ct l yX5_asks wsX5_asks rm_X5_asks [.ref (Ea E 20 0), .ref (Ea E 1 0), .int p1] E (va_up (va_up σ 20 τ) 1 θ) ℓ none (va_up (va_up σ 20 out.1) 1 out.2) ℓ := by
  refine Ct_mk (cc := cX5_asks) (mL := 4) (ret := none) (own := RX5) (by decide +kernel) rfl rfl (Nat.le_of_ble_eq_true rfl) (fun p e s m below meth c C h ls hl => ?_)
  exact w_X5_asks_0 hhs C τ θ _ _ h ls (lv_sub hl [0, 1, 2] rfl) hf
theorem k_X5_asks {l : Launch} {E : Ev} {σ : Ms} {ℓ : Mz} {hs : Ms} {p1 : Int32} (hhs : ∀ h, Kd h = 2 → σ h = hs h) {out : Mm × Mm} (hf : f_X5_asks (σ 20) (σ 1) hs p1 = some out) : Ct l yX5_asks wsX5_asks rm_X5_asks [.ref (Ea E 20 0), .ref (Ea E 1 0), .int p1] E σ ℓ none (va_up (va_up σ 20 out.1) 1 out.2) ℓ := by
  have h := c_X5_asks (l := l) (E := E) (σ := σ) (ℓ := ℓ) hhs hf
  rw [up_id σ 20, up_id σ 1] at h
  exact h
theorem hdX5_isOpen : yX5_isOpen.cls = RX5 ∧ yX5_isOpen.cls ≠ "java/lang/invoke/MethodHandle" ∧ yX5_isOpen.cls ≠ "java/lang/invoke/VarHandle" ∧ (parseMethodDescriptor yX5_isOpen.desc).map (fun d => d.parameters.length) = some 3 := by decide +kernel
def rm_X5_isOpen : Room := { frames := 0, cells := 0, slots := 0, locals := 0 }
set_option maxRecDepth 100000 in
theorem inX5_isOpen_5 : ∀ w ∈ wsX50, w ∈ wsX5_isOpen := fun _ h => List.mem_cons_of_mem _ (List.mem_append_right _ h)
set_option maxRecDepth 100000 in
theorem lkX5_isOpen_15 : Cond.fieldLink RX5 15 "BellsBelow$Sharing" "open" "[I" ∈ wsX5_isOpen := by decide +kernel
set_option maxHeartbeats 4000000 in
set_option maxRecDepth 100000 in
theorem w_X5_isOpen_0 {p : Program} {l : Launch} {e : Env} {s : State} {m : MethodId} {args : Array Value} {below : List Frame} {meth : Method} {c : Code} {E : Ev} {σ : Ms} {ℓ : Mz} {τ : Mm} {p0 : Int32} {p1 : Int32} {p2 : Int32} {out : Int32} (hτ : σ 20 = τ)   (C : Cx cX5_isOpen 4 (some .boolean) wsX5_isOpen RX5 E p s m args meth c)  : ∀  (H : Heap) (locs : List Loc) (h : HI E σ ℓ s H locs) (ls : Array Slot) (hl : lv_has ls 4 [(0, .ref (Ea E 20 0)), (1, .int p0), (2, .int p1), (3, .int p2)]), f_X5_isOpen_0 τ p0 p1 p2   = some out → W p l e rm_X5_isOpen s m args below meth c H locs 0 0 (MQ below (Po E s.heap.size (some (.int out)) σ ℓ) args s 0 0 (AA E s.heap.size)) (F0 m 0 ls []) := by
  intro  H locs h ls hl hf
  unfold f_X5_isOpen_0 at hf
  have C0 := C
  obtain ⟨hx, hb, hr, hml, hown, hts, hlk, hK, hSF⟩ := C0
  refine lv_aload_n hx hb dX5_isOpen_0 rfl (lv_at hl 0 rfl) ?_
  refine gf_5_3 C h (rfl : Kd 20 = 5) hτ inX5_isOpen_5 lkX5_isOpen_15 dX5_isOpen_1 ?_
  refine lv_iload_n hx hb dX5_isOpen_4 rfl (lv_at hl 1 rfl) ?_
  obtain ⟨g1, hf⟩ := gd_use hf
  refine ld_5_2 C h (rfl : Kd 20 = 5) hτ (inB_in g1) dX5_isOpen_5 ?_
  refine lv_iload_n hx hb dX5_isOpen_6 rfl (lv_at hl 3 rfl) ?_
  refine lv_iconst (v := (-1 : Int32)) hx hb dX5_isOpen_7 (by decide) ?_
  refine lv_ixor hx hb dX5_isOpen_8 ?_
  refine lv_iand hx hb dX5_isOpen_9 ?_
  refine lv_iload_n hx hb dX5_isOpen_10 rfl (lv_at hl 2 rfl) ?_
  refine lv_ishr hx hb dX5_isOpen_11 ?_
  refine lv_iconst (v := (1 : Int32)) hx hb dX5_isOpen_12 (by decide) ?_
  refine lv_iand hx hb dX5_isOpen_13 ?_
  refine lv_if_eq (tgt := 21) hx hb dX5_isOpen_14 (by decide) (fun c2 => ?_) (fun c2 => ?_)
  · replace hf := it_t c2 hf
    refine lv_iconst (v := (0 : Int32)) hx hb dX5_isOpen_21 (by decide) ?_
    replace hf := Option.some.inj hf
    subst hf
    exact r_zre (v := (0 : Int32)) C h rfl dX5_isOpen_22
  replace hf := it_f c2 hf
  refine lv_iconst (v := (1 : Int32)) hx hb dX5_isOpen_17 (by decide) ?_
  refine lv_goto (tgt := 22) hx hb dX5_isOpen_18 (by decide) ?_
  replace hf := Option.some.inj hf
  subst hf
  exact r_zre (v := (1 : Int32)) C h rfl dX5_isOpen_22
theorem c_X5_isOpen {l : Launch} {E : Ev} {σ : Ms} {ℓ : Mz} {τ : Mm} {p0 : Int32} {p1 : Int32} {p2 : Int32} (hτ : σ 20 = τ) {out : Int32} (hf : f_X5_isOpen τ p0 p1 p2 = some out) : Ct l yX5_isOpen wsX5_isOpen rm_X5_isOpen [.ref (Ea E 20 0), .int p0, .int p1, .int p2] E σ ℓ (some (.int out)) σ ℓ := by
  refine Ct_mk (cc := cX5_isOpen) (mL := 4) (ret := (some .boolean)) (own := RX5) (by decide +kernel) rfl rfl (Nat.le_of_ble_eq_true rfl) (fun p e s m below meth c C h ls hl => ?_)
  exact w_X5_isOpen_0 hτ C  _ _ h ls (lv_sub hl [0, 1, 2, 3] rfl) hf
theorem hdX5_worthBy : yX5_worthBy.cls = RX5 ∧ yX5_worthBy.cls ≠ "java/lang/invoke/MethodHandle" ∧ yX5_worthBy.cls ≠ "java/lang/invoke/VarHandle" ∧ (parseMethodDescriptor yX5_worthBy.desc).map (fun d => d.parameters.length) = some 3 := by decide +kernel
def rm_X5_worthBy : Room := { frames := 0, cells := 0, slots := 0, locals := 0 }
set_option maxRecDepth 100000 in
theorem inX5_worthBy_5 : ∀ w ∈ wsX50, w ∈ wsX5_worthBy := fun _ h => List.mem_cons_of_mem _ (List.mem_append_right _ h)
set_option maxRecDepth 100000 in
theorem lkX5_worthBy_21 : Cond.fieldLink RX5 21 "BellsBelow$Sharing" "worth" "[I" ∈ wsX5_worthBy := by decide +kernel
set_option maxRecDepth 100000 in
theorem wdX5_worthBy_Cond_constant_RX5_70__1000000_ : Cond.constant RX5 70 (1000000) ∈ wsX5_worthBy := by decide +kernel
set_option maxRecDepth 100000 in
theorem lkX5_worthBy_18 : Cond.fieldLink RX5 18 "BellsBelow$Sharing" "prices" "[I" ∈ wsX5_worthBy := by decide +kernel
set_option maxHeartbeats 4000000 in
set_option maxRecDepth 100000 in
theorem w_X5_worthBy_0 {p : Program} {l : Launch} {e : Env} {s : State} {m : MethodId} {args : Array Value} {below : List Frame} {meth : Method} {c : Code} {E : Ev} {σ : Ms} {ℓ : Mz} {τ : Mm} {p0 : Int32} {p1 : Int32} {p2 : Int32} {out : Int32} (hτ : σ 20 = τ)   (C : Cx cX5_worthBy 5 (some .int) wsX5_worthBy RX5 E p s m args meth c)  : ∀  (H : Heap) (locs : List Loc) (h : HI E σ ℓ s H locs) (ls : Array Slot) (hl : lv_has ls 5 [(0, .ref (Ea E 20 0)), (1, .int p0), (2, .int p1), (3, .int p2)]), f_X5_worthBy_0 τ p0 p1 p2   = some out → W p l e rm_X5_worthBy s m args below meth c H locs 0 0 (MQ below (Po E s.heap.size (some (.int out)) σ ℓ) args s 0 0 (AA E s.heap.size)) (F0 m 0 ls []) := by
  intro  H locs h ls hl hf
  unfold f_X5_worthBy_0 at hf
  have C0 := C
  obtain ⟨hx, hb, hr, hml, hown, hts, hlk, hK, hSF⟩ := C0
  refine lv_aload_n hx hb dX5_worthBy_0 rfl (lv_at hl 0 rfl) ?_
  refine gf_5_5 C h (rfl : Kd 20 = 5) hτ inX5_worthBy_5 lkX5_worthBy_21 dX5_worthBy_1 ?_
  refine lv_iload_n hx hb dX5_worthBy_4 rfl (lv_at hl 1 rfl) ?_
  refine lv_iconst (v := (1 : Int32)) hx hb dX5_worthBy_5 (by decide) ?_
  refine lv_iadd hx hb dX5_worthBy_6 ?_
  refine lv_bipush (v := (64 : Int32)) hx hb dX5_worthBy_7 (by decide) ?_
  refine lv_imul hx hb dX5_worthBy_9 ?_
  refine lv_iload_n hx hb dX5_worthBy_10 rfl (lv_at hl 3 rfl) ?_
  refine lv_iconst (v := (1 : Int32)) hx hb dX5_worthBy_11 (by decide) ?_
  refine lv_iload_n hx hb dX5_worthBy_12 rfl (lv_at hl 2 rfl) ?_
  refine lv_ishl hx hb dX5_worthBy_13 ?_
  refine lv_ior hx hb dX5_worthBy_14 ?_
  refine lv_iadd hx hb dX5_worthBy_15 ?_
  refine lv_topi (fun x1 ex1 => ?_)
  replace hf := lt_use ex1 hf
  clear ex1
  obtain ⟨g2, hf⟩ := gd_use hf
  refine ld_5_4 C h (rfl : Kd 20 = 5) hτ (inB_in g2) dX5_worthBy_16 ?_
  refine lv_topi (fun x3 ex3 => ?_)
  replace hf := lt_use ex3 hf
  clear ex3
  refine lv_istore (lv' := [(4, .int x3), (0, .ref (Ea E 20 0)), (1, .int p0), (2, .int p1), (3, .int p2)]) hx hb dX5_worthBy_17 hl (by decide) rfl (fun ls hl => ?_)
  refine lv_iload hx hb dX5_worthBy_19 (lv_at hl 0 rfl) ?_
  refine lv_ldc hx hb hown (hts _ wdX5_worthBy_Cond_constant_RX5_70__1000000_) dX5_worthBy_21 ?_
  refine lv_iadd hx hb dX5_worthBy_23 ?_
  refine lv_aload_n hx hb dX5_worthBy_24 rfl (lv_at hl 1 rfl) ?_
  refine gf_5_4 C h (rfl : Kd 20 = 5) hτ inX5_worthBy_5 lkX5_worthBy_18 dX5_worthBy_25 ?_
  refine lv_iload_n hx hb dX5_worthBy_28 rfl (lv_at hl 2 rfl) ?_
  refine lv_bipush (v := (6 : Int32)) hx hb dX5_worthBy_29 (by decide) ?_
  refine lv_imul hx hb dX5_worthBy_31 ?_
  refine lv_iload_n hx hb dX5_worthBy_32 rfl (lv_at hl 3 rfl) ?_
  refine lv_iadd hx hb dX5_worthBy_33 ?_
  obtain ⟨g4, hf⟩ := gd_use hf
  refine ld_5_3 C h (rfl : Kd 20 = 5) hτ (inB_in g4) dX5_worthBy_34 ?_
  refine lv_isub hx hb dX5_worthBy_35 ?_
  replace hf := Option.some.inj hf
  subst hf
  exact r_ire C h dX5_worthBy_36
theorem c_X5_worthBy {l : Launch} {E : Ev} {σ : Ms} {ℓ : Mz} {τ : Mm} {p0 : Int32} {p1 : Int32} {p2 : Int32} (hτ : σ 20 = τ) {out : Int32} (hf : f_X5_worthBy τ p0 p1 p2 = some out) : Ct l yX5_worthBy wsX5_worthBy rm_X5_worthBy [.ref (Ea E 20 0), .int p0, .int p1, .int p2] E σ ℓ (some (.int out)) σ ℓ := by
  refine Ct_mk (cc := cX5_worthBy) (mL := 5) (ret := (some .int)) (own := RX5) (by decide +kernel) rfl rfl (Nat.le_of_ble_eq_true rfl) (fun p e s m below meth c C h ls hl => ?_)
  exact w_X5_worthBy_0 hτ C  _ _ h ls (lv_sub hl [0, 1, 2, 3] rfl) hf
theorem hdX5_choice : yX5_choice.cls = RX5 ∧ yX5_choice.cls ≠ "java/lang/invoke/MethodHandle" ∧ yX5_choice.cls ≠ "java/lang/invoke/VarHandle" ∧ (parseMethodDescriptor yX5_choice.desc).map (fun d => d.parameters.length) = some 2 := by decide +kernel
def rm_X5_choice : Room := { frames := 1, cells := 0, slots := 0, locals := 24 }
set_option maxRecDepth 100000 in
theorem inX5_choice_5 : ∀ w ∈ wsX50, w ∈ wsX5_choice := fun _ h => List.mem_cons_of_mem _ (List.mem_append_right _ h)
set_option maxRecDepth 100000 in
theorem lkX5_choice_21 : Cond.fieldLink RX5 21 "BellsBelow$Sharing" "worth" "[I" ∈ wsX5_choice := by decide +kernel
set_option maxHeartbeats 4000000 in
set_option maxRecDepth 100000 in
theorem w_X5_choice_41 {p : Program} {l : Launch} {e : Env} {s : State} {m : MethodId} {args : Array Value} {below : List Frame} {meth : Method} {c : Code} {E : Ev} {σ : Ms} {ℓ : Mz} {τ : Mm} {p0 : Int32} {p1 : Int32} {out : Int32} (hτ : σ 20 = τ)   (C : Cx cX5_choice 4 (some .int) wsX5_choice RX5 E p s m args meth c) {k2 : Int32 → Option (Int32)} (hk2 : ∀ (v3 : Int32) (H : Heap) (locs : List Loc), HI E σ ℓ s H locs → ∀ ls : Array Slot, lv_has ls 4 [(0, .ref (Ea E 20 0)), (1, .int p0), (2, .int p1), (3, .int v3)] → k2 v3 = some out → W p l e rm_X5_choice s m args below meth c H locs 0 0 (MQ below (Po E s.heap.size (some (.int out)) σ ℓ) args s 0 0 (AA E s.heap.size)) (F0 m 2 ls [])) : ∀ (v3 : Int32) (H : Heap) (locs : List Loc) (h : HI E σ ℓ s H locs) (ls : Array Slot) (hl : lv_has ls 4 [(0, .ref (Ea E 20 0)), (1, .int p0), (2, .int p1), (3, .int v3)]), f_X5_choice_41 τ p0 p1 k2 v3 = some out → W p l e rm_X5_choice s m args below meth c H locs 0 0 (MQ below (Po E s.heap.size (some (.int out)) σ ℓ) args s 0 0 (AA E s.heap.size)) (F0 m 41 ls []) := by
  intro v3 H locs h ls hl hf
  unfold f_X5_choice_41 at hf
  have C0 := C
  obtain ⟨hx, hb, hr, hml, hown, hts, hlk, hK, hSF⟩ := C0
  obtain ⟨x4, ex4⟩ : ∃ y : Int32, y = (v3 + (1 : Int32)) := ⟨_, rfl⟩
  refine lv_iinc (v := x4) (lv' := [(3, .int x4), (0, .ref (Ea E 20 0)), (1, .int p0), (2, .int p1)]) hx hb dX5_choice_41 hl (k := 3) rfl (by rw [ex4]; rfl) (by decide) rfl (fun ls hl => ?_)
  replace hf := lt_use ex4 hf
  clear ex4
  refine lv_goto (tgt := 2) hx hb dX5_choice_44 (by decide) ?_
  exact hk2 _ _ _ h ls (lv_sub hl [1, 2, 3, 0] rfl) hf
set_option maxHeartbeats 4000000 in
set_option maxRecDepth 100000 in
theorem w_X5_choice_2 {p : Program} {l : Launch} {e : Env} {s : State} {m : MethodId} {args : Array Value} {below : List Frame} {meth : Method} {c : Code} {E : Ev} {σ : Ms} {ℓ : Mz} {τ : Mm} {p0 : Int32} {p1 : Int32} {out : Int32} (hτ : σ 20 = τ)   (C : Cx cX5_choice 4 (some .int) wsX5_choice RX5 E p s m args meth c) {k2 : Int32 → Option (Int32)} (hk2 : ∀ (v3 : Int32) (H : Heap) (locs : List Loc), HI E σ ℓ s H locs → ∀ ls : Array Slot, lv_has ls 4 [(0, .ref (Ea E 20 0)), (1, .int p0), (2, .int p1), (3, .int v3)] → k2 v3 = some out → W p l e rm_X5_choice s m args below meth c H locs 0 0 (MQ below (Po E s.heap.size (some (.int out)) σ ℓ) args s 0 0 (AA E s.heap.size)) (F0 m 2 ls [])) : ∀ (v3 : Int32) (H : Heap) (locs : List Loc) (h : HI E σ ℓ s H locs) (ls : Array Slot) (hl : lv_has ls 4 [(0, .ref (Ea E 20 0)), (1, .int p0), (2, .int p1), (3, .int v3)]), f_X5_choice_2 τ p0 p1 k2 v3 = some out → W p l e rm_X5_choice s m args below meth c H locs 0 0 (MQ below (Po E s.heap.size (some (.int out)) σ ℓ) args s 0 0 (AA E s.heap.size)) (F0 m 2 ls []) := by
  intro v3 H locs h ls hl hf
  unfold f_X5_choice_2 at hf
  have C0 := C
  obtain ⟨hx, hb, hr, hml, hown, hts, hlk, hK, hSF⟩ := C0
  refine lv_iload_n hx hb dX5_choice_2 rfl (lv_at hl 3 rfl) ?_
  refine lv_bipush (v := (6 : Int32)) hx hb dX5_choice_3 (by decide) ?_
  refine lv_icmp_ge (tgt := 47) hx hb dX5_choice_5 (by decide) (fun c1 => ?_) (fun c1 => ?_)
  · replace hf := it_t c1 hf
    refine lv_bipush (v := (-5 : Int32)) hx hb dX5_choice_47 (by decide) ?_
    replace hf := Option.some.inj hf
    subst hf
    exact r_ire C h dX5_choice_49
  replace hf := it_f c1 hf
  refine lv_aload_n hx hb dX5_choice_8 rfl (lv_at hl 0 rfl) ?_
  refine lv_iload_n hx hb dX5_choice_9 rfl (lv_at hl 1 rfl) ?_
  refine lv_iload_n hx hb dX5_choice_10 rfl (lv_at hl 3 rfl) ?_
  refine lv_iload_n hx hb dX5_choice_11 rfl (lv_at hl 2 rfl) ?_
  obtain ⟨u2, hu2, hf⟩ := bd_use hf
  refine r_cv_5 (rest := []) C h (c_X5_isOpen hτ hu2) (rfl : Kd 20 = 5) gX5_choice_X5_isOpen rfl ⟨rfl, rfl⟩ hdX5_isOpen ⟨Nat.le_of_ble_eq_true rfl, Nat.le_of_ble_eq_true rfl⟩ ⟨Nat.zero_le _, Nat.zero_le _⟩ hl.1 rfl (Nat.le_of_ble_eq_true rfl) dX5_choice_12 (fun H locs h => ?_)
  refine lv_if_eq (tgt := 41) hx hb dX5_choice_15 (by decide) (fun c3 => ?_) (fun c3 => ?_)
  · replace hf := it_t c3 hf
    exact w_X5_choice_41 hτ   C hk2 _ _ _ h ls (lv_sub hl [0, 1, 2, 3] rfl) hf
  replace hf := it_f c3 hf
  refine lv_aload_n hx hb dX5_choice_18 rfl (lv_at hl 0 rfl) ?_
  refine lv_iload_n hx hb dX5_choice_19 rfl (lv_at hl 1 rfl) ?_
  refine lv_iload_n hx hb dX5_choice_20 rfl (lv_at hl 3 rfl) ?_
  refine lv_iload_n hx hb dX5_choice_21 rfl (lv_at hl 2 rfl) ?_
  obtain ⟨u5, hu5, hf⟩ := bd_use hf
  refine r_cv_5 (rest := []) C h (c_X5_worthBy hτ hu5) (rfl : Kd 20 = 5) gX5_choice_X5_worthBy rfl ⟨rfl, rfl⟩ hdX5_worthBy ⟨Nat.le_of_ble_eq_true rfl, Nat.le_of_ble_eq_true rfl⟩ ⟨Nat.zero_le _, Nat.zero_le _⟩ hl.1 rfl (Nat.le_of_ble_eq_true rfl) dX5_choice_22 (fun H locs h => ?_)
  refine lv_aload_n hx hb dX5_choice_25 rfl (lv_at hl 0 rfl) ?_
  refine gf_5_5 C h (rfl : Kd 20 = 5) hτ inX5_choice_5 lkX5_choice_21 dX5_choice_26 ?_
  refine lv_iload_n hx hb dX5_choice_29 rfl (lv_at hl 1 rfl) ?_
  refine lv_bipush (v := (64 : Int32)) hx hb dX5_choice_30 (by decide) ?_
  refine lv_imul hx hb dX5_choice_32 ?_
  refine lv_iload_n hx hb dX5_choice_33 rfl (lv_at hl 2 rfl) ?_
  refine lv_iadd hx hb dX5_choice_34 ?_
  obtain ⟨g6, hf⟩ := gd_use hf
  refine ld_5_4 C h (rfl : Kd 20 = 5) hτ (inB_in g6) dX5_choice_35 ?_
  refine lv_icmp_ne (tgt := 41) hx hb dX5_choice_36 (by decide) (fun c7 => ?_) (fun c7 => ?_)
  · replace hf := it_f c7 hf
    exact w_X5_choice_41 hτ   C hk2 _ _ _ h ls (lv_sub hl [0, 1, 2, 3] rfl) hf
  replace hf := it_t c7 hf
  refine lv_iload_n hx hb dX5_choice_39 rfl (lv_at hl 3 rfl) ?_
  replace hf := Option.some.inj hf
  subst hf
  exact r_ire C h dX5_choice_40
set_option maxHeartbeats 4000000 in
set_option maxRecDepth 100000 in
theorem w_X5_choice_2L {p : Program} {l : Launch} {e : Env} {s : State} {m : MethodId} {args : Array Value} {below : List Frame} {meth : Method} {c : Code} {E : Ev} {σ : Ms} {ℓ : Mz} {τ : Mm} {p0 : Int32} {p1 : Int32} {out : Int32} (hτ : σ 20 = τ)   (C : Cx cX5_choice 4 (some .int) wsX5_choice RX5 E p s m args meth c)  : ∀ (n9 : Nat) (v3 : Int32) (H : Heap) (locs : List Loc) (h : HI E σ ℓ s H locs) (ls : Array Slot) (hl : lv_has ls 4 [(0, .ref (Ea E 20 0)), (1, .int p0), (2, .int p1), (3, .int v3)]), f_X5_choice_2L τ p0 p1  n9 v3 = some out → W p l e rm_X5_choice s m args below meth c H locs 0 0 (MQ below (Po E s.heap.size (some (.int out)) σ ℓ) args s 0 0 (AA E s.heap.size)) (F0 m 2 ls []) := by
  intro n9
  induction n9 with
  | zero =>
    intro v3 H locs h ls hl hf
    cases (show (none : Option (Int32)) = some out from hf)
  | succ n9 ih =>
    intro v3 H locs h ls hl hf
    exact w_X5_choice_2 hτ  C  ih v3 H locs h ls hl hf
set_option maxHeartbeats 4000000 in
set_option maxRecDepth 100000 in
theorem w_X5_choice_0 {p : Program} {l : Launch} {e : Env} {s : State} {m : MethodId} {args : Array Value} {below : List Frame} {meth : Method} {c : Code} {E : Ev} {σ : Ms} {ℓ : Mz} {τ : Mm} {p0 : Int32} {p1 : Int32} {out : Int32} (hτ : σ 20 = τ)   (C : Cx cX5_choice 4 (some .int) wsX5_choice RX5 E p s m args meth c)  : ∀  (H : Heap) (locs : List Loc) (h : HI E σ ℓ s H locs) (ls : Array Slot) (hl : lv_has ls 4 [(0, .ref (Ea E 20 0)), (1, .int p0), (2, .int p1)]), f_X5_choice_0 τ p0 p1   = some out → W p l e rm_X5_choice s m args below meth c H locs 0 0 (MQ below (Po E s.heap.size (some (.int out)) σ ℓ) args s 0 0 (AA E s.heap.size)) (F0 m 0 ls []) := by
  intro  H locs h ls hl hf
  unfold f_X5_choice_0 at hf
  have C0 := C
  obtain ⟨hx, hb, hr, hml, hown, hts, hlk, hK, hSF⟩ := C0
  refine lv_iconst (v := (0 : Int32)) hx hb dX5_choice_0 (by decide) ?_
  refine lv_istore_n (lv' := [(3, .int (0 : Int32)), (0, .ref (Ea E 20 0)), (1, .int p0), (2, .int p1)]) hx hb dX5_choice_1 rfl hl (by decide) rfl (fun ls hl => ?_)
  exact w_X5_choice_2L hτ   C  _ _ _ _ h ls (lv_sub hl [1, 2, 3, 0] rfl) hf
theorem c_X5_choice {l : Launch} {E : Ev} {σ : Ms} {ℓ : Mz} {τ : Mm} {p0 : Int32} {p1 : Int32} (hτ : σ 20 = τ) {out : Int32} (hf : f_X5_choice τ p0 p1 = some out) : Ct l yX5_choice wsX5_choice rm_X5_choice [.ref (Ea E 20 0), .int p0, .int p1] E σ ℓ (some (.int out)) σ ℓ := by
  refine Ct_mk (cc := cX5_choice) (mL := 4) (ret := (some .int)) (own := RX5) (by decide +kernel) rfl rfl (Nat.le_of_ble_eq_true rfl) (fun p e s m below meth c C h ls hl => ?_)
  exact w_X5_choice_0 hτ C  _ _ h ls (lv_sub hl [0, 1, 2] rfl) hf
theorem hdX5_values : yX5_values.cls = RX5 ∧ yX5_values.cls ≠ "java/lang/invoke/MethodHandle" ∧ yX5_values.cls ≠ "java/lang/invoke/VarHandle" ∧ (parseMethodDescriptor yX5_values.desc).map (fun d => d.parameters.length) = some 1 := by decide +kernel
def rm_X5_values : Room := { frames := 1, cells := 0, slots := 0, locals := 60 }
set_option maxRecDepth 100000 in
theorem inX5_values_5 : ∀ w ∈ wsX50, w ∈ wsX5_values := fun _ h => List.mem_cons_of_mem _ (List.mem_append_right _ h)
set_option maxRecDepth 100000 in
theorem lkX5_values_21 : Cond.fieldLink RX5 21 "BellsBelow$Sharing" "worth" "[I" ∈ wsX5_values := by decide +kernel
set_option maxRecDepth 100000 in
theorem wdX5_values_Cond_methodLink_RX5_65_Lib_Math_max_name : Cond.methodLink RX5 65 Lib.Math.max.name ∈ wsX5_values := by decide +kernel
set_option maxRecDepth 100000 in
theorem wdX5_values_Cond_static_Lib_Math_max_name : Cond.static Lib.Math.max.name ∈ wsX5_values := by decide +kernel
set_option maxRecDepth 100000 in
theorem wdX5_values_Cond_initialized__java_lang_Math_ : Cond.initialized "java/lang/Math" ∈ wsX5_values := by decide +kernel
set_option maxRecDepth 100000 in
theorem wdX5_values_Cond_code_Lib_Math_max_name_Lib_Math_max_code_2__some__int_ : Cond.code Lib.Math.max.name Lib.Math.max.code 2 (some .int) ∈ wsX5_values := by decide +kernel
set_option maxHeartbeats 4000000 in
set_option maxRecDepth 100000 in
theorem w_X5_values_56 {p : Program} {l : Launch} {e : Env} {s : State} {m : MethodId} {args : Array Value} {below : List Frame} {meth : Method} {c : Code} {E : Ev} {σ : Ms} {ℓ : Mz} {p0 : Int32} {out : Mm}   (C : Cx cX5_values 5 none wsX5_values RX5 E p s m args meth c) {k2 : Mm → Int32 → Option (Mm)} (hk2 : ∀ (τ : Mm) (v2 : Int32) (H : Heap) (locs : List Loc), HI E (va_up σ 20 τ) ℓ s H locs → ∀ ls : Array Slot, lv_has ls 5 [(0, .ref (Ea E 20 0)), (1, .int p0), (2, .int v2)] → k2 τ v2 = some out → W p l e rm_X5_values s m args below meth c H locs 0 0 (MQ below (Po E s.heap.size none (va_up σ 20 out) ℓ) args s 0 0 (AA E s.heap.size)) (F0 m 2 ls [])) {k25 : Mm → Int32 → Int32 → Int32 → Option (Mm)} (hk25 : ∀ (τ : Mm) (v2 : Int32) (v3 : Int32) (v4 : Int32) (H : Heap) (locs : List Loc), HI E (va_up σ 20 τ) ℓ s H locs → ∀ ls : Array Slot, lv_has ls 5 [(0, .ref (Ea E 20 0)), (1, .int p0), (2, .int v2), (3, .int v3), (4, .int v4)] → k25 τ v2 v3 v4 = some out → W p l e rm_X5_values s m args below meth c H locs 0 0 (MQ below (Po E s.heap.size none (va_up σ 20 out) ℓ) args s 0 0 (AA E s.heap.size)) (F0 m 25 ls [])) : ∀ (τ : Mm) (v2 : Int32) (v3 : Int32) (v4 : Int32) (H : Heap) (locs : List Loc) (h : HI E (va_up σ 20 τ) ℓ s H locs) (ls : Array Slot) (hl : lv_has ls 5 [(0, .ref (Ea E 20 0)), (1, .int p0), (2, .int v2), (3, .int v3), (4, .int v4)]), f_X5_values_56 p0 k2 k25 τ v2 v3 v4 = some out → W p l e rm_X5_values s m args below meth c H locs 0 0 (MQ below (Po E s.heap.size none (va_up σ 20 out) ℓ) args s 0 0 (AA E s.heap.size)) (F0 m 56 ls []) := by
  intro τ v2 v3 v4 H locs h ls hl hf
  unfold f_X5_values_56 at hf
  have C0 := C
  obtain ⟨hx, hb, hr, hml, hown, hts, hlk, hK, hSF⟩ := C0
  obtain ⟨x11, ex11⟩ : ∃ y : Int32, y = (v4 + (1 : Int32)) := ⟨_, rfl⟩
  refine lv_iinc (v := x11) (lv' := [(4, .int x11), (0, .ref (Ea E 20 0)), (1, .int p0), (2, .int v2), (3, .int v3)]) hx hb dX5_values_56 hl (k := 4) rfl (by rw [ex11]; rfl) (by decide) rfl (fun ls hl => ?_)
  replace hf := lt_use ex11 hf
  clear ex11
  refine lv_goto (tgt := 25) hx hb dX5_values_59 (by decide) ?_
  exact hk25 _ _ _ _ _ _ h ls (lv_sub hl [1, 2, 3, 4, 0] rfl) hf
set_option maxHeartbeats 4000000 in
set_option maxRecDepth 100000 in
theorem w_X5_values_25 {p : Program} {l : Launch} {e : Env} {s : State} {m : MethodId} {args : Array Value} {below : List Frame} {meth : Method} {c : Code} {E : Ev} {σ : Ms} {ℓ : Mz} {p0 : Int32} {out : Mm}   (C : Cx cX5_values 5 none wsX5_values RX5 E p s m args meth c) {k2 : Mm → Int32 → Option (Mm)} (hk2 : ∀ (τ : Mm) (v2 : Int32) (H : Heap) (locs : List Loc), HI E (va_up σ 20 τ) ℓ s H locs → ∀ ls : Array Slot, lv_has ls 5 [(0, .ref (Ea E 20 0)), (1, .int p0), (2, .int v2)] → k2 τ v2 = some out → W p l e rm_X5_values s m args below meth c H locs 0 0 (MQ below (Po E s.heap.size none (va_up σ 20 out) ℓ) args s 0 0 (AA E s.heap.size)) (F0 m 2 ls [])) {k25 : Mm → Int32 → Int32 → Int32 → Option (Mm)} (hk25 : ∀ (τ : Mm) (v2 : Int32) (v3 : Int32) (v4 : Int32) (H : Heap) (locs : List Loc), HI E (va_up σ 20 τ) ℓ s H locs → ∀ ls : Array Slot, lv_has ls 5 [(0, .ref (Ea E 20 0)), (1, .int p0), (2, .int v2), (3, .int v3), (4, .int v4)] → k25 τ v2 v3 v4 = some out → W p l e rm_X5_values s m args below meth c H locs 0 0 (MQ below (Po E s.heap.size none (va_up σ 20 out) ℓ) args s 0 0 (AA E s.heap.size)) (F0 m 25 ls [])) : ∀ (τ : Mm) (v2 : Int32) (v3 : Int32) (v4 : Int32) (H : Heap) (locs : List Loc) (h : HI E (va_up σ 20 τ) ℓ s H locs) (ls : Array Slot) (hl : lv_has ls 5 [(0, .ref (Ea E 20 0)), (1, .int p0), (2, .int v2), (3, .int v3), (4, .int v4)]), f_X5_values_25 p0 k2 k25 τ v2 v3 v4 = some out → W p l e rm_X5_values s m args below meth c H locs 0 0 (MQ below (Po E s.heap.size none (va_up σ 20 out) ℓ) args s 0 0 (AA E s.heap.size)) (F0 m 25 ls []) := by
  intro τ v2 v3 v4 H locs h ls hl hf
  unfold f_X5_values_25 at hf
  have C0 := C
  obtain ⟨hx, hb, hr, hml, hown, hts, hlk, hK, hSF⟩ := C0
  refine lv_iload hx hb dX5_values_25 (lv_at hl 4 rfl) ?_
  refine lv_bipush (v := (6 : Int32)) hx hb dX5_values_27 (by decide) ?_
  refine lv_icmp_ge (tgt := 62) hx hb dX5_values_29 (by decide) (fun c5 => ?_) (fun c5 => ?_)
  · replace hf := it_t c5 hf
    refine lv_aload_n hx hb dX5_values_62 rfl (lv_at hl 0 rfl) ?_
    refine gf_5_5 C h (rfl : Kd 20 = 5) up_eq inX5_values_5 lkX5_values_21 dX5_values_63 ?_
    refine lv_iload_n hx hb dX5_values_66 rfl (lv_at hl 1 rfl) ?_
    refine lv_bipush (v := (64 : Int32)) hx hb dX5_values_67 (by decide) ?_
    refine lv_imul hx hb dX5_values_69 ?_
    refine lv_iload_n hx hb dX5_values_70 rfl (lv_at hl 2 rfl) ?_
    refine lv_iadd hx hb dX5_values_71 ?_
    refine lv_iload_n hx hb dX5_values_72 rfl (lv_at hl 3 rfl) ?_
    obtain ⟨g6, hf⟩ := gd_use hf
    refine sa_5_4 C h (rfl : Kd 20 = 5) up_eq (F := fun t => va_up σ 20 t) (fun _ => up_up) (inB_in g6) dX5_values_73 (fun τ7 eτ7 H locs h => ?_)
    replace hf := lt_use eτ7 hf
    clear eτ7
    obtain ⟨x8, ex8⟩ : ∃ y : Int32, y = (v2 + (1 : Int32)) := ⟨_, rfl⟩
    refine lv_iinc (v := x8) (lv' := [(2, .int x8), (0, .ref (Ea E 20 0)), (1, .int p0), (3, .int v3), (4, .int v4)]) hx hb dX5_values_74 hl (k := 2) rfl (by rw [ex8]; rfl) (by decide) rfl (fun ls hl => ?_)
    replace hf := lt_use ex8 hf
    clear ex8
    refine lv_goto (tgt := 2) hx hb dX5_values_77 (by decide) ?_
    exact hk2 _ _ _ _ h ls (lv_sub hl [1, 2, 0] rfl) hf
  replace hf := it_f c5 hf
  refine lv_aload_n hx hb dX5_values_32 rfl (lv_at hl 0 rfl) ?_
  refine lv_iload_n hx hb dX5_values_33 rfl (lv_at hl 1 rfl) ?_
  refine lv_iload hx hb dX5_values_34 (lv_at hl 4 rfl) ?_
  refine lv_iload_n hx hb dX5_values_36 rfl (lv_at hl 2 rfl) ?_
  obtain ⟨u9, hu9, hf⟩ := bd_use hf
  refine r_cv_5 (rest := []) C h (c_X5_isOpen up_eq hu9) (rfl : Kd 20 = 5) gX5_values_X5_isOpen rfl ⟨rfl, rfl⟩ hdX5_isOpen ⟨Nat.le_of_ble_eq_true rfl, Nat.le_of_ble_eq_true rfl⟩ ⟨Nat.zero_le _, Nat.zero_le _⟩ hl.1 rfl (Nat.le_of_ble_eq_true rfl) dX5_values_37 (fun H locs h => ?_)
  refine lv_if_eq (tgt := 56) hx hb dX5_values_40 (by decide) (fun c10 => ?_) (fun c10 => ?_)
  · replace hf := it_t c10 hf
    exact w_X5_values_56    C hk2 hk25 _ _ _ _ _ _ h ls (lv_sub hl [0, 1, 2, 3, 4] rfl) hf
  replace hf := it_f c10 hf
  refine lv_iload_n hx hb dX5_values_43 rfl (lv_at hl 3 rfl) ?_
  refine lv_aload_n hx hb dX5_values_44 rfl (lv_at hl 0 rfl) ?_
  refine lv_iload_n hx hb dX5_values_45 rfl (lv_at hl 1 rfl) ?_
  refine lv_iload hx hb dX5_values_46 (lv_at hl 4 rfl) ?_
  refine lv_iload_n hx hb dX5_values_48 rfl (lv_at hl 2 rfl) ?_
  obtain ⟨u12, hu12, hf⟩ := bd_use hf
  refine r_cv_5 (rest := [.int v3]) C h (c_X5_worthBy up_eq hu12) (rfl : Kd 20 = 5) gX5_values_X5_worthBy rfl ⟨rfl, rfl⟩ hdX5_worthBy ⟨Nat.le_of_ble_eq_true rfl, Nat.le_of_ble_eq_true rfl⟩ ⟨Nat.zero_le _, Nat.zero_le _⟩ hl.1 rfl (Nat.le_of_ble_eq_true rfl) dX5_values_49 (fun H locs h => ?_)
  refine va_mmax hx hb (by rw [hml]; exact hl.1.symm) hown (hts _ wdX5_values_Cond_methodLink_RX5_65_Lib_Math_max_name) (hts _ wdX5_values_Cond_static_Lib_Math_max_name) (hts _ wdX5_values_Cond_initialized__java_lang_Math_) (hts _ wdX5_values_Cond_code_Lib_Math_max_name_Lib_Math_max_code_2__some__int_) (Nat.le_of_ble_eq_true rfl) (Nat.le_of_ble_eq_true rfl) (Nat.zero_le _) (Nat.zero_le _) dX5_values_52 ?_
  refine lv_topi (fun x13 ex13 => ?_)
  replace hf := lt_use ex13 hf
  clear ex13
  refine lv_istore_n (lv' := [(3, .int x13), (0, .ref (Ea E 20 0)), (1, .int p0), (2, .int v2), (4, .int v4)]) hx hb dX5_values_55 rfl hl (by decide) rfl (fun ls hl => ?_)
  exact w_X5_values_56    C hk2 hk25 _ _ _ _ _ _ h ls (lv_sub hl [1, 2, 3, 0, 4] rfl) hf
set_option maxHeartbeats 4000000 in
set_option maxRecDepth 100000 in
theorem w_X5_values_25L {p : Program} {l : Launch} {e : Env} {s : State} {m : MethodId} {args : Array Value} {below : List Frame} {meth : Method} {c : Code} {E : Ev} {σ : Ms} {ℓ : Mz} {p0 : Int32} {out : Mm}   (C : Cx cX5_values 5 none wsX5_values RX5 E p s m args meth c) {k2 : Mm → Int32 → Option (Mm)} (hk2 : ∀ (τ : Mm) (v2 : Int32) (H : Heap) (locs : List Loc), HI E (va_up σ 20 τ) ℓ s H locs → ∀ ls : Array Slot, lv_has ls 5 [(0, .ref (Ea E 20 0)), (1, .int p0), (2, .int v2)] → k2 τ v2 = some out → W p l e rm_X5_values s m args below meth c H locs 0 0 (MQ below (Po E s.heap.size none (va_up σ 20 out) ℓ) args s 0 0 (AA E s.heap.size)) (F0 m 2 ls [])) : ∀ (n9 : Nat) (τ : Mm) (v2 : Int32) (v3 : Int32) (v4 : Int32) (H : Heap) (locs : List Loc) (h : HI E (va_up σ 20 τ) ℓ s H locs) (ls : Array Slot) (hl : lv_has ls 5 [(0, .ref (Ea E 20 0)), (1, .int p0), (2, .int v2), (3, .int v3), (4, .int v4)]), f_X5_values_25L p0 k2 n9 τ v2 v3 v4 = some out → W p l e rm_X5_values s m args below meth c H locs 0 0 (MQ below (Po E s.heap.size none (va_up σ 20 out) ℓ) args s 0 0 (AA E s.heap.size)) (F0 m 25 ls []) := by
  intro n9
  induction n9 with
  | zero =>
    intro τ v2 v3 v4 H locs h ls hl hf
    cases (show (none : Option (Mm)) = some out from hf)
  | succ n9 ih =>
    intro τ v2 v3 v4 H locs h ls hl hf
    exact w_X5_values_25   C hk2 ih τ v2 v3 v4 H locs h ls hl hf
set_option maxHeartbeats 4000000 in
set_option maxRecDepth 100000 in
theorem w_X5_values_2 {p : Program} {l : Launch} {e : Env} {s : State} {m : MethodId} {args : Array Value} {below : List Frame} {meth : Method} {c : Code} {E : Ev} {σ : Ms} {ℓ : Mz} {p0 : Int32} {out : Mm}   (C : Cx cX5_values 5 none wsX5_values RX5 E p s m args meth c) {k2 : Mm → Int32 → Option (Mm)} (hk2 : ∀ (τ : Mm) (v2 : Int32) (H : Heap) (locs : List Loc), HI E (va_up σ 20 τ) ℓ s H locs → ∀ ls : Array Slot, lv_has ls 5 [(0, .ref (Ea E 20 0)), (1, .int p0), (2, .int v2)] → k2 τ v2 = some out → W p l e rm_X5_values s m args below meth c H locs 0 0 (MQ below (Po E s.heap.size none (va_up σ 20 out) ℓ) args s 0 0 (AA E s.heap.size)) (F0 m 2 ls [])) : ∀ (τ : Mm) (v2 : Int32) (H : Heap) (locs : List Loc) (h : HI E (va_up σ 20 τ) ℓ s H locs) (ls : Array Slot) (hl : lv_has ls 5 [(0, .ref (Ea E 20 0)), (1, .int p0), (2, .int v2)]), f_X5_values_2 p0 k2 τ v2 = some out → W p l e rm_X5_values s m args below meth c H locs 0 0 (MQ below (Po E s.heap.size none (va_up σ 20 out) ℓ) args s 0 0 (AA E s.heap.size)) (F0 m 2 ls []) := by
  intro τ v2 H locs h ls hl hf
  unfold f_X5_values_2 at hf
  have C0 := C
  obtain ⟨hx, hb, hr, hml, hown, hts, hlk, hK, hSF⟩ := C0
  refine lv_iload_n hx hb dX5_values_2 rfl (lv_at hl 2 rfl) ?_
  refine lv_bipush (v := (64 : Int32)) hx hb dX5_values_3 (by decide) ?_
  refine lv_icmp_ge (tgt := 80) hx hb dX5_values_5 (by decide) (fun c1 => ?_) (fun c1 => ?_)
  · replace hf := it_t c1 hf
    replace hf := Option.some.inj hf
    subst hf
    exact r_vre C h dX5_values_80
  replace hf := it_f c1 hf
  refine lv_aload_n hx hb dX5_values_8 rfl (lv_at hl 0 rfl) ?_
  refine gf_5_5 C h (rfl : Kd 20 = 5) up_eq inX5_values_5 lkX5_values_21 dX5_values_9 ?_
  refine lv_iload_n hx hb dX5_values_12 rfl (lv_at hl 1 rfl) ?_
  refine lv_iconst (v := (1 : Int32)) hx hb dX5_values_13 (by decide) ?_
  refine lv_iadd hx hb dX5_values_14 ?_
  refine lv_bipush (v := (64 : Int32)) hx hb dX5_values_15 (by decide) ?_
  refine lv_imul hx hb dX5_values_17 ?_
  refine lv_iload_n hx hb dX5_values_18 rfl (lv_at hl 2 rfl) ?_
  refine lv_iadd hx hb dX5_values_19 ?_
  refine lv_topi (fun x2 ex2 => ?_)
  replace hf := lt_use ex2 hf
  clear ex2
  obtain ⟨g3, hf⟩ := gd_use hf
  refine ld_5_4 C h (rfl : Kd 20 = 5) up_eq (inB_in g3) dX5_values_20 ?_
  refine lv_topi (fun x4 ex4 => ?_)
  replace hf := lt_use ex4 hf
  clear ex4
  refine lv_istore_n (lv' := [(3, .int x4), (0, .ref (Ea E 20 0)), (1, .int p0), (2, .int v2)]) hx hb dX5_values_21 rfl hl (by decide) rfl (fun ls hl => ?_)
  refine lv_iconst (v := (0 : Int32)) hx hb dX5_values_22 (by decide) ?_
  refine lv_istore (lv' := [(4, .int (0 : Int32)), (3, .int x4), (0, .ref (Ea E 20 0)), (1, .int p0), (2, .int v2)]) hx hb dX5_values_23 hl (by decide) rfl (fun ls hl => ?_)
  exact w_X5_values_25L    C hk2 _ _ _ _ _ _ _ h ls (lv_sub hl [2, 3, 4, 1, 0] rfl) hf
set_option maxHeartbeats 4000000 in
set_option maxRecDepth 100000 in
theorem w_X5_values_2L {p : Program} {l : Launch} {e : Env} {s : State} {m : MethodId} {args : Array Value} {below : List Frame} {meth : Method} {c : Code} {E : Ev} {σ : Ms} {ℓ : Mz} {p0 : Int32} {out : Mm}   (C : Cx cX5_values 5 none wsX5_values RX5 E p s m args meth c)  : ∀ (n9 : Nat) (τ : Mm) (v2 : Int32) (H : Heap) (locs : List Loc) (h : HI E (va_up σ 20 τ) ℓ s H locs) (ls : Array Slot) (hl : lv_has ls 5 [(0, .ref (Ea E 20 0)), (1, .int p0), (2, .int v2)]), f_X5_values_2L p0  n9 τ v2 = some out → W p l e rm_X5_values s m args below meth c H locs 0 0 (MQ below (Po E s.heap.size none (va_up σ 20 out) ℓ) args s 0 0 (AA E s.heap.size)) (F0 m 2 ls []) := by
  intro n9
  induction n9 with
  | zero =>
    intro τ v2 H locs h ls hl hf
    cases (show (none : Option (Mm)) = some out from hf)
  | succ n9 ih =>
    intro τ v2 H locs h ls hl hf
    exact w_X5_values_2   C  ih τ v2 H locs h ls hl hf
set_option maxHeartbeats 4000000 in
set_option maxRecDepth 100000 in
theorem w_X5_values_0 {p : Program} {l : Launch} {e : Env} {s : State} {m : MethodId} {args : Array Value} {below : List Frame} {meth : Method} {c : Code} {E : Ev} {σ : Ms} {ℓ : Mz} {p0 : Int32} {out : Mm}   (C : Cx cX5_values 5 none wsX5_values RX5 E p s m args meth c)  : ∀ (τ : Mm) (H : Heap) (locs : List Loc) (h : HI E (va_up σ 20 τ) ℓ s H locs) (ls : Array Slot) (hl : lv_has ls 5 [(0, .ref (Ea E 20 0)), (1, .int p0)]), f_X5_values_0 p0  τ = some out → W p l e rm_X5_values s m args below meth c H locs 0 0 (MQ below (Po E s.heap.size none (va_up σ 20 out) ℓ) args s 0 0 (AA E s.heap.size)) (F0 m 0 ls []) := by
  intro τ H locs h ls hl hf
  unfold f_X5_values_0 at hf
  have C0 := C
  obtain ⟨hx, hb, hr, hml, hown, hts, hlk, hK, hSF⟩ := C0
  refine lv_iconst (v := (0 : Int32)) hx hb dX5_values_0 (by decide) ?_
  refine lv_istore_n (lv' := [(2, .int (0 : Int32)), (0, .ref (Ea E 20 0)), (1, .int p0)]) hx hb dX5_values_1 rfl hl (by decide) rfl (fun ls hl => ?_)
  exact w_X5_values_2L    C  _ _ _ _ _ h ls (lv_sub hl [1, 2, 0] rfl) hf
theorem c_X5_values {l : Launch} {E : Ev} {σ : Ms} {ℓ : Mz} {τ : Mm} {p0 : Int32} {out : Mm} (hf : f_X5_values τ p0 = some out) : Ct l yX5_values wsX5_values rm_X5_values [.ref (Ea E 20 0), .int p0] E (va_up σ 20 τ) ℓ none (va_up σ 20 out) ℓ := by
  refine Ct_mk (cc := cX5_values) (mL := 5) (ret := none) (own := RX5) (by decide +kernel) rfl rfl (Nat.le_of_ble_eq_true rfl) (fun p e s m below meth c C h ls hl => ?_)
  exact w_X5_values_0  C τ _ _ h ls (lv_sub hl [0, 1] rfl) hf
theorem k_X5_values {l : Launch} {E : Ev} {σ : Ms} {ℓ : Mz} {τ : Mm} {p0 : Int32} (hτ : σ 20 = τ) {out : Mm} (hf : f_X5_values τ p0 = some out) : Ct l yX5_values wsX5_values rm_X5_values [.ref (Ea E 20 0), .int p0] E σ ℓ none (va_up σ 20 out) ℓ := by
  subst hτ
  have h := c_X5_values (l := l) (E := E) (σ := σ) (ℓ := ℓ)  hf
  rw [up_id σ 20] at h
  exact h
theorem hdX5_finds : yX5_finds.cls = RX5 ∧ yX5_finds.cls ≠ "java/lang/invoke/MethodHandle" ∧ yX5_finds.cls ≠ "java/lang/invoke/VarHandle" ∧ (parseMethodDescriptor yX5_finds.desc).map (fun d => d.parameters.length) = some 1 := by decide +kernel
def rm_X5_finds : Room := { frames := 4, cells := 0, slots := 0, locals := 130 }
set_option maxRecDepth 100000 in
theorem inX5_finds_5 : ∀ w ∈ wsX50, w ∈ wsX5_finds := fun _ h => List.mem_cons_of_mem _ (List.mem_append_left _ (List.mem_append_left _ (List.mem_append_right _ h)))
set_option maxRecDepth 100000 in
theorem lkX5_finds_32 : Cond.fieldLink RX5 32 "BellsBelow$Sharing" "given" "I" ∈ wsX5_finds := by decide +kernel
set_option maxRecDepth 100000 in
theorem lkX5_finds_36 : Cond.fieldLink RX5 36 "BellsBelow$Sharing" "cost" "I" ∈ wsX5_finds := by decide +kernel
set_option maxRecDepth 100000 in
theorem lkX5_finds_9 : Cond.fieldLink RX5 9 "BellsBelow$Sharing" "who" "[I" ∈ wsX5_finds := by decide +kernel
set_option maxRecDepth 100000 in
theorem lkX5_finds_18 : Cond.fieldLink RX5 18 "BellsBelow$Sharing" "prices" "[I" ∈ wsX5_finds := by decide +kernel
set_option maxHeartbeats 4000000 in
set_option maxRecDepth 100000 in
theorem w_X5_finds_105 {p : Program} {l : Launch} {e : Env} {s : State} {m : MethodId} {args : Array Value} {below : List Frame} {meth : Method} {c : Code} {E : Ev} {σ : Ms} {ℓ : Mz} {hs : Ms} {out : Mm × Mm} (hhs : ∀ h, Kd h = 2 → σ h = hs h)   (C : Cx cX5_finds 5 none wsX5_finds RX5 E p s m args meth c) {k38 : Mm → Mm → Int32 → Int32 → Option (Mm × Mm)} (hk38 : ∀ (τ : Mm) (θ : Mm) (v2 : Int32) (v3 : Int32) (H : Heap) (locs : List Loc), HI E (va_up (va_up σ 20 τ) 1 θ) ℓ s H locs → ∀ ls : Array Slot, lv_has ls 5 [(0, .ref (Ea E 20 0)), (2, .int v2), (3, .int v3)] → k38 τ θ v2 v3 = some out → W p l e rm_X5_finds s m args below meth c H locs 0 0 (MQ below (Po E s.heap.size none (va_up (va_up σ 20 out.1) 1 out.2) ℓ) args s 0 0 (AA E s.heap.size)) (F0 m 38 ls [])) : ∀ (τ : Mm) (θ : Mm) (v2 : Int32) (v3 : Int32) (H : Heap) (locs : List Loc) (h : HI E (va_up (va_up σ 20 τ) 1 θ) ℓ s H locs) (ls : Array Slot) (hl : lv_has ls 5 [(0, .ref (Ea E 20 0)), (2, .int v2), (3, .int v3)]), f_X5_finds_105 hs k38 τ θ v2 v3 = some out → W p l e rm_X5_finds s m args below meth c H locs 0 0 (MQ below (Po E s.heap.size none (va_up (va_up σ 20 out.1) 1 out.2) ℓ) args s 0 0 (AA E s.heap.size)) (F0 m 105 ls []) := by
  intro τ θ v2 v3 H locs h ls hl hf
  unfold f_X5_finds_105 at hf
  have C0 := C
  obtain ⟨hx, hb, hr, hml, hown, hts, hlk, hK, hSF⟩ := C0
  obtain ⟨x9, ex9⟩ : ∃ y : Int32, y = (v3 + (1 : Int32)) := ⟨_, rfl⟩
  refine lv_iinc (v := x9) (lv' := [(3, .int x9), (0, .ref (Ea E 20 0)), (2, .int v2)]) hx hb dX5_finds_105 hl (k := 2) rfl (by rw [ex9]; rfl) (by decide) rfl (fun ls hl => ?_)
  replace hf := lt_use ex9 hf
  clear ex9
  refine lv_goto (tgt := 38) hx hb dX5_finds_108 (by decide) ?_
  exact hk38 _ _ _ _ _ _ h ls (lv_sub hl [1, 2, 0] rfl) hf
set_option maxHeartbeats 4000000 in
set_option maxRecDepth 100000 in
theorem w_X5_finds_38 {p : Program} {l : Launch} {e : Env} {s : State} {m : MethodId} {args : Array Value} {below : List Frame} {meth : Method} {c : Code} {E : Ev} {σ : Ms} {ℓ : Mz} {hs : Ms} {out : Mm × Mm} (hhs : ∀ h, Kd h = 2 → σ h = hs h)   (C : Cx cX5_finds 5 none wsX5_finds RX5 E p s m args meth c) {k38 : Mm → Mm → Int32 → Int32 → Option (Mm × Mm)} (hk38 : ∀ (τ : Mm) (θ : Mm) (v2 : Int32) (v3 : Int32) (H : Heap) (locs : List Loc), HI E (va_up (va_up σ 20 τ) 1 θ) ℓ s H locs → ∀ ls : Array Slot, lv_has ls 5 [(0, .ref (Ea E 20 0)), (2, .int v2), (3, .int v3)] → k38 τ θ v2 v3 = some out → W p l e rm_X5_finds s m args below meth c H locs 0 0 (MQ below (Po E s.heap.size none (va_up (va_up σ 20 out.1) 1 out.2) ℓ) args s 0 0 (AA E s.heap.size)) (F0 m 38 ls [])) : ∀ (τ : Mm) (θ : Mm) (v2 : Int32) (v3 : Int32) (H : Heap) (locs : List Loc) (h : HI E (va_up (va_up σ 20 τ) 1 θ) ℓ s H locs) (ls : Array Slot) (hl : lv_has ls 5 [(0, .ref (Ea E 20 0)), (2, .int v2), (3, .int v3)]), f_X5_finds_38 hs k38 τ θ v2 v3 = some out → W p l e rm_X5_finds s m args below meth c H locs 0 0 (MQ below (Po E s.heap.size none (va_up (va_up σ 20 out.1) 1 out.2) ℓ) args s 0 0 (AA E s.heap.size)) (F0 m 38 ls []) := by
  intro τ θ v2 v3 H locs h ls hl hf
  unfold f_X5_finds_38 at hf
  have C0 := C
  obtain ⟨hx, hb, hr, hml, hown, hts, hlk, hK, hSF⟩ := C0
  refine lv_iload_n hx hb dX5_finds_38 rfl (lv_at hl 2 rfl) ?_
  refine lv_bipush (v := (10 : Int32)) hx hb dX5_finds_39 (by decide) ?_
  refine lv_icmp_ge (tgt := 111) hx hb dX5_finds_41 (by decide) (fun c4 => ?_) (fun c4 => ?_)
  · replace hf := it_t c4 hf
    replace hf := Option.some.inj hf
    subst hf
    exact r_vre C h dX5_finds_111
  replace hf := it_f c4 hf
  refine lv_aload_n hx hb dX5_finds_44 rfl (lv_at hl 0 rfl) ?_
  refine lv_iload_n hx hb dX5_finds_45 rfl (lv_at hl 2 rfl) ?_
  refine lv_iload_n hx hb dX5_finds_46 rfl (lv_at hl 1 rfl) ?_
  obtain ⟨u5, hu5, hf⟩ := bd_use hf
  refine r_cv_5 (rest := []) C h (c_X5_choice ((up_ne (by decide)).trans up_eq) hu5) (rfl : Kd 20 = 5) gX5_finds_X5_choice rfl ⟨rfl, rfl⟩ hdX5_choice ⟨Nat.le_of_ble_eq_true rfl, Nat.le_of_ble_eq_true rfl⟩ ⟨Nat.zero_le _, Nat.zero_le _⟩ hl.1 rfl (Nat.le_of_ble_eq_true rfl) dX5_finds_47 (fun H locs h => ?_)
  refine lv_istore (lv' := [(4, .int u5), (0, .ref (Ea E 20 0)), (2, .int v2), (3, .int v3)]) hx hb dX5_finds_50 hl (by decide) rfl (fun ls hl => ?_)
  refine lv_aload_n hx hb dX5_finds_52 rfl (lv_at hl 1 rfl) ?_
  refine gf_5_0 C h (rfl : Kd 20 = 5) ((up_ne (by decide)).trans up_eq) inX5_finds_5 lkX5_finds_9 dX5_finds_53 ?_
  refine lv_iload_n hx hb dX5_finds_56 rfl (lv_at hl 3 rfl) ?_
  refine lv_iload hx hb dX5_finds_57 (lv_at hl 0 rfl) ?_
  obtain ⟨g6, hf⟩ := gd_use hf
  refine sa_5_1 C h (rfl : Kd 20 = 5) ((up_ne (by decide)).trans up_eq) (F := fun t => va_up (va_up σ 20 t) 1 θ) (fun _ => up_c (by decide)) (inB_in g6) dX5_finds_59 (fun τ7 eτ7 H locs h => ?_)
  replace hf := lt_use eτ7 hf
  clear eτ7
  refine lv_iload hx hb dX5_finds_60 (lv_at hl 0 rfl) ?_
  refine lv_bipush (v := (-5 : Int32)) hx hb dX5_finds_62 (by decide) ?_
  refine lv_icmp_eq (tgt := 105) hx hb dX5_finds_64 (by decide) (fun c8 => ?_) (fun c8 => ?_)
  · replace hf := it_t c8 hf
    exact w_X5_finds_105 hhs   C hk38 _ _ _ _ _ _ h ls (lv_sub hl [1, 2, 3] rfl) hf
  replace hf := it_f c8 hf
  refine lv_iload_n hx hb dX5_finds_67 rfl (lv_at hl 2 rfl) ?_
  refine lv_iconst (v := (1 : Int32)) hx hb dX5_finds_68 (by decide) ?_
  refine lv_iload hx hb dX5_finds_69 (lv_at hl 0 rfl) ?_
  refine lv_ishl hx hb dX5_finds_71 ?_
  refine lv_ior hx hb dX5_finds_72 ?_
  refine lv_topi (fun x10 ex10 => ?_)
  replace hf := lt_use ex10 hf
  clear ex10
  refine lv_istore_n (lv' := [(2, .int x10), (4, .int u5), (0, .ref (Ea E 20 0)), (3, .int v3)]) hx hb dX5_finds_73 rfl hl (by decide) rfl (fun ls hl => ?_)
  refine lv_aload_n hx hb dX5_finds_74 rfl (lv_at hl 2 rfl) ?_
  refine lv_dup hx hb dX5_finds_75 rfl ?_
  refine gf_5_1 C h (rfl : Kd 20 = 5) ((up_ne (by decide)).trans up_eq) inX5_finds_5 lkX5_finds_32 dX5_finds_76 ?_
  refine lv_iconst (v := (1 : Int32)) hx hb dX5_finds_79 (by decide) ?_
  refine lv_iadd hx hb dX5_finds_80 ?_
  refine pf_5_1 C h (rfl : Kd 20 = 5) ((up_ne (by decide)).trans up_eq) (F := fun t => va_up (va_up σ 20 t) 1 θ) (fun _ => up_c (by decide)) inX5_finds_5 lkX5_finds_32 dX5_finds_81 (fun τ11 eτ11 H locs h => ?_)
  replace hf := lt_use eτ11 hf
  clear eτ11
  refine lv_aload_n hx hb dX5_finds_84 rfl (lv_at hl 2 rfl) ?_
  refine lv_dup hx hb dX5_finds_85 rfl ?_
  refine gf_5_2 C h (rfl : Kd 20 = 5) ((up_ne (by decide)).trans up_eq) inX5_finds_5 lkX5_finds_36 dX5_finds_86 ?_
  refine lv_aload_n hx hb dX5_finds_89 rfl (lv_at hl 2 rfl) ?_
  refine gf_5_4 C h (rfl : Kd 20 = 5) ((up_ne (by decide)).trans up_eq) inX5_finds_5 lkX5_finds_18 dX5_finds_90 ?_
  refine lv_iload_n hx hb dX5_finds_93 rfl (lv_at hl 3 rfl) ?_
  refine lv_bipush (v := (6 : Int32)) hx hb dX5_finds_94 (by decide) ?_
  refine lv_imul hx hb dX5_finds_96 ?_
  refine lv_iload hx hb dX5_finds_97 (lv_at hl 1 rfl) ?_
  refine lv_iadd hx hb dX5_finds_99 ?_
  obtain ⟨g12, hf⟩ := gd_use hf
  refine ld_5_3 C h (rfl : Kd 20 = 5) ((up_ne (by decide)).trans up_eq) (inB_in g12) dX5_finds_100 ?_
  refine lv_iadd hx hb dX5_finds_101 ?_
  refine pf_5_2 C h (rfl : Kd 20 = 5) ((up_ne (by decide)).trans up_eq) (F := fun t => va_up (va_up σ 20 t) 1 θ) (fun _ => up_c (by decide)) inX5_finds_5 lkX5_finds_36 dX5_finds_102 (fun τ13 eτ13 H locs h => ?_)
  replace hf := lt_use eτ13 hf
  clear eτ13
  exact w_X5_finds_105 hhs   C hk38 _ _ _ _ _ _ h ls (lv_sub hl [2, 0, 3] rfl) hf
set_option maxHeartbeats 4000000 in
set_option maxRecDepth 100000 in
theorem w_X5_finds_38L {p : Program} {l : Launch} {e : Env} {s : State} {m : MethodId} {args : Array Value} {below : List Frame} {meth : Method} {c : Code} {E : Ev} {σ : Ms} {ℓ : Mz} {hs : Ms} {out : Mm × Mm} (hhs : ∀ h, Kd h = 2 → σ h = hs h)   (C : Cx cX5_finds 5 none wsX5_finds RX5 E p s m args meth c)  : ∀ (n9 : Nat) (τ : Mm) (θ : Mm) (v2 : Int32) (v3 : Int32) (H : Heap) (locs : List Loc) (h : HI E (va_up (va_up σ 20 τ) 1 θ) ℓ s H locs) (ls : Array Slot) (hl : lv_has ls 5 [(0, .ref (Ea E 20 0)), (2, .int v2), (3, .int v3)]), f_X5_finds_38L hs  n9 τ θ v2 v3 = some out → W p l e rm_X5_finds s m args below meth c H locs 0 0 (MQ below (Po E s.heap.size none (va_up (va_up σ 20 out.1) 1 out.2) ℓ) args s 0 0 (AA E s.heap.size)) (F0 m 38 ls []) := by
  intro n9
  induction n9 with
  | zero =>
    intro τ θ v2 v3 H locs h ls hl hf
    cases (show (none : Option (Mm × Mm)) = some out from hf)
  | succ n9 ih =>
    intro τ θ v2 v3 H locs h ls hl hf
    exact w_X5_finds_38 hhs  C  ih τ θ v2 v3 H locs h ls hl hf
set_option maxHeartbeats 4000000 in
set_option maxRecDepth 100000 in
theorem w_X5_finds_3 {p : Program} {l : Launch} {e : Env} {s : State} {m : MethodId} {args : Array Value} {below : List Frame} {meth : Method} {c : Code} {E : Ev} {σ : Ms} {ℓ : Mz} {hs : Ms} {out : Mm × Mm} (hhs : ∀ h, Kd h = 2 → σ h = hs h)   (C : Cx cX5_finds 5 none wsX5_finds RX5 E p s m args meth c) {k3 : Mm → Mm → Int32 → Option (Mm × Mm)} (hk3 : ∀ (τ : Mm) (θ : Mm) (v2 : Int32) (H : Heap) (locs : List Loc), HI E (va_up (va_up σ 20 τ) 1 θ) ℓ s H locs → ∀ ls : Array Slot, lv_has ls 5 [(0, .ref (Ea E 20 0)), (1, .ref (Ea E 1 0)), (2, .int v2)] → k3 τ θ v2 = some out → W p l e rm_X5_finds s m args below meth c H locs 0 0 (MQ below (Po E s.heap.size none (va_up (va_up σ 20 out.1) 1 out.2) ℓ) args s 0 0 (AA E s.heap.size)) (F0 m 3 ls [])) : ∀ (τ : Mm) (θ : Mm) (v2 : Int32) (H : Heap) (locs : List Loc) (h : HI E (va_up (va_up σ 20 τ) 1 θ) ℓ s H locs) (ls : Array Slot) (hl : lv_has ls 5 [(0, .ref (Ea E 20 0)), (1, .ref (Ea E 1 0)), (2, .int v2)]), f_X5_finds_3 hs k3 τ θ v2 = some out → W p l e rm_X5_finds s m args below meth c H locs 0 0 (MQ below (Po E s.heap.size none (va_up (va_up σ 20 out.1) 1 out.2) ℓ) args s 0 0 (AA E s.heap.size)) (F0 m 3 ls []) := by
  intro τ θ v2 H locs h ls hl hf
  unfold f_X5_finds_3 at hf
  have C0 := C
  obtain ⟨hx, hb, hr, hml, hown, hts, hlk, hK, hSF⟩ := C0
  refine lv_iload_n hx hb dX5_finds_3 rfl (lv_at hl 2 rfl) ?_
  refine lv_if_lt (tgt := 24) hx hb dX5_finds_4 (by decide) (fun c1 => ?_) (fun c1 => ?_)
  · replace hf := it_t c1 hf
    refine lv_aload_n hx hb dX5_finds_24 rfl (lv_at hl 0 rfl) ?_
    refine lv_iconst (v := (0 : Int32)) hx hb dX5_finds_25 (by decide) ?_
    refine pf_5_1 C h (rfl : Kd 20 = 5) ((up_ne (by decide)).trans up_eq) (F := fun t => va_up (va_up σ 20 t) 1 θ) (fun _ => up_c (by decide)) inX5_finds_5 lkX5_finds_32 dX5_finds_26 (fun τ2 eτ2 H locs h => ?_)
    replace hf := lt_use eτ2 hf
    clear eτ2
    refine lv_aload_n hx hb dX5_finds_29 rfl (lv_at hl 0 rfl) ?_
    refine lv_iconst (v := (0 : Int32)) hx hb dX5_finds_30 (by decide) ?_
    refine pf_5_2 C h (rfl : Kd 20 = 5) ((up_ne (by decide)).trans up_eq) (F := fun t => va_up (va_up σ 20 t) 1 θ) (fun _ => up_c (by decide)) inX5_finds_5 lkX5_finds_36 dX5_finds_31 (fun τ3 eτ3 H locs h => ?_)
    replace hf := lt_use eτ3 hf
    clear eτ3
    refine lv_iconst (v := (0 : Int32)) hx hb dX5_finds_34 (by decide) ?_
    refine lv_istore_n (lv' := [(2, .int (0 : Int32)), (0, .ref (Ea E 20 0)), (1, .ref (Ea E 1 0))]) hx hb dX5_finds_35 rfl hl (by decide) rfl (fun ls hl => ?_)
    refine lv_iconst (v := (0 : Int32)) hx hb dX5_finds_36 (by decide) ?_
    refine lv_istore_n (lv' := [(3, .int (0 : Int32)), (2, .int (0 : Int32)), (0, .ref (Ea E 20 0)), (1, .ref (Ea E 1 0))]) hx hb dX5_finds_37 rfl hl (by decide) rfl (fun ls hl => ?_)
    exact w_X5_finds_38L hhs   C  _ _ _ _ _ _ _ h ls (lv_sub hl [2, 1, 0] rfl) hf
  replace hf := it_f c1 hf
  refine lv_aload_n hx hb dX5_finds_7 rfl (lv_at hl 0 rfl) ?_
  refine lv_aload_n hx hb dX5_finds_8 rfl (lv_at hl 1 rfl) ?_
  refine lv_iload_n hx hb dX5_finds_9 rfl (lv_at hl 2 rfl) ?_
  obtain ⟨u14, hu14, hf⟩ := bd_use hf
  refine r_cv_5 (rest := []) C h (c_X5_asks hhs hu14) (rfl : Kd 20 = 5) gX5_finds_X5_asks rfl ⟨rfl, rfl⟩ hdX5_asks ⟨Nat.le_of_ble_eq_true rfl, Nat.le_of_ble_eq_true rfl⟩ ⟨Nat.zero_le _, Nat.zero_le _⟩ hl.1 rfl (Nat.le_of_ble_eq_true rfl) dX5_finds_10 (fun H locs h => ?_)
  refine lv_aload_n hx hb dX5_finds_13 rfl (lv_at hl 0 rfl) ?_
  refine lv_iload_n hx hb dX5_finds_14 rfl (lv_at hl 2 rfl) ?_
  obtain ⟨u15, hu15, hf⟩ := bd_use hf
  refine r_cv_5 (rest := []) C h (k_X5_values ((up_ne (by decide)).trans up_eq) hu15) (rfl : Kd 20 = 5) gX5_finds_X5_values rfl ⟨rfl, rfl⟩ hdX5_values ⟨Nat.le_of_ble_eq_true rfl, Nat.le_of_ble_eq_true rfl⟩ ⟨Nat.zero_le _, Nat.zero_le _⟩ hl.1 rfl (Nat.le_of_ble_eq_true rfl) dX5_finds_15 (fun H locs h => ?_)
  rw [up_c (by decide)] at h
  obtain ⟨x16, ex16⟩ : ∃ y : Int32, y = (v2 + (-1 : Int32)) := ⟨_, rfl⟩
  refine lv_iinc (v := x16) (lv' := [(2, .int x16), (0, .ref (Ea E 20 0)), (1, .ref (Ea E 1 0))]) hx hb dX5_finds_18 hl (k := 2) rfl (by rw [ex16]; rfl) (by decide) rfl (fun ls hl => ?_)
  replace hf := lt_use ex16 hf
  clear ex16
  refine lv_goto (tgt := 3) hx hb dX5_finds_21 (by decide) ?_
  exact hk3 _ _ _ _ _ h ls (lv_sub hl [1, 2, 0] rfl) hf
set_option maxHeartbeats 4000000 in
set_option maxRecDepth 100000 in
theorem w_X5_finds_3L {p : Program} {l : Launch} {e : Env} {s : State} {m : MethodId} {args : Array Value} {below : List Frame} {meth : Method} {c : Code} {E : Ev} {σ : Ms} {ℓ : Mz} {hs : Ms} {out : Mm × Mm} (hhs : ∀ h, Kd h = 2 → σ h = hs h)   (C : Cx cX5_finds 5 none wsX5_finds RX5 E p s m args meth c)  : ∀ (n9 : Nat) (τ : Mm) (θ : Mm) (v2 : Int32) (H : Heap) (locs : List Loc) (h : HI E (va_up (va_up σ 20 τ) 1 θ) ℓ s H locs) (ls : Array Slot) (hl : lv_has ls 5 [(0, .ref (Ea E 20 0)), (1, .ref (Ea E 1 0)), (2, .int v2)]), f_X5_finds_3L hs  n9 τ θ v2 = some out → W p l e rm_X5_finds s m args below meth c H locs 0 0 (MQ below (Po E s.heap.size none (va_up (va_up σ 20 out.1) 1 out.2) ℓ) args s 0 0 (AA E s.heap.size)) (F0 m 3 ls []) := by
  intro n9
  induction n9 with
  | zero =>
    intro τ θ v2 H locs h ls hl hf
    cases (show (none : Option (Mm × Mm)) = some out from hf)
  | succ n9 ih =>
    intro τ θ v2 H locs h ls hl hf
    exact w_X5_finds_3 hhs  C  ih τ θ v2 H locs h ls hl hf
set_option maxHeartbeats 4000000 in
set_option maxRecDepth 100000 in
theorem w_X5_finds_0 {p : Program} {l : Launch} {e : Env} {s : State} {m : MethodId} {args : Array Value} {below : List Frame} {meth : Method} {c : Code} {E : Ev} {σ : Ms} {ℓ : Mz} {hs : Ms} {out : Mm × Mm} (hhs : ∀ h, Kd h = 2 → σ h = hs h)   (C : Cx cX5_finds 5 none wsX5_finds RX5 E p s m args meth c)  : ∀ (τ : Mm) (θ : Mm) (H : Heap) (locs : List Loc) (h : HI E (va_up (va_up σ 20 τ) 1 θ) ℓ s H locs) (ls : Array Slot) (hl : lv_has ls 5 [(0, .ref (Ea E 20 0)), (1, .ref (Ea E 1 0))]), f_X5_finds_0 hs  τ θ = some out → W p l e rm_X5_finds s m args below meth c H locs 0 0 (MQ below (Po E s.heap.size none (va_up (va_up σ 20 out.1) 1 out.2) ℓ) args s 0 0 (AA E s.heap.size)) (F0 m 0 ls []) := by
  intro τ θ H locs h ls hl hf
  unfold f_X5_finds_0 at hf
  have C0 := C
  obtain ⟨hx, hb, hr, hml, hown, hts, hlk, hK, hSF⟩ := C0
  refine lv_bipush (v := (9 : Int32)) hx hb dX5_finds_0 (by decide) ?_
  refine lv_istore_n (lv' := [(2, .int (9 : Int32)), (0, .ref (Ea E 20 0)), (1, .ref (Ea E 1 0))]) hx hb dX5_finds_2 rfl hl (by decide) rfl (fun ls hl => ?_)
  exact w_X5_finds_3L hhs   C  _ _ _ _ _ _ h ls (lv_sub hl [1, 2, 0] rfl) hf
theorem c_X5_finds {l : Launch} {E : Ev} {σ : Ms} {ℓ : Mz} {τ : Mm} {θ : Mm} {hs : Ms} (hhs : ∀ h, Kd h = 2 → σ h = hs h) {out : Mm × Mm} (hf : f_X5_finds τ θ hs = some out) : Ct l yX5_finds wsX5_finds rm_X5_finds [.ref (Ea E 20 0), .ref (Ea E 1 0)] E (va_up (va_up σ 20 τ) 1 θ) ℓ none (va_up (va_up σ 20 out.1) 1 out.2) ℓ := by
  refine Ct_mk (cc := cX5_finds) (mL := 5) (ret := none) (own := RX5) (by decide +kernel) rfl rfl (Nat.le_of_ble_eq_true rfl) (fun p e s m below meth c C h ls hl => ?_)
  exact w_X5_finds_0 hhs C τ θ _ _ h ls (lv_sub hl [0, 1] rfl) hf
theorem k_X5_finds {l : Launch} {E : Ev} {σ : Ms} {ℓ : Mz} {hs : Ms} (hhs : ∀ h, Kd h = 2 → σ h = hs h) {out : Mm × Mm} (hf : f_X5_finds (σ 20) (σ 1) hs = some out) : Ct l yX5_finds wsX5_finds rm_X5_finds [.ref (Ea E 20 0), .ref (Ea E 1 0)] E σ ℓ none (va_up (va_up σ 20 out.1) 1 out.2) ℓ := by
  have h := c_X5_finds (l := l) (E := E) (σ := σ) (ℓ := ℓ) hhs hf
  rw [up_id σ 20, up_id σ 1] at h
  exact h
theorem hdX6_becomes : yX6_becomes.cls = RX6 ∧ yX6_becomes.cls ≠ "java/lang/invoke/MethodHandle" ∧ yX6_becomes.cls ≠ "java/lang/invoke/VarHandle" ∧ (parseMethodDescriptor yX6_becomes.desc).map (fun d => d.parameters.length) = some 2 := by decide +kernel
def rm_X6_becomes : Room := { frames := 0, cells := 0, slots := 0, locals := 0 }
set_option maxRecDepth 100000 in
theorem inX6_becomes_6 : ∀ w ∈ wsX60, w ∈ wsX6_becomes := fun _ h => List.mem_cons_of_mem _ (List.mem_append_right _ h)
set_option maxRecDepth 100000 in
theorem lkX6_becomes_15 : Cond.fieldLink RX6 15 "BellsBelow$Tape" "sort" "I" ∈ wsX6_becomes := by decide +kernel
set_option maxRecDepth 100000 in
theorem lkX6_becomes_19 : Cond.fieldLink RX6 19 "BellsBelow$Tape" "size" "I" ∈ wsX6_becomes := by decide +kernel
set_option maxRecDepth 100000 in
theorem lkX6_becomes_9 : Cond.fieldLink RX6 9 "BellsBelow$Tape" "items" "[J" ∈ wsX6_becomes := by decide +kernel
set_option maxHeartbeats 4000000 in
set_option maxRecDepth 100000 in
theorem w_X6_becomes_12 {p : Program} {l : Launch} {e : Env} {s : State} {m : MethodId} {args : Array Value} {below : List Frame} {meth : Method} {c : Code} {E : Ev} {σ : Ms} {ℓ : Mz} {o : Nat} {p0 : Int32} {p1 : Int32} {out : Mm × Mj} (ho : Kd o = 6)   (C : Cx cX6_becomes 4 none wsX6_becomes RX6 E p s m args meth c) {k12 : Mm → Mj → Int32 → Option (Mm × Mj)} (hk12 : ∀ (τ : Mm) (η : Mj) (v3 : Int32) (H : Heap) (locs : List Loc), HI E (va_up σ o τ) (va_up ℓ o η) s H locs → ∀ ls : Array Slot, lv_has ls 4 [(0, .ref (Ea E o 0)), (3, .int v3)] → k12 τ η v3 = some out → W p l e rm_X6_becomes s m args below meth c H locs 0 0 (MQ below (Po E s.heap.size none (va_up σ o out.1) (va_up ℓ o out.2)) args s 0 0 (AA E s.heap.size)) (F0 m 12 ls [])) : ∀ (τ : Mm) (η : Mj) (v3 : Int32) (H : Heap) (locs : List Loc) (h : HI E (va_up σ o τ) (va_up ℓ o η) s H locs) (ls : Array Slot) (hl : lv_has ls 4 [(0, .ref (Ea E o 0)), (3, .int v3)]), f_X6_becomes_12 p0 p1 k12 τ η v3 = some out → W p l e rm_X6_becomes s m args below meth c H locs 0 0 (MQ below (Po E s.heap.size none (va_up σ o out.1) (va_up ℓ o out.2)) args s 0 0 (AA E s.heap.size)) (F0 m 12 ls []) := by
  intro τ η v3 H locs h ls hl hf
  unfold f_X6_becomes_12 at hf
  have C0 := C
  obtain ⟨hx, hb, hr, hml, hown, hts, hlk, hK, hSF⟩ := C0
  refine lv_iload_n hx hb dX6_becomes_12 rfl (lv_at hl 1 rfl) ?_
  refine lv_bipush (v := (60 : Int32)) hx hb dX6_becomes_13 (by decide) ?_
  refine lv_icmp_ge (tgt := 31) hx hb dX6_becomes_15 (by decide) (fun c3 => ?_) (fun c3 => ?_)
  · replace hf := it_t c3 hf
    replace hf := Option.some.inj hf
    subst hf
    exact r_vre C h dX6_becomes_31
  replace hf := it_f c3 hf
  refine lv_aload_n hx hb dX6_becomes_18 rfl (lv_at hl 0 rfl) ?_
  refine gf_6_0 C h ho up_eq inX6_becomes_6 lkX6_becomes_9 dX6_becomes_19 ?_
  refine lv_iload_n hx hb dX6_becomes_22 rfl (lv_at hl 1 rfl) ?_
  refine lv_lconst (v := (0 : Int64)) hx hb dX6_becomes_23 (by decide) ?_
  obtain ⟨g4, hf⟩ := gd_use hf
  refine sa_6_1 C h ho up_eq (F := fun t => va_up ℓ o t) (fun _ => up_up) (inB_in g4) dX6_becomes_24 (fun η5 eη5 H locs h => ?_)
  replace hf := lt_use eη5 hf
  clear eη5
  obtain ⟨x6, ex6⟩ : ∃ y : Int32, y = (v3 + (1 : Int32)) := ⟨_, rfl⟩
  refine lv_iinc (v := x6) (lv' := [(3, .int x6), (0, .ref (Ea E o 0))]) hx hb dX6_becomes_25 hl (k := 1) rfl (by rw [ex6]; rfl) (by decide) rfl (fun ls hl => ?_)
  replace hf := lt_use ex6 hf
  clear ex6
  refine lv_goto (tgt := 12) hx hb dX6_becomes_28 (by decide) ?_
  exact hk12 _ _ _ _ _ h ls (lv_sub hl [1, 0] rfl) hf
set_option maxHeartbeats 4000000 in
set_option maxRecDepth 100000 in
theorem w_X6_becomes_12L {p : Program} {l : Launch} {e : Env} {s : State} {m : MethodId} {args : Array Value} {below : List Frame} {meth : Method} {c : Code} {E : Ev} {σ : Ms} {ℓ : Mz} {o : Nat} {p0 : Int32} {p1 : Int32} {out : Mm × Mj} (ho : Kd o = 6)   (C : Cx cX6_becomes 4 none wsX6_becomes RX6 E p s m args meth c)  : ∀ (n9 : Nat) (τ : Mm) (η : Mj) (v3 : Int32) (H : Heap) (locs : List Loc) (h : HI E (va_up σ o τ) (va_up ℓ o η) s H locs) (ls : Array Slot) (hl : lv_has ls 4 [(0, .ref (Ea E o 0)), (3, .int v3)]), f_X6_becomes_12L p0 p1  n9 τ η v3 = some out → W p l e rm_X6_becomes s m args below meth c H locs 0 0 (MQ below (Po E s.heap.size none (va_up σ o out.1) (va_up ℓ o out.2)) args s 0 0 (AA E s.heap.size)) (F0 m 12 ls []) := by
  intro n9
  induction n9 with
  | zero =>
    intro τ η v3 H locs h ls hl hf
    cases (show (none : Option (Mm × Mj)) = some out from hf)
  | succ n9 ih =>
    intro τ η v3 H locs h ls hl hf
    exact w_X6_becomes_12 ho  C  ih τ η v3 H locs h ls hl hf
set_option maxHeartbeats 4000000 in
set_option maxRecDepth 100000 in
theorem w_X6_becomes_0 {p : Program} {l : Launch} {e : Env} {s : State} {m : MethodId} {args : Array Value} {below : List Frame} {meth : Method} {c : Code} {E : Ev} {σ : Ms} {ℓ : Mz} {o : Nat} {p0 : Int32} {p1 : Int32} {out : Mm × Mj} (ho : Kd o = 6)   (C : Cx cX6_becomes 4 none wsX6_becomes RX6 E p s m args meth c)  : ∀ (τ : Mm) (η : Mj) (H : Heap) (locs : List Loc) (h : HI E (va_up σ o τ) (va_up ℓ o η) s H locs) (ls : Array Slot) (hl : lv_has ls 4 [(0, .ref (Ea E o 0)), (1, .int p0), (2, .int p1)]), f_X6_becomes_0 p0 p1  τ η = some out → W p l e rm_X6_becomes s m args below meth c H locs 0 0 (MQ below (Po E s.heap.size none (va_up σ o out.1) (va_up ℓ o out.2)) args s 0 0 (AA E s.heap.size)) (F0 m 0 ls []) := by
  intro τ η H locs h ls hl hf
  unfold f_X6_becomes_0 at hf
  have C0 := C
  obtain ⟨hx, hb, hr, hml, hown, hts, hlk, hK, hSF⟩ := C0
  refine lv_aload_n hx hb dX6_becomes_0 rfl (lv_at hl 0 rfl) ?_
  refine lv_iload_n hx hb dX6_becomes_1 rfl (lv_at hl 1 rfl) ?_
  refine pf_6_1 C h ho up_eq (F := fun t => va_up σ o t) (fun _ => up_up) inX6_becomes_6 lkX6_becomes_15 dX6_becomes_2 (fun τ1 eτ1 H locs h => ?_)
  replace hf := lt_use eτ1 hf
  clear eτ1
  refine lv_aload_n hx hb dX6_becomes_5 rfl (lv_at hl 0 rfl) ?_
  refine lv_iload_n hx hb dX6_becomes_6 rfl (lv_at hl 2 rfl) ?_
  refine pf_6_2 C h ho up_eq (F := fun t => va_up σ o t) (fun _ => up_up) inX6_becomes_6 lkX6_becomes_19 dX6_becomes_7 (fun τ2 eτ2 H locs h => ?_)
  replace hf := lt_use eτ2 hf
  clear eτ2
  refine lv_iconst (v := (0 : Int32)) hx hb dX6_becomes_10 (by decide) ?_
  refine lv_istore_n (lv' := [(3, .int (0 : Int32)), (0, .ref (Ea E o 0)), (1, .int p0), (2, .int p1)]) hx hb dX6_becomes_11 rfl hl (by decide) rfl (fun ls hl => ?_)
  exact w_X6_becomes_12L ho   C  _ _ _ _ _ _ h ls (lv_sub hl [1, 0] rfl) hf
theorem c_X6_becomes {l : Launch} {E : Ev} {σ : Ms} {ℓ : Mz} {o : Nat} {τ : Mm} {η : Mj} {p0 : Int32} {p1 : Int32} (ho : Kd o = 6) {out : Mm × Mj} (hf : f_X6_becomes τ η p0 p1 = some out) : Ct l yX6_becomes wsX6_becomes rm_X6_becomes [.ref (Ea E o 0), .int p0, .int p1] E (va_up σ o τ) (va_up ℓ o η) none (va_up σ o out.1) (va_up ℓ o out.2) := by
  refine Ct_mk (cc := cX6_becomes) (mL := 4) (ret := none) (own := RX6) (by decide +kernel) rfl rfl (Nat.le_of_ble_eq_true rfl) (fun p e s m below meth c C h ls hl => ?_)
  exact w_X6_becomes_0 ho C τ η _ _ h ls (lv_sub hl [0, 1, 2] rfl) hf
theorem k_X6_becomes {l : Launch} {E : Ev} {σ : Ms} {ℓ : Mz} {o : Nat} {τ : Mm} {η : Mj} {p0 : Int32} {p1 : Int32} (ho : Kd o = 6) (hτ : σ o = τ) (hη : ℓ o = η) {out : Mm × Mj} (hf : f_X6_becomes τ η p0 p1 = some out) : Ct l yX6_becomes wsX6_becomes rm_X6_becomes [.ref (Ea E o 0), .int p0, .int p1] E σ ℓ none (va_up σ o out.1) (va_up ℓ o out.2) := by
  subst hτ; subst hη
  have h := c_X6_becomes (l := l) (E := E) (σ := σ) (ℓ := ℓ) ho hf
  rw [up_id σ o, up_id ℓ o] at h
  exact h
theorem hdX6_has : yX6_has.cls = RX6 ∧ yX6_has.cls ≠ "java/lang/invoke/MethodHandle" ∧ yX6_has.cls ≠ "java/lang/invoke/VarHandle" ∧ (parseMethodDescriptor yX6_has.desc).map (fun d => d.parameters.length) = some 1 := by decide +kernel
def rm_X6_has : Room := { frames := 0, cells := 0, slots := 0, locals := 0 }
set_option maxRecDepth 100000 in
theorem inX6_has_6 : ∀ w ∈ wsX60, w ∈ wsX6_has := fun _ h => List.mem_cons_of_mem _ (List.mem_append_right _ h)
set_option maxRecDepth 100000 in
theorem lkX6_has_19 : Cond.fieldLink RX6 19 "BellsBelow$Tape" "size" "I" ∈ wsX6_has := by decide +kernel
set_option maxHeartbeats 4000000 in
set_option maxRecDepth 100000 in
theorem w_X6_has_0 {p : Program} {l : Launch} {e : Env} {s : State} {m : MethodId} {args : Array Value} {below : List Frame} {meth : Method} {c : Code} {E : Ev} {σ : Ms} {ℓ : Mz} {o : Nat} {τ : Mm} {p0 : Int64} {out : Int32} (ho : Kd o = 6) (hτ : σ o = τ)   (C : Cx cX6_has 3 (some .boolean) wsX6_has RX6 E p s m args meth c)  : ∀  (H : Heap) (locs : List Loc) (h : HI E σ ℓ s H locs) (ls : Array Slot) (hl : lv_has ls 3 [(0, .ref (Ea E o 0)), (1, .long p0)]), f_X6_has_0 τ p0   = some out → W p l e rm_X6_has s m args below meth c H locs 0 0 (MQ below (Po E s.heap.size (some (.int out)) σ ℓ) args s 0 0 (AA E s.heap.size)) (F0 m 0 ls []) := by
  intro  H locs h ls hl hf
  unfold f_X6_has_0 at hf
  have C0 := C
  obtain ⟨hx, hb, hr, hml, hown, hts, hlk, hK, hSF⟩ := C0
  refine lv_lload_n hx hb dX6_has_0 rfl (lv_at hl 1 rfl) ?_
  refine lv_lconst (v := (0 : Int64)) hx hb dX6_has_1 (by decide) ?_
  refine W.lcmp hx hb dX6_has_2 ?_
  refine lv_if_lt (tgt := 20) hx hb dX6_has_3 (by decide) (fun c1 => ?_) (fun c1 => ?_)
  · replace hf := it_t c1 hf
    refine lv_iconst (v := (0 : Int32)) hx hb dX6_has_20 (by decide) ?_
    replace hf := Option.some.inj hf
    subst hf
    exact r_zre (v := (0 : Int32)) C h rfl dX6_has_21
  replace hf := it_f c1 hf
  refine lv_lload_n hx hb dX6_has_6 rfl (lv_at hl 1 rfl) ?_
  refine lv_aload_n hx hb dX6_has_7 rfl (lv_at hl 0 rfl) ?_
  refine gf_6_2 C h ho hτ inX6_has_6 lkX6_has_19 dX6_has_8 ?_
  refine lv_i2l hx hb dX6_has_11 rfl ?_
  refine W.lcmp hx hb dX6_has_12 ?_
  refine lv_if_ge (tgt := 20) hx hb dX6_has_13 (by decide) (fun c2 => ?_) (fun c2 => ?_)
  · replace hf := it_t c2 hf
    refine lv_iconst (v := (0 : Int32)) hx hb dX6_has_20 (by decide) ?_
    replace hf := Option.some.inj hf
    subst hf
    exact r_zre (v := (0 : Int32)) C h rfl dX6_has_21
  replace hf := it_f c2 hf
  refine lv_iconst (v := (1 : Int32)) hx hb dX6_has_16 (by decide) ?_
  refine lv_goto (tgt := 21) hx hb dX6_has_17 (by decide) ?_
  replace hf := Option.some.inj hf
  subst hf
  exact r_zre (v := (1 : Int32)) C h rfl dX6_has_21
theorem c_X6_has {l : Launch} {E : Ev} {σ : Ms} {ℓ : Mz} {o : Nat} {τ : Mm} {p0 : Int64} (ho : Kd o = 6) (hτ : σ o = τ) {out : Int32} (hf : f_X6_has τ p0 = some out) : Ct l yX6_has wsX6_has rm_X6_has [.ref (Ea E o 0), .long p0] E σ ℓ (some (.int out)) σ ℓ := by
  refine Ct_mk (cc := cX6_has) (mL := 3) (ret := (some .boolean)) (own := RX6) (by decide +kernel) rfl rfl (Nat.le_of_ble_eq_true rfl) (fun p e s m below meth c C h ls hl => ?_)
  exact w_X6_has_0 ho hτ C  _ _ h ls (lv_sub hl [0, 1] rfl) hf
theorem hdX6_hasRun : yX6_hasRun.cls = RX6 ∧ yX6_hasRun.cls ≠ "java/lang/invoke/MethodHandle" ∧ yX6_hasRun.cls ≠ "java/lang/invoke/VarHandle" ∧ (parseMethodDescriptor yX6_hasRun.desc).map (fun d => d.parameters.length) = some 2 := by decide +kernel
def rm_X6_hasRun : Room := { frames := 0, cells := 0, slots := 0, locals := 0 }
set_option maxRecDepth 100000 in
theorem inX6_hasRun_6 : ∀ w ∈ wsX60, w ∈ wsX6_hasRun := fun _ h => List.mem_cons_of_mem _ (List.mem_append_right _ h)
set_option maxRecDepth 100000 in
theorem lkX6_hasRun_19 : Cond.fieldLink RX6 19 "BellsBelow$Tape" "size" "I" ∈ wsX6_hasRun := by decide +kernel
set_option maxHeartbeats 4000000 in
set_option maxRecDepth 100000 in
theorem w_X6_hasRun_0 {p : Program} {l : Launch} {e : Env} {s : State} {m : MethodId} {args : Array Value} {below : List Frame} {meth : Method} {c : Code} {E : Ev} {σ : Ms} {ℓ : Mz} {o : Nat} {τ : Mm} {p0 : Int32} {p1 : Int32} {out : Int32} (ho : Kd o = 6) (hτ : σ o = τ)   (C : Cx cX6_hasRun 3 (some .boolean) wsX6_hasRun RX6 E p s m args meth c)  : ∀  (H : Heap) (locs : List Loc) (h : HI E σ ℓ s H locs) (ls : Array Slot) (hl : lv_has ls 3 [(0, .ref (Ea E o 0)), (1, .int p0), (2, .int p1)]), f_X6_hasRun_0 τ p0 p1   = some out → W p l e rm_X6_hasRun s m args below meth c H locs 0 0 (MQ below (Po E s.heap.size (some (.int out)) σ ℓ) args s 0 0 (AA E s.heap.size)) (F0 m 0 ls []) := by
  intro  H locs h ls hl hf
  unfold f_X6_hasRun_0 at hf
  have C0 := C
  obtain ⟨hx, hb, hr, hml, hown, hts, hlk, hK, hSF⟩ := C0
  refine lv_iload_n hx hb dX6_hasRun_0 rfl (lv_at hl 2 rfl) ?_
  refine lv_if_lt (tgt := 22) hx hb dX6_hasRun_1 (by decide) (fun c1 => ?_) (fun c1 => ?_)
  · replace hf := it_t c1 hf
    refine lv_iconst (v := (0 : Int32)) hx hb dX6_hasRun_22 (by decide) ?_
    replace hf := Option.some.inj hf
    subst hf
    exact r_zre (v := (0 : Int32)) C h rfl dX6_hasRun_23
  replace hf := it_f c1 hf
  refine lv_iload_n hx hb dX6_hasRun_4 rfl (lv_at hl 1 rfl) ?_
  refine lv_if_lt (tgt := 22) hx hb dX6_hasRun_5 (by decide) (fun c2 => ?_) (fun c2 => ?_)
  · replace hf := it_t c2 hf
    refine lv_iconst (v := (0 : Int32)) hx hb dX6_hasRun_22 (by decide) ?_
    replace hf := Option.some.inj hf
    subst hf
    exact r_zre (v := (0 : Int32)) C h rfl dX6_hasRun_23
  replace hf := it_f c2 hf
  refine lv_iload_n hx hb dX6_hasRun_8 rfl (lv_at hl 1 rfl) ?_
  refine lv_aload_n hx hb dX6_hasRun_9 rfl (lv_at hl 0 rfl) ?_
  refine gf_6_2 C h ho hτ inX6_hasRun_6 lkX6_hasRun_19 dX6_hasRun_10 ?_
  refine lv_iload_n hx hb dX6_hasRun_13 rfl (lv_at hl 2 rfl) ?_
  refine lv_isub hx hb dX6_hasRun_14 ?_
  refine lv_icmp_gt (tgt := 22) hx hb dX6_hasRun_15 (by decide) (fun c3 => ?_) (fun c3 => ?_)
  · replace hf := it_t c3 hf
    refine lv_iconst (v := (0 : Int32)) hx hb dX6_hasRun_22 (by decide) ?_
    replace hf := Option.some.inj hf
    subst hf
    exact r_zre (v := (0 : Int32)) C h rfl dX6_hasRun_23
  replace hf := it_f c3 hf
  refine lv_iconst (v := (1 : Int32)) hx hb dX6_hasRun_18 (by decide) ?_
  refine lv_goto (tgt := 23) hx hb dX6_hasRun_19 (by decide) ?_
  replace hf := Option.some.inj hf
  subst hf
  exact r_zre (v := (1 : Int32)) C h rfl dX6_hasRun_23
theorem c_X6_hasRun {l : Launch} {E : Ev} {σ : Ms} {ℓ : Mz} {o : Nat} {τ : Mm} {p0 : Int32} {p1 : Int32} (ho : Kd o = 6) (hτ : σ o = τ) {out : Int32} (hf : f_X6_hasRun τ p0 p1 = some out) : Ct l yX6_hasRun wsX6_hasRun rm_X6_hasRun [.ref (Ea E o 0), .int p0, .int p1] E σ ℓ (some (.int out)) σ ℓ := by
  refine Ct_mk (cc := cX6_hasRun) (mL := 3) (ret := (some .boolean)) (own := RX6) (by decide +kernel) rfl rfl (Nat.le_of_ble_eq_true rfl) (fun p e s m below meth c C h ls hl => ?_)
  exact w_X6_hasRun_0 ho hτ C  _ _ h ls (lv_sub hl [0, 1, 2] rfl) hf
theorem hdX6_fitted : yX6_fitted.cls = RX6 ∧ yX6_fitted.cls ≠ "java/lang/invoke/MethodHandle" ∧ yX6_fitted.cls ≠ "java/lang/invoke/VarHandle" ∧ (parseMethodDescriptor yX6_fitted.desc).map (fun d => d.parameters.length) = some 1 := by decide +kernel
def rm_X6_fitted : Room := { frames := 0, cells := 0, slots := 0, locals := 0 }
set_option maxRecDepth 100000 in
theorem inX6_fitted_6 : ∀ w ∈ wsX60, w ∈ wsX6_fitted := fun _ h => List.mem_cons_of_mem _ (List.mem_append_right _ h)
set_option maxRecDepth 100000 in
theorem lkX6_fitted_15 : Cond.fieldLink RX6 15 "BellsBelow$Tape" "sort" "I" ∈ wsX6_fitted := by decide +kernel
set_option maxHeartbeats 4000000 in
set_option maxRecDepth 100000 in
theorem w_X6_fitted_0 {p : Program} {l : Launch} {e : Env} {s : State} {m : MethodId} {args : Array Value} {below : List Frame} {meth : Method} {c : Code} {E : Ev} {σ : Ms} {ℓ : Mz} {o : Nat} {τ : Mm} {p0 : Int64} {out : Int64} (ho : Kd o = 6) (hτ : σ o = τ)   (C : Cx cX6_fitted 3 (some .long) wsX6_fitted RX6 E p s m args meth c)  : ∀  (H : Heap) (locs : List Loc) (h : HI E σ ℓ s H locs) (ls : Array Slot) (hl : lv_has ls 3 [(0, .ref (Ea E o 0)), (1, .long p0)]), f_X6_fitted_0 τ p0   = some out → W p l e rm_X6_fitted s m args below meth c H locs 0 0 (MQ below (Po E s.heap.size (some (.long out)) σ ℓ) args s 0 0 (AA E s.heap.size)) (F0 m 0 ls []) := by
  intro  H locs h ls hl hf
  unfold f_X6_fitted_0 at hf
  have C0 := C
  obtain ⟨hx, hb, hr, hml, hown, hts, hlk, hK, hSF⟩ := C0
  refine lv_aload_n hx hb dX6_fitted_0 rfl (lv_at hl 0 rfl) ?_
  refine gf_6_1 C h ho hτ inX6_fitted_6 lkX6_fitted_15 dX6_fitted_1 ?_
  by_cases c1 : (τ 1 0) = (0 : Int32)
  · replace hf := it_t c1 hf
    refine r_tin (v := (0 : Int32)) (off := 32) (tgt := 36) hx hb c1 dX6_fitted_4 (by decide) (by decide) (by decide) (by decide) ?_
    refine lv_lload_n hx hb dX6_fitted_36 rfl (lv_at hl 1 rfl) ?_
    refine lv_l2i hx hb dX6_fitted_37 rfl ?_
    refine lv_i2b hx hb dX6_fitted_38 rfl ?_
    refine lv_i2l hx hb dX6_fitted_39 rfl ?_
    replace hf := Option.some.inj hf
    subst hf
    exact r_lre C h dX6_fitted_40
  replace hf := it_f c1 hf
  by_cases c2 : (τ 1 0) = (1 : Int32)
  · replace hf := it_t c2 hf
    refine r_tin (v := (1 : Int32)) (off := 37) (tgt := 41) hx hb c2 dX6_fitted_4 (by decide) (by decide) (by decide) (by decide) ?_
    refine lv_lload_n hx hb dX6_fitted_41 rfl (lv_at hl 1 rfl) ?_
    refine lv_l2i hx hb dX6_fitted_42 rfl ?_
    refine lv_i2s hx hb dX6_fitted_43 rfl ?_
    refine lv_i2l hx hb dX6_fitted_44 rfl ?_
    replace hf := Option.some.inj hf
    subst hf
    exact r_lre C h dX6_fitted_45
  replace hf := it_f c2 hf
  by_cases c3 : (τ 1 0) = (2 : Int32)
  · replace hf := it_t c3 hf
    refine r_tin (v := (2 : Int32)) (off := 42) (tgt := 46) hx hb c3 dX6_fitted_4 (by decide) (by decide) (by decide) (by decide) ?_
    refine lv_lload_n hx hb dX6_fitted_46 rfl (lv_at hl 1 rfl) ?_
    refine lv_l2i hx hb dX6_fitted_47 rfl ?_
    refine lv_i2l hx hb dX6_fitted_48 rfl ?_
    replace hf := Option.some.inj hf
    subst hf
    exact r_lre C h dX6_fitted_49
  replace hf := it_f c3 hf
  by_cases c4 : (τ 1 0) = (3 : Int32)
  · replace hf := it_t c4 hf
    refine r_tin (v := (3 : Int32)) (off := 46) (tgt := 50) hx hb c4 dX6_fitted_4 (by decide) (by decide) (by decide) (by decide) ?_
    refine lv_lload_n hx hb dX6_fitted_50 rfl (lv_at hl 1 rfl) ?_
    replace hf := Option.some.inj hf
    subst hf
    exact r_lre C h dX6_fitted_51
  replace hf := it_f c4 hf
  refine lv_tableOut (tgt := 52) hx hb dX6_fitted_4 (tsw_out [0, 1, 2, 3] (List.forall_mem_cons.mpr ⟨c1, (List.forall_mem_cons.mpr ⟨c2, (List.forall_mem_cons.mpr ⟨c3, (List.forall_mem_cons.mpr ⟨c4, (fun _ h => absurd h List.not_mem_nil)⟩)⟩)⟩)⟩) rfl) (by decide) ?_
  refine lv_lload_n hx hb dX6_fitted_52 rfl (lv_at hl 1 rfl) ?_
  refine lv_lconst (v := (0 : Int64)) hx hb dX6_fitted_53 (by decide) ?_
  refine W.lcmp hx hb dX6_fitted_54 ?_
  refine lv_if_eq (tgt := 62) hx hb dX6_fitted_55 (by decide) (fun c5 => ?_) (fun c5 => ?_)
  · replace hf := it_t c5 hf
    refine lv_lconst (v := (0 : Int64)) hx hb dX6_fitted_62 (by decide) ?_
    replace hf := Option.some.inj hf
    subst hf
    exact r_lre C h dX6_fitted_63
  replace hf := it_f c5 hf
  refine lv_lconst (v := (1 : Int64)) hx hb dX6_fitted_58 (by decide) ?_
  refine lv_goto (tgt := 63) hx hb dX6_fitted_59 (by decide) ?_
  replace hf := Option.some.inj hf
  subst hf
  exact r_lre C h dX6_fitted_63
theorem c_X6_fitted {l : Launch} {E : Ev} {σ : Ms} {ℓ : Mz} {o : Nat} {τ : Mm} {p0 : Int64} (ho : Kd o = 6) (hτ : σ o = τ) {out : Int64} (hf : f_X6_fitted τ p0 = some out) : Ct l yX6_fitted wsX6_fitted rm_X6_fitted [.ref (Ea E o 0), .long p0] E σ ℓ (some (.long out)) σ ℓ := by
  refine Ct_mk (cc := cX6_fitted) (mL := 3) (ret := (some .long)) (own := RX6) (by decide +kernel) rfl rfl (Nat.le_of_ble_eq_true rfl) (fun p e s m below meth c C h ls hl => ?_)
  exact w_X6_fitted_0 ho hτ C  _ _ h ls (lv_sub hl [0, 1] rfl) hf
