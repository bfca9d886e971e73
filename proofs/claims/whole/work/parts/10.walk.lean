/-! WALKS: made by wip/whole/gen -/
def rm_X0_body (n : Nat) : Room := { frames := n + 2, cells := 0, slots := 0, locals := 40 * n + 60 }
def rm_X7_rec (n : Nat) : Room := { frames := n + 12, cells := 0, slots := 0, locals := 40 * n + 560 }
theorem hdX0_begins : yX0_begins.cls = RX0 ∧ yX0_begins.cls ≠ "java/lang/invoke/MethodHandle" ∧ yX0_begins.cls ≠ "java/lang/invoke/VarHandle" ∧ (parseMethodDescriptor yX0_begins.desc).map (fun d => d.parameters.length) = some 1 := by decide +kernel
def rm_X0_begins : Room := { frames := 0, cells := 0, slots := 0, locals := 0 }
set_option maxRecDepth 100000 in
theorem inX0_begins_0 : ∀ w ∈ wsX00, w ∈ wsX0_begins := fun _ h => List.mem_cons_of_mem _ (List.mem_append_right _ h)
set_option maxRecDepth 100000 in
theorem lkX0_begins_39 : Cond.fieldLink RX0 39 "BellsBelow$Acts" "ran" "I" ∈ wsX0_begins := by decide +kernel
set_option maxRecDepth 100000 in
theorem lkX0_begins_9 : Cond.fieldLink RX0 9 "BellsBelow$Acts" "bodies" "[I" ∈ wsX0_begins := by decide +kernel
set_option maxHeartbeats 4000000 in
set_option maxRecDepth 100000 in
theorem w_X0_begins_22 {p : Program} {l : Launch} {e : Env} {s : State} {m : MethodId} {args : Array Value} {below : List Frame} {meth : Method} {c : Code} {E : Ev} {σ : Ms} {ℓ : Mz} {p0 : Int32} {out : Mm}   (C : Cx cX0_begins 2 none wsX0_begins RX0 E p s m args meth c)  : ∀ (τ : Mm) (H : Heap) (locs : List Loc) (h : HI E (va_up σ 21 τ) ℓ s H locs) (ls : Array Slot) (hl : lv_has ls 2 [(0, .ref (Ea E 21 0))]), f_X0_begins_22 p0  τ = some out → W p l e rm_X0_begins s m args below meth c H locs 0 0 (MQ below (Po E s.heap.size none (va_up σ 21 out) ℓ) args s 0 0 (AA E s.heap.size)) (F0 m 22 ls []) := by
  intro τ H locs h ls hl hf
  unfold f_X0_begins_22 at hf
  have C0 := C
  obtain ⟨hx, hb, hr, hml, hown, hts, hlk, hK, hSF⟩ := C0
  refine lv_aload_n hx hb dX0_begins_22 rfl (lv_at hl 0 rfl) ?_
  refine lv_dup hx hb dX0_begins_23 rfl ?_
  refine gf_0_1 C h (rfl : Kd 21 = 0) up_eq inX0_begins_0 lkX0_begins_39 dX0_begins_24 ?_
  refine lv_iconst (v := (1 : Int32)) hx hb dX0_begins_27 (by decide) ?_
  refine lv_iadd hx hb dX0_begins_28 ?_
  refine pf_0_1 C h (rfl : Kd 21 = 0) up_eq (F := fun t => va_up σ 21 t) (fun _ => up_up) inX0_begins_0 lkX0_begins_39 dX0_begins_29 (fun τ2 eτ2 H locs h => ?_)
  replace hf := lt_use eτ2 hf
  clear eτ2
  replace hf := Option.some.inj hf
  subst hf
  exact r_vre C h dX0_begins_32
set_option maxHeartbeats 4000000 in
set_option maxRecDepth 100000 in
theorem w_X0_begins_0 {p : Program} {l : Launch} {e : Env} {s : State} {m : MethodId} {args : Array Value} {below : List Frame} {meth : Method} {c : Code} {E : Ev} {σ : Ms} {ℓ : Mz} {p0 : Int32} {out : Mm}   (C : Cx cX0_begins 2 none wsX0_begins RX0 E p s m args meth c)  : ∀ (τ : Mm) (H : Heap) (locs : List Loc) (h : HI E (va_up σ 21 τ) ℓ s H locs) (ls : Array Slot) (hl : lv_has ls 2 [(0, .ref (Ea E 21 0)), (1, .int p0)]), f_X0_begins_0 p0  τ = some out → W p l e rm_X0_begins s m args below meth c H locs 0 0 (MQ below (Po E s.heap.size none (va_up σ 21 out) ℓ) args s 0 0 (AA E s.heap.size)) (F0 m 0 ls []) := by
  intro τ H locs h ls hl hf
  unfold f_X0_begins_0 at hf
  have C0 := C
  obtain ⟨hx, hb, hr, hml, hown, hts, hlk, hK, hSF⟩ := C0
  refine lv_aload_n hx hb dX0_begins_0 rfl (lv_at hl 0 rfl) ?_
  refine gf_0_1 C h (rfl : Kd 21 = 0) up_eq inX0_begins_0 lkX0_begins_39 dX0_begins_1 ?_
  refine lv_aload_n hx hb dX0_begins_4 rfl (lv_at hl 0 rfl) ?_
  refine gf_0_0 C h (rfl : Kd 21 = 0) up_eq inX0_begins_0 lkX0_begins_9 dX0_begins_5 ?_
  refine al_0_1 C h (rfl : Kd 21 = 0) dX0_begins_8 ?_
  refine lv_icmp_ge (tgt := 22) hx hb dX0_begins_9 (by decide) (fun c1 => ?_) (fun c1 => ?_)
  · replace hf := it_t c1 hf
    exact w_X0_begins_22    C  _ _ _ h ls (lv_sub hl [0] rfl) hf
  replace hf := it_f c1 hf
  refine lv_aload_n hx hb dX0_begins_12 rfl (lv_at hl 0 rfl) ?_
  refine gf_0_0 C h (rfl : Kd 21 = 0) up_eq inX0_begins_0 lkX0_begins_9 dX0_begins_13 ?_
  refine lv_aload_n hx hb dX0_begins_16 rfl (lv_at hl 0 rfl) ?_
  refine gf_0_1 C h (rfl : Kd 21 = 0) up_eq inX0_begins_0 lkX0_begins_39 dX0_begins_17 ?_
  refine lv_iload_n hx hb dX0_begins_20 rfl (lv_at hl 1 rfl) ?_
  obtain ⟨g3, hf⟩ := gd_use hf
  refine sa_0_1 C h (rfl : Kd 21 = 0) up_eq (F := fun t => va_up σ 21 t) (fun _ => up_up) (inB_in g3) dX0_begins_21 (fun τ4 eτ4 H locs h => ?_)
  replace hf := lt_use eτ4 hf
  clear eτ4
  exact w_X0_begins_22    C  _ _ _ h ls (lv_sub hl [0] rfl) hf
theorem c_X0_begins {l : Launch} {E : Ev} {σ : Ms} {ℓ : Mz} {τ : Mm} {p0 : Int32} {out : Mm} (hf : f_X0_begins τ p0 = some out) : Ct l yX0_begins wsX0_begins rm_X0_begins [.ref (Ea E 21 0), .int p0] E (va_up σ 21 τ) ℓ none (va_up σ 21 out) ℓ := by
  refine Ct_mk (cc := cX0_begins) (mL := 2) (ret := none) (own := RX0) (by decide +kernel) rfl rfl (Nat.le_of_ble_eq_true rfl) (fun p e s m below meth c C h ls hl => ?_)
  exact w_X0_begins_0  C τ _ _ h ls (lv_sub hl [0, 1] rfl) hf
theorem k_X0_begins {l : Launch} {E : Ev} {σ : Ms} {ℓ : Mz} {τ : Mm} {p0 : Int32} (hτ : σ 21 = τ) {out : Mm} (hf : f_X0_begins τ p0 = some out) : Ct l yX0_begins wsX0_begins rm_X0_begins [.ref (Ea E 21 0), .int p0] E σ ℓ none (va_up σ 21 out) ℓ := by
  subst hτ
  have h := c_X0_begins (l := l) (E := E) (σ := σ) (ℓ := ℓ)  hf
  rw [up_id σ 21] at h
  exact h
theorem hdX0_body : yX0_body.cls = RX0 ∧ yX0_body.cls ≠ "java/lang/invoke/MethodHandle" ∧ yX0_body.cls ≠ "java/lang/invoke/VarHandle" ∧ (parseMethodDescriptor yX0_body.desc).map (fun d => d.parameters.length) = some 4 := by decide +kernel
set_option maxRecDepth 100000 in
theorem lkX0_body_32 : Cond.fieldLink RX0 32 "BellsBelow$Acts" "BODIES" "[I" ∈ wsX0_body := by decide +kernel
set_option maxRecDepth 100000 in
theorem inX0_body_0 : ∀ w ∈ wsX00, w ∈ wsX0_body := fun _ h => List.mem_cons_of_mem _ (List.mem_append_right _ h)
set_option maxRecDepth 100000 in
theorem lkX0_body_15 : Cond.fieldLink RX0 15 "BellsBelow$Acts" "i" "I" ∈ wsX0_body := by decide +kernel
set_option maxRecDepth 100000 in
theorem lkX0_body_22 : Cond.fieldLink RX0 22 "BellsBelow$Acts" "kind" "I" ∈ wsX0_body := by decide +kernel
set_option maxRecDepth 100000 in
theorem lkX0_body_19 : Cond.fieldLink RX0 19 "BellsBelow$Acts" "v" "I" ∈ wsX0_body := by decide +kernel
set_option maxHeartbeats 4000000 in
set_option maxRecDepth 100000 in
theorem w_X0_body_62 {p : Program} {l : Launch} {e : Env} {s : State} {m : MethodId} {args : Array Value} {below : List Frame} {meth : Method} {c : Code} {E : Ev} {σ : Ms} {ℓ : Mz} {n : Nat} {rec : Mm → Int32 → Int32 → Int32 → Int32 → Option (Int32 × Mm)} {p0 : Int32} {p1 : Int32} {p2 : Int32} {p3 : Int32} {out : Int32 × Mm} (hrec : ∀ (τ : Mm) (a b x d : Int32) (out : Int32 × Mm), rec τ a b x d = some out → Ct l yX0_body wsX0_body (rm_X0_body n) [.ref (Ea E 21 0), .int a, .int b, .int x, .int d] E (va_up σ 21 τ) ℓ (some (.int out.1)) (va_up σ 21 out.2) ℓ)   (C : Cx cX0_body 8 (some .int) wsX0_body RX0 E p s m args meth c)  : ∀ (τ : Mm) (v5 : Int32) (H : Heap) (locs : List Loc) (h : HI E (va_up σ 21 τ) ℓ s H locs) (ls : Array Slot) (hl : lv_has ls 8 [(0, .ref (Ea E 21 0)), (2, .int p1), (3, .int p2), (4, .int p3), (5, .int v5)]), f_X0_body_62 rec p0 p1 p2 p3  τ v5 = some out → W p l e (rm_X0_body (n + 1)) s m args below meth c H locs 0 0 (MQ below (Po E s.heap.size (some (.int out.1)) (va_up σ 21 out.2) ℓ) args s 0 0 (AA E s.heap.size)) (F0 m 62 ls []) := by
  intro τ v5 H locs h ls hl hf
  unfold f_X0_body_62 at hf
  have C0 := C
  obtain ⟨hx, hb, hr, hml, hown, hts, hlk, hK, hSF⟩ := C0
  obtain ⟨t4, zt4, yt4⟩ := hSF.1
  refine va_getsN hx hb zt4 h.2.2 hown (va_Nw.use rfl hSF.2.2.2.2.2.2.2.2) (fun _ h9 => h9) dX0_body_62 ?_
  refine lv_iload hx hb dX0_body_65 (lv_at hl 4 rfl) ?_
  obtain ⟨g5, hf⟩ := gd_use hf
  refine va_ti (v := .int (sAB v5.toNatClampNeg)) hx hb yt4 h.2.2 (inB_in g5) rfl dX0_body_67 ?_
  refine lv_topi (fun x6 ex6 => ?_)
  replace hf := lt_use ex6 hf
  clear ex6
  refine lv_istore (lv' := [(6, .int x6), (0, .ref (Ea E 21 0)), (2, .int p1), (3, .int p2), (4, .int p3), (5, .int v5)]) hx hb dX0_body_68 hl (by decide) rfl (fun ls hl => ?_)
  refine lv_iload hx hb dX0_body_70 (lv_at hl 4 rfl) ?_
  refine lv_iconst (v := (1 : Int32)) hx hb dX0_body_72 (by decide) ?_
  refine lv_iadd hx hb dX0_body_73 ?_
  refine lv_topi (fun x7 ex7 => ?_)
  replace hf := lt_use ex7 hf
  clear ex7
  refine lv_istore (lv' := [(7, .int x7), (6, .int x6), (0, .ref (Ea E 21 0)), (2, .int p1), (3, .int p2), (4, .int p3), (5, .int v5)]) hx hb dX0_body_74 hl (by decide) rfl (fun ls hl => ?_)
  refine lv_aload_n hx hb dX0_body_76 rfl (lv_at hl 2 rfl) ?_
  obtain ⟨t8, zt8, yt8⟩ := hSF.2.1
  refine va_gets hx hb zt8 h.2.2 hown (hts _ lkX0_body_32) (fun _ h9 => h9) dX0_body_77 ?_
  refine lv_iload hx hb dX0_body_80 (lv_at hl 6 rfl) ?_
  refine lv_iconst (v := (3 : Int32)) hx hb dX0_body_82 (by decide) ?_
  refine lv_imul hx hb dX0_body_83 ?_
  refine lv_iload_n hx hb dX0_body_84 rfl (lv_at hl 3 rfl) ?_
  refine lv_iadd hx hb dX0_body_85 ?_
  obtain ⟨g9, hf⟩ := gd_use hf
  refine va_ti (v := .int (sBO ((v5 * (3 : Int32)) + p1).toNatClampNeg)) hx hb yt8 h.2.2 (inB_in g9) rfl dX0_body_86 ?_
  obtain ⟨u10, hu10, hf⟩ := bd_use hf
  refine r_cv_0 (rest := []) C h (c_X0_begins  hu10) (rfl : Kd 21 = 0) gX0_body_X0_begins rfl ⟨rfl, rfl⟩ hdX0_begins ⟨by simp only [rm_X0_body, rm_X0_begins]; omega, by simp only [rm_X0_body, rm_X0_begins]; omega⟩ ⟨Nat.zero_le _, Nat.zero_le _⟩ hl.1 rfl (Nat.le_of_ble_eq_true rfl) dX0_body_87 (fun H locs h => ?_)
  obtain ⟨t11, zt11, yt11⟩ := hSF.2.1
  refine va_gets hx hb zt11 h.2.2 hown (hts _ lkX0_body_32) (fun _ h9 => h9) dX0_body_90 ?_
  refine lv_iload hx hb dX0_body_93 (lv_at hl 6 rfl) ?_
  refine lv_iconst (v := (3 : Int32)) hx hb dX0_body_95 (by decide) ?_
  refine lv_imul hx hb dX0_body_96 ?_
  refine lv_iload_n hx hb dX0_body_97 rfl (lv_at hl 3 rfl) ?_
  refine lv_iadd hx hb dX0_body_98 ?_
  obtain ⟨g12, hf⟩ := gd_use hf
  refine va_ti (v := .int (sBO ((v5 * (3 : Int32)) + p1).toNatClampNeg)) hx hb yt11 h.2.2 (inB_in g12) rfl dX0_body_99 ?_
  by_cases c13 : (sBO ((v5 * (3 : Int32)) + p1).toNatClampNeg) = (10 : Int32)
  · replace hf := it_t c13 hf
    refine r_lin (v := (10 : Int32)) (off := 100) (tgt := 200) hx hb c13 dX0_body_100 (by decide) (by decide) (by decide) ?_
    refine lv_iload_n hx hb dX0_body_200 rfl (lv_at hl 4 rfl) ?_
    refine lv_aload_n hx hb dX0_body_201 rfl (lv_at hl 2 rfl) ?_
    refine gf_0_2 C h (rfl : Kd 21 = 0) up_eq inX0_body_0 lkX0_body_15 dX0_body_202 ?_
    refine lv_iadd hx hb dX0_body_205 ?_
    replace hf := Option.some.inj hf
    subst hf
    exact r_ire C h dX0_body_206
  replace hf := it_f c13 hf
  by_cases c14 : (sBO ((v5 * (3 : Int32)) + p1).toNatClampNeg) = (11 : Int32)
  · replace hf := it_t c14 hf
    refine r_lin (v := (11 : Int32)) (off := 107) (tgt := 207) hx hb c14 dX0_body_100 (by decide) (by decide) (by decide) ?_
    refine lv_aload_n hx hb dX0_body_207 rfl (lv_at hl 2 rfl) ?_
    refine lv_aload_n hx hb dX0_body_208 rfl (lv_at hl 2 rfl) ?_
    refine gf_0_4 C h (rfl : Kd 21 = 0) up_eq inX0_body_0 lkX0_body_22 dX0_body_209 ?_
    refine lv_iconst (v := (0 : Int32)) hx hb dX0_body_212 (by decide) ?_
    refine lv_iload_n hx hb dX0_body_213 rfl (lv_at hl 4 rfl) ?_
    refine lv_iload hx hb dX0_body_214 (lv_at hl 0 rfl) ?_
    obtain ⟨u15, hu15, hf⟩ := bd_use hf
    refine r_cv_0 (rest := []) C h (hrec _ _ _ _ _ _ hu15) (rfl : Kd 21 = 0) gX0_body_X0_body rfl ⟨rfl, rfl⟩ hdX0_body ⟨by simp only [rm_X0_body]; omega, by simp only [rm_X0_body]; omega⟩ ⟨Nat.zero_le _, Nat.zero_le _⟩ hl.1 rfl (Nat.le_of_ble_eq_true rfl) dX0_body_216 (fun H locs h => ?_)
    refine lv_aload_n hx hb dX0_body_219 rfl (lv_at hl 2 rfl) ?_
    refine gf_0_3 C h (rfl : Kd 21 = 0) up_eq inX0_body_0 lkX0_body_19 dX0_body_220 ?_
    refine lv_isub hx hb dX0_body_223 ?_
    replace hf := Option.some.inj hf
    subst hf
    exact r_ire C h dX0_body_224
  replace hf := it_f c14 hf
  by_cases c16 : (sBO ((v5 * (3 : Int32)) + p1).toNatClampNeg) = (12 : Int32)
  · replace hf := it_t c16 hf
    refine r_lin (v := (12 : Int32)) (off := 125) (tgt := 225) hx hb c16 dX0_body_100 (by decide) (by decide) (by decide) ?_
    refine lv_aload_n hx hb dX0_body_225 rfl (lv_at hl 2 rfl) ?_
    refine lv_aload_n hx hb dX0_body_226 rfl (lv_at hl 2 rfl) ?_
    refine gf_0_4 C h (rfl : Kd 21 = 0) up_eq inX0_body_0 lkX0_body_22 dX0_body_227 ?_
    refine lv_iconst (v := (1 : Int32)) hx hb dX0_body_230 (by decide) ?_
    refine lv_iload_n hx hb dX0_body_231 rfl (lv_at hl 4 rfl) ?_
    refine lv_iload hx hb dX0_body_232 (lv_at hl 0 rfl) ?_
    obtain ⟨u17, hu17, hf⟩ := bd_use hf
    refine r_cv_0 (rest := []) C h (hrec _ _ _ _ _ _ hu17) (rfl : Kd 21 = 0) gX0_body_X0_body rfl ⟨rfl, rfl⟩ hdX0_body ⟨by simp only [rm_X0_body]; omega, by simp only [rm_X0_body]; omega⟩ ⟨Nat.zero_le _, Nat.zero_le _⟩ hl.1 rfl (Nat.le_of_ble_eq_true rfl) dX0_body_234 (fun H locs h => ?_)
    refine lv_iconst (v := (2 : Int32)) hx hb dX0_body_237 (by decide) ?_
    refine lv_imul hx hb dX0_body_238 ?_
    replace hf := Option.some.inj hf
    subst hf
    exact r_ire C h dX0_body_239
  replace hf := it_f c16 hf
  by_cases c18 : (sBO ((v5 * (3 : Int32)) + p1).toNatClampNeg) = (20 : Int32)
  · replace hf := it_t c18 hf
    refine r_lin (v := (20 : Int32)) (off := 140) (tgt := 240) hx hb c18 dX0_body_100 (by decide) (by decide) (by decide) ?_
    refine lv_aload_n hx hb dX0_body_240 rfl (lv_at hl 2 rfl) ?_
    refine lv_iload hx hb dX0_body_241 (lv_at hl 1 rfl) ?_
    refine lv_iconst (v := (1 : Int32)) hx hb dX0_body_243 (by decide) ?_
    refine lv_iload_n hx hb dX0_body_244 rfl (lv_at hl 4 rfl) ?_
    refine lv_iload hx hb dX0_body_245 (lv_at hl 0 rfl) ?_
    obtain ⟨u19, hu19, hf⟩ := bd_use hf
    refine r_cv_0 (rest := []) C h (hrec _ _ _ _ _ _ hu19) (rfl : Kd 21 = 0) gX0_body_X0_body rfl ⟨rfl, rfl⟩ hdX0_body ⟨by simp only [rm_X0_body]; omega, by simp only [rm_X0_body]; omega⟩ ⟨Nat.zero_le _, Nat.zero_le _⟩ hl.1 rfl (Nat.le_of_ble_eq_true rfl) dX0_body_247 (fun H locs h => ?_)
    refine lv_bipush (v := (6 : Int32)) hx hb dX0_body_250 (by decide) ?_
    refine lv_ixor hx hb dX0_body_252 ?_
    replace hf := Option.some.inj hf
    subst hf
    exact r_ire C h dX0_body_253
  replace hf := it_f c18 hf
  by_cases c20 : (sBO ((v5 * (3 : Int32)) + p1).toNatClampNeg) = (30 : Int32)
  · replace hf := it_t c20 hf
    refine r_lin (v := (30 : Int32)) (off := 154) (tgt := 254) hx hb c20 dX0_body_100 (by decide) (by decide) (by decide) ?_
    refine lv_aload_n hx hb dX0_body_254 rfl (lv_at hl 2 rfl) ?_
    refine lv_iload hx hb dX0_body_255 (lv_at hl 1 rfl) ?_
    refine lv_iconst (v := (0 : Int32)) hx hb dX0_body_257 (by decide) ?_
    refine lv_iload_n hx hb dX0_body_258 rfl (lv_at hl 4 rfl) ?_
    refine lv_iconst (v := (3 : Int32)) hx hb dX0_body_259 (by decide) ?_
    refine lv_imul hx hb dX0_body_260 ?_
    refine lv_iload hx hb dX0_body_261 (lv_at hl 0 rfl) ?_
    obtain ⟨u21, hu21, hf⟩ := bd_use hf
    refine r_cv_0 (rest := []) C h (hrec _ _ _ _ _ _ hu21) (rfl : Kd 21 = 0) gX0_body_X0_body rfl ⟨rfl, rfl⟩ hdX0_body ⟨by simp only [rm_X0_body]; omega, by simp only [rm_X0_body]; omega⟩ ⟨Nat.zero_le _, Nat.zero_le _⟩ hl.1 rfl (Nat.le_of_ble_eq_true rfl) dX0_body_263 (fun H locs h => ?_)
    replace hf := Option.some.inj hf
    subst hf
    exact r_ire C h dX0_body_266
  replace hf := it_f c20 hf
  by_cases c22 : (sBO ((v5 * (3 : Int32)) + p1).toNatClampNeg) = (40 : Int32)
  · replace hf := it_t c22 hf
    refine r_lin (v := (40 : Int32)) (off := 167) (tgt := 267) hx hb c22 dX0_body_100 (by decide) (by decide) (by decide) ?_
    refine lv_aload_n hx hb dX0_body_267 rfl (lv_at hl 2 rfl) ?_
    refine lv_iload hx hb dX0_body_268 (lv_at hl 1 rfl) ?_
    refine lv_iconst (v := (2 : Int32)) hx hb dX0_body_270 (by decide) ?_
    refine lv_iload_n hx hb dX0_body_271 rfl (lv_at hl 4 rfl) ?_
    refine lv_iload hx hb dX0_body_272 (lv_at hl 0 rfl) ?_
    obtain ⟨u23, hu23, hf⟩ := bd_use hf
    refine r_cv_0 (rest := []) C h (hrec _ _ _ _ _ _ hu23) (rfl : Kd 21 = 0) gX0_body_X0_body rfl ⟨rfl, rfl⟩ hdX0_body ⟨by simp only [rm_X0_body]; omega, by simp only [rm_X0_body]; omega⟩ ⟨Nat.zero_le _, Nat.zero_le _⟩ hl.1 rfl (Nat.le_of_ble_eq_true rfl) dX0_body_274 (fun H locs h => ?_)
    refine lv_aload_n hx hb dX0_body_277 rfl (lv_at hl 2 rfl) ?_
    refine lv_aload_n hx hb dX0_body_278 rfl (lv_at hl 2 rfl) ?_
    refine gf_0_4 C h (rfl : Kd 21 = 0) up_eq inX0_body_0 lkX0_body_22 dX0_body_279 ?_
    refine lv_iconst (v := (1 : Int32)) hx hb dX0_body_282 (by decide) ?_
    refine lv_iconst (v := (1 : Int32)) hx hb dX0_body_283 (by decide) ?_
    refine lv_iload hx hb dX0_body_284 (lv_at hl 0 rfl) ?_
    obtain ⟨u24, hu24, hf⟩ := bd_use hf
    refine r_cv_0 (rest := [.int u23.1]) C h (hrec _ _ _ _ _ _ hu24) (rfl : Kd 21 = 0) gX0_body_X0_body rfl ⟨rfl, rfl⟩ hdX0_body ⟨by simp only [rm_X0_body]; omega, by simp only [rm_X0_body]; omega⟩ ⟨Nat.zero_le _, Nat.zero_le _⟩ hl.1 rfl (Nat.le_of_ble_eq_true rfl) dX0_body_286 (fun H locs h => ?_)
    refine lv_iadd hx hb dX0_body_289 ?_
    replace hf := Option.some.inj hf
    subst hf
    exact r_ire C h dX0_body_290
  replace hf := it_f c22 hf
  by_cases c25 : (sBO ((v5 * (3 : Int32)) + p1).toNatClampNeg) = (50 : Int32)
  · replace hf := it_t c25 hf
    refine r_lin (v := (50 : Int32)) (off := 191) (tgt := 291) hx hb c25 dX0_body_100 (by decide) (by decide) (by decide) ?_
    refine lv_aload_n hx hb dX0_body_291 rfl (lv_at hl 2 rfl) ?_
    refine lv_iload hx hb dX0_body_292 (lv_at hl 1 rfl) ?_
    refine lv_iconst (v := (0 : Int32)) hx hb dX0_body_294 (by decide) ?_
    refine lv_iload_n hx hb dX0_body_295 rfl (lv_at hl 4 rfl) ?_
    refine lv_iload hx hb dX0_body_296 (lv_at hl 0 rfl) ?_
    obtain ⟨u26, hu26, hf⟩ := bd_use hf
    refine r_cv_0 (rest := []) C h (hrec _ _ _ _ _ _ hu26) (rfl : Kd 21 = 0) gX0_body_X0_body rfl ⟨rfl, rfl⟩ hdX0_body ⟨by simp only [rm_X0_body]; omega, by simp only [rm_X0_body]; omega⟩ ⟨Nat.zero_le _, Nat.zero_le _⟩ hl.1 rfl (Nat.le_of_ble_eq_true rfl) dX0_body_298 (fun H locs h => ?_)
    refine lv_ineg hx hb dX0_body_301 ?_
    replace hf := Option.some.inj hf
    subst hf
    exact r_ire C h dX0_body_302
  replace hf := it_f c25 hf
  by_cases c27 : (sBO ((v5 * (3 : Int32)) + p1).toNatClampNeg) = (51 : Int32)
  · replace hf := it_t c27 hf
    refine r_lin (v := (51 : Int32)) (off := 203) (tgt := 303) hx hb c27 dX0_body_100 (by decide) (by decide) (by decide) ?_
    refine lv_aload_n hx hb dX0_body_303 rfl (lv_at hl 2 rfl) ?_
    refine lv_iload hx hb dX0_body_304 (lv_at hl 1 rfl) ?_
    refine lv_iconst (v := (1 : Int32)) hx hb dX0_body_306 (by decide) ?_
    refine lv_iload_n hx hb dX0_body_307 rfl (lv_at hl 4 rfl) ?_
    refine lv_iconst (v := (1 : Int32)) hx hb dX0_body_308 (by decide) ?_
    refine lv_iadd hx hb dX0_body_309 ?_
    refine lv_iload hx hb dX0_body_310 (lv_at hl 0 rfl) ?_
    obtain ⟨u28, hu28, hf⟩ := bd_use hf
    refine r_cv_0 (rest := []) C h (hrec _ _ _ _ _ _ hu28) (rfl : Kd 21 = 0) gX0_body_X0_body rfl ⟨rfl, rfl⟩ hdX0_body ⟨by simp only [rm_X0_body]; omega, by simp only [rm_X0_body]; omega⟩ ⟨Nat.zero_le _, Nat.zero_le _⟩ hl.1 rfl (Nat.le_of_ble_eq_true rfl) dX0_body_312 (fun H locs h => ?_)
    replace hf := Option.some.inj hf
    subst hf
    exact r_ire C h dX0_body_315
  replace hf := it_f c27 hf
  by_cases c29 : (sBO ((v5 * (3 : Int32)) + p1).toNatClampNeg) = (60 : Int32)
  · replace hf := it_t c29 hf
    refine r_lin (v := (60 : Int32)) (off := 216) (tgt := 316) hx hb c29 dX0_body_100 (by decide) (by decide) (by decide) ?_
    refine lv_aload_n hx hb dX0_body_316 rfl (lv_at hl 2 rfl) ?_
    refine lv_iload hx hb dX0_body_317 (lv_at hl 1 rfl) ?_
    refine lv_iconst (v := (2 : Int32)) hx hb dX0_body_319 (by decide) ?_
    refine lv_iload_n hx hb dX0_body_320 rfl (lv_at hl 4 rfl) ?_
    refine lv_aload_n hx hb dX0_body_321 rfl (lv_at hl 2 rfl) ?_
    refine gf_0_2 C h (rfl : Kd 21 = 0) up_eq inX0_body_0 lkX0_body_15 dX0_body_322 ?_
    refine lv_isub hx hb dX0_body_325 ?_
    refine lv_iload hx hb dX0_body_326 (lv_at hl 0 rfl) ?_
    obtain ⟨u30, hu30, hf⟩ := bd_use hf
    refine r_cv_0 (rest := []) C h (hrec _ _ _ _ _ _ hu30) (rfl : Kd 21 = 0) gX0_body_X0_body rfl ⟨rfl, rfl⟩ hdX0_body ⟨by simp only [rm_X0_body]; omega, by simp only [rm_X0_body]; omega⟩ ⟨Nat.zero_le _, Nat.zero_le _⟩ hl.1 rfl (Nat.le_of_ble_eq_true rfl) dX0_body_328 (fun H locs h => ?_)
    replace hf := Option.some.inj hf
    subst hf
    exact r_ire C h dX0_body_331
  replace hf := it_f c29 hf
  by_cases c31 : (sBO ((v5 * (3 : Int32)) + p1).toNatClampNeg) = (70 : Int32)
  · replace hf := it_t c31 hf
    refine r_lin (v := (70 : Int32)) (off := 232) (tgt := 332) hx hb c31 dX0_body_100 (by decide) (by decide) (by decide) ?_
    refine lv_aload_n hx hb dX0_body_332 rfl (lv_at hl 2 rfl) ?_
    refine lv_iload hx hb dX0_body_333 (lv_at hl 1 rfl) ?_
    refine lv_iconst (v := (1 : Int32)) hx hb dX0_body_335 (by decide) ?_
    refine lv_iload_n hx hb dX0_body_336 rfl (lv_at hl 4 rfl) ?_
    refine lv_iload hx hb dX0_body_337 (lv_at hl 0 rfl) ?_
    obtain ⟨u32, hu32, hf⟩ := bd_use hf
    refine r_cv_0 (rest := []) C h (hrec _ _ _ _ _ _ hu32) (rfl : Kd 21 = 0) gX0_body_X0_body rfl ⟨rfl, rfl⟩ hdX0_body ⟨by simp only [rm_X0_body]; omega, by simp only [rm_X0_body]; omega⟩ ⟨Nat.zero_le _, Nat.zero_le _⟩ hl.1 rfl (Nat.le_of_ble_eq_true rfl) dX0_body_339 (fun H locs h => ?_)
    refine lv_aload_n hx hb dX0_body_342 rfl (lv_at hl 2 rfl) ?_
    refine lv_iload hx hb dX0_body_343 (lv_at hl 1 rfl) ?_
    refine lv_iconst (v := (0 : Int32)) hx hb dX0_body_345 (by decide) ?_
    refine lv_iconst (v := (2 : Int32)) hx hb dX0_body_346 (by decide) ?_
    refine lv_iload hx hb dX0_body_347 (lv_at hl 0 rfl) ?_
    obtain ⟨u33, hu33, hf⟩ := bd_use hf
    refine r_cv_0 (rest := [.int u32.1]) C h (hrec _ _ _ _ _ _ hu33) (rfl : Kd 21 = 0) gX0_body_X0_body rfl ⟨rfl, rfl⟩ hdX0_body ⟨by simp only [rm_X0_body]; omega, by simp only [rm_X0_body]; omega⟩ ⟨Nat.zero_le _, Nat.zero_le _⟩ hl.1 rfl (Nat.le_of_ble_eq_true rfl) dX0_body_349 (fun H locs h => ?_)
    refine lv_iadd hx hb dX0_body_352 ?_
    replace hf := Option.some.inj hf
    subst hf
    exact r_ire C h dX0_body_353
  replace hf := it_f c31 hf
  by_cases c34 : (sBO ((v5 * (3 : Int32)) + p1).toNatClampNeg) = (71 : Int32)
  · replace hf := it_t c34 hf
    refine r_lin (v := (71 : Int32)) (off := 254) (tgt := 354) hx hb c34 dX0_body_100 (by decide) (by decide) (by decide) ?_
    refine lv_aload_n hx hb dX0_body_354 rfl (lv_at hl 2 rfl) ?_
    refine lv_iload hx hb dX0_body_355 (lv_at hl 1 rfl) ?_
    refine lv_iconst (v := (0 : Int32)) hx hb dX0_body_357 (by decide) ?_
    refine lv_iload_n hx hb dX0_body_358 rfl (lv_at hl 4 rfl) ?_
    refine lv_iload hx hb dX0_body_359 (lv_at hl 0 rfl) ?_
    obtain ⟨u35, hu35, hf⟩ := bd_use hf
    refine r_cv_0 (rest := []) C h (hrec _ _ _ _ _ _ hu35) (rfl : Kd 21 = 0) gX0_body_X0_body rfl ⟨rfl, rfl⟩ hdX0_body ⟨by simp only [rm_X0_body]; omega, by simp only [rm_X0_body]; omega⟩ ⟨Nat.zero_le _, Nat.zero_le _⟩ hl.1 rfl (Nat.le_of_ble_eq_true rfl) dX0_body_361 (fun H locs h => ?_)
    refine lv_aload_n hx hb dX0_body_364 rfl (lv_at hl 2 rfl) ?_
    refine gf_0_3 C h (rfl : Kd 21 = 0) up_eq inX0_body_0 lkX0_body_19 dX0_body_365 ?_
    refine lv_ixor hx hb dX0_body_368 ?_
    replace hf := Option.some.inj hf
    subst hf
    exact r_ire C h dX0_body_369
  replace hf := it_f c34 hf
  refine lv_lookup (off := 270) (tgt := 370) hx hb dX0_body_100 (by decide) (lk_out _ (List.forall_mem_cons.mpr ⟨c13, (List.forall_mem_cons.mpr ⟨c14, (List.forall_mem_cons.mpr ⟨c16, (List.forall_mem_cons.mpr ⟨c18, (List.forall_mem_cons.mpr ⟨c20, (List.forall_mem_cons.mpr ⟨c22, (List.forall_mem_cons.mpr ⟨c25, (List.forall_mem_cons.mpr ⟨c27, (List.forall_mem_cons.mpr ⟨c29, (List.forall_mem_cons.mpr ⟨c31, (List.forall_mem_cons.mpr ⟨c34, (fun _ h => absurd h List.not_mem_nil)⟩)⟩)⟩)⟩)⟩)⟩)⟩)⟩)⟩)⟩)⟩)) (by decide) ?_
  refine lv_iconst (v := (0 : Int32)) hx hb dX0_body_370 (by decide) ?_
  replace hf := Option.some.inj hf
  subst hf
  exact r_ire C h dX0_body_371
set_option maxHeartbeats 4000000 in
set_option maxRecDepth 100000 in
theorem w_X0_body_19 {p : Program} {l : Launch} {e : Env} {s : State} {m : MethodId} {args : Array Value} {below : List Frame} {meth : Method} {c : Code} {E : Ev} {σ : Ms} {ℓ : Mz} {n : Nat} {rec : Mm → Int32 → Int32 → Int32 → Int32 → Option (Int32 × Mm)} {p0 : Int32} {p1 : Int32} {p2 : Int32} {p3 : Int32} {out : Int32 × Mm} (hrec : ∀ (τ : Mm) (a b x d : Int32) (out : Int32 × Mm), rec τ a b x d = some out → Ct l yX0_body wsX0_body (rm_X0_body n) [.ref (Ea E 21 0), .int a, .int b, .int x, .int d] E (va_up σ 21 τ) ℓ (some (.int out.1)) (va_up σ 21 out.2) ℓ)   (C : Cx cX0_body 8 (some .int) wsX0_body RX0 E p s m args meth c) {k19 : Mm → Int32 → Int32 → Option (Int32 × Mm)} (hk19 : ∀ (τ : Mm) (v5 : Int32) (v6 : Int32) (H : Heap) (locs : List Loc), HI E (va_up σ 21 τ) ℓ s H locs → ∀ ls : Array Slot, lv_has ls 8 [(0, .ref (Ea E 21 0)), (2, .int p1), (3, .int p2), (4, .int p3), (5, .int v5), (6, .int v6)] → k19 τ v5 v6 = some out → W p l e (rm_X0_body (n + 1)) s m args below meth c H locs 0 0 (MQ below (Po E s.heap.size (some (.int out.1)) (va_up σ 21 out.2) ℓ) args s 0 0 (AA E s.heap.size)) (F0 m 19 ls [])) : ∀ (τ : Mm) (v5 : Int32) (v6 : Int32) (H : Heap) (locs : List Loc) (h : HI E (va_up σ 21 τ) ℓ s H locs) (ls : Array Slot) (hl : lv_has ls 8 [(0, .ref (Ea E 21 0)), (2, .int p1), (3, .int p2), (4, .int p3), (5, .int v5), (6, .int v6)]), f_X0_body_19 rec p0 p1 p2 p3 k19 τ v5 v6 = some out → W p l e (rm_X0_body (n + 1)) s m args below meth c H locs 0 0 (MQ below (Po E s.heap.size (some (.int out.1)) (va_up σ 21 out.2) ℓ) args s 0 0 (AA E s.heap.size)) (F0 m 19 ls []) := by
  intro τ v5 v6 H locs h ls hl hf
  unfold f_X0_body_19 at hf
  have C0 := C
  obtain ⟨hx, hb, hr, hml, hown, hts, hlk, hK, hSF⟩ := C0
  refine lv_iload hx hb dX0_body_19 (lv_at hl 5 rfl) ?_
  refine lv_bipush (v := (7 : Int32)) hx hb dX0_body_21 (by decide) ?_
  refine lv_icmp_ge (tgt := 62) hx hb dX0_body_23 (by decide) (fun c3 => ?_) (fun c3 => ?_)
  · replace hf := it_t c3 hf
    exact w_X0_body_62 hrec   C  _ _ _ _ h ls (lv_sub hl [0, 1, 2, 3, 4] rfl) hf
  replace hf := it_f c3 hf
  obtain ⟨t36, zt36, yt36⟩ := hSF.1
  refine va_getsN hx hb zt36 h.2.2 hown (va_Nw.use rfl hSF.2.2.2.2.2.2.2.2) (fun _ h9 => h9) dX0_body_26 ?_
  refine lv_iload hx hb dX0_body_29 (lv_at hl 4 rfl) ?_
  obtain ⟨g37, hf⟩ := gd_use hf
  refine va_ti (v := .int (sAB v5.toNatClampNeg)) hx hb yt36 h.2.2 (inB_in g37) rfl dX0_body_31 ?_
  refine lv_if_lt (tgt := 62) hx hb dX0_body_32 (by decide) (fun c38 => ?_) (fun c38 => ?_)
  · replace hf := it_t c38 hf
    exact w_X0_body_62 hrec   C  _ _ _ _ h ls (lv_sub hl [0, 1, 2, 3, 4] rfl) hf
  replace hf := it_f c38 hf
  obtain ⟨t39, zt39, yt39⟩ := hSF.2.1
  refine va_gets hx hb zt39 h.2.2 hown (hts _ lkX0_body_32) (fun _ h9 => h9) dX0_body_35 ?_
  refine lv_iload hx hb dX0_body_38 (lv_at hl 4 rfl) ?_
  refine lv_iconst (v := (3 : Int32)) hx hb dX0_body_40 (by decide) ?_
  refine lv_imul hx hb dX0_body_41 ?_
  refine lv_iload_n hx hb dX0_body_42 rfl (lv_at hl 1 rfl) ?_
  refine lv_iadd hx hb dX0_body_43 ?_
  obtain ⟨g40, hf⟩ := gd_use hf
  refine va_ti (v := .int (sBO ((v5 * (3 : Int32)) + p1).toNatClampNeg)) hx hb yt39 h.2.2 (inB_in g40) rfl dX0_body_44 ?_
  refine lv_if_ne (tgt := 62) hx hb dX0_body_45 (by decide) (fun c41 => ?_) (fun c41 => ?_)
  · replace hf := it_f c41 hf
    exact w_X0_body_62 hrec   C  _ _ _ _ h ls (lv_sub hl [0, 1, 2, 3, 4] rfl) hf
  replace hf := it_t c41 hf
  obtain ⟨t42, zt42, yt42⟩ := hSF.1
  refine va_getsN hx hb zt42 h.2.2 hown (va_Nw.use rfl hSF.2.2.2.2.2.2.2.2) (fun _ h9 => h9) dX0_body_48 ?_
  refine lv_iload hx hb dX0_body_51 (lv_at hl 4 rfl) ?_
  obtain ⟨g43, hf⟩ := gd_use hf
  refine va_ti (v := .int (sAB v5.toNatClampNeg)) hx hb yt42 h.2.2 (inB_in g43) rfl dX0_body_53 ?_
  refine lv_topi (fun x44 ex44 => ?_)
  replace hf := lt_use ex44 hf
  clear ex44
  refine lv_istore (lv' := [(5, .int x44), (0, .ref (Ea E 21 0)), (2, .int p1), (3, .int p2), (4, .int p3), (6, .int v6)]) hx hb dX0_body_54 hl (by decide) rfl (fun ls hl => ?_)
  obtain ⟨x45, ex45⟩ : ∃ y : Int32, y = (v6 + (1 : Int32)) := ⟨_, rfl⟩
  refine lv_iinc (v := x45) (lv' := [(6, .int x45), (5, .int x44), (0, .ref (Ea E 21 0)), (2, .int p1), (3, .int p2), (4, .int p3)]) hx hb dX0_body_56 hl (k := 5) rfl (by rw [ex45]; rfl) (by decide) rfl (fun ls hl => ?_)
  replace hf := lt_use ex45 hf
  clear ex45
  refine lv_goto (tgt := 19) hx hb dX0_body_59 (by decide) ?_
  exact hk19 _ _ _ _ _ h ls (lv_sub hl [2, 3, 4, 5, 1, 0] rfl) hf
set_option maxHeartbeats 4000000 in
set_option maxRecDepth 100000 in
theorem w_X0_body_19L {p : Program} {l : Launch} {e : Env} {s : State} {m : MethodId} {args : Array Value} {below : List Frame} {meth : Method} {c : Code} {E : Ev} {σ : Ms} {ℓ : Mz} {n : Nat} {rec : Mm → Int32 → Int32 → Int32 → Int32 → Option (Int32 × Mm)} {p0 : Int32} {p1 : Int32} {p2 : Int32} {p3 : Int32} {out : Int32 × Mm} (hrec : ∀ (τ : Mm) (a b x d : Int32) (out : Int32 × Mm), rec τ a b x d = some out → Ct l yX0_body wsX0_body (rm_X0_body n) [.ref (Ea E 21 0), .int a, .int b, .int x, .int d] E (va_up σ 21 τ) ℓ (some (.int out.1)) (va_up σ 21 out.2) ℓ)   (C : Cx cX0_body 8 (some .int) wsX0_body RX0 E p s m args meth c)  : ∀ (n9 : Nat) (τ : Mm) (v5 : Int32) (v6 : Int32) (H : Heap) (locs : List Loc) (h : HI E (va_up σ 21 τ) ℓ s H locs) (ls : Array Slot) (hl : lv_has ls 8 [(0, .ref (Ea E 21 0)), (2, .int p1), (3, .int p2), (4, .int p3), (5, .int v5), (6, .int v6)]), f_X0_body_19L rec p0 p1 p2 p3  n9 τ v5 v6 = some out → W p l e (rm_X0_body (n + 1)) s m args below meth c H locs 0 0 (MQ below (Po E s.heap.size (some (.int out.1)) (va_up σ 21 out.2) ℓ) args s 0 0 (AA E s.heap.size)) (F0 m 19 ls []) := by
  intro n9
  induction n9 with
  | zero =>
    intro τ v5 v6 H locs h ls hl hf
    cases (show (none : Option (Int32 × Mm)) = some out from hf)
  | succ n9 ih =>
    intro τ v5 v6 H locs h ls hl hf
    exact w_X0_body_19 hrec  C  ih τ v5 v6 H locs h ls hl hf
set_option maxHeartbeats 4000000 in
set_option maxRecDepth 100000 in
theorem w_X0_body_0 {p : Program} {l : Launch} {e : Env} {s : State} {m : MethodId} {args : Array Value} {below : List Frame} {meth : Method} {c : Code} {E : Ev} {σ : Ms} {ℓ : Mz} {n : Nat} {rec : Mm → Int32 → Int32 → Int32 → Int32 → Option (Int32 × Mm)} {p0 : Int32} {p1 : Int32} {p2 : Int32} {p3 : Int32} {out : Int32 × Mm} (hrec : ∀ (τ : Mm) (a b x d : Int32) (out : Int32 × Mm), rec τ a b x d = some out → Ct l yX0_body wsX0_body (rm_X0_body n) [.ref (Ea E 21 0), .int a, .int b, .int x, .int d] E (va_up σ 21 τ) ℓ (some (.int out.1)) (va_up σ 21 out.2) ℓ)   (C : Cx cX0_body 8 (some .int) wsX0_body RX0 E p s m args meth c)  : ∀ (τ : Mm) (H : Heap) (locs : List Loc) (h : HI E (va_up σ 21 τ) ℓ s H locs) (ls : Array Slot) (hl : lv_has ls 8 [(0, .ref (Ea E 21 0)), (1, .int p0), (2, .int p1), (3, .int p2), (4, .int p3)]), f_X0_body_0 rec p0 p1 p2 p3  τ = some out → W p l e (rm_X0_body (n + 1)) s m args below meth c H locs 0 0 (MQ below (Po E s.heap.size (some (.int out.1)) (va_up σ 21 out.2) ℓ) args s 0 0 (AA E s.heap.size)) (F0 m 0 ls []) := by
  intro τ H locs h ls hl hf
  unfold f_X0_body_0 at hf
  have C0 := C
  obtain ⟨hx, hb, hr, hml, hown, hts, hlk, hK, hSF⟩ := C0
  refine lv_iload_n hx hb dX0_body_0 rfl (lv_at hl 1 rfl) ?_
  refine lv_if_lt (tgt := 11) hx hb dX0_body_1 (by decide) (fun c1 => ?_) (fun c1 => ?_)
  · replace hf := it_t c1 hf
    refine lv_iconst (v := (0 : Int32)) hx hb dX0_body_11 (by decide) ?_
    replace hf := Option.some.inj hf
    subst hf
    exact r_ire C h dX0_body_12
  replace hf := it_f c1 hf
  refine lv_iload hx hb dX0_body_4 (lv_at hl 4 rfl) ?_
  refine lv_bipush (v := (40 : Int32)) hx hb dX0_body_6 (by decide) ?_
  refine lv_icmp_le (tgt := 13) hx hb dX0_body_8 (by decide) (fun c2 => ?_) (fun c2 => ?_)
  · replace hf := it_t c2 hf
    refine lv_iload_n hx hb dX0_body_13 rfl (lv_at hl 1 rfl) ?_
    refine lv_istore (lv' := [(5, .int p0), (0, .ref (Ea E 21 0)), (1, .int p0), (2, .int p1), (3, .int p2), (4, .int p3)]) hx hb dX0_body_14 hl (by decide) rfl (fun ls hl => ?_)
    refine lv_iconst (v := (0 : Int32)) hx hb dX0_body_16 (by decide) ?_
    refine lv_istore (lv' := [(6, .int (0 : Int32)), (5, .int p0), (0, .ref (Ea E 21 0)), (1, .int p0), (2, .int p1), (3, .int p2), (4, .int p3)]) hx hb dX0_body_17 hl (by decide) rfl (fun ls hl => ?_)
    exact w_X0_body_19L hrec   C  _ _ _ _ _ _ h ls (lv_sub hl [2, 4, 5, 6, 1, 0] rfl) hf
  replace hf := it_f c2 hf
  refine lv_iconst (v := (0 : Int32)) hx hb dX0_body_11 (by decide) ?_
  replace hf := Option.some.inj hf
  subst hf
  exact r_ire C h dX0_body_12
theorem c_X0_body {l : Launch} {E : Ev} {σ : Ms} {ℓ : Mz} : ∀ (n : Nat) (τ : Mm) (a b x d : Int32) (out : Int32 × Mm), f_X0_body n τ a b x d = some out → Ct l yX0_body wsX0_body (rm_X0_body n) [.ref (Ea E 21 0), .int a, .int b, .int x, .int d] E (va_up σ 21 τ) ℓ (some (.int out.1)) (va_up σ 21 out.2) ℓ := by
  intro n
  induction n with
  | zero =>
    intro τ a b x d out hf
    cases (show (none : Option _) = some out from hf)
  | succ n ih =>
    intro τ a b x d out hf
    refine Ct_mk (cc := cX0_body) (mL := 8) (ret := (some .int)) (own := RX0) (by decide +kernel) rfl rfl (Nat.le_of_ble_eq_true rfl) (fun p e s m below meth c C h ls hl => ?_)
    exact w_X0_body_0 (n := n) ih C τ _ _ h ls (lv_sub hl [0, 1, 2, 3, 4] rfl) hf
theorem hdX0_does : yX0_does.cls = RX0 ∧ yX0_does.cls ≠ "java/lang/invoke/MethodHandle" ∧ yX0_does.cls ≠ "java/lang/invoke/VarHandle" ∧ (parseMethodDescriptor yX0_does.desc).map (fun d => d.parameters.length) = some 5 := by decide +kernel
def rm_X0_does : Room := { frames := 48, cells := 0, slots := 0, locals := 1887 }
set_option maxRecDepth 100000 in
theorem inX0_does_0 : ∀ w ∈ wsX00, w ∈ wsX0_does := fun _ h => List.mem_cons_of_mem _ (List.mem_append_right _ h)
set_option maxRecDepth 100000 in
theorem lkX0_does_15 : Cond.fieldLink RX0 15 "BellsBelow$Acts" "i" "I" ∈ wsX0_does := by decide +kernel
set_option maxRecDepth 100000 in
theorem lkX0_does_19 : Cond.fieldLink RX0 19 "BellsBelow$Acts" "v" "I" ∈ wsX0_does := by decide +kernel
set_option maxRecDepth 100000 in
theorem lkX0_does_22 : Cond.fieldLink RX0 22 "BellsBelow$Acts" "kind" "I" ∈ wsX0_does := by decide +kernel
set_option maxHeartbeats 4000000 in
set_option maxRecDepth 100000 in
theorem w_X0_does_0 {p : Program} {l : Launch} {e : Env} {s : State} {m : MethodId} {args : Array Value} {below : List Frame} {meth : Method} {c : Code} {E : Ev} {σ : Ms} {ℓ : Mz} {p0 : Int32} {p1 : Int32} {p2 : Int32} {p3 : Int32} {p4 : Int32} {out : Int32 × Mm}   (C : Cx cX0_does 6 (some .int) wsX0_does RX0 E p s m args meth c)  : ∀ (τ : Mm) (H : Heap) (locs : List Loc) (h : HI E (va_up σ 21 τ) ℓ s H locs) (ls : Array Slot) (hl : lv_has ls 6 [(0, .ref (Ea E 21 0)), (1, .int p0), (2, .int p1), (3, .int p2), (4, .int p3), (5, .int p4)]), f_X0_does_0 p0 p1 p2 p3 p4  τ = some out → W p l e rm_X0_does s m args below meth c H locs 0 0 (MQ below (Po E s.heap.size (some (.int out.1)) (va_up σ 21 out.2) ℓ) args s 0 0 (AA E s.heap.size)) (F0 m 0 ls []) := by
  intro τ H locs h ls hl hf
  unfold f_X0_does_0 at hf
  have C0 := C
  obtain ⟨hx, hb, hr, hml, hown, hts, hlk, hK, hSF⟩ := C0
  refine lv_aload_n hx hb dX0_does_0 rfl (lv_at hl 0 rfl) ?_
  refine lv_iload_n hx hb dX0_does_1 rfl (lv_at hl 1 rfl) ?_
  refine pf_0_2 C h (rfl : Kd 21 = 0) up_eq (F := fun t => va_up σ 21 t) (fun _ => up_up) inX0_does_0 lkX0_does_15 dX0_does_2 (fun τ1 eτ1 H locs h => ?_)
  replace hf := lt_use eτ1 hf
  clear eτ1
  refine lv_aload_n hx hb dX0_does_5 rfl (lv_at hl 0 rfl) ?_
  refine lv_iload_n hx hb dX0_does_6 rfl (lv_at hl 2 rfl) ?_
  refine pf_0_3 C h (rfl : Kd 21 = 0) up_eq (F := fun t => va_up σ 21 t) (fun _ => up_up) inX0_does_0 lkX0_does_19 dX0_does_7 (fun τ2 eτ2 H locs h => ?_)
  replace hf := lt_use eτ2 hf
  clear eτ2
  refine lv_aload_n hx hb dX0_does_10 rfl (lv_at hl 0 rfl) ?_
  refine lv_iload_n hx hb dX0_does_11 rfl (lv_at hl 3 rfl) ?_
  refine pf_0_4 C h (rfl : Kd 21 = 0) up_eq (F := fun t => va_up σ 21 t) (fun _ => up_up) inX0_does_0 lkX0_does_22 dX0_does_12 (fun τ3 eτ3 H locs h => ?_)
  replace hf := lt_use eτ3 hf
  clear eτ3
  refine lv_aload_n hx hb dX0_does_15 rfl (lv_at hl 0 rfl) ?_
  refine lv_aload_n hx hb dX0_does_16 rfl (lv_at hl 0 rfl) ?_
  refine gf_0_4 C h (rfl : Kd 21 = 0) up_eq inX0_does_0 lkX0_does_22 dX0_does_17 ?_
  refine lv_iload hx hb dX0_does_20 (lv_at hl 4 rfl) ?_
  refine lv_iload hx hb dX0_does_22 (lv_at hl 5 rfl) ?_
  refine lv_iconst (v := (0 : Int32)) hx hb dX0_does_24 (by decide) ?_
  obtain ⟨u4, hu4, hf⟩ := bd_use hf
  refine r_cv_0 (rest := []) C h (c_X0_body 45 _ _ _ _ _ _ hu4) (rfl : Kd 21 = 0) gX0_does_X0_body rfl ⟨rfl, rfl⟩ hdX0_body ⟨Nat.le_of_ble_eq_true rfl, Nat.le_of_ble_eq_true rfl⟩ ⟨Nat.zero_le _, Nat.zero_le _⟩ hl.1 rfl (Nat.le_of_ble_eq_true rfl) dX0_does_25 (fun H locs h => ?_)
  replace hf := Option.some.inj hf
  subst hf
  exact r_ire C h dX0_does_28
theorem c_X0_does {l : Launch} {E : Ev} {σ : Ms} {ℓ : Mz} {τ : Mm} {p0 : Int32} {p1 : Int32} {p2 : Int32} {p3 : Int32} {p4 : Int32} {out : Int32 × Mm} (hf : f_X0_does τ p0 p1 p2 p3 p4 = some out) : Ct l yX0_does wsX0_does rm_X0_does [.ref (Ea E 21 0), .int p0, .int p1, .int p2, .int p3, .int p4] E (va_up σ 21 τ) ℓ (some (.int out.1)) (va_up σ 21 out.2) ℓ := by
  refine Ct_mk (cc := cX0_does) (mL := 6) (ret := (some .int)) (own := RX0) (by decide +kernel) rfl rfl (Nat.le_of_ble_eq_true rfl) (fun p e s m below meth c C h ls hl => ?_)
  exact w_X0_does_0  C τ _ _ h ls (lv_sub hl [0, 1, 2, 3, 4, 5] rfl) hf
theorem k_X0_does {l : Launch} {E : Ev} {σ : Ms} {ℓ : Mz} {τ : Mm} {p0 : Int32} {p1 : Int32} {p2 : Int32} {p3 : Int32} {p4 : Int32} (hτ : σ 21 = τ) {out : Int32 × Mm} (hf : f_X0_does τ p0 p1 p2 p3 p4 = some out) : Ct l yX0_does wsX0_does rm_X0_does [.ref (Ea E 21 0), .int p0, .int p1, .int p2, .int p3, .int p4] E σ ℓ (some (.int out.1)) (va_up σ 21 out.2) ℓ := by
  subst hτ
  have h := c_X0_does (l := l) (E := E) (σ := σ) (ℓ := ℓ)  hf
  rw [up_id σ 21] at h
  exact h
theorem hdX8_copy : yX8_copy.cls ≠ "java/lang/invoke/MethodHandle" ∧ yX8_copy.cls ≠ "java/lang/invoke/VarHandle" ∧ (parseMethodDescriptor yX8_copy.desc).map (fun d => d.parameters.length) = some 2 := by decide +kernel
def rm_X8_copy_1_1 : Room := { frames := 1, cells := 0, slots := 0, locals := 60 }
set_option maxRecDepth 100000 in
theorem wdX8_copy_Cond_methodLink_RX8_284_Lib_Math_min_name : Cond.methodLink RX8 284 Lib.Math.min.name ∈ wsX8_copy := by decide +kernel
set_option maxRecDepth 100000 in
theorem wdX8_copy_Cond_static_Lib_Math_min_name : Cond.static Lib.Math.min.name ∈ wsX8_copy := by decide +kernel
set_option maxRecDepth 100000 in
theorem wdX8_copy_Cond_initialized__java_lang_Math_ : Cond.initialized "java/lang/Math" ∈ wsX8_copy := by decide +kernel
set_option maxRecDepth 100000 in
theorem wdX8_copy_Cond_code_Lib_Math_min_name_Lib_Math_min_code_2__some__int_ : Cond.code Lib.Math.min.name Lib.Math.min.code 2 (some .int) ∈ wsX8_copy := by decide +kernel
set_option maxRecDepth 100000 in
theorem wdX8_copy_Cond_methodLink_RX8_302_arraycopyName : Cond.methodLink RX8 302 arraycopyName ∈ wsX8_copy := by decide +kernel
set_option maxRecDepth 100000 in
theorem wdX8_copy_Cond_native_arraycopyName : Cond.native arraycopyName ∈ wsX8_copy := by decide +kernel
set_option maxRecDepth 100000 in
theorem wdX8_copy_Cond_static_arraycopyName : Cond.static arraycopyName ∈ wsX8_copy := by decide +kernel
set_option maxRecDepth 100000 in
theorem wdX8_copy_Cond_initialized__java_lang_System_ : Cond.initialized "java/lang/System" ∈ wsX8_copy := by decide +kernel
set_option maxHeartbeats 4000000 in
set_option maxRecDepth 100000 in
theorem w_X8_copy_1_1_0 {p : Program} {l : Launch} {e : Env} {s : State} {m : MethodId} {args : Array Value} {below : List Frame} {meth : Method} {c : Code} {E : Ev} {σ : Ms} {ℓ : Mz} {o : Nat} {j : Nat} {τo : Mm} {out : Mm} (ho : Kd o = 1) (hj : Kd j = 1) (hne : j ≠ o) (hτo : σ j = τo)   (C : Cx cX8_copy 2 none wsX8_copy RX8 E p s m args meth c)  : ∀ (τ : Mm) (H : Heap) (locs : List Loc) (h : HI E (va_up σ o τ) ℓ s H locs) (ls : Array Slot) (hl : lv_has ls 2 [(0, .ref (Ea E j 1)), (1, .ref (Ea E o 1))]), f_X8_copy_1_1_0 τo  τ = some out → W p l e rm_X8_copy_1_1 s m args below meth c H locs 0 0 (MQ below (Po E s.heap.size none (va_up σ o out) ℓ) args s 0 0 (AA E s.heap.size)) (F0 m 0 ls []) := by
  intro τ H locs h ls hl hf
  unfold f_X8_copy_1_1_0 at hf
  have C0 := C
  obtain ⟨hx, hb, hr, hml, hown, hts, hlk, hK, hSF⟩ := C0
  refine lv_aload_n hx hb dX8_copy_0 rfl (lv_at hl 0 rfl) ?_
  refine lv_iconst (v := (0 : Int32)) hx hb dX8_copy_1 (by decide) ?_
  refine lv_aload_n hx hb dX8_copy_2 rfl (lv_at hl 1 rfl) ?_
  refine lv_iconst (v := (0 : Int32)) hx hb dX8_copy_3 (by decide) ?_
  refine lv_aload_n hx hb dX8_copy_4 rfl (lv_at hl 0 rfl) ?_
  refine al_1_1 C h hj dX8_copy_5 ?_
  refine lv_aload_n hx hb dX8_copy_6 rfl (lv_at hl 1 rfl) ?_
  refine al_1_1 C h ho dX8_copy_7 ?_
  refine va_mmin hx hb (by rw [hml]; exact hl.1.symm) hown (hts _ wdX8_copy_Cond_methodLink_RX8_284_Lib_Math_min_name) (hts _ wdX8_copy_Cond_static_Lib_Math_min_name) (hts _ wdX8_copy_Cond_initialized__java_lang_Math_) (hts _ wdX8_copy_Cond_code_Lib_Math_min_name_Lib_Math_min_code_2__some__int_) (Nat.le_of_ble_eq_true rfl) (Nat.le_of_ble_eq_true rfl) (Nat.zero_le _) (Nat.zero_le _) dX8_copy_8 ?_
  obtain ⟨g1, hf⟩ := gd_use hf
  refine cp_1_1 C h ho up_eq (F := fun t => va_up σ o t) (fun _ => up_up) hj ((up_ne hne).trans hτo) hml hl.1 wdX8_copy_Cond_methodLink_RX8_302_arraycopyName wdX8_copy_Cond_native_arraycopyName wdX8_copy_Cond_static_arraycopyName wdX8_copy_Cond_initialized__java_lang_System_ g1 (Nat.le_of_ble_eq_true rfl) (Nat.le_of_ble_eq_true rfl) dX8_copy_11 (fun τ2 eτ2 H locs h => ?_)
  replace hf := lt_use eτ2 hf
  clear eτ2
  replace hf := Option.some.inj hf
  subst hf
  exact r_vre C h dX8_copy_14
theorem c_X8_copy_1_1 {l : Launch} {E : Ev} {σ : Ms} {ℓ : Mz} {o : Nat} {j : Nat} {τ : Mm} {τo : Mm} (ho : Kd o = 1) (hj : Kd j = 1) (hne : j ≠ o) (hτo : σ j = τo) {out : Mm} (hf : f_X8_copy_1_1 τ τo = some out) : Ct l yX8_copy wsX8_copy rm_X8_copy_1_1 [.ref (Ea E j 1), .ref (Ea E o 1)] E (va_up σ o τ) ℓ none (va_up σ o out) ℓ := by
  refine Ct_mk (cc := cX8_copy) (mL := 2) (ret := none) (own := RX8) (by decide +kernel) rfl rfl (Nat.le_of_ble_eq_true rfl) (fun p e s m below meth c C h ls hl => ?_)
  exact w_X8_copy_1_1_0 ho hj hne hτo C τ _ _ h ls (lv_sub hl [0, 1] rfl) hf
theorem k_X8_copy_1_1 {l : Launch} {E : Ev} {σ : Ms} {ℓ : Mz} {o : Nat} {j : Nat} {τ : Mm} {τo : Mm} (ho : Kd o = 1) (hj : Kd j = 1) (hne : j ≠ o) (hτ : σ o = τ) (hτo : σ j = τo) {out : Mm} (hf : f_X8_copy_1_1 τ τo = some out) : Ct l yX8_copy wsX8_copy rm_X8_copy_1_1 [.ref (Ea E j 1), .ref (Ea E o 1)] E σ ℓ none (va_up σ o out) ℓ := by
  subst hτ
  have h := c_X8_copy_1_1 (l := l) (E := E) (σ := σ) (ℓ := ℓ) ho hj hne hτo hf
  rw [up_id σ o] at h
  exact h
def rm_X8_copy_1_2 : Room := { frames := 1, cells := 0, slots := 0, locals := 60 }
set_option maxHeartbeats 4000000 in
set_option maxRecDepth 100000 in
theorem w_X8_copy_1_2_0 {p : Program} {l : Launch} {e : Env} {s : State} {m : MethodId} {args : Array Value} {below : List Frame} {meth : Method} {c : Code} {E : Ev} {σ : Ms} {ℓ : Mz} {o : Nat} {j : Nat} {τo : Mm} {out : Mm} (ho : Kd o = 1) (hj : Kd j = 1) (hne : j ≠ o) (hτo : σ j = τo)   (C : Cx cX8_copy 2 none wsX8_copy RX8 E p s m args meth c)  : ∀ (τ : Mm) (H : Heap) (locs : List Loc) (h : HI E (va_up σ o τ) ℓ s H locs) (ls : Array Slot) (hl : lv_has ls 2 [(0, .ref (Ea E j 2)), (1, .ref (Ea E o 2))]), f_X8_copy_1_2_0 τo  τ = some out → W p l e rm_X8_copy_1_2 s m args below meth c H locs 0 0 (MQ below (Po E s.heap.size none (va_up σ o out) ℓ) args s 0 0 (AA E s.heap.size)) (F0 m 0 ls []) := by
  intro τ H locs h ls hl hf
  unfold f_X8_copy_1_2_0 at hf
  have C0 := C
  obtain ⟨hx, hb, hr, hml, hown, hts, hlk, hK, hSF⟩ := C0
  refine lv_aload_n hx hb dX8_copy_0 rfl (lv_at hl 0 rfl) ?_
  refine lv_iconst (v := (0 : Int32)) hx hb dX8_copy_1 (by decide) ?_
  refine lv_aload_n hx hb dX8_copy_2 rfl (lv_at hl 1 rfl) ?_
  refine lv_iconst (v := (0 : Int32)) hx hb dX8_copy_3 (by decide) ?_
  refine lv_aload_n hx hb dX8_copy_4 rfl (lv_at hl 0 rfl) ?_
  refine al_1_2 C h hj dX8_copy_5 ?_
  refine lv_aload_n hx hb dX8_copy_6 rfl (lv_at hl 1 rfl) ?_
  refine al_1_2 C h ho dX8_copy_7 ?_
  refine va_mmin hx hb (by rw [hml]; exact hl.1.symm) hown (hts _ wdX8_copy_Cond_methodLink_RX8_284_Lib_Math_min_name) (hts _ wdX8_copy_Cond_static_Lib_Math_min_name) (hts _ wdX8_copy_Cond_initialized__java_lang_Math_) (hts _ wdX8_copy_Cond_code_Lib_Math_min_name_Lib_Math_min_code_2__some__int_) (Nat.le_of_ble_eq_true rfl) (Nat.le_of_ble_eq_true rfl) (Nat.zero_le _) (Nat.zero_le _) dX8_copy_8 ?_
  obtain ⟨g1, hf⟩ := gd_use hf
  refine cp_1_2 C h ho up_eq (F := fun t => va_up σ o t) (fun _ => up_up) hj ((up_ne hne).trans hτo) hml hl.1 wdX8_copy_Cond_methodLink_RX8_302_arraycopyName wdX8_copy_Cond_native_arraycopyName wdX8_copy_Cond_static_arraycopyName wdX8_copy_Cond_initialized__java_lang_System_ g1 (Nat.le_of_ble_eq_true rfl) (Nat.le_of_ble_eq_true rfl) dX8_copy_11 (fun τ2 eτ2 H locs h => ?_)
  replace hf := lt_use eτ2 hf
  clear eτ2
  replace hf := Option.some.inj hf
  subst hf
  exact r_vre C h dX8_copy_14
theorem c_X8_copy_1_2 {l : Launch} {E : Ev} {σ : Ms} {ℓ : Mz} {o : Nat} {j : Nat} {τ : Mm} {τo : Mm} (ho : Kd o = 1) (hj : Kd j = 1) (hne : j ≠ o) (hτo : σ j = τo) {out : Mm} (hf : f_X8_copy_1_2 τ τo = some out) : Ct l yX8_copy wsX8_copy rm_X8_copy_1_2 [.ref (Ea E j 2), .ref (Ea E o 2)] E (va_up σ o τ) ℓ none (va_up σ o out) ℓ := by
  refine Ct_mk (cc := cX8_copy) (mL := 2) (ret := none) (own := RX8) (by decide +kernel) rfl rfl (Nat.le_of_ble_eq_true rfl) (fun p e s m below meth c C h ls hl => ?_)
  exact w_X8_copy_1_2_0 ho hj hne hτo C τ _ _ h ls (lv_sub hl [0, 1] rfl) hf
theorem k_X8_copy_1_2 {l : Launch} {E : Ev} {σ : Ms} {ℓ : Mz} {o : Nat} {j : Nat} {τ : Mm} {τo : Mm} (ho : Kd o = 1) (hj : Kd j = 1) (hne : j ≠ o) (hτ : σ o = τ) (hτo : σ j = τo) {out : Mm} (hf : f_X8_copy_1_2 τ τo = some out) : Ct l yX8_copy wsX8_copy rm_X8_copy_1_2 [.ref (Ea E j 2), .ref (Ea E o 2)] E σ ℓ none (va_up σ o out) ℓ := by
  subst hτ
  have h := c_X8_copy_1_2 (l := l) (E := E) (σ := σ) (ℓ := ℓ) ho hj hne hτo hf
  rw [up_id σ o] at h
  exact h
def rm_X8_copy_1_3 : Room := { frames := 1, cells := 0, slots := 0, locals := 60 }
set_option maxHeartbeats 4000000 in
set_option maxRecDepth 100000 in
theorem w_X8_copy_1_3_0 {p : Program} {l : Launch} {e : Env} {s : State} {m : MethodId} {args : Array Value} {below : List Frame} {meth : Method} {c : Code} {E : Ev} {σ : Ms} {ℓ : Mz} {o : Nat} {j : Nat} {τo : Mm} {out : Mm} (ho : Kd o = 1) (hj : Kd j = 1) (hne : j ≠ o) (hτo : σ j = τo)   (C : Cx cX8_copy 2 none wsX8_copy RX8 E p s m args meth c)  : ∀ (τ : Mm) (H : Heap) (locs : List Loc) (h : HI E (va_up σ o τ) ℓ s H locs) (ls : Array Slot) (hl : lv_has ls 2 [(0, .ref (Ea E j 3)), (1, .ref (Ea E o 3))]), f_X8_copy_1_3_0 τo  τ = some out → W p l e rm_X8_copy_1_3 s m args below meth c H locs 0 0 (MQ below (Po E s.heap.size none (va_up σ o out) ℓ) args s 0 0 (AA E s.heap.size)) (F0 m 0 ls []) := by
  intro τ H locs h ls hl hf
  unfold f_X8_copy_1_3_0 at hf
  have C0 := C
  obtain ⟨hx, hb, hr, hml, hown, hts, hlk, hK, hSF⟩ := C0
  refine lv_aload_n hx hb dX8_copy_0 rfl (lv_at hl 0 rfl) ?_
  refine lv_iconst (v := (0 : Int32)) hx hb dX8_copy_1 (by decide) ?_
  refine lv_aload_n hx hb dX8_copy_2 rfl (lv_at hl 1 rfl) ?_
  refine lv_iconst (v := (0 : Int32)) hx hb dX8_copy_3 (by decide) ?_
  refine lv_aload_n hx hb dX8_copy_4 rfl (lv_at hl 0 rfl) ?_
  refine al_1_3 C h hj dX8_copy_5 ?_
  refine lv_aload_n hx hb dX8_copy_6 rfl (lv_at hl 1 rfl) ?_
  refine al_1_3 C h ho dX8_copy_7 ?_
  refine va_mmin hx hb (by rw [hml]; exact hl.1.symm) hown (hts _ wdX8_copy_Cond_methodLink_RX8_284_Lib_Math_min_name) (hts _ wdX8_copy_Cond_static_Lib_Math_min_name) (hts _ wdX8_copy_Cond_initialized__java_lang_Math_) (hts _ wdX8_copy_Cond_code_Lib_Math_min_name_Lib_Math_min_code_2__some__int_) (Nat.le_of_ble_eq_true rfl) (Nat.le_of_ble_eq_true rfl) (Nat.zero_le _) (Nat.zero_le _) dX8_copy_8 ?_
  obtain ⟨g1, hf⟩ := gd_use hf
  refine cp_1_3 C h ho up_eq (F := fun t => va_up σ o t) (fun _ => up_up) hj ((up_ne hne).trans hτo) hml hl.1 wdX8_copy_Cond_methodLink_RX8_302_arraycopyName wdX8_copy_Cond_native_arraycopyName wdX8_copy_Cond_static_arraycopyName wdX8_copy_Cond_initialized__java_lang_System_ g1 (Nat.le_of_ble_eq_true rfl) (Nat.le_of_ble_eq_true rfl) dX8_copy_11 (fun τ2 eτ2 H locs h => ?_)
  replace hf := lt_use eτ2 hf
  clear eτ2
  replace hf := Option.some.inj hf
  subst hf
  exact r_vre C h dX8_copy_14
theorem c_X8_copy_1_3 {l : Launch} {E : Ev} {σ : Ms} {ℓ : Mz} {o : Nat} {j : Nat} {τ : Mm} {τo : Mm} (ho : Kd o = 1) (hj : Kd j = 1) (hne : j ≠ o) (hτo : σ j = τo) {out : Mm} (hf : f_X8_copy_1_3 τ τo = some out) : Ct l yX8_copy wsX8_copy rm_X8_copy_1_3 [.ref (Ea E j 3), .ref (Ea E o 3)] E (va_up σ o τ) ℓ none (va_up σ o out) ℓ := by
  refine Ct_mk (cc := cX8_copy) (mL := 2) (ret := none) (own := RX8) (by decide +kernel) rfl rfl (Nat.le_of_ble_eq_true rfl) (fun p e s m below meth c C h ls hl => ?_)
  exact w_X8_copy_1_3_0 ho hj hne hτo C τ _ _ h ls (lv_sub hl [0, 1] rfl) hf
theorem k_X8_copy_1_3 {l : Launch} {E : Ev} {σ : Ms} {ℓ : Mz} {o : Nat} {j : Nat} {τ : Mm} {τo : Mm} (ho : Kd o = 1) (hj : Kd j = 1) (hne : j ≠ o) (hτ : σ o = τ) (hτo : σ j = τo) {out : Mm} (hf : f_X8_copy_1_3 τ τo = some out) : Ct l yX8_copy wsX8_copy rm_X8_copy_1_3 [.ref (Ea E j 3), .ref (Ea E o 3)] E σ ℓ none (va_up σ o out) ℓ := by
  subst hτ
  have h := c_X8_copy_1_3 (l := l) (E := E) (σ := σ) (ℓ := ℓ) ho hj hne hτo hf
  rw [up_id σ o] at h
  exact h
def rm_X8_copy_1_4 : Room := { frames := 1, cells := 0, slots := 0, locals := 60 }
set_option maxHeartbeats 4000000 in
set_option maxRecDepth 100000 in
theorem w_X8_copy_1_4_0 {p : Program} {l : Launch} {e : Env} {s : State} {m : MethodId} {args : Array Value} {below : List Frame} {meth : Method} {c : Code} {E : Ev} {σ : Ms} {ℓ : Mz} {o : Nat} {j : Nat} {τo : Mm} {out : Mm} (ho : Kd o = 1) (hj : Kd j = 1) (hne : j ≠ o) (hτo : σ j = τo)   (C : Cx cX8_copy 2 none wsX8_copy RX8 E p s m args meth c)  : ∀ (τ : Mm) (H : Heap) (locs : List Loc) (h : HI E (va_up σ o τ) ℓ s H locs) (ls : Array Slot) (hl : lv_has ls 2 [(0, .ref (Ea E j 4)), (1, .ref (Ea E o 4))]), f_X8_copy_1_4_0 τo  τ = some out → W p l e rm_X8_copy_1_4 s m args below meth c H locs 0 0 (MQ below (Po E s.heap.size none (va_up σ o out) ℓ) args s 0 0 (AA E s.heap.size)) (F0 m 0 ls []) := by
  intro τ H locs h ls hl hf
  unfold f_X8_copy_1_4_0 at hf
  have C0 := C
  obtain ⟨hx, hb, hr, hml, hown, hts, hlk, hK, hSF⟩ := C0
  refine lv_aload_n hx hb dX8_copy_0 rfl (lv_at hl 0 rfl) ?_
  refine lv_iconst (v := (0 : Int32)) hx hb dX8_copy_1 (by decide) ?_
  refine lv_aload_n hx hb dX8_copy_2 rfl (lv_at hl 1 rfl) ?_
  refine lv_iconst (v := (0 : Int32)) hx hb dX8_copy_3 (by decide) ?_
  refine lv_aload_n hx hb dX8_copy_4 rfl (lv_at hl 0 rfl) ?_
  refine al_1_4 C h hj dX8_copy_5 ?_
  refine lv_aload_n hx hb dX8_copy_6 rfl (lv_at hl 1 rfl) ?_
  refine al_1_4 C h ho dX8_copy_7 ?_
  refine va_mmin hx hb (by rw [hml]; exact hl.1.symm) hown (hts _ wdX8_copy_Cond_methodLink_RX8_284_Lib_Math_min_name) (hts _ wdX8_copy_Cond_static_Lib_Math_min_name) (hts _ wdX8_copy_Cond_initialized__java_lang_Math_) (hts _ wdX8_copy_Cond_code_Lib_Math_min_name_Lib_Math_min_code_2__some__int_) (Nat.le_of_ble_eq_true rfl) (Nat.le_of_ble_eq_true rfl) (Nat.zero_le _) (Nat.zero_le _) dX8_copy_8 ?_
  obtain ⟨g1, hf⟩ := gd_use hf
  refine cp_1_4 C h ho up_eq (F := fun t => va_up σ o t) (fun _ => up_up) hj ((up_ne hne).trans hτo) hml hl.1 wdX8_copy_Cond_methodLink_RX8_302_arraycopyName wdX8_copy_Cond_native_arraycopyName wdX8_copy_Cond_static_arraycopyName wdX8_copy_Cond_initialized__java_lang_System_ g1 (Nat.le_of_ble_eq_true rfl) (Nat.le_of_ble_eq_true rfl) dX8_copy_11 (fun τ2 eτ2 H locs h => ?_)
  replace hf := lt_use eτ2 hf
  clear eτ2
  replace hf := Option.some.inj hf
  subst hf
  exact r_vre C h dX8_copy_14
theorem c_X8_copy_1_4 {l : Launch} {E : Ev} {σ : Ms} {ℓ : Mz} {o : Nat} {j : Nat} {τ : Mm} {τo : Mm} (ho : Kd o = 1) (hj : Kd j = 1) (hne : j ≠ o) (hτo : σ j = τo) {out : Mm} (hf : f_X8_copy_1_4 τ τo = some out) : Ct l yX8_copy wsX8_copy rm_X8_copy_1_4 [.ref (Ea E j 4), .ref (Ea E o 4)] E (va_up σ o τ) ℓ none (va_up σ o out) ℓ := by
  refine Ct_mk (cc := cX8_copy) (mL := 2) (ret := none) (own := RX8) (by decide +kernel) rfl rfl (Nat.le_of_ble_eq_true rfl) (fun p e s m below meth c C h ls hl => ?_)
  exact w_X8_copy_1_4_0 ho hj hne hτo C τ _ _ h ls (lv_sub hl [0, 1] rfl) hf
theorem k_X8_copy_1_4 {l : Launch} {E : Ev} {σ : Ms} {ℓ : Mz} {o : Nat} {j : Nat} {τ : Mm} {τo : Mm} (ho : Kd o = 1) (hj : Kd j = 1) (hne : j ≠ o) (hτ : σ o = τ) (hτo : σ j = τo) {out : Mm} (hf : f_X8_copy_1_4 τ τo = some out) : Ct l yX8_copy wsX8_copy rm_X8_copy_1_4 [.ref (Ea E j 4), .ref (Ea E o 4)] E σ ℓ none (va_up σ o out) ℓ := by
  subst hτ
  have h := c_X8_copy_1_4 (l := l) (E := E) (σ := σ) (ℓ := ℓ) ho hj hne hτo hf
  rw [up_id σ o] at h
  exact h
def rm_X8_copy_1_5 : Room := { frames := 1, cells := 0, slots := 0, locals := 60 }
set_option maxHeartbeats 4000000 in
set_option maxRecDepth 100000 in
theorem w_X8_copy_1_5_0 {p : Program} {l : Launch} {e : Env} {s : State} {m : MethodId} {args : Array Value} {below : List Frame} {meth : Method} {c : Code} {E : Ev} {σ : Ms} {ℓ : Mz} {o : Nat} {j : Nat} {τo : Mm} {out : Mm} (ho : Kd o = 1) (hj : Kd j = 1) (hne : j ≠ o) (hτo : σ j = τo)   (C : Cx cX8_copy 2 none wsX8_copy RX8 E p s m args meth c)  : ∀ (τ : Mm) (H : Heap) (locs : List Loc) (h : HI E (va_up σ o τ) ℓ s H locs) (ls : Array Slot) (hl : lv_has ls 2 [(0, .ref (Ea E j 5)), (1, .ref (Ea E o 5))]), f_X8_copy_1_5_0 τo  τ = some out → W p l e rm_X8_copy_1_5 s m args below meth c H locs 0 0 (MQ below (Po E s.heap.size none (va_up σ o out) ℓ) args s 0 0 (AA E s.heap.size)) (F0 m 0 ls []) := by
  intro τ H locs h ls hl hf
  unfold f_X8_copy_1_5_0 at hf
  have C0 := C
  obtain ⟨hx, hb, hr, hml, hown, hts, hlk, hK, hSF⟩ := C0
  refine lv_aload_n hx hb dX8_copy_0 rfl (lv_at hl 0 rfl) ?_
  refine lv_iconst (v := (0 : Int32)) hx hb dX8_copy_1 (by decide) ?_
  refine lv_aload_n hx hb dX8_copy_2 rfl (lv_at hl 1 rfl) ?_
  refine lv_iconst (v := (0 : Int32)) hx hb dX8_copy_3 (by decide) ?_
  refine lv_aload_n hx hb dX8_copy_4 rfl (lv_at hl 0 rfl) ?_
  refine al_1_5 C h hj dX8_copy_5 ?_
  refine lv_aload_n hx hb dX8_copy_6 rfl (lv_at hl 1 rfl) ?_
  refine al_1_5 C h ho dX8_copy_7 ?_
  refine va_mmin hx hb (by rw [hml]; exact hl.1.symm) hown (hts _ wdX8_copy_Cond_methodLink_RX8_284_Lib_Math_min_name) (hts _ wdX8_copy_Cond_static_Lib_Math_min_name) (hts _ wdX8_copy_Cond_initialized__java_lang_Math_) (hts _ wdX8_copy_Cond_code_Lib_Math_min_name_Lib_Math_min_code_2__some__int_) (Nat.le_of_ble_eq_true rfl) (Nat.le_of_ble_eq_true rfl) (Nat.zero_le _) (Nat.zero_le _) dX8_copy_8 ?_
  obtain ⟨g1, hf⟩ := gd_use hf
  refine cp_1_5 C h ho up_eq (F := fun t => va_up σ o t) (fun _ => up_up) hj ((up_ne hne).trans hτo) hml hl.1 wdX8_copy_Cond_methodLink_RX8_302_arraycopyName wdX8_copy_Cond_native_arraycopyName wdX8_copy_Cond_static_arraycopyName wdX8_copy_Cond_initialized__java_lang_System_ g1 (Nat.le_of_ble_eq_true rfl) (Nat.le_of_ble_eq_true rfl) dX8_copy_11 (fun τ2 eτ2 H locs h => ?_)
  replace hf := lt_use eτ2 hf
  clear eτ2
  replace hf := Option.some.inj hf
  subst hf
  exact r_vre C h dX8_copy_14
theorem c_X8_copy_1_5 {l : Launch} {E : Ev} {σ : Ms} {ℓ : Mz} {o : Nat} {j : Nat} {τ : Mm} {τo : Mm} (ho : Kd o = 1) (hj : Kd j = 1) (hne : j ≠ o) (hτo : σ j = τo) {out : Mm} (hf : f_X8_copy_1_5 τ τo = some out) : Ct l yX8_copy wsX8_copy rm_X8_copy_1_5 [.ref (Ea E j 5), .ref (Ea E o 5)] E (va_up σ o τ) ℓ none (va_up σ o out) ℓ := by
  refine Ct_mk (cc := cX8_copy) (mL := 2) (ret := none) (own := RX8) (by decide +kernel) rfl rfl (Nat.le_of_ble_eq_true rfl) (fun p e s m below meth c C h ls hl => ?_)
  exact w_X8_copy_1_5_0 ho hj hne hτo C τ _ _ h ls (lv_sub hl [0, 1] rfl) hf
theorem k_X8_copy_1_5 {l : Launch} {E : Ev} {σ : Ms} {ℓ : Mz} {o : Nat} {j : Nat} {τ : Mm} {τo : Mm} (ho : Kd o = 1) (hj : Kd j = 1) (hne : j ≠ o) (hτ : σ o = τ) (hτo : σ j = τo) {out : Mm} (hf : f_X8_copy_1_5 τ τo = some out) : Ct l yX8_copy wsX8_copy rm_X8_copy_1_5 [.ref (Ea E j 5), .ref (Ea E o 5)] E σ ℓ none (va_up σ o out) ℓ := by
  subst hτ
  have h := c_X8_copy_1_5 (l := l) (E := E) (σ := σ) (ℓ := ℓ) ho hj hne hτo hf
  rw [up_id σ o] at h
  exact h
def rm_X8_copy_1_6 : Room := { frames := 1, cells := 0, slots := 0, locals := 60 }
set_option maxHeartbeats 4000000 in
set_option maxRecDepth 100000 in
theorem w_X8_copy_1_6_0 {p : Program} {l : Launch} {e : Env} {s : State} {m : MethodId} {args : Array Value} {below : List Frame} {meth : Method} {c : Code} {E : Ev} {σ : Ms} {ℓ : Mz} {o : Nat} {j : Nat} {τo : Mm} {out : Mm} (ho : Kd o = 1) (hj : Kd j = 1) (hne : j ≠ o) (hτo : σ j = τo)   (C : Cx cX8_copy 2 none wsX8_copy RX8 E p s m args meth c)  : ∀ (τ : Mm) (H : Heap) (locs : List Loc) (h : HI E (va_up σ o τ) ℓ s H locs) (ls : Array Slot) (hl : lv_has ls 2 [(0, .ref (Ea E j 6)), (1, .ref (Ea E o 6))]), f_X8_copy_1_6_0 τo  τ = some out → W p l e rm_X8_copy_1_6 s m args below meth c H locs 0 0 (MQ below (Po E s.heap.size none (va_up σ o out) ℓ) args s 0 0 (AA E s.heap.size)) (F0 m 0 ls []) := by
  intro τ H locs h ls hl hf
  unfold f_X8_copy_1_6_0 at hf
  have C0 := C
  obtain ⟨hx, hb, hr, hml, hown, hts, hlk, hK, hSF⟩ := C0
  refine lv_aload_n hx hb dX8_copy_0 rfl (lv_at hl 0 rfl) ?_
  refine lv_iconst (v := (0 : Int32)) hx hb dX8_copy_1 (by decide) ?_
  refine lv_aload_n hx hb dX8_copy_2 rfl (lv_at hl 1 rfl) ?_
  refine lv_iconst (v := (0 : Int32)) hx hb dX8_copy_3 (by decide) ?_
  refine lv_aload_n hx hb dX8_copy_4 rfl (lv_at hl 0 rfl) ?_
  refine al_1_6 C h hj dX8_copy_5 ?_
  refine lv_aload_n hx hb dX8_copy_6 rfl (lv_at hl 1 rfl) ?_
  refine al_1_6 C h ho dX8_copy_7 ?_
  refine va_mmin hx hb (by rw [hml]; exact hl.1.symm) hown (hts _ wdX8_copy_Cond_methodLink_RX8_284_Lib_Math_min_name) (hts _ wdX8_copy_Cond_static_Lib_Math_min_name) (hts _ wdX8_copy_Cond_initialized__java_lang_Math_) (hts _ wdX8_copy_Cond_code_Lib_Math_min_name_Lib_Math_min_code_2__some__int_) (Nat.le_of_ble_eq_true rfl) (Nat.le_of_ble_eq_true rfl) (Nat.zero_le _) (Nat.zero_le _) dX8_copy_8 ?_
  obtain ⟨g1, hf⟩ := gd_use hf
  refine cp_1_6 C h ho up_eq (F := fun t => va_up σ o t) (fun _ => up_up) hj ((up_ne hne).trans hτo) hml hl.1 wdX8_copy_Cond_methodLink_RX8_302_arraycopyName wdX8_copy_Cond_native_arraycopyName wdX8_copy_Cond_static_arraycopyName wdX8_copy_Cond_initialized__java_lang_System_ g1 (Nat.le_of_ble_eq_true rfl) (Nat.le_of_ble_eq_true rfl) dX8_copy_11 (fun τ2 eτ2 H locs h => ?_)
  replace hf := lt_use eτ2 hf
  clear eτ2
  replace hf := Option.some.inj hf
  subst hf
  exact r_vre C h dX8_copy_14
theorem c_X8_copy_1_6 {l : Launch} {E : Ev} {σ : Ms} {ℓ : Mz} {o : Nat} {j : Nat} {τ : Mm} {τo : Mm} (ho : Kd o = 1) (hj : Kd j = 1) (hne : j ≠ o) (hτo : σ j = τo) {out : Mm} (hf : f_X8_copy_1_6 τ τo = some out) : Ct l yX8_copy wsX8_copy rm_X8_copy_1_6 [.ref (Ea E j 6), .ref (Ea E o 6)] E (va_up σ o τ) ℓ none (va_up σ o out) ℓ := by
  refine Ct_mk (cc := cX8_copy) (mL := 2) (ret := none) (own := RX8) (by decide +kernel) rfl rfl (Nat.le_of_ble_eq_true rfl) (fun p e s m below meth c C h ls hl => ?_)
  exact w_X8_copy_1_6_0 ho hj hne hτo C τ _ _ h ls (lv_sub hl [0, 1] rfl) hf
theorem k_X8_copy_1_6 {l : Launch} {E : Ev} {σ : Ms} {ℓ : Mz} {o : Nat} {j : Nat} {τ : Mm} {τo : Mm} (ho : Kd o = 1) (hj : Kd j = 1) (hne : j ≠ o) (hτ : σ o = τ) (hτo : σ j = τo) {out : Mm} (hf : f_X8_copy_1_6 τ τo = some out) : Ct l yX8_copy wsX8_copy rm_X8_copy_1_6 [.ref (Ea E j 6), .ref (Ea E o 6)] E σ ℓ none (va_up σ o out) ℓ := by
  subst hτ
  have h := c_X8_copy_1_6 (l := l) (E := E) (σ := σ) (ℓ := ℓ) ho hj hne hτo hf
  rw [up_id σ o] at h
  exact h
def rm_X8_copy_1_7 : Room := { frames := 1, cells := 0, slots := 0, locals := 60 }
set_option maxHeartbeats 4000000 in
set_option maxRecDepth 100000 in
theorem w_X8_copy_1_7_0 {p : Program} {l : Launch} {e : Env} {s : State} {m : MethodId} {args : Array Value} {below : List Frame} {meth : Method} {c : Code} {E : Ev} {σ : Ms} {ℓ : Mz} {o : Nat} {j : Nat} {τo : Mm} {out : Mm} (ho : Kd o = 1) (hj : Kd j = 1) (hne : j ≠ o) (hτo : σ j = τo)   (C : Cx cX8_copy 2 none wsX8_copy RX8 E p s m args meth c)  : ∀ (τ : Mm) (H : Heap) (locs : List Loc) (h : HI E (va_up σ o τ) ℓ s H locs) (ls : Array Slot) (hl : lv_has ls 2 [(0, .ref (Ea E j 7)), (1, .ref (Ea E o 7))]), f_X8_copy_1_7_0 τo  τ = some out → W p l e rm_X8_copy_1_7 s m args below meth c H locs 0 0 (MQ below (Po E s.heap.size none (va_up σ o out) ℓ) args s 0 0 (AA E s.heap.size)) (F0 m 0 ls []) := by
  intro τ H locs h ls hl hf
  unfold f_X8_copy_1_7_0 at hf
  have C0 := C
  obtain ⟨hx, hb, hr, hml, hown, hts, hlk, hK, hSF⟩ := C0
  refine lv_aload_n hx hb dX8_copy_0 rfl (lv_at hl 0 rfl) ?_
  refine lv_iconst (v := (0 : Int32)) hx hb dX8_copy_1 (by decide) ?_
  refine lv_aload_n hx hb dX8_copy_2 rfl (lv_at hl 1 rfl) ?_
  refine lv_iconst (v := (0 : Int32)) hx hb dX8_copy_3 (by decide) ?_
  refine lv_aload_n hx hb dX8_copy_4 rfl (lv_at hl 0 rfl) ?_
  refine al_1_7 C h hj dX8_copy_5 ?_
  refine lv_aload_n hx hb dX8_copy_6 rfl (lv_at hl 1 rfl) ?_
  refine al_1_7 C h ho dX8_copy_7 ?_
  refine va_mmin hx hb (by rw [hml]; exact hl.1.symm) hown (hts _ wdX8_copy_Cond_methodLink_RX8_284_Lib_Math_min_name) (hts _ wdX8_copy_Cond_static_Lib_Math_min_name) (hts _ wdX8_copy_Cond_initialized__java_lang_Math_) (hts _ wdX8_copy_Cond_code_Lib_Math_min_name_Lib_Math_min_code_2__some__int_) (Nat.le_of_ble_eq_true rfl) (Nat.le_of_ble_eq_true rfl) (Nat.zero_le _) (Nat.zero_le _) dX8_copy_8 ?_
  obtain ⟨g1, hf⟩ := gd_use hf
  refine cp_1_7 C h ho up_eq (F := fun t => va_up σ o t) (fun _ => up_up) hj ((up_ne hne).trans hτo) hml hl.1 wdX8_copy_Cond_methodLink_RX8_302_arraycopyName wdX8_copy_Cond_native_arraycopyName wdX8_copy_Cond_static_arraycopyName wdX8_copy_Cond_initialized__java_lang_System_ g1 (Nat.le_of_ble_eq_true rfl) (Nat.le_of_ble_eq_true rfl) dX8_copy_11 (fun τ2 eτ2 H locs h => ?_)
  replace hf := lt_use eτ2 hf
  clear eτ2
  replace hf := Option.some.inj hf
  subst hf
  exact r_vre C h dX8_copy_14
theorem c_X8_copy_1_7 {l : Launch} {E : Ev} {σ : Ms} {ℓ : Mz} {o : Nat} {j : Nat} {τ : Mm} {τo : Mm} (ho : Kd o = 1) (hj : Kd j = 1) (hne : j ≠ o) (hτo : σ j = τo) {out : Mm} (hf : f_X8_copy_1_7 τ τo = some out) : Ct l yX8_copy wsX8_copy rm_X8_copy_1_7 [.ref (Ea E j 7), .ref (Ea E o 7)] E (va_up σ o τ) ℓ none (va_up σ o out) ℓ := by
  refine Ct_mk (cc := cX8_copy) (mL := 2) (ret := none) (own := RX8) (by decide +kernel) rfl rfl (Nat.le_of_ble_eq_true rfl) (fun p e s m below meth c C h ls hl => ?_)
  exact w_X8_copy_1_7_0 ho hj hne hτo C τ _ _ h ls (lv_sub hl [0, 1] rfl) hf
theorem k_X8_copy_1_7 {l : Launch} {E : Ev} {σ : Ms} {ℓ : Mz} {o : Nat} {j : Nat} {τ : Mm} {τo : Mm} (ho : Kd o = 1) (hj : Kd j = 1) (hne : j ≠ o) (hτ : σ o = τ) (hτo : σ j = τo) {out : Mm} (hf : f_X8_copy_1_7 τ τo = some out) : Ct l yX8_copy wsX8_copy rm_X8_copy_1_7 [.ref (Ea E j 7), .ref (Ea E o 7)] E σ ℓ none (va_up σ o out) ℓ := by
  subst hτ
  have h := c_X8_copy_1_7 (l := l) (E := E) (σ := σ) (ℓ := ℓ) ho hj hne hτo hf
  rw [up_id σ o] at h
  exact h
def rm_X8_copy_1_8 : Room := { frames := 1, cells := 0, slots := 0, locals := 60 }
set_option maxHeartbeats 4000000 in
set_option maxRecDepth 100000 in
theorem w_X8_copy_1_8_0 {p : Program} {l : Launch} {e : Env} {s : State} {m : MethodId} {args : Array Value} {below : List Frame} {meth : Method} {c : Code} {E : Ev} {σ : Ms} {ℓ : Mz} {o : Nat} {j : Nat} {τo : Mm} {out : Mm} (ho : Kd o = 1) (hj : Kd j = 1) (hne : j ≠ o) (hτo : σ j = τo)   (C : Cx cX8_copy 2 none wsX8_copy RX8 E p s m args meth c)  : ∀ (τ : Mm) (H : Heap) (locs : List Loc) (h : HI E (va_up σ o τ) ℓ s H locs) (ls : Array Slot) (hl : lv_has ls 2 [(0, .ref (Ea E j 8)), (1, .ref (Ea E o 8))]), f_X8_copy_1_8_0 τo  τ = some out → W p l e rm_X8_copy_1_8 s m args below meth c H locs 0 0 (MQ below (Po E s.heap.size none (va_up σ o out) ℓ) args s 0 0 (AA E s.heap.size)) (F0 m 0 ls []) := by
  intro τ H locs h ls hl hf
  unfold f_X8_copy_1_8_0 at hf
  have C0 := C
  obtain ⟨hx, hb, hr, hml, hown, hts, hlk, hK, hSF⟩ := C0
  refine lv_aload_n hx hb dX8_copy_0 rfl (lv_at hl 0 rfl) ?_
  refine lv_iconst (v := (0 : Int32)) hx hb dX8_copy_1 (by decide) ?_
  refine lv_aload_n hx hb dX8_copy_2 rfl (lv_at hl 1 rfl) ?_
  refine lv_iconst (v := (0 : Int32)) hx hb dX8_copy_3 (by decide) ?_
  refine lv_aload_n hx hb dX8_copy_4 rfl (lv_at hl 0 rfl) ?_
  refine al_1_8 C h hj dX8_copy_5 ?_
  refine lv_aload_n hx hb dX8_copy_6 rfl (lv_at hl 1 rfl) ?_
  refine al_1_8 C h ho dX8_copy_7 ?_
  refine va_mmin hx hb (by rw [hml]; exact hl.1.symm) hown (hts _ wdX8_copy_Cond_methodLink_RX8_284_Lib_Math_min_name) (hts _ wdX8_copy_Cond_static_Lib_Math_min_name) (hts _ wdX8_copy_Cond_initialized__java_lang_Math_) (hts _ wdX8_copy_Cond_code_Lib_Math_min_name_Lib_Math_min_code_2__some__int_) (Nat.le_of_ble_eq_true rfl) (Nat.le_of_ble_eq_true rfl) (Nat.zero_le _) (Nat.zero_le _) dX8_copy_8 ?_
  obtain ⟨g1, hf⟩ := gd_use hf
  refine cp_1_8 C h ho up_eq (F := fun t => va_up σ o t) (fun _ => up_up) hj ((up_ne hne).trans hτo) hml hl.1 wdX8_copy_Cond_methodLink_RX8_302_arraycopyName wdX8_copy_Cond_native_arraycopyName wdX8_copy_Cond_static_arraycopyName wdX8_copy_Cond_initialized__java_lang_System_ g1 (Nat.le_of_ble_eq_true rfl) (Nat.le_of_ble_eq_true rfl) dX8_copy_11 (fun τ2 eτ2 H locs h => ?_)
  replace hf := lt_use eτ2 hf
  clear eτ2
  replace hf := Option.some.inj hf
  subst hf
  exact r_vre C h dX8_copy_14
theorem c_X8_copy_1_8 {l : Launch} {E : Ev} {σ : Ms} {ℓ : Mz} {o : Nat} {j : Nat} {τ : Mm} {τo : Mm} (ho : Kd o = 1) (hj : Kd j = 1) (hne : j ≠ o) (hτo : σ j = τo) {out : Mm} (hf : f_X8_copy_1_8 τ τo = some out) : Ct l yX8_copy wsX8_copy rm_X8_copy_1_8 [.ref (Ea E j 8), .ref (Ea E o 8)] E (va_up σ o τ) ℓ none (va_up σ o out) ℓ := by
  refine Ct_mk (cc := cX8_copy) (mL := 2) (ret := none) (own := RX8) (by decide +kernel) rfl rfl (Nat.le_of_ble_eq_true rfl) (fun p e s m below meth c C h ls hl => ?_)
  exact w_X8_copy_1_8_0 ho hj hne hτo C τ _ _ h ls (lv_sub hl [0, 1] rfl) hf
theorem k_X8_copy_1_8 {l : Launch} {E : Ev} {σ : Ms} {ℓ : Mz} {o : Nat} {j : Nat} {τ : Mm} {τo : Mm} (ho : Kd o = 1) (hj : Kd j = 1) (hne : j ≠ o) (hτ : σ o = τ) (hτo : σ j = τo) {out : Mm} (hf : f_X8_copy_1_8 τ τo = some out) : Ct l yX8_copy wsX8_copy rm_X8_copy_1_8 [.ref (Ea E j 8), .ref (Ea E o 8)] E σ ℓ none (va_up σ o out) ℓ := by
  subst hτ
  have h := c_X8_copy_1_8 (l := l) (E := E) (σ := σ) (ℓ := ℓ) ho hj hne hτo hf
  rw [up_id σ o] at h
  exact h
def rm_X8_copy_1_9 : Room := { frames := 1, cells := 0, slots := 0, locals := 60 }
set_option maxHeartbeats 4000000 in
set_option maxRecDepth 100000 in
theorem w_X8_copy_1_9_0 {p : Program} {l : Launch} {e : Env} {s : State} {m : MethodId} {args : Array Value} {below : List Frame} {meth : Method} {c : Code} {E : Ev} {σ : Ms} {ℓ : Mz} {o : Nat} {j : Nat} {τo : Mm} {out : Mm} (ho : Kd o = 1) (hj : Kd j = 1) (hne : j ≠ o) (hτo : σ j = τo)   (C : Cx cX8_copy 2 none wsX8_copy RX8 E p s m args meth c)  : ∀ (τ : Mm) (H : Heap) (locs : List Loc) (h : HI E (va_up σ o τ) ℓ s H locs) (ls : Array Slot) (hl : lv_has ls 2 [(0, .ref (Ea E j 9)), (1, .ref (Ea E o 9))]), f_X8_copy_1_9_0 τo  τ = some out → W p l e rm_X8_copy_1_9 s m args below meth c H locs 0 0 (MQ below (Po E s.heap.size none (va_up σ o out) ℓ) args s 0 0 (AA E s.heap.size)) (F0 m 0 ls []) := by
  intro τ H locs h ls hl hf
  unfold f_X8_copy_1_9_0 at hf
  have C0 := C
  obtain ⟨hx, hb, hr, hml, hown, hts, hlk, hK, hSF⟩ := C0
  refine lv_aload_n hx hb dX8_copy_0 rfl (lv_at hl 0 rfl) ?_
  refine lv_iconst (v := (0 : Int32)) hx hb dX8_copy_1 (by decide) ?_
  refine lv_aload_n hx hb dX8_copy_2 rfl (lv_at hl 1 rfl) ?_
  refine lv_iconst (v := (0 : Int32)) hx hb dX8_copy_3 (by decide) ?_
  refine lv_aload_n hx hb dX8_copy_4 rfl (lv_at hl 0 rfl) ?_
  refine al_1_9 C h hj dX8_copy_5 ?_
  refine lv_aload_n hx hb dX8_copy_6 rfl (lv_at hl 1 rfl) ?_
  refine al_1_9 C h ho dX8_copy_7 ?_
  refine va_mmin hx hb (by rw [hml]; exact hl.1.symm) hown (hts _ wdX8_copy_Cond_methodLink_RX8_284_Lib_Math_min_name) (hts _ wdX8_copy_Cond_static_Lib_Math_min_name) (hts _ wdX8_copy_Cond_initialized__java_lang_Math_) (hts _ wdX8_copy_Cond_code_Lib_Math_min_name_Lib_Math_min_code_2__some__int_) (Nat.le_of_ble_eq_true rfl) (Nat.le_of_ble_eq_true rfl) (Nat.zero_le _) (Nat.zero_le _) dX8_copy_8 ?_
  obtain ⟨g1, hf⟩ := gd_use hf
  refine cp_1_9 C h ho up_eq (F := fun t => va_up σ o t) (fun _ => up_up) hj ((up_ne hne).trans hτo) hml hl.1 wdX8_copy_Cond_methodLink_RX8_302_arraycopyName wdX8_copy_Cond_native_arraycopyName wdX8_copy_Cond_static_arraycopyName wdX8_copy_Cond_initialized__java_lang_System_ g1 (Nat.le_of_ble_eq_true rfl) (Nat.le_of_ble_eq_true rfl) dX8_copy_11 (fun τ2 eτ2 H locs h => ?_)
  replace hf := lt_use eτ2 hf
  clear eτ2
  replace hf := Option.some.inj hf
  subst hf
  exact r_vre C h dX8_copy_14
theorem c_X8_copy_1_9 {l : Launch} {E : Ev} {σ : Ms} {ℓ : Mz} {o : Nat} {j : Nat} {τ : Mm} {τo : Mm} (ho : Kd o = 1) (hj : Kd j = 1) (hne : j ≠ o) (hτo : σ j = τo) {out : Mm} (hf : f_X8_copy_1_9 τ τo = some out) : Ct l yX8_copy wsX8_copy rm_X8_copy_1_9 [.ref (Ea E j 9), .ref (Ea E o 9)] E (va_up σ o τ) ℓ none (va_up σ o out) ℓ := by
  refine Ct_mk (cc := cX8_copy) (mL := 2) (ret := none) (own := RX8) (by decide +kernel) rfl rfl (Nat.le_of_ble_eq_true rfl) (fun p e s m below meth c C h ls hl => ?_)
  exact w_X8_copy_1_9_0 ho hj hne hτo C τ _ _ h ls (lv_sub hl [0, 1] rfl) hf
theorem k_X8_copy_1_9 {l : Launch} {E : Ev} {σ : Ms} {ℓ : Mz} {o : Nat} {j : Nat} {τ : Mm} {τo : Mm} (ho : Kd o = 1) (hj : Kd j = 1) (hne : j ≠ o) (hτ : σ o = τ) (hτo : σ j = τo) {out : Mm} (hf : f_X8_copy_1_9 τ τo = some out) : Ct l yX8_copy wsX8_copy rm_X8_copy_1_9 [.ref (Ea E j 9), .ref (Ea E o 9)] E σ ℓ none (va_up σ o out) ℓ := by
  subst hτ
  have h := c_X8_copy_1_9 (l := l) (E := E) (σ := σ) (ℓ := ℓ) ho hj hne hτo hf
  rw [up_id σ o] at h
  exact h
theorem hdX1_copies : yX1_copies.cls = RX1 ∧ yX1_copies.cls ≠ "java/lang/invoke/MethodHandle" ∧ yX1_copies.cls ≠ "java/lang/invoke/VarHandle" ∧ (parseMethodDescriptor yX1_copies.desc).map (fun d => d.parameters.length) = some 1 := by decide +kernel
def rm_X1_copies : Room := { frames := 2, cells := 0, slots := 0, locals := 81 }
set_option maxRecDepth 100000 in
theorem inX1_copies_1 : ∀ w ∈ wsX10, w ∈ wsX1_copies := fun _ h => List.mem_cons_of_mem _ (List.mem_append_right _ h)
set_option maxRecDepth 100000 in
theorem lkX1_copies_9 : Cond.fieldLink RX1 9 "BellsBelow$Hall" "kind" "[I" ∈ wsX1_copies := by decide +kernel
set_option maxRecDepth 100000 in
theorem wdX1_copies_Cond_static_yX8_copy : Cond.static yX8_copy ∈ wsX1_copies := by decide +kernel
set_option maxRecDepth 100000 in
theorem wdX1_copies_Cond_initialized_RX8 : Cond.initialized RX8 ∈ wsX1_copies := by decide +kernel
set_option maxRecDepth 100000 in
theorem lkX1_copies_15 : Cond.fieldLink RX1 15 "BellsBelow$Hall" "v" "[I" ∈ wsX1_copies := by decide +kernel
set_option maxRecDepth 100000 in
theorem lkX1_copies_18 : Cond.fieldLink RX1 18 "BellsBelow$Hall" "floor" "[I" ∈ wsX1_copies := by decide +kernel
set_option maxRecDepth 100000 in
theorem lkX1_copies_21 : Cond.fieldLink RX1 21 "BellsBelow$Hall" "goal" "[I" ∈ wsX1_copies := by decide +kernel
set_option maxRecDepth 100000 in
theorem lkX1_copies_24 : Cond.fieldLink RX1 24 "BellsBelow$Hall" "rests" "[I" ∈ wsX1_copies := by decide +kernel
set_option maxRecDepth 100000 in
theorem lkX1_copies_27 : Cond.fieldLink RX1 27 "BellsBelow$Hall" "gone" "[I" ∈ wsX1_copies := by decide +kernel
set_option maxRecDepth 100000 in
theorem lkX1_copies_30 : Cond.fieldLink RX1 30 "BellsBelow$Hall" "came" "[I" ∈ wsX1_copies := by decide +kernel
set_option maxRecDepth 100000 in
theorem lkX1_copies_33 : Cond.fieldLink RX1 33 "BellsBelow$Hall" "rows" "[I" ∈ wsX1_copies := by decide +kernel
set_option maxRecDepth 100000 in
theorem lkX1_copies_36 : Cond.fieldLink RX1 36 "BellsBelow$Hall" "wires" "[I" ∈ wsX1_copies := by decide +kernel
set_option maxRecDepth 100000 in
theorem lkX1_copies_53 : Cond.fieldLink RX1 53 "BellsBelow$Hall" "many" "I" ∈ wsX1_copies := by decide +kernel
set_option maxRecDepth 100000 in
theorem lkX1_copies_56 : Cond.fieldLink RX1 56 "BellsBelow$Hall" "rung" "I" ∈ wsX1_copies := by decide +kernel
set_option maxRecDepth 100000 in
theorem lkX1_copies_59 : Cond.fieldLink RX1 59 "BellsBelow$Hall" "waited" "I" ∈ wsX1_copies := by decide +kernel
set_option maxRecDepth 100000 in
theorem lkX1_copies_62 : Cond.fieldLink RX1 62 "BellsBelow$Hall" "minute" "I" ∈ wsX1_copies := by decide +kernel
set_option maxRecDepth 100000 in
theorem lkX1_copies_65 : Cond.fieldLink RX1 65 "BellsBelow$Hall" "holding" "LBellsBelow$House;" ∈ wsX1_copies := by decide +kernel
set_option maxHeartbeats 4000000 in
set_option maxRecDepth 100000 in
theorem w_X1_copies_0 {p : Program} {l : Launch} {e : Env} {s : State} {m : MethodId} {args : Array Value} {below : List Frame} {meth : Method} {c : Code} {E : Ev} {σ : Ms} {ℓ : Mz} {o : Nat} {j : Nat} {τo : Mm} {out : Mm} (ho : Kd o = 1) (hj : Kd j = 1) (hne : j ≠ o) (hτo : σ j = τo)   (C : Cx cX1_copies 2 none wsX1_copies RX1 E p s m args meth c)  : ∀ (τ : Mm) (H : Heap) (locs : List Loc) (h : HI E (va_up σ o τ) ℓ s H locs) (ls : Array Slot) (hl : lv_has ls 2 [(0, .ref (Ea E o 0)), (1, .ref (Ea E j 0))]), f_X1_copies_0 τo  τ = some out → W p l e rm_X1_copies s m args below meth c H locs 0 0 (MQ below (Po E s.heap.size none (va_up σ o out) ℓ) args s 0 0 (AA E s.heap.size)) (F0 m 0 ls []) := by
  intro τ H locs h ls hl hf
  unfold f_X1_copies_0 at hf
  have C0 := C
  obtain ⟨hx, hb, hr, hml, hown, hts, hlk, hK, hSF⟩ := C0
  refine lv_aload_n hx hb dX1_copies_0 rfl (lv_at hl 1 rfl) ?_
  refine gf_1_2 C h hj ((up_ne hne).trans hτo) inX1_copies_1 lkX1_copies_9 dX1_copies_1 ?_
  refine lv_aload_n hx hb dX1_copies_4 rfl (lv_at hl 0 rfl) ?_
  refine gf_1_2 C h ho up_eq inX1_copies_1 lkX1_copies_9 dX1_copies_5 ?_
  obtain ⟨u1, hu1, hf⟩ := bd_use hf
  refine r_csN (rest := []) C h (c_X8_copy_1_1 ho hj hne hτo hu1) ggX1_copies_X8_copy rfl ⟨rfl, rfl⟩ (hSF.2.2.2.2.2.2.1) (hts _ wdX1_copies_Cond_static_yX8_copy) (hts _ wdX1_copies_Cond_initialized_RX8) hdX8_copy ⟨Nat.le_of_ble_eq_true rfl, Nat.le_of_ble_eq_true rfl⟩ ⟨Nat.zero_le _, Nat.zero_le _⟩ hl.1 rfl (Nat.le_of_ble_eq_true rfl) dX1_copies_8 (fun H locs h => ?_)
  refine lv_aload_n hx hb dX1_copies_11 rfl (lv_at hl 1 rfl) ?_
  refine gf_1_3 C h hj ((up_ne hne).trans hτo) inX1_copies_1 lkX1_copies_15 dX1_copies_12 ?_
  refine lv_aload_n hx hb dX1_copies_15 rfl (lv_at hl 0 rfl) ?_
  refine gf_1_3 C h ho up_eq inX1_copies_1 lkX1_copies_15 dX1_copies_16 ?_
  obtain ⟨u2, hu2, hf⟩ := bd_use hf
  refine r_csN (rest := []) C h (c_X8_copy_1_2 ho hj hne hτo hu2) ggX1_copies_X8_copy rfl ⟨rfl, rfl⟩ (hSF.2.2.2.2.2.2.1) (hts _ wdX1_copies_Cond_static_yX8_copy) (hts _ wdX1_copies_Cond_initialized_RX8) hdX8_copy ⟨Nat.le_of_ble_eq_true rfl, Nat.le_of_ble_eq_true rfl⟩ ⟨Nat.zero_le _, Nat.zero_le _⟩ hl.1 rfl (Nat.le_of_ble_eq_true rfl) dX1_copies_19 (fun H locs h => ?_)
  refine lv_aload_n hx hb dX1_copies_22 rfl (lv_at hl 1 rfl) ?_
  refine gf_1_4 C h hj ((up_ne hne).trans hτo) inX1_copies_1 lkX1_copies_18 dX1_copies_23 ?_
  refine lv_aload_n hx hb dX1_copies_26 rfl (lv_at hl 0 rfl) ?_
  refine gf_1_4 C h ho up_eq inX1_copies_1 lkX1_copies_18 dX1_copies_27 ?_
  obtain ⟨u3, hu3, hf⟩ := bd_use hf
  refine r_csN (rest := []) C h (c_X8_copy_1_3 ho hj hne hτo hu3) ggX1_copies_X8_copy rfl ⟨rfl, rfl⟩ (hSF.2.2.2.2.2.2.1) (hts _ wdX1_copies_Cond_static_yX8_copy) (hts _ wdX1_copies_Cond_initialized_RX8) hdX8_copy ⟨Nat.le_of_ble_eq_true rfl, Nat.le_of_ble_eq_true rfl⟩ ⟨Nat.zero_le _, Nat.zero_le _⟩ hl.1 rfl (Nat.le_of_ble_eq_true rfl) dX1_copies_30 (fun H locs h => ?_)
  refine lv_aload_n hx hb dX1_copies_33 rfl (lv_at hl 1 rfl) ?_
  refine gf_1_5 C h hj ((up_ne hne).trans hτo) inX1_copies_1 lkX1_copies_21 dX1_copies_34 ?_
  refine lv_aload_n hx hb dX1_copies_37 rfl (lv_at hl 0 rfl) ?_
  refine gf_1_5 C h ho up_eq inX1_copies_1 lkX1_copies_21 dX1_copies_38 ?_
  obtain ⟨u4, hu4, hf⟩ := bd_use hf
  refine r_csN (rest := []) C h (c_X8_copy_1_4 ho hj hne hτo hu4) ggX1_copies_X8_copy rfl ⟨rfl, rfl⟩ (hSF.2.2.2.2.2.2.1) (hts _ wdX1_copies_Cond_static_yX8_copy) (hts _ wdX1_copies_Cond_initialized_RX8) hdX8_copy ⟨Nat.le_of_ble_eq_true rfl, Nat.le_of_ble_eq_true rfl⟩ ⟨Nat.zero_le _, Nat.zero_le _⟩ hl.1 rfl (Nat.le_of_ble_eq_true rfl) dX1_copies_41 (fun H locs h => ?_)
  refine lv_aload_n hx hb dX1_copies_44 rfl (lv_at hl 1 rfl) ?_
  refine gf_1_6 C h hj ((up_ne hne).trans hτo) inX1_copies_1 lkX1_copies_24 dX1_copies_45 ?_
  refine lv_aload_n hx hb dX1_copies_48 rfl (lv_at hl 0 rfl) ?_
  refine gf_1_6 C h ho up_eq inX1_copies_1 lkX1_copies_24 dX1_copies_49 ?_
  obtain ⟨u5, hu5, hf⟩ := bd_use hf
  refine r_csN (rest := []) C h (c_X8_copy_1_5 ho hj hne hτo hu5) ggX1_copies_X8_copy rfl ⟨rfl, rfl⟩ (hSF.2.2.2.2.2.2.1) (hts _ wdX1_copies_Cond_static_yX8_copy) (hts _ wdX1_copies_Cond_initialized_RX8) hdX8_copy ⟨Nat.le_of_ble_eq_true rfl, Nat.le_of_ble_eq_true rfl⟩ ⟨Nat.zero_le _, Nat.zero_le _⟩ hl.1 rfl (Nat.le_of_ble_eq_true rfl) dX1_copies_52 (fun H locs h => ?_)
  refine lv_aload_n hx hb dX1_copies_55 rfl (lv_at hl 1 rfl) ?_
  refine gf_1_7 C h hj ((up_ne hne).trans hτo) inX1_copies_1 lkX1_copies_27 dX1_copies_56 ?_
  refine lv_aload_n hx hb dX1_copies_59 rfl (lv_at hl 0 rfl) ?_
  refine gf_1_7 C h ho up_eq inX1_copies_1 lkX1_copies_27 dX1_copies_60 ?_
  obtain ⟨u6, hu6, hf⟩ := bd_use hf
  refine r_csN (rest := []) C h (c_X8_copy_1_6 ho hj hne hτo hu6) ggX1_copies_X8_copy rfl ⟨rfl, rfl⟩ (hSF.2.2.2.2.2.2.1) (hts _ wdX1_copies_Cond_static_yX8_copy) (hts _ wdX1_copies_Cond_initialized_RX8) hdX8_copy ⟨Nat.le_of_ble_eq_true rfl, Nat.le_of_ble_eq_true rfl⟩ ⟨Nat.zero_le _, Nat.zero_le _⟩ hl.1 rfl (Nat.le_of_ble_eq_true rfl) dX1_copies_63 (fun H locs h => ?_)
  refine lv_aload_n hx hb dX1_copies_66 rfl (lv_at hl 1 rfl) ?_
  refine gf_1_8 C h hj ((up_ne hne).trans hτo) inX1_copies_1 lkX1_copies_30 dX1_copies_67 ?_
  refine lv_aload_n hx hb dX1_copies_70 rfl (lv_at hl 0 rfl) ?_
  refine gf_1_8 C h ho up_eq inX1_copies_1 lkX1_copies_30 dX1_copies_71 ?_
  obtain ⟨u7, hu7, hf⟩ := bd_use hf
  refine r_csN (rest := []) C h (c_X8_copy_1_7 ho hj hne hτo hu7) ggX1_copies_X8_copy rfl ⟨rfl, rfl⟩ (hSF.2.2.2.2.2.2.1) (hts _ wdX1_copies_Cond_static_yX8_copy) (hts _ wdX1_copies_Cond_initialized_RX8) hdX8_copy ⟨Nat.le_of_ble_eq_true rfl, Nat.le_of_ble_eq_true rfl⟩ ⟨Nat.zero_le _, Nat.zero_le _⟩ hl.1 rfl (Nat.le_of_ble_eq_true rfl) dX1_copies_74 (fun H locs h => ?_)
  refine lv_aload_n hx hb dX1_copies_77 rfl (lv_at hl 1 rfl) ?_
  refine gf_1_9 C h hj ((up_ne hne).trans hτo) inX1_copies_1 lkX1_copies_33 dX1_copies_78 ?_
  refine lv_aload_n hx hb dX1_copies_81 rfl (lv_at hl 0 rfl) ?_
  refine gf_1_9 C h ho up_eq inX1_copies_1 lkX1_copies_33 dX1_copies_82 ?_
  obtain ⟨u8, hu8, hf⟩ := bd_use hf
  refine r_csN (rest := []) C h (c_X8_copy_1_8 ho hj hne hτo hu8) ggX1_copies_X8_copy rfl ⟨rfl, rfl⟩ (hSF.2.2.2.2.2.2.1) (hts _ wdX1_copies_Cond_static_yX8_copy) (hts _ wdX1_copies_Cond_initialized_RX8) hdX8_copy ⟨Nat.le_of_ble_eq_true rfl, Nat.le_of_ble_eq_true rfl⟩ ⟨Nat.zero_le _, Nat.zero_le _⟩ hl.1 rfl (Nat.le_of_ble_eq_true rfl) dX1_copies_85 (fun H locs h => ?_)
  refine lv_aload_n hx hb dX1_copies_88 rfl (lv_at hl 1 rfl) ?_
  refine gf_1_10 C h hj ((up_ne hne).trans hτo) inX1_copies_1 lkX1_copies_36 dX1_copies_89 ?_
  refine lv_aload_n hx hb dX1_copies_92 rfl (lv_at hl 0 rfl) ?_
  refine gf_1_10 C h ho up_eq inX1_copies_1 lkX1_copies_36 dX1_copies_93 ?_
  obtain ⟨u9, hu9, hf⟩ := bd_use hf
  refine r_csN (rest := []) C h (c_X8_copy_1_9 ho hj hne hτo hu9) ggX1_copies_X8_copy rfl ⟨rfl, rfl⟩ (hSF.2.2.2.2.2.2.1) (hts _ wdX1_copies_Cond_static_yX8_copy) (hts _ wdX1_copies_Cond_initialized_RX8) hdX8_copy ⟨Nat.le_of_ble_eq_true rfl, Nat.le_of_ble_eq_true rfl⟩ ⟨Nat.zero_le _, Nat.zero_le _⟩ hl.1 rfl (Nat.le_of_ble_eq_true rfl) dX1_copies_96 (fun H locs h => ?_)
  refine lv_aload_n hx hb dX1_copies_99 rfl (lv_at hl 0 rfl) ?_
  refine lv_aload_n hx hb dX1_copies_100 rfl (lv_at hl 1 rfl) ?_
  refine gf_1_12 C h hj ((up_ne hne).trans hτo) inX1_copies_1 lkX1_copies_53 dX1_copies_101 ?_
  refine pf_1_12 C h ho up_eq (F := fun t => va_up σ o t) (fun _ => up_up) inX1_copies_1 lkX1_copies_53 dX1_copies_104 (fun τ10 eτ10 H locs h => ?_)
  replace hf := lt_use eτ10 hf
  clear eτ10
  refine lv_aload_n hx hb dX1_copies_107 rfl (lv_at hl 0 rfl) ?_
  refine lv_aload_n hx hb dX1_copies_108 rfl (lv_at hl 1 rfl) ?_
  refine gf_1_13 C h hj ((up_ne hne).trans hτo) inX1_copies_1 lkX1_copies_56 dX1_copies_109 ?_
  refine pf_1_13 C h ho up_eq (F := fun t => va_up σ o t) (fun _ => up_up) inX1_copies_1 lkX1_copies_56 dX1_copies_112 (fun τ11 eτ11 H locs h => ?_)
  replace hf := lt_use eτ11 hf
  clear eτ11
  refine lv_aload_n hx hb dX1_copies_115 rfl (lv_at hl 0 rfl) ?_
  refine lv_aload_n hx hb dX1_copies_116 rfl (lv_at hl 1 rfl) ?_
  refine gf_1_14 C h hj ((up_ne hne).trans hτo) inX1_copies_1 lkX1_copies_59 dX1_copies_117 ?_
  refine pf_1_14 C h ho up_eq (F := fun t => va_up σ o t) (fun _ => up_up) inX1_copies_1 lkX1_copies_59 dX1_copies_120 (fun τ12 eτ12 H locs h => ?_)
  replace hf := lt_use eτ12 hf
  clear eτ12
  refine lv_aload_n hx hb dX1_copies_123 rfl (lv_at hl 0 rfl) ?_
  refine lv_aload_n hx hb dX1_copies_124 rfl (lv_at hl 1 rfl) ?_
  refine gf_1_15 C h hj ((up_ne hne).trans hτo) inX1_copies_1 lkX1_copies_62 dX1_copies_125 ?_
  refine pf_1_15 C h ho up_eq (F := fun t => va_up σ o t) (fun _ => up_up) inX1_copies_1 lkX1_copies_62 dX1_copies_128 (fun τ13 eτ13 H locs h => ?_)
  replace hf := lt_use eτ13 hf
  clear eτ13
  refine lv_aload_n hx hb dX1_copies_131 rfl (lv_at hl 0 rfl) ?_
  refine lv_aload_n hx hb dX1_copies_132 rfl (lv_at hl 1 rfl) ?_
  refine gf_1_16 C h hj ((up_ne hne).trans hτo) inX1_copies_1 lkX1_copies_65 dX1_copies_133 ?_
  refine pf_1_16 C h ho up_eq (F := fun t => va_up σ o t) (fun _ => up_up) inX1_copies_1 lkX1_copies_65 dX1_copies_136 (fun τ14 eτ14 H locs h => ?_)
  replace hf := lt_use eτ14 hf
  clear eτ14
  replace hf := Option.some.inj hf
  subst hf
  exact r_vre C h dX1_copies_139
theorem c_X1_copies {l : Launch} {E : Ev} {σ : Ms} {ℓ : Mz} {o : Nat} {j : Nat} {τ : Mm} {τo : Mm} (ho : Kd o = 1) (hj : Kd j = 1) (hne : j ≠ o) (hτo : σ j = τo) {out : Mm} (hf : f_X1_copies τ τo = some out) : Ct l yX1_copies wsX1_copies rm_X1_copies [.ref (Ea E o 0), .ref (Ea E j 0)] E (va_up σ o τ) ℓ none (va_up σ o out) ℓ := by
  refine Ct_mk (cc := cX1_copies) (mL := 2) (ret := none) (own := RX1) (by decide +kernel) rfl rfl (Nat.le_of_ble_eq_true rfl) (fun p e s m below meth c C h ls hl => ?_)
  exact w_X1_copies_0 ho hj hne hτo C τ _ _ h ls (lv_sub hl [0, 1] rfl) hf
theorem k_X1_copies {l : Launch} {E : Ev} {σ : Ms} {ℓ : Mz} {o : Nat} {j : Nat} {τ : Mm} {τo : Mm} (ho : Kd o = 1) (hj : Kd j = 1) (hne : j ≠ o) (hτ : σ o = τ) (hτo : σ j = τo) {out : Mm} (hf : f_X1_copies τ τo = some out) : Ct l yX1_copies wsX1_copies rm_X1_copies [.ref (Ea E o 0), .ref (Ea E j 0)] E σ ℓ none (va_up σ o out) ℓ := by
  subst hτ
  have h := c_X1_copies (l := l) (E := E) (σ := σ) (ℓ := ℓ) ho hj hne hτo hf
  rw [up_id σ o] at h
  exact h
theorem hdX1_comes : yX1_comes.cls = RX1 ∧ yX1_comes.cls ≠ "java/lang/invoke/MethodHandle" ∧ yX1_comes.cls ≠ "java/lang/invoke/VarHandle" ∧ (parseMethodDescriptor yX1_comes.desc).map (fun d => d.parameters.length) = some 3 := by decide +kernel
def rm_X1_comes : Room := { frames := 0, cells := 0, slots := 0, locals := 0 }
set_option maxRecDepth 100000 in
theorem inX1_comes_1 : ∀ w ∈ wsX10, w ∈ wsX1_comes := fun _ h => List.mem_cons_of_mem _ (List.mem_append_right _ h)
set_option maxRecDepth 100000 in
theorem lkX1_comes_53 : Cond.fieldLink RX1 53 "BellsBelow$Hall" "many" "I" ∈ wsX1_comes := by decide +kernel
set_option maxRecDepth 100000 in
theorem lkX1_comes_9 : Cond.fieldLink RX1 9 "BellsBelow$Hall" "kind" "[I" ∈ wsX1_comes := by decide +kernel
set_option maxRecDepth 100000 in
theorem lkX1_comes_15 : Cond.fieldLink RX1 15 "BellsBelow$Hall" "v" "[I" ∈ wsX1_comes := by decide +kernel
set_option maxRecDepth 100000 in
theorem lkX1_comes_18 : Cond.fieldLink RX1 18 "BellsBelow$Hall" "floor" "[I" ∈ wsX1_comes := by decide +kernel
set_option maxRecDepth 100000 in
theorem lkX1_comes_21 : Cond.fieldLink RX1 21 "BellsBelow$Hall" "goal" "[I" ∈ wsX1_comes := by decide +kernel
set_option maxHeartbeats 4000000 in
set_option maxRecDepth 100000 in
theorem w_X1_comes_0 {p : Program} {l : Launch} {e : Env} {s : State} {m : MethodId} {args : Array Value} {below : List Frame} {meth : Method} {c : Code} {E : Ev} {σ : Ms} {ℓ : Mz} {o : Nat} {p0 : Int32} {p1 : Int32} {p2 : Int32} {out : Int32 × Mm} (ho : Kd o = 1)   (C : Cx cX1_comes 5 (some .int) wsX1_comes RX1 E p s m args meth c)  : ∀ (τ : Mm) (H : Heap) (locs : List Loc) (h : HI E (va_up σ o τ) ℓ s H locs) (ls : Array Slot) (hl : lv_has ls 5 [(0, .ref (Ea E o 0)), (1, .int p0), (2, .int p1), (3, .int p2)]), f_X1_comes_0 p0 p1 p2  τ = some out → W p l e rm_X1_comes s m args below meth c H locs 0 0 (MQ below (Po E s.heap.size (some (.int out.1)) (va_up σ o out.2) ℓ) args s 0 0 (AA E s.heap.size)) (F0 m 0 ls []) := by
  intro τ H locs h ls hl hf
  unfold f_X1_comes_0 at hf
  have C0 := C
  obtain ⟨hx, hb, hr, hml, hown, hts, hlk, hK, hSF⟩ := C0
  refine lv_aload_n hx hb dX1_comes_0 rfl (lv_at hl 0 rfl) ?_
  refine gf_1_12 C h ho up_eq inX1_comes_1 lkX1_comes_53 dX1_comes_1 ?_
  refine lv_topi (fun x1 ex1 => ?_)
  replace hf := lt_use ex1 hf
  clear ex1
  refine lv_istore (lv' := [(4, .int x1), (0, .ref (Ea E o 0)), (1, .int p0), (2, .int p1), (3, .int p2)]) hx hb dX1_comes_4 hl (by decide) rfl (fun ls hl => ?_)
  refine lv_iload hx hb dX1_comes_6 (lv_at hl 0 rfl) ?_
  refine lv_bipush (v := (6 : Int32)) hx hb dX1_comes_8 (by decide) ?_
  refine lv_icmp_lt (tgt := 16) hx hb dX1_comes_10 (by decide) (fun c2 => ?_) (fun c2 => ?_)
  · replace hf := it_t c2 hf
    refine lv_aload_n hx hb dX1_comes_16 rfl (lv_at hl 1 rfl) ?_
    refine gf_1_2 C h ho up_eq inX1_comes_1 lkX1_comes_9 dX1_comes_17 ?_
    refine lv_iload hx hb dX1_comes_20 (lv_at hl 0 rfl) ?_
    refine lv_iload_n hx hb dX1_comes_22 rfl (lv_at hl 2 rfl) ?_
    obtain ⟨g3, hf⟩ := gd_use hf
    refine sa_1_1 C h ho up_eq (F := fun t => va_up σ o t) (fun _ => up_up) (inB_in g3) dX1_comes_23 (fun τ4 eτ4 H locs h => ?_)
    replace hf := lt_use eτ4 hf
    clear eτ4
    refine lv_aload_n hx hb dX1_comes_24 rfl (lv_at hl 1 rfl) ?_
    refine gf_1_3 C h ho up_eq inX1_comes_1 lkX1_comes_15 dX1_comes_25 ?_
    refine lv_iload hx hb dX1_comes_28 (lv_at hl 0 rfl) ?_
    refine lv_iload_n hx hb dX1_comes_30 rfl (lv_at hl 3 rfl) ?_
    obtain ⟨g5, hf⟩ := gd_use hf
    refine sa_1_2 C h ho up_eq (F := fun t => va_up σ o t) (fun _ => up_up) (inB_in g5) dX1_comes_31 (fun τ6 eτ6 H locs h => ?_)
    replace hf := lt_use eτ6 hf
    clear eτ6
    refine lv_aload_n hx hb dX1_comes_32 rfl (lv_at hl 1 rfl) ?_
    refine gf_1_4 C h ho up_eq inX1_comes_1 lkX1_comes_18 dX1_comes_33 ?_
    refine lv_iload hx hb dX1_comes_36 (lv_at hl 0 rfl) ?_
    refine lv_iload_n hx hb dX1_comes_38 rfl (lv_at hl 4 rfl) ?_
    obtain ⟨g7, hf⟩ := gd_use hf
    refine sa_1_3 C h ho up_eq (F := fun t => va_up σ o t) (fun _ => up_up) (inB_in g7) dX1_comes_39 (fun τ8 eτ8 H locs h => ?_)
    replace hf := lt_use eτ8 hf
    clear eτ8
    refine lv_aload_n hx hb dX1_comes_40 rfl (lv_at hl 1 rfl) ?_
    refine gf_1_5 C h ho up_eq inX1_comes_1 lkX1_comes_21 dX1_comes_41 ?_
    refine lv_iload hx hb dX1_comes_44 (lv_at hl 0 rfl) ?_
    refine lv_bipush (v := (-5 : Int32)) hx hb dX1_comes_46 (by decide) ?_
    obtain ⟨g9, hf⟩ := gd_use hf
    refine sa_1_4 C h ho up_eq (F := fun t => va_up σ o t) (fun _ => up_up) (inB_in g9) dX1_comes_48 (fun τ10 eτ10 H locs h => ?_)
    replace hf := lt_use eτ10 hf
    clear eτ10
    refine lv_aload_n hx hb dX1_comes_49 rfl (lv_at hl 1 rfl) ?_
    refine lv_dup hx hb dX1_comes_50 rfl ?_
    refine gf_1_12 C h ho up_eq inX1_comes_1 lkX1_comes_53 dX1_comes_51 ?_
    refine lv_iconst (v := (1 : Int32)) hx hb dX1_comes_54 (by decide) ?_
    refine lv_iadd hx hb dX1_comes_55 ?_
    refine pf_1_12 C h ho up_eq (F := fun t => va_up σ o t) (fun _ => up_up) inX1_comes_1 lkX1_comes_53 dX1_comes_56 (fun τ11 eτ11 H locs h => ?_)
    replace hf := lt_use eτ11 hf
    clear eτ11
    refine lv_iload hx hb dX1_comes_59 (lv_at hl 0 rfl) ?_
    replace hf := Option.some.inj hf
    subst hf
    exact r_ire C h dX1_comes_61
  replace hf := it_f c2 hf
  refine lv_bipush (v := (-4 : Int32)) hx hb dX1_comes_13 (by decide) ?_
  replace hf := Option.some.inj hf
  subst hf
  exact r_ire C h dX1_comes_15
theorem c_X1_comes {l : Launch} {E : Ev} {σ : Ms} {ℓ : Mz} {o : Nat} {τ : Mm} {p0 : Int32} {p1 : Int32} {p2 : Int32} (ho : Kd o = 1) {out : Int32 × Mm} (hf : f_X1_comes τ p0 p1 p2 = some out) : Ct l yX1_comes wsX1_comes rm_X1_comes [.ref (Ea E o 0), .int p0, .int p1, .int p2] E (va_up σ o τ) ℓ (some (.int out.1)) (va_up σ o out.2) ℓ := by
  refine Ct_mk (cc := cX1_comes) (mL := 5) (ret := (some .int)) (own := RX1) (by decide +kernel) rfl rfl (Nat.le_of_ble_eq_true rfl) (fun p e s m below meth c C h ls hl => ?_)
  exact w_X1_comes_0 ho C τ _ _ h ls (lv_sub hl [0, 1, 2, 3] rfl) hf
theorem k_X1_comes {l : Launch} {E : Ev} {σ : Ms} {ℓ : Mz} {o : Nat} {τ : Mm} {p0 : Int32} {p1 : Int32} {p2 : Int32} (ho : Kd o = 1) (hτ : σ o = τ) {out : Int32 × Mm} (hf : f_X1_comes τ p0 p1 p2 = some out) : Ct l yX1_comes wsX1_comes rm_X1_comes [.ref (Ea E o 0), .int p0, .int p1, .int p2] E σ ℓ (some (.int out.1)) (va_up σ o out.2) ℓ := by
  subst hτ
  have h := c_X1_comes (l := l) (E := E) (σ := σ) (ℓ := ℓ) ho hf
  rw [up_id σ o] at h
  exact h
theorem hdX1_rings : yX1_rings.cls = RX1 ∧ yX1_rings.cls ≠ "java/lang/invoke/MethodHandle" ∧ yX1_rings.cls ≠ "java/lang/invoke/VarHandle" ∧ (parseMethodDescriptor yX1_rings.desc).map (fun d => d.parameters.length) = some 1 := by decide +kernel
def rm_X1_rings : Room := { frames := 0, cells := 0, slots := 0, locals := 0 }
set_option maxRecDepth 100000 in
theorem inX1_rings_1 : ∀ w ∈ wsX10, w ∈ wsX1_rings := fun _ h => List.mem_cons_of_mem _ (List.mem_append_right _ h)
set_option maxRecDepth 100000 in
theorem lkX1_rings_56 : Cond.fieldLink RX1 56 "BellsBelow$Hall" "rung" "I" ∈ wsX1_rings := by decide +kernel
set_option maxRecDepth 100000 in
theorem lkX1_rings_36 : Cond.fieldLink RX1 36 "BellsBelow$Hall" "wires" "[I" ∈ wsX1_rings := by decide +kernel
set_option maxHeartbeats 4000000 in
set_option maxRecDepth 100000 in
theorem w_X1_rings_0 {p : Program} {l : Launch} {e : Env} {s : State} {m : MethodId} {args : Array Value} {below : List Frame} {meth : Method} {c : Code} {E : Ev} {σ : Ms} {ℓ : Mz} {o : Nat} {p0 : Int32} {out : Int32 × Mm} (ho : Kd o = 1)   (C : Cx cX1_rings 2 (some .int) wsX1_rings RX1 E p s m args meth c)  : ∀ (τ : Mm) (H : Heap) (locs : List Loc) (h : HI E (va_up σ o τ) ℓ s H locs) (ls : Array Slot) (hl : lv_has ls 2 [(0, .ref (Ea E o 0)), (1, .int p0)]), f_X1_rings_0 p0  τ = some out → W p l e rm_X1_rings s m args below meth c H locs 0 0 (MQ below (Po E s.heap.size (some (.int out.1)) (va_up σ o out.2) ℓ) args s 0 0 (AA E s.heap.size)) (F0 m 0 ls []) := by
  intro τ H locs h ls hl hf
  unfold f_X1_rings_0 at hf
  have C0 := C
  obtain ⟨hx, hb, hr, hml, hown, hts, hlk, hK, hSF⟩ := C0
  refine lv_aload_n hx hb dX1_rings_0 rfl (lv_at hl 0 rfl) ?_
  refine lv_dup hx hb dX1_rings_1 rfl ?_
  refine gf_1_13 C h ho up_eq inX1_rings_1 lkX1_rings_56 dX1_rings_2 ?_
  refine lv_iconst (v := (1 : Int32)) hx hb dX1_rings_5 (by decide) ?_
  refine lv_aload_n hx hb dX1_rings_6 rfl (lv_at hl 0 rfl) ?_
  refine gf_1_10 C h ho up_eq inX1_rings_1 lkX1_rings_36 dX1_rings_7 ?_
  refine lv_iload_n hx hb dX1_rings_10 rfl (lv_at hl 1 rfl) ?_
  obtain ⟨g1, hf⟩ := gd_use hf
  refine ld_1_9 C h ho up_eq (inB_in g1) dX1_rings_11 ?_
  refine lv_ishl hx hb dX1_rings_12 ?_
  refine lv_ior hx hb dX1_rings_13 ?_
  refine pf_1_13 C h ho up_eq (F := fun t => va_up σ o t) (fun _ => up_up) inX1_rings_1 lkX1_rings_56 dX1_rings_14 (fun τ2 eτ2 H locs h => ?_)
  replace hf := lt_use eτ2 hf
  clear eτ2
  refine lv_aload_n hx hb dX1_rings_17 rfl (lv_at hl 0 rfl) ?_
  refine gf_1_10 C h ho up_eq inX1_rings_1 lkX1_rings_36 dX1_rings_18 ?_
  refine lv_iload_n hx hb dX1_rings_21 rfl (lv_at hl 1 rfl) ?_
  obtain ⟨g3, hf⟩ := gd_use hf
  refine ld_1_9 C h ho up_eq (inB_in g3) dX1_rings_22 ?_
  replace hf := Option.some.inj hf
  subst hf
  exact r_ire C h dX1_rings_23
theorem c_X1_rings {l : Launch} {E : Ev} {σ : Ms} {ℓ : Mz} {o : Nat} {τ : Mm} {p0 : Int32} (ho : Kd o = 1) {out : Int32 × Mm} (hf : f_X1_rings τ p0 = some out) : Ct l yX1_rings wsX1_rings rm_X1_rings [.ref (Ea E o 0), .int p0] E (va_up σ o τ) ℓ (some (.int out.1)) (va_up σ o out.2) ℓ := by
  refine Ct_mk (cc := cX1_rings) (mL := 2) (ret := (some .int)) (own := RX1) (by decide +kernel) rfl rfl (Nat.le_of_ble_eq_true rfl) (fun p e s m below meth c C h ls hl => ?_)
  exact w_X1_rings_0 ho C τ _ _ h ls (lv_sub hl [0, 1] rfl) hf
theorem k_X1_rings {l : Launch} {E : Ev} {σ : Ms} {ℓ : Mz} {o : Nat} {τ : Mm} {p0 : Int32} (ho : Kd o = 1) (hτ : σ o = τ) {out : Int32 × Mm} (hf : f_X1_rings τ p0 = some out) : Ct l yX1_rings wsX1_rings rm_X1_rings [.ref (Ea E o 0), .int p0] E σ ℓ (some (.int out.1)) (va_up σ o out.2) ℓ := by
  subst hτ
  have h := c_X1_rings (l := l) (E := E) (σ := σ) (ℓ := ℓ) ho hf
  rw [up_id σ o] at h
  exact h
theorem hdX1_isRung : yX1_isRung.cls = RX1 ∧ yX1_isRung.cls ≠ "java/lang/invoke/MethodHandle" ∧ yX1_isRung.cls ≠ "java/lang/invoke/VarHandle" ∧ (parseMethodDescriptor yX1_isRung.desc).map (fun d => d.parameters.length) = some 1 := by decide +kernel
def rm_X1_isRung : Room := { frames := 0, cells := 0, slots := 0, locals := 0 }
set_option maxRecDepth 100000 in
theorem inX1_isRung_1 : ∀ w ∈ wsX10, w ∈ wsX1_isRung := fun _ h => List.mem_cons_of_mem _ (List.mem_append_right _ h)
set_option maxRecDepth 100000 in
theorem lkX1_isRung_56 : Cond.fieldLink RX1 56 "BellsBelow$Hall" "rung" "I" ∈ wsX1_isRung := by decide +kernel
set_option maxHeartbeats 4000000 in
set_option maxRecDepth 100000 in
theorem w_X1_isRung_0 {p : Program} {l : Launch} {e : Env} {s : State} {m : MethodId} {args : Array Value} {below : List Frame} {meth : Method} {c : Code} {E : Ev} {σ : Ms} {ℓ : Mz} {o : Nat} {τ : Mm} {p0 : Int32} {out : Int32} (ho : Kd o = 1) (hτ : σ o = τ)   (C : Cx cX1_isRung 2 (some .boolean) wsX1_isRung RX1 E p s m args meth c)  : ∀  (H : Heap) (locs : List Loc) (h : HI E σ ℓ s H locs) (ls : Array Slot) (hl : lv_has ls 2 [(0, .ref (Ea E o 0)), (1, .int p0)]), f_X1_isRung_0 τ p0   = some out → W p l e rm_X1_isRung s m args below meth c H locs 0 0 (MQ below (Po E s.heap.size (some (.int out)) σ ℓ) args s 0 0 (AA E s.heap.size)) (F0 m 0 ls []) := by
  intro  H locs h ls hl hf
  unfold f_X1_isRung_0 at hf
  have C0 := C
  obtain ⟨hx, hb, hr, hml, hown, hts, hlk, hK, hSF⟩ := C0
  refine lv_aload_n hx hb dX1_isRung_0 rfl (lv_at hl 0 rfl) ?_
  refine gf_1_13 C h ho hτ inX1_isRung_1 lkX1_isRung_56 dX1_isRung_1 ?_
  refine lv_iload_n hx hb dX1_isRung_4 rfl (lv_at hl 1 rfl) ?_
  refine lv_ishr hx hb dX1_isRung_5 ?_
  refine lv_iconst (v := (1 : Int32)) hx hb dX1_isRung_6 (by decide) ?_
  refine lv_iand hx hb dX1_isRung_7 ?_
  refine lv_if_eq (tgt := 15) hx hb dX1_isRung_8 (by decide) (fun c1 => ?_) (fun c1 => ?_)
  · replace hf := it_t c1 hf
    refine lv_iconst (v := (0 : Int32)) hx hb dX1_isRung_15 (by decide) ?_
    replace hf := Option.some.inj hf
    subst hf
    exact r_zre (v := (0 : Int32)) C h rfl dX1_isRung_16
  replace hf := it_f c1 hf
  refine lv_iconst (v := (1 : Int32)) hx hb dX1_isRung_11 (by decide) ?_
  refine lv_goto (tgt := 16) hx hb dX1_isRung_12 (by decide) ?_
  replace hf := Option.some.inj hf
  subst hf
  exact r_zre (v := (1 : Int32)) C h rfl dX1_isRung_16
theorem c_X1_isRung {l : Launch} {E : Ev} {σ : Ms} {ℓ : Mz} {o : Nat} {τ : Mm} {p0 : Int32} (ho : Kd o = 1) (hτ : σ o = τ) {out : Int32} (hf : f_X1_isRung τ p0 = some out) : Ct l yX1_isRung wsX1_isRung rm_X1_isRung [.ref (Ea E o 0), .int p0] E σ ℓ (some (.int out)) σ ℓ := by
  refine Ct_mk (cc := cX1_isRung) (mL := 2) (ret := (some .boolean)) (own := RX1) (by decide +kernel) rfl rfl (Nat.le_of_ble_eq_true rfl) (fun p e s m below meth c C h ls hl => ?_)
  exact w_X1_isRung_0 ho hτ C  _ _ h ls (lv_sub hl [0, 1] rfl) hf
theorem hdX1_isFree : yX1_isFree.cls = RX1 ∧ yX1_isFree.cls ≠ "java/lang/invoke/MethodHandle" ∧ yX1_isFree.cls ≠ "java/lang/invoke/VarHandle" ∧ (parseMethodDescriptor yX1_isFree.desc).map (fun d => d.parameters.length) = some 1 := by decide +kernel
def rm_X1_isFree : Room := { frames := 0, cells := 0, slots := 0, locals := 0 }
set_option maxRecDepth 100000 in
theorem inX1_isFree_1 : ∀ w ∈ wsX10, w ∈ wsX1_isFree := fun _ h => List.mem_cons_of_mem _ (List.mem_append_right _ h)
set_option maxRecDepth 100000 in
theorem lkX1_isFree_27 : Cond.fieldLink RX1 27 "BellsBelow$Hall" "gone" "[I" ∈ wsX1_isFree := by decide +kernel
set_option maxRecDepth 100000 in
theorem lkX1_isFree_21 : Cond.fieldLink RX1 21 "BellsBelow$Hall" "goal" "[I" ∈ wsX1_isFree := by decide +kernel
set_option maxRecDepth 100000 in
theorem lkX1_isFree_24 : Cond.fieldLink RX1 24 "BellsBelow$Hall" "rests" "[I" ∈ wsX1_isFree := by decide +kernel
set_option maxHeartbeats 4000000 in
set_option maxRecDepth 100000 in
theorem w_X1_isFree_0 {p : Program} {l : Launch} {e : Env} {s : State} {m : MethodId} {args : Array Value} {below : List Frame} {meth : Method} {c : Code} {E : Ev} {σ : Ms} {ℓ : Mz} {o : Nat} {τ : Mm} {p0 : Int32} {out : Int32} (ho : Kd o = 1) (hτ : σ o = τ)   (C : Cx cX1_isFree 2 (some .boolean) wsX1_isFree RX1 E p s m args meth c)  : ∀  (H : Heap) (locs : List Loc) (h : HI E σ ℓ s H locs) (ls : Array Slot) (hl : lv_has ls 2 [(0, .ref (Ea E o 0)), (1, .int p0)]), f_X1_isFree_0 τ p0   = some out → W p l e rm_X1_isFree s m args below meth c H locs 0 0 (MQ below (Po E s.heap.size (some (.int out)) σ ℓ) args s 0 0 (AA E s.heap.size)) (F0 m 0 ls []) := by
  intro  H locs h ls hl hf
  unfold f_X1_isFree_0 at hf
  have C0 := C
  obtain ⟨hx, hb, hr, hml, hown, hts, hlk, hK, hSF⟩ := C0
  refine lv_aload_n hx hb dX1_isFree_0 rfl (lv_at hl 0 rfl) ?_
  refine gf_1_7 C h ho hτ inX1_isFree_1 lkX1_isFree_27 dX1_isFree_1 ?_
  refine lv_iload_n hx hb dX1_isFree_4 rfl (lv_at hl 1 rfl) ?_
  obtain ⟨g1, hf⟩ := gd_use hf
  refine ld_1_6 C h ho hτ (inB_in g1) dX1_isFree_5 ?_
  refine lv_if_ne (tgt := 33) hx hb dX1_isFree_6 (by decide) (fun c2 => ?_) (fun c2 => ?_)
  · replace hf := it_f c2 hf
    refine lv_iconst (v := (0 : Int32)) hx hb dX1_isFree_33 (by decide) ?_
    replace hf := Option.some.inj hf
    subst hf
    exact r_zre (v := (0 : Int32)) C h rfl dX1_isFree_34
  replace hf := it_t c2 hf
  refine lv_aload_n hx hb dX1_isFree_9 rfl (lv_at hl 0 rfl) ?_
  refine gf_1_5 C h ho hτ inX1_isFree_1 lkX1_isFree_21 dX1_isFree_10 ?_
  refine lv_iload_n hx hb dX1_isFree_13 rfl (lv_at hl 1 rfl) ?_
  obtain ⟨g3, hf⟩ := gd_use hf
  refine ld_1_4 C h ho hτ (inB_in g3) dX1_isFree_14 ?_
  refine lv_bipush (v := (-5 : Int32)) hx hb dX1_isFree_15 (by decide) ?_
  refine lv_icmp_ne (tgt := 33) hx hb dX1_isFree_17 (by decide) (fun c4 => ?_) (fun c4 => ?_)
  · replace hf := it_f c4 hf
    refine lv_iconst (v := (0 : Int32)) hx hb dX1_isFree_33 (by decide) ?_
    replace hf := Option.some.inj hf
    subst hf
    exact r_zre (v := (0 : Int32)) C h rfl dX1_isFree_34
  replace hf := it_t c4 hf
  refine lv_aload_n hx hb dX1_isFree_20 rfl (lv_at hl 0 rfl) ?_
  refine gf_1_6 C h ho hτ inX1_isFree_1 lkX1_isFree_24 dX1_isFree_21 ?_
  refine lv_iload_n hx hb dX1_isFree_24 rfl (lv_at hl 1 rfl) ?_
  obtain ⟨g5, hf⟩ := gd_use hf
  refine ld_1_5 C h ho hτ (inB_in g5) dX1_isFree_25 ?_
  refine lv_if_ne (tgt := 33) hx hb dX1_isFree_26 (by decide) (fun c6 => ?_) (fun c6 => ?_)
  · replace hf := it_f c6 hf
    refine lv_iconst (v := (0 : Int32)) hx hb dX1_isFree_33 (by decide) ?_
    replace hf := Option.some.inj hf
    subst hf
    exact r_zre (v := (0 : Int32)) C h rfl dX1_isFree_34
  replace hf := it_t c6 hf
  refine lv_iconst (v := (1 : Int32)) hx hb dX1_isFree_29 (by decide) ?_
  refine lv_goto (tgt := 34) hx hb dX1_isFree_30 (by decide) ?_
  replace hf := Option.some.inj hf
  subst hf
  exact r_zre (v := (1 : Int32)) C h rfl dX1_isFree_34
theorem c_X1_isFree {l : Launch} {E : Ev} {σ : Ms} {ℓ : Mz} {o : Nat} {τ : Mm} {p0 : Int32} (ho : Kd o = 1) (hτ : σ o = τ) {out : Int32} (hf : f_X1_isFree τ p0 = some out) : Ct l yX1_isFree wsX1_isFree rm_X1_isFree [.ref (Ea E o 0), .int p0] E σ ℓ (some (.int out)) σ ℓ := by
  refine Ct_mk (cc := cX1_isFree) (mL := 2) (ret := (some .boolean)) (own := RX1) (by decide +kernel) rfl rfl (Nat.le_of_ble_eq_true rfl) (fun p e s m below meth c C h ls hl => ?_)
  exact w_X1_isFree_0 ho hτ C  _ _ h ls (lv_sub hl [0, 1] rfl) hf
theorem hdX1_whoseGoal : yX1_whoseGoal.cls = RX1 ∧ yX1_whoseGoal.cls ≠ "java/lang/invoke/MethodHandle" ∧ yX1_whoseGoal.cls ≠ "java/lang/invoke/VarHandle" ∧ (parseMethodDescriptor yX1_whoseGoal.desc).map (fun d => d.parameters.length) = some 1 := by decide +kernel
def rm_X1_whoseGoal : Room := { frames := 0, cells := 0, slots := 0, locals := 0 }
set_option maxRecDepth 100000 in
theorem inX1_whoseGoal_1 : ∀ w ∈ wsX10, w ∈ wsX1_whoseGoal := fun _ h => List.mem_cons_of_mem _ (List.mem_append_right _ h)
set_option maxRecDepth 100000 in
theorem lkX1_whoseGoal_53 : Cond.fieldLink RX1 53 "BellsBelow$Hall" "many" "I" ∈ wsX1_whoseGoal := by decide +kernel
set_option maxRecDepth 100000 in
theorem lkX1_whoseGoal_21 : Cond.fieldLink RX1 21 "BellsBelow$Hall" "goal" "[I" ∈ wsX1_whoseGoal := by decide +kernel
set_option maxHeartbeats 4000000 in
set_option maxRecDepth 100000 in
theorem w_X1_whoseGoal_2 {p : Program} {l : Launch} {e : Env} {s : State} {m : MethodId} {args : Array Value} {below : List Frame} {meth : Method} {c : Code} {E : Ev} {σ : Ms} {ℓ : Mz} {o : Nat} {τ : Mm} {p0 : Int32} {out : Int32} (ho : Kd o = 1) (hτ : σ o = τ)   (C : Cx cX1_whoseGoal 3 (some .int) wsX1_whoseGoal RX1 E p s m args meth c) {k2 : Int32 → Option (Int32)} (hk2 : ∀ (v2 : Int32) (H : Heap) (locs : List Loc), HI E σ ℓ s H locs → ∀ ls : Array Slot, lv_has ls 3 [(0, .ref (Ea E o 0)), (1, .int p0), (2, .int v2)] → k2 v2 = some out → W p l e rm_X1_whoseGoal s m args below meth c H locs 0 0 (MQ below (Po E s.heap.size (some (.int out)) σ ℓ) args s 0 0 (AA E s.heap.size)) (F0 m 2 ls [])) : ∀ (v2 : Int32) (H : Heap) (locs : List Loc) (h : HI E σ ℓ s H locs) (ls : Array Slot) (hl : lv_has ls 3 [(0, .ref (Ea E o 0)), (1, .int p0), (2, .int v2)]), f_X1_whoseGoal_2 τ p0 k2 v2 = some out → W p l e rm_X1_whoseGoal s m args below meth c H locs 0 0 (MQ below (Po E s.heap.size (some (.int out)) σ ℓ) args s 0 0 (AA E s.heap.size)) (F0 m 2 ls []) := by
  intro v2 H locs h ls hl hf
  unfold f_X1_whoseGoal_2 at hf
  have C0 := C
  obtain ⟨hx, hb, hr, hml, hown, hts, hlk, hK, hSF⟩ := C0
  refine lv_iload_n hx hb dX1_whoseGoal_2 rfl (lv_at hl 2 rfl) ?_
  refine lv_aload_n hx hb dX1_whoseGoal_3 rfl (lv_at hl 0 rfl) ?_
  refine gf_1_12 C h ho hτ inX1_whoseGoal_1 lkX1_whoseGoal_53 dX1_whoseGoal_4 ?_
  refine lv_icmp_ge (tgt := 28) hx hb dX1_whoseGoal_7 (by decide) (fun c1 => ?_) (fun c1 => ?_)
  · replace hf := it_t c1 hf
    refine lv_bipush (v := (-5 : Int32)) hx hb dX1_whoseGoal_28 (by decide) ?_
    replace hf := Option.some.inj hf
    subst hf
    exact r_ire C h dX1_whoseGoal_30
  replace hf := it_f c1 hf
  refine lv_aload_n hx hb dX1_whoseGoal_10 rfl (lv_at hl 0 rfl) ?_
  refine gf_1_5 C h ho hτ inX1_whoseGoal_1 lkX1_whoseGoal_21 dX1_whoseGoal_11 ?_
  refine lv_iload_n hx hb dX1_whoseGoal_14 rfl (lv_at hl 2 rfl) ?_
  obtain ⟨g2, hf⟩ := gd_use hf
  refine ld_1_4 C h ho hτ (inB_in g2) dX1_whoseGoal_15 ?_
  refine lv_iload_n hx hb dX1_whoseGoal_16 rfl (lv_at hl 1 rfl) ?_
  refine lv_icmp_ne (tgt := 22) hx hb dX1_whoseGoal_17 (by decide) (fun c3 => ?_) (fun c3 => ?_)
  · replace hf := it_f c3 hf
    obtain ⟨x4, ex4⟩ : ∃ y : Int32, y = (v2 + (1 : Int32)) := ⟨_, rfl⟩
    refine lv_iinc (v := x4) (lv' := [(2, .int x4), (0, .ref (Ea E o 0)), (1, .int p0)]) hx hb dX1_whoseGoal_22 hl (k := 2) rfl (by rw [ex4]; rfl) (by decide) rfl (fun ls hl => ?_)
    replace hf := lt_use ex4 hf
    clear ex4
    refine lv_goto (tgt := 2) hx hb dX1_whoseGoal_25 (by decide) ?_
    exact hk2 _ _ _ h ls (lv_sub hl [1, 2, 0] rfl) hf
  replace hf := it_t c3 hf
  refine lv_iload_n hx hb dX1_whoseGoal_20 rfl (lv_at hl 2 rfl) ?_
  replace hf := Option.some.inj hf
  subst hf
  exact r_ire C h dX1_whoseGoal_21
set_option maxHeartbeats 4000000 in
set_option maxRecDepth 100000 in
theorem w_X1_whoseGoal_2L {p : Program} {l : Launch} {e : Env} {s : State} {m : MethodId} {args : Array Value} {below : List Frame} {meth : Method} {c : Code} {E : Ev} {σ : Ms} {ℓ : Mz} {o : Nat} {τ : Mm} {p0 : Int32} {out : Int32} (ho : Kd o = 1) (hτ : σ o = τ)   (C : Cx cX1_whoseGoal 3 (some .int) wsX1_whoseGoal RX1 E p s m args meth c)  : ∀ (n9 : Nat) (v2 : Int32) (H : Heap) (locs : List Loc) (h : HI E σ ℓ s H locs) (ls : Array Slot) (hl : lv_has ls 3 [(0, .ref (Ea E o 0)), (1, .int p0), (2, .int v2)]), f_X1_whoseGoal_2L τ p0  n9 v2 = some out → W p l e rm_X1_whoseGoal s m args below meth c H locs 0 0 (MQ below (Po E s.heap.size (some (.int out)) σ ℓ) args s 0 0 (AA E s.heap.size)) (F0 m 2 ls []) := by
  intro n9
  induction n9 with
  | zero =>
    intro v2 H locs h ls hl hf
    cases (show (none : Option (Int32)) = some out from hf)
  | succ n9 ih =>
    intro v2 H locs h ls hl hf
    exact w_X1_whoseGoal_2 ho hτ  C  ih v2 H locs h ls hl hf
set_option maxHeartbeats 4000000 in
set_option maxRecDepth 100000 in
theorem w_X1_whoseGoal_0 {p : Program} {l : Launch} {e : Env} {s : State} {m : MethodId} {args : Array Value} {below : List Frame} {meth : Method} {c : Code} {E : Ev} {σ : Ms} {ℓ : Mz} {o : Nat} {τ : Mm} {p0 : Int32} {out : Int32} (ho : Kd o = 1) (hτ : σ o = τ)   (C : Cx cX1_whoseGoal 3 (some .int) wsX1_whoseGoal RX1 E p s m args meth c)  : ∀  (H : Heap) (locs : List Loc) (h : HI E σ ℓ s H locs) (ls : Array Slot) (hl : lv_has ls 3 [(0, .ref (Ea E o 0)), (1, .int p0)]), f_X1_whoseGoal_0 τ p0   = some out → W p l e rm_X1_whoseGoal s m args below meth c H locs 0 0 (MQ below (Po E s.heap.size (some (.int out)) σ ℓ) args s 0 0 (AA E s.heap.size)) (F0 m 0 ls []) := by
  intro  H locs h ls hl hf
  unfold f_X1_whoseGoal_0 at hf
  have C0 := C
  obtain ⟨hx, hb, hr, hml, hown, hts, hlk, hK, hSF⟩ := C0
  refine lv_iconst (v := (0 : Int32)) hx hb dX1_whoseGoal_0 (by decide) ?_
  refine lv_istore_n (lv' := [(2, .int (0 : Int32)), (0, .ref (Ea E o 0)), (1, .int p0)]) hx hb dX1_whoseGoal_1 rfl hl (by decide) rfl (fun ls hl => ?_)
  exact w_X1_whoseGoal_2L ho hτ   C  _ _ _ _ h ls (lv_sub hl [1, 2, 0] rfl) hf
theorem c_X1_whoseGoal {l : Launch} {E : Ev} {σ : Ms} {ℓ : Mz} {o : Nat} {τ : Mm} {p0 : Int32} (ho : Kd o = 1) (hτ : σ o = τ) {out : Int32} (hf : f_X1_whoseGoal τ p0 = some out) : Ct l yX1_whoseGoal wsX1_whoseGoal rm_X1_whoseGoal [.ref (Ea E o 0), .int p0] E σ ℓ (some (.int out)) σ ℓ := by
  refine Ct_mk (cc := cX1_whoseGoal) (mL := 3) (ret := (some .int)) (own := RX1) (by decide +kernel) rfl rfl (Nat.le_of_ble_eq_true rfl) (fun p e s m below meth c C h ls hl => ?_)
  exact w_X1_whoseGoal_0 ho hτ C  _ _ h ls (lv_sub hl [0, 1] rfl) hf
theorem hdX1_waitsFor : yX1_waitsFor.cls = RX1 ∧ yX1_waitsFor.cls ≠ "java/lang/invoke/MethodHandle" ∧ yX1_waitsFor.cls ≠ "java/lang/invoke/VarHandle" ∧ (parseMethodDescriptor yX1_waitsFor.desc).map (fun d => d.parameters.length) = some 1 := by decide +kernel
def rm_X1_waitsFor : Room := { frames := 1, cells := 0, slots := 0, locals := 22 }
set_option maxHeartbeats 4000000 in
set_option maxRecDepth 100000 in
theorem w_X1_waitsFor_0 {p : Program} {l : Launch} {e : Env} {s : State} {m : MethodId} {args : Array Value} {below : List Frame} {meth : Method} {c : Code} {E : Ev} {σ : Ms} {ℓ : Mz} {o : Nat} {τ : Mm} {p0 : Int32} {out : Int32} (ho : Kd o = 1) (hτ : σ o = τ)   (C : Cx cX1_waitsFor 2 (some .boolean) wsX1_waitsFor RX1 E p s m args meth c)  : ∀  (H : Heap) (locs : List Loc) (h : HI E σ ℓ s H locs) (ls : Array Slot) (hl : lv_has ls 2 [(0, .ref (Ea E o 0)), (1, .int p0)]), f_X1_waitsFor_0 τ p0   = some out → W p l e rm_X1_waitsFor s m args below meth c H locs 0 0 (MQ below (Po E s.heap.size (some (.int out)) σ ℓ) args s 0 0 (AA E s.heap.size)) (F0 m 0 ls []) := by
  intro  H locs h ls hl hf
  unfold f_X1_waitsFor_0 at hf
  have C0 := C
  obtain ⟨hx, hb, hr, hml, hown, hts, hlk, hK, hSF⟩ := C0
  refine lv_aload_n hx hb dX1_waitsFor_0 rfl (lv_at hl 0 rfl) ?_
  refine lv_iload_n hx hb dX1_waitsFor_1 rfl (lv_at hl 1 rfl) ?_
  obtain ⟨u1, hu1, hf⟩ := bd_use hf
  refine r_cv_1 (rest := []) C h (c_X1_isRung ho hτ hu1) ho gX1_waitsFor_X1_isRung rfl ⟨rfl, rfl⟩ hdX1_isRung ⟨Nat.le_of_ble_eq_true rfl, Nat.le_of_ble_eq_true rfl⟩ ⟨Nat.zero_le _, Nat.zero_le _⟩ hl.1 rfl (Nat.le_of_ble_eq_true rfl) dX1_waitsFor_2 (fun H locs h => ?_)
  refine lv_if_eq (tgt := 22) hx hb dX1_waitsFor_5 (by decide) (fun c2 => ?_) (fun c2 => ?_)
  · replace hf := it_t c2 hf
    refine lv_iconst (v := (0 : Int32)) hx hb dX1_waitsFor_22 (by decide) ?_
    replace hf := Option.some.inj hf
    subst hf
    exact r_zre (v := (0 : Int32)) C h rfl dX1_waitsFor_23
  replace hf := it_f c2 hf
  refine lv_aload_n hx hb dX1_waitsFor_8 rfl (lv_at hl 0 rfl) ?_
  refine lv_iload_n hx hb dX1_waitsFor_9 rfl (lv_at hl 1 rfl) ?_
  obtain ⟨u3, hu3, hf⟩ := bd_use hf
  refine r_cv_1 (rest := []) C h (c_X1_whoseGoal ho hτ hu3) ho gX1_waitsFor_X1_whoseGoal rfl ⟨rfl, rfl⟩ hdX1_whoseGoal ⟨Nat.le_of_ble_eq_true rfl, Nat.le_of_ble_eq_true rfl⟩ ⟨Nat.zero_le _, Nat.zero_le _⟩ hl.1 rfl (Nat.le_of_ble_eq_true rfl) dX1_waitsFor_10 (fun H locs h => ?_)
  refine lv_bipush (v := (-5 : Int32)) hx hb dX1_waitsFor_13 (by decide) ?_
  refine lv_icmp_ne (tgt := 22) hx hb dX1_waitsFor_15 (by decide) (fun c4 => ?_) (fun c4 => ?_)
  · replace hf := it_f c4 hf
    refine lv_iconst (v := (0 : Int32)) hx hb dX1_waitsFor_22 (by decide) ?_
    replace hf := Option.some.inj hf
    subst hf
    exact r_zre (v := (0 : Int32)) C h rfl dX1_waitsFor_23
  replace hf := it_t c4 hf
  refine lv_iconst (v := (1 : Int32)) hx hb dX1_waitsFor_18 (by decide) ?_
  refine lv_goto (tgt := 23) hx hb dX1_waitsFor_19 (by decide) ?_
  replace hf := Option.some.inj hf
  subst hf
  exact r_zre (v := (1 : Int32)) C h rfl dX1_waitsFor_23
theorem c_X1_waitsFor {l : Launch} {E : Ev} {σ : Ms} {ℓ : Mz} {o : Nat} {τ : Mm} {p0 : Int32} (ho : Kd o = 1) (hτ : σ o = τ) {out : Int32} (hf : f_X1_waitsFor τ p0 = some out) : Ct l yX1_waitsFor wsX1_waitsFor rm_X1_waitsFor [.ref (Ea E o 0), .int p0] E σ ℓ (some (.int out)) σ ℓ := by
  refine Ct_mk (cc := cX1_waitsFor) (mL := 2) (ret := (some .boolean)) (own := RX1) (by decide +kernel) rfl rfl (Nat.le_of_ble_eq_true rfl) (fun p e s m below meth c C h ls hl => ?_)
  exact w_X1_waitsFor_0 ho hτ C  _ _ h ls (lv_sub hl [0, 1] rfl) hf
theorem hdJ6_bitCount_0f7a4 : yJ6_bitCount_0f7a4.cls ≠ "java/lang/invoke/MethodHandle" ∧ yJ6_bitCount_0f7a4.cls ≠ "java/lang/invoke/VarHandle" ∧ (parseMethodDescriptor yJ6_bitCount_0f7a4.desc).map (fun d => d.parameters.length) = some 1 := by decide +kernel
def rm_J6_bitCount_0f7a4 : Room := { frames := 0, cells := 0, slots := 0, locals := 0 }
set_option maxRecDepth 100000 in
theorem wdJ6_bitCount_0f7a4_Cond_constant_RJ6_265__1431655765_ : Cond.constant RJ6 265 (1431655765) ∈ wsJ6_bitCount_0f7a4 := by decide +kernel
set_option maxRecDepth 100000 in
theorem wdJ6_bitCount_0f7a4_Cond_constant_RJ6_266__858993459_ : Cond.constant RJ6 266 (858993459) ∈ wsJ6_bitCount_0f7a4 := by decide +kernel
set_option maxRecDepth 100000 in
theorem wdJ6_bitCount_0f7a4_Cond_constant_RJ6_267__252645135_ : Cond.constant RJ6 267 (252645135) ∈ wsJ6_bitCount_0f7a4 := by decide +kernel
set_option maxHeartbeats 4000000 in
set_option maxRecDepth 100000 in
theorem w_J6_bitCount_0f7a4_0 {p : Program} {l : Launch} {e : Env} {s : State} {m : MethodId} {args : Array Value} {below : List Frame} {meth : Method} {c : Code} {E : Ev} {σ : Ms} {ℓ : Mz} {out : Int32}   (C : Cx cJ6_bitCount_0f7a4 1 (some .int) wsJ6_bitCount_0f7a4 RJ6 E p s m args meth c)  : ∀ (v0 : Int32) (H : Heap) (locs : List Loc) (h : HI E σ ℓ s H locs) (ls : Array Slot) (hl : lv_has ls 1 [(0, .int v0)]), f_J6_bitCount_0f7a4_0   v0 = some out → W p l e rm_J6_bitCount_0f7a4 s m args below meth c H locs 0 0 (MQ below (Po E s.heap.size (some (.int out)) σ ℓ) args s 0 0 (AA E s.heap.size)) (F0 m 0 ls []) := by
  intro v0 H locs h ls hl hf
  unfold f_J6_bitCount_0f7a4_0 at hf
  have C0 := C
  obtain ⟨hx, hb, hr, hml, hown, hts, hlk, hK, hSF⟩ := C0
  refine lv_iload_n hx hb dJ6_bitCount_0f7a4_0 rfl (lv_at hl 0 rfl) ?_
  refine lv_iload_n hx hb dJ6_bitCount_0f7a4_1 rfl (lv_at hl 0 rfl) ?_
  refine lv_iconst (v := (1 : Int32)) hx hb dJ6_bitCount_0f7a4_2 (by decide) ?_
  refine lv_iushr hx hb dJ6_bitCount_0f7a4_3 rfl ?_
  refine lv_ldcw hx hb hown (hts _ wdJ6_bitCount_0f7a4_Cond_constant_RJ6_265__1431655765_) dJ6_bitCount_0f7a4_4 ?_
  refine lv_iand hx hb dJ6_bitCount_0f7a4_7 ?_
  refine lv_isub hx hb dJ6_bitCount_0f7a4_8 ?_
  refine lv_topi (fun x1 ex1 => ?_)
  replace hf := lt_use ex1 hf
  clear ex1
  refine lv_istore_n (lv' := [(0, .int x1)]) hx hb dJ6_bitCount_0f7a4_9 rfl hl (by decide) rfl (fun ls hl => ?_)
  refine lv_iload_n hx hb dJ6_bitCount_0f7a4_10 rfl (lv_at hl 0 rfl) ?_
  refine lv_ldcw hx hb hown (hts _ wdJ6_bitCount_0f7a4_Cond_constant_RJ6_266__858993459_) dJ6_bitCount_0f7a4_11 ?_
  refine lv_iand hx hb dJ6_bitCount_0f7a4_14 ?_
  refine lv_iload_n hx hb dJ6_bitCount_0f7a4_15 rfl (lv_at hl 0 rfl) ?_
  refine lv_iconst (v := (2 : Int32)) hx hb dJ6_bitCount_0f7a4_16 (by decide) ?_
  refine lv_iushr hx hb dJ6_bitCount_0f7a4_17 rfl ?_
  refine lv_ldcw hx hb hown (hts _ wdJ6_bitCount_0f7a4_Cond_constant_RJ6_266__858993459_) dJ6_bitCount_0f7a4_18 ?_
  refine lv_iand hx hb dJ6_bitCount_0f7a4_21 ?_
  refine lv_iadd hx hb dJ6_bitCount_0f7a4_22 ?_
  refine lv_topi (fun x2 ex2 => ?_)
  replace hf := lt_use ex2 hf
  clear ex2
  refine lv_istore_n (lv' := [(0, .int x2)]) hx hb dJ6_bitCount_0f7a4_23 rfl hl (by decide) rfl (fun ls hl => ?_)
  refine lv_iload_n hx hb dJ6_bitCount_0f7a4_24 rfl (lv_at hl 0 rfl) ?_
  refine lv_iload_n hx hb dJ6_bitCount_0f7a4_25 rfl (lv_at hl 0 rfl) ?_
  refine lv_iconst (v := (4 : Int32)) hx hb dJ6_bitCount_0f7a4_26 (by decide) ?_
  refine lv_iushr hx hb dJ6_bitCount_0f7a4_27 rfl ?_
  refine lv_iadd hx hb dJ6_bitCount_0f7a4_28 ?_
  refine lv_ldcw hx hb hown (hts _ wdJ6_bitCount_0f7a4_Cond_constant_RJ6_267__252645135_) dJ6_bitCount_0f7a4_29 ?_
  refine lv_iand hx hb dJ6_bitCount_0f7a4_32 ?_
  refine lv_topi (fun x3 ex3 => ?_)
  replace hf := lt_use ex3 hf
  clear ex3
  refine lv_istore_n (lv' := [(0, .int x3)]) hx hb dJ6_bitCount_0f7a4_33 rfl hl (by decide) rfl (fun ls hl => ?_)
  refine lv_iload_n hx hb dJ6_bitCount_0f7a4_34 rfl (lv_at hl 0 rfl) ?_
  refine lv_iload_n hx hb dJ6_bitCount_0f7a4_35 rfl (lv_at hl 0 rfl) ?_
  refine lv_bipush (v := (8 : Int32)) hx hb dJ6_bitCount_0f7a4_36 (by decide) ?_
  refine lv_iushr hx hb dJ6_bitCount_0f7a4_38 rfl ?_
  refine lv_iadd hx hb dJ6_bitCount_0f7a4_39 ?_
  refine lv_topi (fun x4 ex4 => ?_)
  replace hf := lt_use ex4 hf
  clear ex4
  refine lv_istore_n (lv' := [(0, .int x4)]) hx hb dJ6_bitCount_0f7a4_40 rfl hl (by decide) rfl (fun ls hl => ?_)
  refine lv_iload_n hx hb dJ6_bitCount_0f7a4_41 rfl (lv_at hl 0 rfl) ?_
  refine lv_iload_n hx hb dJ6_bitCount_0f7a4_42 rfl (lv_at hl 0 rfl) ?_
  refine lv_bipush (v := (16 : Int32)) hx hb dJ6_bitCount_0f7a4_43 (by decide) ?_
  refine lv_iushr hx hb dJ6_bitCount_0f7a4_45 rfl ?_
  refine lv_iadd hx hb dJ6_bitCount_0f7a4_46 ?_
  refine lv_topi (fun x5 ex5 => ?_)
  replace hf := lt_use ex5 hf
  clear ex5
  refine lv_istore_n (lv' := [(0, .int x5)]) hx hb dJ6_bitCount_0f7a4_47 rfl hl (by decide) rfl (fun ls hl => ?_)
  refine lv_iload_n hx hb dJ6_bitCount_0f7a4_48 rfl (lv_at hl 0 rfl) ?_
  refine lv_bipush (v := (63 : Int32)) hx hb dJ6_bitCount_0f7a4_49 (by decide) ?_
  refine lv_iand hx hb dJ6_bitCount_0f7a4_51 ?_
  replace hf := Option.some.inj hf
  subst hf
  exact r_ire C h dJ6_bitCount_0f7a4_52
theorem c_J6_bitCount_0f7a4 {l : Launch} {E : Ev} {σ : Ms} {ℓ : Mz} {p0 : Int32} {out : Int32} (hf : f_J6_bitCount_0f7a4 p0 = some out) : Ct l yJ6_bitCount_0f7a4 wsJ6_bitCount_0f7a4 rm_J6_bitCount_0f7a4 [.int p0] E σ ℓ (some (.int out)) σ ℓ := by
  refine Ct_mk (cc := cJ6_bitCount_0f7a4) (mL := 1) (ret := (some .int)) (own := RJ6) (by decide +kernel) rfl rfl (Nat.le_of_ble_eq_true rfl) (fun p e s m below meth c C h ls hl => ?_)
  exact w_J6_bitCount_0f7a4_0  C p0 _ _ h ls (lv_sub hl [0] rfl) hf
theorem hdX2_weighs : yX2_weighs.cls = RX2 ∧ yX2_weighs.cls ≠ "java/lang/invoke/MethodHandle" ∧ yX2_weighs.cls ≠ "java/lang/invoke/VarHandle" ∧ (parseMethodDescriptor yX2_weighs.desc).map (fun d => d.parameters.length) = some 1 := by decide +kernel
def rm_X2_weighs : Room := { frames := 0, cells := 0, slots := 0, locals := 0 }
set_option maxRecDepth 100000 in
theorem inX2_weighs_2 : ∀ w ∈ wsX20, w ∈ wsX2_weighs := fun _ h => List.mem_cons_of_mem _ (List.mem_append_right _ h)
set_option maxRecDepth 100000 in
theorem lkX2_weighs_15 : Cond.fieldLink RX2 15 "BellsBelow$House" "used" "I" ∈ wsX2_weighs := by decide +kernel
set_option maxRecDepth 100000 in
theorem lkX2_weighs_9 : Cond.fieldLink RX2 9 "BellsBelow$House" "steps" "[I" ∈ wsX2_weighs := by decide +kernel
set_option maxHeartbeats 4000000 in
set_option maxRecDepth 100000 in
theorem w_X2_weighs_190 {p : Program} {l : Launch} {e : Env} {s : State} {m : MethodId} {args : Array Value} {below : List Frame} {meth : Method} {c : Code} {E : Ev} {σ : Ms} {ℓ : Mz} {o : Nat} {j : Nat} {τ : Mm} {τo : Mm} {out : Int32} (ho : Kd o = 2) (hj : Kd j = 1) (hne : j ≠ o) (hτ : σ o = τ) (hτo : σ j = τo)   (C : Cx cX2_weighs 10 (some .int) wsX2_weighs RX2 E p s m args meth c) {k7 : Int32 → Int32 → Int32 → Option (Int32)} (hk7 : ∀ (v2 : Int32) (v3 : Int32) (v4 : Int32) (H : Heap) (locs : List Loc), HI E σ ℓ s H locs → ∀ ls : Array Slot, lv_has ls 10 [(0, .ref (Ea E o 0)), (1, .ref (Ea E j 10)), (2, .int v2), (3, .int v3), (4, .int v4)] → k7 v2 v3 v4 = some out → W p l e rm_X2_weighs s m args below meth c H locs 0 0 (MQ below (Po E s.heap.size (some (.int out)) σ ℓ) args s 0 0 (AA E s.heap.size)) (F0 m 7 ls [])) : ∀ (v2 : Int32) (v3 : Int32) (v4 : Int32) (H : Heap) (locs : List Loc) (h : HI E σ ℓ s H locs) (ls : Array Slot) (hl : lv_has ls 10 [(0, .ref (Ea E o 0)), (1, .ref (Ea E j 10)), (2, .int v2), (3, .int v3), (4, .int v4)]), f_X2_weighs_190 τ τo k7 v2 v3 v4 = some out → W p l e rm_X2_weighs s m args below meth c H locs 0 0 (MQ below (Po E s.heap.size (some (.int out)) σ ℓ) args s 0 0 (AA E s.heap.size)) (F0 m 190 ls []) := by
  intro v2 v3 v4 H locs h ls hl hf
  unfold f_X2_weighs_190 at hf
  have C0 := C
  obtain ⟨hx, hb, hr, hml, hown, hts, hlk, hK, hSF⟩ := C0
  obtain ⟨x11, ex11⟩ : ∃ y : Int32, y = (v4 + (1 : Int32)) := ⟨_, rfl⟩
  refine lv_iinc (v := x11) (lv' := [(4, .int x11), (0, .ref (Ea E o 0)), (1, .ref (Ea E j 10)), (2, .int v2), (3, .int v3)]) hx hb dX2_weighs_190 hl (k := 4) rfl (by rw [ex11]; rfl) (by decide) rfl (fun ls hl => ?_)
  replace hf := lt_use ex11 hf
  clear ex11
  refine lv_goto (tgt := 7) hx hb dX2_weighs_193 (by decide) ?_
  exact hk7 _ _ _ _ _ h ls (lv_sub hl [1, 2, 3, 4, 0] rfl) hf
set_option maxHeartbeats 4000000 in
set_option maxRecDepth 100000 in
theorem w_X2_weighs_185 {p : Program} {l : Launch} {e : Env} {s : State} {m : MethodId} {args : Array Value} {below : List Frame} {meth : Method} {c : Code} {E : Ev} {σ : Ms} {ℓ : Mz} {o : Nat} {j : Nat} {τ : Mm} {τo : Mm} {out : Int32} (ho : Kd o = 2) (hj : Kd j = 1) (hne : j ≠ o) (hτ : σ o = τ) (hτo : σ j = τo)   (C : Cx cX2_weighs 10 (some .int) wsX2_weighs RX2 E p s m args meth c) {k7 : Int32 → Int32 → Int32 → Option (Int32)} (hk7 : ∀ (v2 : Int32) (v3 : Int32) (v4 : Int32) (H : Heap) (locs : List Loc), HI E σ ℓ s H locs → ∀ ls : Array Slot, lv_has ls 10 [(0, .ref (Ea E o 0)), (1, .ref (Ea E j 10)), (2, .int v2), (3, .int v3), (4, .int v4)] → k7 v2 v3 v4 = some out → W p l e rm_X2_weighs s m args below meth c H locs 0 0 (MQ below (Po E s.heap.size (some (.int out)) σ ℓ) args s 0 0 (AA E s.heap.size)) (F0 m 7 ls [])) : ∀ (v4 : Int32) (w0 : Int32) (w1 : Int32) (w2 : Int32) (H : Heap) (locs : List Loc) (h : HI E σ ℓ s H locs) (ls : Array Slot) (hl : lv_has ls 10 [(0, .ref (Ea E o 0)), (1, .ref (Ea E j 10)), (4, .int v4)]), f_X2_weighs_185 τ τo k7 v4 w0 w1 w2 = some out → W p l e rm_X2_weighs s m args below meth c H locs 0 0 (MQ below (Po E s.heap.size (some (.int out)) σ ℓ) args s 0 0 (AA E s.heap.size)) (F0 m 185 ls [.int w2, .int w1, .int w0]) := by
  intro v4 w0 w1 w2 H locs h ls hl hf
  unfold f_X2_weighs_185 at hf
  have C0 := C
  obtain ⟨hx, hb, hr, hml, hown, hts, hlk, hK, hSF⟩ := C0
  refine lv_imul hx hb dX2_weighs_185 ?_
  refine lv_iadd hx hb dX2_weighs_186 ?_
  refine lv_topi (fun x10 ex10 => ?_)
  replace hf := lt_use ex10 hf
  clear ex10
  refine lv_istore_n (lv' := [(2, .int x10), (0, .ref (Ea E o 0)), (1, .ref (Ea E j 10)), (4, .int v4)]) hx hb dX2_weighs_187 rfl hl (by decide) rfl (fun ls hl => ?_)
  refine lv_iconst (v := (0 : Int32)) hx hb dX2_weighs_188 (by decide) ?_
  refine lv_istore_n (lv' := [(3, .int (0 : Int32)), (2, .int x10), (0, .ref (Ea E o 0)), (1, .ref (Ea E j 10)), (4, .int v4)]) hx hb dX2_weighs_189 rfl hl (by decide) rfl (fun ls hl => ?_)
  exact w_X2_weighs_190 ho hj hne hτ hτo   C hk7 _ _ _ _ _ h ls (lv_sub hl [2, 3, 1, 0, 4] rfl) hf
set_option maxHeartbeats 4000000 in
set_option maxRecDepth 100000 in
theorem w_X2_weighs_100 {p : Program} {l : Launch} {e : Env} {s : State} {m : MethodId} {args : Array Value} {below : List Frame} {meth : Method} {c : Code} {E : Ev} {σ : Ms} {ℓ : Mz} {o : Nat} {j : Nat} {τ : Mm} {τo : Mm} {out : Int32} (ho : Kd o = 2) (hj : Kd j = 1) (hne : j ≠ o) (hτ : σ o = τ) (hτo : σ j = τo)   (C : Cx cX2_weighs 10 (some .int) wsX2_weighs RX2 E p s m args meth c) {k7 : Int32 → Int32 → Int32 → Option (Int32)} (hk7 : ∀ (v2 : Int32) (v3 : Int32) (v4 : Int32) (H : Heap) (locs : List Loc), HI E σ ℓ s H locs → ∀ ls : Array Slot, lv_has ls 10 [(0, .ref (Ea E o 0)), (1, .ref (Ea E j 10)), (2, .int v2), (3, .int v3), (4, .int v4)] → k7 v2 v3 v4 = some out → W p l e rm_X2_weighs s m args below meth c H locs 0 0 (MQ below (Po E s.heap.size (some (.int out)) σ ℓ) args s 0 0 (AA E s.heap.size)) (F0 m 7 ls [])) : ∀ (v2 : Int32) (v4 : Int32) (w0 : Int32) (w1 : Int32) (H : Heap) (locs : List Loc) (h : HI E σ ℓ s H locs) (ls : Array Slot) (hl : lv_has ls 10 [(0, .ref (Ea E o 0)), (1, .ref (Ea E j 10)), (2, .int v2), (4, .int v4)]), f_X2_weighs_100 τ τo k7 v2 v4 w0 w1 = some out → W p l e rm_X2_weighs s m args below meth c H locs 0 0 (MQ below (Po E s.heap.size (some (.int out)) σ ℓ) args s 0 0 (AA E s.heap.size)) (F0 m 100 ls [.int w1, .int w0]) := by
  intro v2 v4 w0 w1 H locs h ls hl hf
  unfold f_X2_weighs_100 at hf
  have C0 := C
  obtain ⟨hx, hb, hr, hml, hown, hts, hlk, hK, hSF⟩ := C0
  refine lv_ior hx hb dX2_weighs_100 ?_
  refine lv_topi (fun x21 ex21 => ?_)
  replace hf := lt_use ex21 hf
  clear ex21
  refine lv_istore_n (lv' := [(3, .int x21), (0, .ref (Ea E o 0)), (1, .ref (Ea E j 10)), (2, .int v2), (4, .int v4)]) hx hb dX2_weighs_101 rfl hl (by decide) rfl (fun ls hl => ?_)
  refine lv_goto (tgt := 190) hx hb dX2_weighs_102 (by decide) ?_
  exact w_X2_weighs_190 ho hj hne hτ hτo   C hk7 _ _ _ _ _ h ls (lv_sub hl [1, 2, 3, 0, 4] rfl) hf
set_option maxHeartbeats 4000000 in
set_option maxRecDepth 100000 in
theorem w_X2_weighs_78 {p : Program} {l : Launch} {e : Env} {s : State} {m : MethodId} {args : Array Value} {below : List Frame} {meth : Method} {c : Code} {E : Ev} {σ : Ms} {ℓ : Mz} {o : Nat} {j : Nat} {τ : Mm} {τo : Mm} {out : Int32} (ho : Kd o = 2) (hj : Kd j = 1) (hne : j ≠ o) (hτ : σ o = τ) (hτo : σ j = τo)   (C : Cx cX2_weighs 10 (some .int) wsX2_weighs RX2 E p s m args meth c) {k7 : Int32 → Int32 → Int32 → Option (Int32)} (hk7 : ∀ (v2 : Int32) (v3 : Int32) (v4 : Int32) (H : Heap) (locs : List Loc), HI E σ ℓ s H locs → ∀ ls : Array Slot, lv_has ls 10 [(0, .ref (Ea E o 0)), (1, .ref (Ea E j 10)), (2, .int v2), (3, .int v3), (4, .int v4)] → k7 v2 v3 v4 = some out → W p l e rm_X2_weighs s m args below meth c H locs 0 0 (MQ below (Po E s.heap.size (some (.int out)) σ ℓ) args s 0 0 (AA E s.heap.size)) (F0 m 7 ls [])) : ∀ (v2 : Int32) (v3 : Int32) (v4 : Int32) (v5 : Int32) (w0 : Int32) (H : Heap) (locs : List Loc) (h : HI E σ ℓ s H locs) (ls : Array Slot) (hl : lv_has ls 10 [(0, .ref (Ea E o 0)), (1, .ref (Ea E j 10)), (2, .int v2), (3, .int v3), (4, .int v4), (5, .int v5)]), f_X2_weighs_78 τ τo k7 v2 v3 v4 v5 w0 = some out → W p l e rm_X2_weighs s m args below meth c H locs 0 0 (MQ below (Po E s.heap.size (some (.int out)) σ ℓ) args s 0 0 (AA E s.heap.size)) (F0 m 78 ls [.int w0]) := by
  intro v2 v3 v4 v5 w0 H locs h ls hl hf
  unfold f_X2_weighs_78 at hf
  have C0 := C
  obtain ⟨hx, hb, hr, hml, hown, hts, hlk, hK, hSF⟩ := C0
  refine lv_istore (lv' := [(9, .int w0), (0, .ref (Ea E o 0)), (1, .ref (Ea E j 10)), (2, .int v2), (3, .int v3), (4, .int v4), (5, .int v5)]) hx hb dX2_weighs_78 hl (by decide) rfl (fun ls hl => ?_)
  refine lv_iload_n hx hb dX2_weighs_80 rfl (lv_at hl 4 rfl) ?_
  refine lv_iconst (v := (1 : Int32)) hx hb dX2_weighs_81 (by decide) ?_
  refine lv_ishl hx hb dX2_weighs_82 ?_
  refine lv_iload hx hb dX2_weighs_83 (lv_at hl 0 rfl) ?_
  refine lv_iload hx hb dX2_weighs_85 (lv_at hl 6 rfl) ?_
  refine lv_bipush (v := (100 : Int32)) hx hb dX2_weighs_87 (by decide) ?_
  refine lv_idiv hx hb dX2_weighs_89 (by decide) ?_
  refine lv_iconst (v := (3 : Int32)) hx hb dX2_weighs_90 (by decide) ?_
  refine lv_irem hx hb dX2_weighs_91 (by decide) ?_
  refine lv_icmp_ne (tgt := 99) hx hb dX2_weighs_92 (by decide) (fun c20 => ?_) (fun c20 => ?_)
  · replace hf := it_f c20 hf
    refine lv_iconst (v := (0 : Int32)) hx hb dX2_weighs_99 (by decide) ?_
    exact w_X2_weighs_100 ho hj hne hτ hτo   C hk7 _ _ _ _ _ _ h ls (lv_sub hl [1, 2, 3, 5] rfl) hf
  replace hf := it_t c20 hf
  refine lv_iconst (v := (1 : Int32)) hx hb dX2_weighs_95 (by decide) ?_
  refine lv_goto (tgt := 100) hx hb dX2_weighs_96 (by decide) ?_
  exact w_X2_weighs_100 ho hj hne hτ hτo   C hk7 _ _ _ _ _ _ h ls (lv_sub hl [1, 2, 3, 5] rfl) hf
set_option maxHeartbeats 4000000 in
set_option maxRecDepth 100000 in
theorem w_X2_weighs_7 {p : Program} {l : Launch} {e : Env} {s : State} {m : MethodId} {args : Array Value} {below : List Frame} {meth : Method} {c : Code} {E : Ev} {σ : Ms} {ℓ : Mz} {o : Nat} {j : Nat} {τ : Mm} {τo : Mm} {out : Int32} (ho : Kd o = 2) (hj : Kd j = 1) (hne : j ≠ o) (hτ : σ o = τ) (hτo : σ j = τo)   (C : Cx cX2_weighs 10 (some .int) wsX2_weighs RX2 E p s m args meth c) {k7 : Int32 → Int32 → Int32 → Option (Int32)} (hk7 : ∀ (v2 : Int32) (v3 : Int32) (v4 : Int32) (H : Heap) (locs : List Loc), HI E σ ℓ s H locs → ∀ ls : Array Slot, lv_has ls 10 [(0, .ref (Ea E o 0)), (1, .ref (Ea E j 10)), (2, .int v2), (3, .int v3), (4, .int v4)] → k7 v2 v3 v4 = some out → W p l e rm_X2_weighs s m args below meth c H locs 0 0 (MQ below (Po E s.heap.size (some (.int out)) σ ℓ) args s 0 0 (AA E s.heap.size)) (F0 m 7 ls [])) : ∀ (v2 : Int32) (v3 : Int32) (v4 : Int32) (H : Heap) (locs : List Loc) (h : HI E σ ℓ s H locs) (ls : Array Slot) (hl : lv_has ls 10 [(0, .ref (Ea E o 0)), (1, .ref (Ea E j 10)), (2, .int v2), (3, .int v3), (4, .int v4)]), f_X2_weighs_7 τ τo k7 v2 v3 v4 = some out → W p l e rm_X2_weighs s m args below meth c H locs 0 0 (MQ below (Po E s.heap.size (some (.int out)) σ ℓ) args s 0 0 (AA E s.heap.size)) (F0 m 7 ls []) := by
  intro v2 v3 v4 H locs h ls hl hf
  unfold f_X2_weighs_7 at hf
  have C0 := C
  obtain ⟨hx, hb, hr, hml, hown, hts, hlk, hK, hSF⟩ := C0
  refine lv_iload hx hb dX2_weighs_7 (lv_at hl 4 rfl) ?_
  refine lv_aload_n hx hb dX2_weighs_9 rfl (lv_at hl 0 rfl) ?_
  refine gf_2_1 C h ho hτ inX2_weighs_2 lkX2_weighs_15 dX2_weighs_10 ?_
  refine lv_icmp_ge (tgt := 196) hx hb dX2_weighs_13 (by decide) (fun c1 => ?_) (fun c1 => ?_)
  · replace hf := it_t c1 hf
    refine lv_iload_n hx hb dX2_weighs_196 rfl (lv_at hl 2 rfl) ?_
    replace hf := Option.some.inj hf
    subst hf
    exact r_ire C h dX2_weighs_197
  replace hf := it_f c1 hf
  refine lv_aload_n hx hb dX2_weighs_16 rfl (lv_at hl 0 rfl) ?_
  refine gf_2_0 C h ho hτ inX2_weighs_2 lkX2_weighs_9 dX2_weighs_17 ?_
  refine lv_iload hx hb dX2_weighs_20 (lv_at hl 4 rfl) ?_
  obtain ⟨g2, hf⟩ := gd_use hf
  refine ld_2_1 C h ho hτ (inB_in g2) dX2_weighs_22 ?_
  refine lv_topi (fun x3 ex3 => ?_)
  replace hf := lt_use ex3 hf
  clear ex3
  refine lv_istore (lv' := [(5, .int x3), (0, .ref (Ea E o 0)), (1, .ref (Ea E j 10)), (2, .int v2), (3, .int v3), (4, .int v4)]) hx hb dX2_weighs_23 hl (by decide) rfl (fun ls hl => ?_)
  refine lv_iload_n hx hb dX2_weighs_25 rfl (lv_at hl 4 rfl) ?_
  refine lv_iconst (v := (1 : Int32)) hx hb dX2_weighs_26 (by decide) ?_
  refine lv_iand hx hb dX2_weighs_27 ?_
  refine lv_topi (fun x4 ex4 => ?_)
  replace hf := lt_use ex4 hf
  clear ex4
  refine lv_istore (lv' := [(6, .int x4), (5, .int x3), (0, .ref (Ea E o 0)), (1, .ref (Ea E j 10)), (2, .int v2), (3, .int v3), (4, .int v4)]) hx hb dX2_weighs_28 hl (by decide) rfl (fun ls hl => ?_)
  refine lv_iload hx hb dX2_weighs_30 (lv_at hl 1 rfl) ?_
  refine lv_sipush (v := (1800 : Int32)) hx hb dX2_weighs_32 (by decide) ?_
  refine lv_icmp_ge (tgt := 105) hx hb dX2_weighs_35 (by decide) (fun c5 => ?_) (fun c5 => ?_)
  · replace hf := it_t c5 hf
    refine lv_iload hx hb dX2_weighs_105 (lv_at hl 1 rfl) ?_
    refine lv_sipush (v := (1800 : Int32)) hx hb dX2_weighs_107 (by decide) ?_
    refine lv_icmp_ne (tgt := 120) hx hb dX2_weighs_110 (by decide) (fun c6 => ?_) (fun c6 => ?_)
    · replace hf := it_f c6 hf
      refine lv_iload hx hb dX2_weighs_120 (lv_at hl 1 rfl) ?_
      refine lv_sipush (v := (1801 : Int32)) hx hb dX2_weighs_122 (by decide) ?_
      refine lv_icmp_ne (tgt := 141) hx hb dX2_weighs_125 (by decide) (fun c7 => ?_) (fun c7 => ?_)
      · replace hf := it_f c7 hf
        refine lv_iload hx hb dX2_weighs_141 (lv_at hl 1 rfl) ?_
        refine lv_sipush (v := (1802 : Int32)) hx hb dX2_weighs_143 (by decide) ?_
        refine lv_icmp_ne (tgt := 159) hx hb dX2_weighs_146 (by decide) (fun c8 => ?_) (fun c8 => ?_)
        · replace hf := it_f c8 hf
          refine lv_iload_n hx hb dX2_weighs_159 rfl (lv_at hl 4 rfl) ?_
          refine lv_iload hx hb dX2_weighs_160 (lv_at hl 0 rfl) ?_
          refine lv_iload hx hb dX2_weighs_162 (lv_at hl 1 rfl) ?_
          refine lv_sipush (v := (2000 : Int32)) hx hb dX2_weighs_164 (by decide) ?_
          refine lv_icmp_ge (tgt := 179) hx hb dX2_weighs_167 (by decide) (fun c9 => ?_) (fun c9 => ?_)
          · replace hf := it_t c9 hf
            refine lv_sipush (v := (2000 : Int32)) hx hb dX2_weighs_179 (by decide) ?_
            refine lv_iload hx hb dX2_weighs_182 (lv_at hl 1 rfl) ?_
            refine lv_isub hx hb dX2_weighs_184 ?_
            exact w_X2_weighs_185 ho hj hne hτ hτo   C hk7 _ _ _ _ _ _ h ls (lv_sub hl [2, 3, 6] rfl) hf
          replace hf := it_f c9 hf
          refine lv_iload hx hb dX2_weighs_170 (lv_at hl 1 rfl) ?_
          refine lv_sipush (v := (1900 : Int32)) hx hb dX2_weighs_172 (by decide) ?_
          refine lv_isub hx hb dX2_weighs_175 ?_
          refine lv_goto (tgt := 185) hx hb dX2_weighs_176 (by decide) ?_
          exact w_X2_weighs_185 ho hj hne hτ hτo   C hk7 _ _ _ _ _ _ h ls (lv_sub hl [2, 3, 6] rfl) hf
        replace hf := it_t c8 hf
        refine lv_iload_n hx hb dX2_weighs_149 rfl (lv_at hl 5 rfl) ?_
        refine lv_iconst (v := (1 : Int32)) hx hb dX2_weighs_150 (by decide) ?_
        refine lv_ishr hx hb dX2_weighs_151 ?_
        refine lv_iload hx hb dX2_weighs_152 (lv_at hl 0 rfl) ?_
        refine lv_ior hx hb dX2_weighs_154 ?_
        refine lv_topi (fun x12 ex12 => ?_)
        replace hf := lt_use ex12 hf
        clear ex12
        refine lv_istore_n (lv' := [(3, .int x12), (6, .int x4), (5, .int x3), (0, .ref (Ea E o 0)), (1, .ref (Ea E j 10)), (2, .int v2), (4, .int v4)]) hx hb dX2_weighs_155 rfl hl (by decide) rfl (fun ls hl => ?_)
        refine lv_goto (tgt := 190) hx hb dX2_weighs_156 (by decide) ?_
        exact w_X2_weighs_190 ho hj hne hτ hτo   C hk7 _ _ _ _ _ h ls (lv_sub hl [3, 4, 5, 0, 6] rfl) hf
      replace hf := it_t c7 hf
      refine lv_iload_n hx hb dX2_weighs_128 rfl (lv_at hl 5 rfl) ?_
      refine lv_iconst (v := (1 : Int32)) hx hb dX2_weighs_129 (by decide) ?_
      refine lv_ishr hx hb dX2_weighs_130 ?_
      refine lv_iload hx hb dX2_weighs_131 (lv_at hl 0 rfl) ?_
      refine lv_bipush (v := (-2 : Int32)) hx hb dX2_weighs_133 (by decide) ?_
      refine lv_ior hx hb dX2_weighs_135 ?_
      refine lv_iand hx hb dX2_weighs_136 ?_
      refine lv_topi (fun x13 ex13 => ?_)
      replace hf := lt_use ex13 hf
      clear ex13
      refine lv_istore_n (lv' := [(3, .int x13), (6, .int x4), (5, .int x3), (0, .ref (Ea E o 0)), (1, .ref (Ea E j 10)), (2, .int v2), (4, .int v4)]) hx hb dX2_weighs_137 rfl hl (by decide) rfl (fun ls hl => ?_)
      refine lv_goto (tgt := 190) hx hb dX2_weighs_138 (by decide) ?_
      exact w_X2_weighs_190 ho hj hne hτ hτo   C hk7 _ _ _ _ _ h ls (lv_sub hl [3, 4, 5, 0, 6] rfl) hf
    replace hf := it_t c6 hf
    refine lv_iload_n hx hb dX2_weighs_113 rfl (lv_at hl 5 rfl) ?_
    refine lv_iconst (v := (1 : Int32)) hx hb dX2_weighs_114 (by decide) ?_
    refine lv_ixor hx hb dX2_weighs_115 ?_
    refine lv_topi (fun x14 ex14 => ?_)
    replace hf := lt_use ex14 hf
    clear ex14
    refine lv_istore_n (lv' := [(3, .int x14), (6, .int x4), (5, .int x3), (0, .ref (Ea E o 0)), (1, .ref (Ea E j 10)), (2, .int v2), (4, .int v4)]) hx hb dX2_weighs_116 rfl hl (by decide) rfl (fun ls hl => ?_)
    refine lv_goto (tgt := 190) hx hb dX2_weighs_117 (by decide) ?_
    exact w_X2_weighs_190 ho hj hne hτ hτo   C hk7 _ _ _ _ _ h ls (lv_sub hl [3, 4, 5, 0, 6] rfl) hf
  replace hf := it_f c5 hf
  refine lv_aload_n hx hb dX2_weighs_38 rfl (lv_at hl 3 rfl) ?_
  refine lv_iload hx hb dX2_weighs_39 (lv_at hl 1 rfl) ?_
  refine lv_sipush (v := (300 : Int32)) hx hb dX2_weighs_41 (by decide) ?_
  refine lv_idiv hx hb dX2_weighs_44 (by decide) ?_
  obtain ⟨g15, hf⟩ := gd_use hf
  refine ld_1_10 C h hj hτo (inB_in g15) dX2_weighs_45 ?_
  refine lv_topi (fun x16 ex16 => ?_)
  replace hf := lt_use ex16 hf
  clear ex16
  refine lv_istore (lv' := [(7, .int x16), (6, .int x4), (5, .int x3), (0, .ref (Ea E o 0)), (1, .ref (Ea E j 10)), (2, .int v2), (3, .int v3), (4, .int v4)]) hx hb dX2_weighs_46 hl (by decide) rfl (fun ls hl => ?_)
  refine lv_iload hx hb dX2_weighs_48 (lv_at hl 2 rfl) ?_
  refine lv_bipush (v := (100 : Int32)) hx hb dX2_weighs_50 (by decide) ?_
  refine lv_irem hx hb dX2_weighs_52 (by decide) ?_
  refine lv_topi (fun x17 ex17 => ?_)
  replace hf := lt_use ex17 hf
  clear ex17
  refine lv_istore (lv' := [(8, .int x17), (7, .int x16), (6, .int x4), (5, .int x3), (0, .ref (Ea E o 0)), (1, .ref (Ea E j 10)), (2, .int v2), (3, .int v3), (4, .int v4)]) hx hb dX2_weighs_53 hl (by decide) rfl (fun ls hl => ?_)
  refine lv_iload hx hb dX2_weighs_55 (lv_at hl 1 rfl) ?_
  refine lv_iload hx hb dX2_weighs_57 (lv_at hl 0 rfl) ?_
  refine lv_icmp_ge (tgt := 66) hx hb dX2_weighs_59 (by decide) (fun c18 => ?_) (fun c18 => ?_)
  · replace hf := it_t c18 hf
    refine lv_iload hx hb dX2_weighs_66 (lv_at hl 1 rfl) ?_
    refine lv_iload hx hb dX2_weighs_68 (lv_at hl 0 rfl) ?_
    refine lv_icmp_ne (tgt := 77) hx hb dX2_weighs_70 (by decide) (fun c19 => ?_) (fun c19 => ?_)
    · replace hf := it_f c19 hf
      refine lv_iconst (v := (2 : Int32)) hx hb dX2_weighs_77 (by decide) ?_
      exact w_X2_weighs_78 ho hj hne hτ hτo   C hk7 _ _ _ _ _ _ _ h ls (lv_sub hl [4, 5, 6, 7, 8, 3] rfl) hf
    replace hf := it_t c19 hf
    refine lv_iconst (v := (1 : Int32)) hx hb dX2_weighs_73 (by decide) ?_
    refine lv_goto (tgt := 78) hx hb dX2_weighs_74 (by decide) ?_
    exact w_X2_weighs_78 ho hj hne hτ hτo   C hk7 _ _ _ _ _ _ _ h ls (lv_sub hl [4, 5, 6, 7, 8, 3] rfl) hf
  replace hf := it_f c18 hf
  refine lv_iconst (v := (0 : Int32)) hx hb dX2_weighs_62 (by decide) ?_
  refine lv_goto (tgt := 78) hx hb dX2_weighs_63 (by decide) ?_
  exact w_X2_weighs_78 ho hj hne hτ hτo   C hk7 _ _ _ _ _ _ _ h ls (lv_sub hl [4, 5, 6, 7, 8, 3] rfl) hf
set_option maxHeartbeats 4000000 in
set_option maxRecDepth 100000 in
theorem w_X2_weighs_7L {p : Program} {l : Launch} {e : Env} {s : State} {m : MethodId} {args : Array Value} {below : List Frame} {meth : Method} {c : Code} {E : Ev} {σ : Ms} {ℓ : Mz} {o : Nat} {j : Nat} {τ : Mm} {τo : Mm} {out : Int32} (ho : Kd o = 2) (hj : Kd j = 1) (hne : j ≠ o) (hτ : σ o = τ) (hτo : σ j = τo)   (C : Cx cX2_weighs 10 (some .int) wsX2_weighs RX2 E p s m args meth c)  : ∀ (n9 : Nat) (v2 : Int32) (v3 : Int32) (v4 : Int32) (H : Heap) (locs : List Loc) (h : HI E σ ℓ s H locs) (ls : Array Slot) (hl : lv_has ls 10 [(0, .ref (Ea E o 0)), (1, .ref (Ea E j 10)), (2, .int v2), (3, .int v3), (4, .int v4)]), f_X2_weighs_7L τ τo  n9 v2 v3 v4 = some out → W p l e rm_X2_weighs s m args below meth c H locs 0 0 (MQ below (Po E s.heap.size (some (.int out)) σ ℓ) args s 0 0 (AA E s.heap.size)) (F0 m 7 ls []) := by
  intro n9
  induction n9 with
  | zero =>
    intro v2 v3 v4 H locs h ls hl hf
    cases (show (none : Option (Int32)) = some out from hf)
  | succ n9 ih =>
    intro v2 v3 v4 H locs h ls hl hf
    exact w_X2_weighs_7 ho hj hne hτ hτo  C  ih v2 v3 v4 H locs h ls hl hf
set_option maxHeartbeats 4000000 in
set_option maxRecDepth 100000 in
theorem w_X2_weighs_0 {p : Program} {l : Launch} {e : Env} {s : State} {m : MethodId} {args : Array Value} {below : List Frame} {meth : Method} {c : Code} {E : Ev} {σ : Ms} {ℓ : Mz} {o : Nat} {j : Nat} {τ : Mm} {τo : Mm} {out : Int32} (ho : Kd o = 2) (hj : Kd j = 1) (hne : j ≠ o) (hτ : σ o = τ) (hτo : σ j = τo)   (C : Cx cX2_weighs 10 (some .int) wsX2_weighs RX2 E p s m args meth c)  : ∀  (H : Heap) (locs : List Loc) (h : HI E σ ℓ s H locs) (ls : Array Slot) (hl : lv_has ls 10 [(0, .ref (Ea E o 0)), (1, .ref (Ea E j 10))]), f_X2_weighs_0 τ τo   = some out → W p l e rm_X2_weighs s m args below meth c H locs 0 0 (MQ below (Po E s.heap.size (some (.int out)) σ ℓ) args s 0 0 (AA E s.heap.size)) (F0 m 0 ls []) := by
  intro  H locs h ls hl hf
  unfold f_X2_weighs_0 at hf
  have C0 := C
  obtain ⟨hx, hb, hr, hml, hown, hts, hlk, hK, hSF⟩ := C0
  refine lv_iconst (v := (0 : Int32)) hx hb dX2_weighs_0 (by decide) ?_
  refine lv_istore_n (lv' := [(2, .int (0 : Int32)), (0, .ref (Ea E o 0)), (1, .ref (Ea E j 10))]) hx hb dX2_weighs_1 rfl hl (by decide) rfl (fun ls hl => ?_)
  refine lv_iconst (v := (0 : Int32)) hx hb dX2_weighs_2 (by decide) ?_
  refine lv_istore_n (lv' := [(3, .int (0 : Int32)), (2, .int (0 : Int32)), (0, .ref (Ea E o 0)), (1, .ref (Ea E j 10))]) hx hb dX2_weighs_3 rfl hl (by decide) rfl (fun ls hl => ?_)
  refine lv_iconst (v := (0 : Int32)) hx hb dX2_weighs_4 (by decide) ?_
  refine lv_istore (lv' := [(4, .int (0 : Int32)), (3, .int (0 : Int32)), (2, .int (0 : Int32)), (0, .ref (Ea E o 0)), (1, .ref (Ea E j 10))]) hx hb dX2_weighs_5 hl (by decide) rfl (fun ls hl => ?_)
  exact w_X2_weighs_7L ho hj hne hτ hτo   C  _ _ _ _ _ _ h ls (lv_sub hl [3, 4, 2, 1, 0] rfl) hf
theorem c_X2_weighs {l : Launch} {E : Ev} {σ : Ms} {ℓ : Mz} {o : Nat} {j : Nat} {τ : Mm} {τo : Mm} (ho : Kd o = 2) (hj : Kd j = 1) (hne : j ≠ o) (hτ : σ o = τ) (hτo : σ j = τo) {out : Int32} (hf : f_X2_weighs τ τo = some out) : Ct l yX2_weighs wsX2_weighs rm_X2_weighs [.ref (Ea E o 0), .ref (Ea E j 10)] E σ ℓ (some (.int out)) σ ℓ := by
  refine Ct_mk (cc := cX2_weighs) (mL := 10) (ret := (some .int)) (own := RX2) (by decide +kernel) rfl rfl (Nat.le_of_ble_eq_true rfl) (fun p e s m below meth c C h ls hl => ?_)
  exact w_X2_weighs_0 ho hj hne hτ hτo C  _ _ h ls (lv_sub hl [0, 1] rfl) hf
theorem hdX1_sum : yX1_sum.cls = RX1 ∧ yX1_sum.cls ≠ "java/lang/invoke/MethodHandle" ∧ yX1_sum.cls ≠ "java/lang/invoke/VarHandle" ∧ (parseMethodDescriptor yX1_sum.desc).map (fun d => d.parameters.length) = some 2 := by decide +kernel
def rm_X1_sum : Room := { frames := 1, cells := 0, slots := 0, locals := 60 }
set_option maxRecDepth 100000 in
theorem inX1_sum_1 : ∀ w ∈ wsX10, w ∈ wsX1_sum := fun _ h => List.mem_cons_of_mem _ (List.mem_append_left _ (List.mem_append_right _ h))
set_option maxRecDepth 100000 in
theorem lkX1_sum_18 : Cond.fieldLink RX1 18 "BellsBelow$Hall" "floor" "[I" ∈ wsX1_sum := by decide +kernel
set_option maxRecDepth 100000 in
theorem wdX1_sum_Cond_methodLink_RX1_121_Lib_Math_abs_name : Cond.methodLink RX1 121 Lib.Math.abs.name ∈ wsX1_sum := by decide +kernel
set_option maxRecDepth 100000 in
theorem wdX1_sum_Cond_static_Lib_Math_abs_name : Cond.static Lib.Math.abs.name ∈ wsX1_sum := by decide +kernel
set_option maxRecDepth 100000 in
theorem wdX1_sum_Cond_initialized__java_lang_Math_ : Cond.initialized "java/lang/Math" ∈ wsX1_sum := by decide +kernel
set_option maxRecDepth 100000 in
theorem wdX1_sum_Cond_code_Lib_Math_abs_name_Lib_Math_abs_code_1__some__int_ : Cond.code Lib.Math.abs.name Lib.Math.abs.code 1 (some .int) ∈ wsX1_sum := by decide +kernel
set_option maxRecDepth 100000 in
theorem lkX1_sum_65 : Cond.fieldLink RX1 65 "BellsBelow$Hall" "holding" "LBellsBelow$House;" ∈ wsX1_sum := by decide +kernel
set_option maxRecDepth 100000 in
theorem lkX1_sum_39 : Cond.fieldLink RX1 39 "BellsBelow$Hall" "facts" "[I" ∈ wsX1_sum := by decide +kernel
set_option maxRecDepth 100000 in
theorem lkX1_sum_9 : Cond.fieldLink RX1 9 "BellsBelow$Hall" "kind" "[I" ∈ wsX1_sum := by decide +kernel
set_option maxRecDepth 100000 in
theorem lkX1_sum_15 : Cond.fieldLink RX1 15 "BellsBelow$Hall" "v" "[I" ∈ wsX1_sum := by decide +kernel
set_option maxRecDepth 100000 in
theorem lkX1_sum_62 : Cond.fieldLink RX1 62 "BellsBelow$Hall" "minute" "I" ∈ wsX1_sum := by decide +kernel
set_option maxHeartbeats 4000000 in
set_option maxRecDepth 100000 in
theorem w_X1_sum_0 {p : Program} {l : Launch} {e : Env} {s : State} {m : MethodId} {args : Array Value} {below : List Frame} {meth : Method} {c : Code} {E : Ev} {σ : Ms} {ℓ : Mz} {o : Nat} {hs : Ms} {p0 : Int32} {p1 : Int32} {out : Int32 × Mm} (ho : Kd o = 1) (hhs : ∀ h, Kd h = 2 → σ h = hs h)   (C : Cx cX1_sum 4 (some .int) wsX1_sum RX1 E p s m args meth c)  : ∀ (τ : Mm) (H : Heap) (locs : List Loc) (h : HI E (va_up σ o τ) ℓ s H locs) (ls : Array Slot) (hl : lv_has ls 4 [(0, .ref (Ea E o 0)), (1, .int p0), (2, .int p1)]), f_X1_sum_0 hs p0 p1  τ = some out → W p l e rm_X1_sum s m args below meth c H locs 0 0 (MQ below (Po E s.heap.size (some (.int out.1)) (va_up σ o out.2) ℓ) args s 0 0 (AA E s.heap.size)) (F0 m 0 ls []) := by
  intro τ H locs h ls hl hf
  unfold f_X1_sum_0 at hf
  have C0 := C
  obtain ⟨hx, hb, hr, hml, hown, hts, hlk, hK, hSF⟩ := C0
  refine lv_aload_n hx hb dX1_sum_0 rfl (lv_at hl 0 rfl) ?_
  refine gf_1_4 C h ho up_eq inX1_sum_1 lkX1_sum_18 dX1_sum_1 ?_
  refine lv_iload_n hx hb dX1_sum_4 rfl (lv_at hl 1 rfl) ?_
  obtain ⟨g1, hf⟩ := gd_use hf
  refine ld_1_3 C h ho up_eq (inB_in g1) dX1_sum_5 ?_
  refine lv_iload_n hx hb dX1_sum_6 rfl (lv_at hl 2 rfl) ?_
  refine lv_isub hx hb dX1_sum_7 ?_
  refine va_mabs hx hb (by rw [hml]; exact hl.1.symm) hown (hts _ wdX1_sum_Cond_methodLink_RX1_121_Lib_Math_abs_name) (hts _ wdX1_sum_Cond_static_Lib_Math_abs_name) (hts _ wdX1_sum_Cond_initialized__java_lang_Math_) (hts _ wdX1_sum_Cond_code_Lib_Math_abs_name_Lib_Math_abs_code_1__some__int_) (Nat.le_of_ble_eq_true rfl) (Nat.le_of_ble_eq_true rfl) (Nat.zero_le _) (Nat.zero_le _) dX1_sum_8 ?_
  refine lv_topi (fun x2 ex2 => ?_)
  replace hf := lt_use ex2 hf
  clear ex2
  refine lv_istore_n (lv' := [(3, .int x2), (0, .ref (Ea E o 0)), (1, .int p0), (2, .int p1)]) hx hb dX1_sum_11 rfl hl (by decide) rfl (fun ls hl => ?_)
  refine lv_aload_n hx hb dX1_sum_12 rfl (lv_at hl 1 rfl) ?_
  refine gf_1_16 C h ho up_eq inX1_sum_1 lkX1_sum_65 dX1_sum_13 ?_
  by_cases c3 : (τ 16 0) = 0
  · replace hf := it_t c3 hf
    refine r_top (hr_0 c3) ?_
    refine lv_ifnonnullN hx hb dX1_sum_16 ?_
    refine lv_iconst (v := (2 : Int32)) hx hb dX1_sum_19 (by decide) ?_
    refine lv_iload_n hx hb dX1_sum_20 rfl (lv_at hl 0 rfl) ?_
    refine lv_imul hx hb dX1_sum_21 ?_
    replace hf := Option.some.inj hf
    subst hf
    exact r_ire C h dX1_sum_22
  replace hf := it_f c3 hf
  obtain ⟨g4, hf⟩ := gd_use hf
  refine r_top (hr_nn g4) ?_
  refine lv_ifnonnull (tgt := 23) hx hb dX1_sum_16 (by decide) ?_
  refine lv_aload_n hx hb dX1_sum_23 rfl (lv_at hl 1 rfl) ?_
  refine gf_1_11 C h ho up_eq inX1_sum_1 lkX1_sum_39 dX1_sum_24 ?_
  refine lv_iconst (v := (0 : Int32)) hx hb dX1_sum_27 (by decide) ?_
  refine lv_iload_n hx hb dX1_sum_28 rfl (lv_at hl 2 rfl) ?_
  obtain ⟨g5, hf⟩ := gd_use hf
  refine sa_1_10 C h ho up_eq (F := fun t => va_up σ o t) (fun _ => up_up) (inB_in g5) dX1_sum_29 (fun τ6 eτ6 H locs h => ?_)
  replace hf := lt_use eτ6 hf
  clear eτ6
  refine lv_aload_n hx hb dX1_sum_30 rfl (lv_at hl 1 rfl) ?_
  refine gf_1_11 C h ho up_eq inX1_sum_1 lkX1_sum_39 dX1_sum_31 ?_
  refine lv_iconst (v := (1 : Int32)) hx hb dX1_sum_34 (by decide) ?_
  refine lv_aload_n hx hb dX1_sum_35 rfl (lv_at hl 1 rfl) ?_
  refine gf_1_2 C h ho up_eq inX1_sum_1 lkX1_sum_9 dX1_sum_36 ?_
  refine lv_iload_n hx hb dX1_sum_39 rfl (lv_at hl 2 rfl) ?_
  obtain ⟨g7, hf⟩ := gd_use hf
  refine ld_1_1 C h ho up_eq (inB_in g7) dX1_sum_40 ?_
  obtain ⟨g8, hf⟩ := gd_use hf
  refine sa_1_10 C h ho up_eq (F := fun t => va_up σ o t) (fun _ => up_up) (inB_in g8) dX1_sum_41 (fun τ9 eτ9 H locs h => ?_)
  replace hf := lt_use eτ9 hf
  clear eτ9
  refine lv_aload_n hx hb dX1_sum_42 rfl (lv_at hl 1 rfl) ?_
  refine gf_1_11 C h ho up_eq inX1_sum_1 lkX1_sum_39 dX1_sum_43 ?_
  refine lv_iconst (v := (2 : Int32)) hx hb dX1_sum_46 (by decide) ?_
  refine lv_aload_n hx hb dX1_sum_47 rfl (lv_at hl 1 rfl) ?_
  refine gf_1_3 C h ho up_eq inX1_sum_1 lkX1_sum_15 dX1_sum_48 ?_
  refine lv_iload_n hx hb dX1_sum_51 rfl (lv_at hl 2 rfl) ?_
  obtain ⟨g10, hf⟩ := gd_use hf
  refine ld_1_2 C h ho up_eq (inB_in g10) dX1_sum_52 ?_
  obtain ⟨g11, hf⟩ := gd_use hf
  refine sa_1_10 C h ho up_eq (F := fun t => va_up σ o t) (fun _ => up_up) (inB_in g11) dX1_sum_53 (fun τ12 eτ12 H locs h => ?_)
  replace hf := lt_use eτ12 hf
  clear eτ12
  refine lv_aload_n hx hb dX1_sum_54 rfl (lv_at hl 1 rfl) ?_
  refine gf_1_11 C h ho up_eq inX1_sum_1 lkX1_sum_39 dX1_sum_55 ?_
  refine lv_iconst (v := (3 : Int32)) hx hb dX1_sum_58 (by decide) ?_
  refine lv_iload_n hx hb dX1_sum_59 rfl (lv_at hl 3 rfl) ?_
  obtain ⟨g13, hf⟩ := gd_use hf
  refine sa_1_10 C h ho up_eq (F := fun t => va_up σ o t) (fun _ => up_up) (inB_in g13) dX1_sum_60 (fun τ14 eτ14 H locs h => ?_)
  replace hf := lt_use eτ14 hf
  clear eτ14
  refine lv_aload_n hx hb dX1_sum_61 rfl (lv_at hl 1 rfl) ?_
  refine gf_1_11 C h ho up_eq inX1_sum_1 lkX1_sum_39 dX1_sum_62 ?_
  refine lv_iconst (v := (4 : Int32)) hx hb dX1_sum_65 (by decide) ?_
  refine lv_iload_n hx hb dX1_sum_66 rfl (lv_at hl 0 rfl) ?_
  obtain ⟨g15, hf⟩ := gd_use hf
  refine sa_1_10 C h ho up_eq (F := fun t => va_up σ o t) (fun _ => up_up) (inB_in g15) dX1_sum_67 (fun τ16 eτ16 H locs h => ?_)
  replace hf := lt_use eτ16 hf
  clear eτ16
  refine lv_aload_n hx hb dX1_sum_68 rfl (lv_at hl 1 rfl) ?_
  refine gf_1_11 C h ho up_eq inX1_sum_1 lkX1_sum_39 dX1_sum_69 ?_
  refine lv_iconst (v := (5 : Int32)) hx hb dX1_sum_72 (by decide) ?_
  refine lv_aload_n hx hb dX1_sum_73 rfl (lv_at hl 1 rfl) ?_
  refine gf_1_15 C h ho up_eq inX1_sum_1 lkX1_sum_62 dX1_sum_74 ?_
  refine lv_bipush (v := (10 : Int32)) hx hb dX1_sum_77 (by decide) ?_
  refine lv_irem hx hb dX1_sum_79 (by decide) ?_
  obtain ⟨g17, hf⟩ := gd_use hf
  refine sa_1_10 C h ho up_eq (F := fun t => va_up σ o t) (fun _ => up_up) (inB_in g17) dX1_sum_80 (fun τ18 eτ18 H locs h => ?_)
  replace hf := lt_use eτ18 hf
  clear eτ18
  refine lv_iconst (v := (2 : Int32)) hx hb dX1_sum_81 (by decide) ?_
  refine lv_iload_n hx hb dX1_sum_82 rfl (lv_at hl 0 rfl) ?_
  refine lv_imul hx hb dX1_sum_83 ?_
  refine lv_aload_n hx hb dX1_sum_84 rfl (lv_at hl 1 rfl) ?_
  refine gf_1_16 C h ho up_eq inX1_sum_1 lkX1_sum_65 dX1_sum_85 ?_
  obtain ⟨g19, hf⟩ := gd_use hf
  refine r_top (hr_nn g19) ?_
  refine lv_aload_n hx hb dX1_sum_88 rfl (lv_at hl 1 rfl) ?_
  refine gf_1_11 C h ho up_eq inX1_sum_1 lkX1_sum_39 dX1_sum_89 ?_
  obtain ⟨u20, hu20, hf⟩ := bd_use hf
  refine r_cv_2 (rest := [.int ((2 : Int32) * x2)]) C h (c_X2_weighs (inH_k g19) ho (kd_ne ho (inH_k g19) (by decide)) (hs_up hhs ho (by decide) _ (inH_k g19)) up_eq hu20) (inH_k g19) gX1_sum_X2_weighs rfl ⟨rfl, rfl⟩ hdX2_weighs ⟨Nat.le_of_ble_eq_true rfl, Nat.le_of_ble_eq_true rfl⟩ ⟨Nat.zero_le _, Nat.zero_le _⟩ hl.1 rfl (Nat.le_of_ble_eq_true rfl) dX1_sum_92 (fun H locs h => ?_)
  refine lv_iadd hx hb dX1_sum_95 ?_
  replace hf := Option.some.inj hf
  subst hf
  exact r_ire C h dX1_sum_96
theorem c_X1_sum {l : Launch} {E : Ev} {σ : Ms} {ℓ : Mz} {o : Nat} {τ : Mm} {hs : Ms} {p0 : Int32} {p1 : Int32} (ho : Kd o = 1) (hhs : ∀ h, Kd h = 2 → σ h = hs h) {out : Int32 × Mm} (hf : f_X1_sum τ hs p0 p1 = some out) : Ct l yX1_sum wsX1_sum rm_X1_sum [.ref (Ea E o 0), .int p0, .int p1] E (va_up σ o τ) ℓ (some (.int out.1)) (va_up σ o out.2) ℓ := by
  refine Ct_mk (cc := cX1_sum) (mL := 4) (ret := (some .int)) (own := RX1) (by decide +kernel) rfl rfl (Nat.le_of_ble_eq_true rfl) (fun p e s m below meth c C h ls hl => ?_)
  exact w_X1_sum_0 ho hhs C τ _ _ h ls (lv_sub hl [0, 1, 2] rfl) hf
theorem k_X1_sum {l : Launch} {E : Ev} {σ : Ms} {ℓ : Mz} {o : Nat} {τ : Mm} {hs : Ms} {p0 : Int32} {p1 : Int32} (ho : Kd o = 1) (hτ : σ o = τ) (hhs : ∀ h, Kd h = 2 → σ h = hs h) {out : Int32 × Mm} (hf : f_X1_sum τ hs p0 p1 = some out) : Ct l yX1_sum wsX1_sum rm_X1_sum [.ref (Ea E o 0), .int p0, .int p1] E σ ℓ (some (.int out.1)) (va_up σ o out.2) ℓ := by
  subst hτ
  have h := c_X1_sum (l := l) (E := E) (σ := σ) (ℓ := ℓ) ho hhs hf
  rw [up_id σ o] at h
  exact h
theorem hdX1_cost : yX1_cost.cls = RX1 ∧ yX1_cost.cls ≠ "java/lang/invoke/MethodHandle" ∧ yX1_cost.cls ≠ "java/lang/invoke/VarHandle" ∧ (parseMethodDescriptor yX1_cost.desc).map (fun d => d.parameters.length) = some 2 := by decide +kernel
def rm_X1_cost : Room := { frames := 2, cells := 0, slots := 0, locals := 83 }
set_option maxRecDepth 100000 in
theorem inX1_cost_1 : ∀ w ∈ wsX10, w ∈ wsX1_cost := fun _ h => List.mem_cons_of_mem _ (List.mem_append_left _ (List.mem_append_right _ h))
set_option maxRecDepth 100000 in
theorem lkX1_cost_18 : Cond.fieldLink RX1 18 "BellsBelow$Hall" "floor" "[I" ∈ wsX1_cost := by decide +kernel
set_option maxRecDepth 100000 in
theorem lkX1_cost_9 : Cond.fieldLink RX1 9 "BellsBelow$Hall" "kind" "[I" ∈ wsX1_cost := by decide +kernel
set_option maxRecDepth 100000 in
theorem lkX1_cost_30 : Cond.fieldLink RX1 30 "BellsBelow$Hall" "came" "[I" ∈ wsX1_cost := by decide +kernel
set_option maxRecDepth 100000 in
theorem lkX1_cost_62 : Cond.fieldLink RX1 62 "BellsBelow$Hall" "minute" "I" ∈ wsX1_cost := by decide +kernel
set_option maxRecDepth 100000 in
theorem lkX1_cost_15 : Cond.fieldLink RX1 15 "BellsBelow$Hall" "v" "[I" ∈ wsX1_cost := by decide +kernel
set_option maxRecDepth 100000 in
theorem lkX1_cost_33 : Cond.fieldLink RX1 33 "BellsBelow$Hall" "rows" "[I" ∈ wsX1_cost := by decide +kernel
set_option maxHeartbeats 4000000 in
set_option maxRecDepth 100000 in
theorem w_X1_cost_27 {p : Program} {l : Launch} {e : Env} {s : State} {m : MethodId} {args : Array Value} {below : List Frame} {meth : Method} {c : Code} {E : Ev} {σ : Ms} {ℓ : Mz} {o : Nat} {hs : Ms} {p0 : Int32} {p1 : Int32} {out : Int32 × Mm} (ho : Kd o = 1) (hhs : ∀ h, Kd h = 2 → σ h = hs h)   (C : Cx cX1_cost 5 (some .int) wsX1_cost RX1 E p s m args meth c)  : ∀ (τ : Mm) (v3 : Int32) (w0 : Int32) (H : Heap) (locs : List Loc) (h : HI E (va_up σ o τ) ℓ s H locs) (ls : Array Slot) (hl : lv_has ls 5 [(0, .ref (Ea E o 0)), (1, .int p0), (3, .int v3)]), f_X1_cost_27 hs p0 p1  τ v3 w0 = some out → W p l e rm_X1_cost s m args below meth c H locs 0 0 (MQ below (Po E s.heap.size (some (.int out.1)) (va_up σ o out.2) ℓ) args s 0 0 (AA E s.heap.size)) (F0 m 27 ls [.int w0]) := by
  intro τ v3 w0 H locs h ls hl hf
  unfold f_X1_cost_27 at hf
  have C0 := C
  obtain ⟨hx, hb, hr, hml, hown, hts, hlk, hK, hSF⟩ := C0
  refine lv_istore (lv' := [(4, .int w0), (0, .ref (Ea E o 0)), (1, .int p0), (3, .int v3)]) hx hb dX1_cost_27 hl (by decide) rfl (fun ls hl => ?_)
  refine lv_aload_n hx hb dX1_cost_29 rfl (lv_at hl 1 rfl) ?_
  refine gf_1_2 C h ho up_eq inX1_cost_1 lkX1_cost_9 dX1_cost_30 ?_
  refine lv_iload_n hx hb dX1_cost_33 rfl (lv_at hl 2 rfl) ?_
  obtain ⟨g4, hf⟩ := gd_use hf
  refine ld_1_1 C h ho up_eq (inB_in g4) dX1_cost_34 ?_
  by_cases c5 : (τ 2 p0.toNatClampNeg) = (1 : Int32)
  · replace hf := it_t c5 hf
    refine r_tin (v := (1 : Int32)) (off := 37) (tgt := 72) hx hb c5 dX1_cost_35 (by decide) (by decide) (by decide) (by decide) ?_
    refine lv_iload_n hx hb dX1_cost_72 rfl (lv_at hl 3 rfl) ?_
    refine lv_aload_n hx hb dX1_cost_73 rfl (lv_at hl 1 rfl) ?_
    refine gf_1_8 C h ho up_eq inX1_cost_1 lkX1_cost_30 dX1_cost_74 ?_
    refine lv_iload_n hx hb dX1_cost_77 rfl (lv_at hl 2 rfl) ?_
    obtain ⟨g6, hf⟩ := gd_use hf
    refine ld_1_7 C h ho up_eq (inB_in g6) dX1_cost_78 ?_
    refine lv_iadd hx hb dX1_cost_79 ?_
    replace hf := Option.some.inj hf
    subst hf
    exact r_ire C h dX1_cost_80
  replace hf := it_f c5 hf
  by_cases c7 : (τ 2 p0.toNatClampNeg) = (2 : Int32)
  · replace hf := it_t c7 hf
    refine r_tin (v := (2 : Int32)) (off := 46) (tgt := 81) hx hb c7 dX1_cost_35 (by decide) (by decide) (by decide) (by decide) ?_
    refine lv_iload_n hx hb dX1_cost_81 rfl (lv_at hl 3 rfl) ?_
    refine lv_iconst (v := (2 : Int32)) hx hb dX1_cost_82 (by decide) ?_
    refine lv_idiv hx hb dX1_cost_83 (by decide) ?_
    replace hf := Option.some.inj hf
    subst hf
    exact r_ire C h dX1_cost_84
  replace hf := it_f c7 hf
  by_cases c8 : (τ 2 p0.toNatClampNeg) = (3 : Int32)
  · replace hf := it_t c8 hf
    refine r_tin (v := (3 : Int32)) (off := 50) (tgt := 85) hx hb c8 dX1_cost_35 (by decide) (by decide) (by decide) (by decide) ?_
    refine lv_iload_n hx hb dX1_cost_85 rfl (lv_at hl 3 rfl) ?_
    refine lv_iload hx hb dX1_cost_86 (lv_at hl 0 rfl) ?_
    refine lv_iadd hx hb dX1_cost_88 ?_
    replace hf := Option.some.inj hf
    subst hf
    exact r_ire C h dX1_cost_89
  replace hf := it_f c8 hf
  by_cases c9 : (τ 2 p0.toNatClampNeg) = (4 : Int32)
  · replace hf := it_t c9 hf
    refine r_tin (v := (4 : Int32)) (off := 55) (tgt := 90) hx hb c9 dX1_cost_35 (by decide) (by decide) (by decide) (by decide) ?_
    refine lv_iload_n hx hb dX1_cost_90 rfl (lv_at hl 3 rfl) ?_
    refine lv_aload_n hx hb dX1_cost_91 rfl (lv_at hl 1 rfl) ?_
    refine gf_1_8 C h ho up_eq inX1_cost_1 lkX1_cost_30 dX1_cost_92 ?_
    refine lv_iload_n hx hb dX1_cost_95 rfl (lv_at hl 2 rfl) ?_
    obtain ⟨g10, hf⟩ := gd_use hf
    refine ld_1_7 C h ho up_eq (inB_in g10) dX1_cost_96 ?_
    refine lv_iadd hx hb dX1_cost_97 ?_
    refine lv_aload_n hx hb dX1_cost_98 rfl (lv_at hl 1 rfl) ?_
    refine gf_1_15 C h ho up_eq inX1_cost_1 lkX1_cost_62 dX1_cost_99 ?_
    refine lv_iconst (v := (2 : Int32)) hx hb dX1_cost_102 (by decide) ?_
    refine lv_irem hx hb dX1_cost_103 (by decide) ?_
    refine lv_bipush (v := (20 : Int32)) hx hb dX1_cost_104 (by decide) ?_
    refine lv_imul hx hb dX1_cost_106 ?_
    refine lv_iadd hx hb dX1_cost_107 ?_
    replace hf := Option.some.inj hf
    subst hf
    exact r_ire C h dX1_cost_108
  replace hf := it_f c9 hf
  by_cases c11 : (τ 2 p0.toNatClampNeg) = (5 : Int32)
  · replace hf := it_t c11 hf
    refine r_tin (v := (5 : Int32)) (off := 74) (tgt := 109) hx hb c11 dX1_cost_35 (by decide) (by decide) (by decide) (by decide) ?_
    refine lv_iload_n hx hb dX1_cost_109 rfl (lv_at hl 3 rfl) ?_
    refine lv_iconst (v := (2 : Int32)) hx hb dX1_cost_110 (by decide) ?_
    refine lv_idiv hx hb dX1_cost_111 (by decide) ?_
    refine lv_aload_n hx hb dX1_cost_112 rfl (lv_at hl 1 rfl) ?_
    refine gf_1_3 C h ho up_eq inX1_cost_1 lkX1_cost_15 dX1_cost_113 ?_
    refine lv_iload_n hx hb dX1_cost_116 rfl (lv_at hl 2 rfl) ?_
    obtain ⟨g12, hf⟩ := gd_use hf
    refine ld_1_2 C h ho up_eq (inB_in g12) dX1_cost_117 ?_
    refine lv_isub hx hb dX1_cost_118 ?_
    replace hf := Option.some.inj hf
    subst hf
    exact r_ire C h dX1_cost_119
  replace hf := it_f c11 hf
  by_cases c13 : (τ 2 p0.toNatClampNeg) = (6 : Int32)
  · replace hf := it_t c13 hf
    refine r_tin (v := (6 : Int32)) (off := 85) (tgt := 120) hx hb c13 dX1_cost_35 (by decide) (by decide) (by decide) (by decide) ?_
    refine lv_iload_n hx hb dX1_cost_120 rfl (lv_at hl 3 rfl) ?_
    refine lv_iload hx hb dX1_cost_121 (lv_at hl 0 rfl) ?_
    refine lv_iadd hx hb dX1_cost_123 ?_
    refine lv_aload_n hx hb dX1_cost_124 rfl (lv_at hl 1 rfl) ?_
    refine gf_1_9 C h ho up_eq inX1_cost_1 lkX1_cost_33 dX1_cost_125 ?_
    refine lv_iload_n hx hb dX1_cost_128 rfl (lv_at hl 2 rfl) ?_
    refine lv_iconst (v := (4 : Int32)) hx hb dX1_cost_129 (by decide) ?_
    refine lv_imul hx hb dX1_cost_130 ?_
    refine lv_aload_n hx hb dX1_cost_131 rfl (lv_at hl 1 rfl) ?_
    refine gf_1_15 C h ho up_eq inX1_cost_1 lkX1_cost_62 dX1_cost_132 ?_
    refine lv_iconst (v := (4 : Int32)) hx hb dX1_cost_135 (by decide) ?_
    refine lv_irem hx hb dX1_cost_136 (by decide) ?_
    refine lv_iadd hx hb dX1_cost_137 ?_
    refine lv_topi (fun x14 ex14 => ?_)
    replace hf := lt_use ex14 hf
    clear ex14
    obtain ⟨g15, hf⟩ := gd_use hf
    refine ld_1_8 C h ho up_eq (inB_in g15) dX1_cost_138 ?_
    refine lv_iadd hx hb dX1_cost_139 ?_
    replace hf := Option.some.inj hf
    subst hf
    exact r_ire C h dX1_cost_140
  replace hf := it_f c13 hf
  refine lv_tableOut (tgt := 141) hx hb dX1_cost_35 (tsw_out [1, 2, 3, 4, 5, 6] (List.forall_mem_cons.mpr ⟨c5, (List.forall_mem_cons.mpr ⟨c7, (List.forall_mem_cons.mpr ⟨c8, (List.forall_mem_cons.mpr ⟨c9, (List.forall_mem_cons.mpr ⟨c11, (List.forall_mem_cons.mpr ⟨c13, (fun _ h => absurd h List.not_mem_nil)⟩)⟩)⟩)⟩)⟩)⟩) rfl) (by decide) ?_
  refine lv_iload_n hx hb dX1_cost_141 rfl (lv_at hl 3 rfl) ?_
  replace hf := Option.some.inj hf
  subst hf
  exact r_ire C h dX1_cost_142
set_option maxHeartbeats 4000000 in
set_option maxRecDepth 100000 in
theorem w_X1_cost_0 {p : Program} {l : Launch} {e : Env} {s : State} {m : MethodId} {args : Array Value} {below : List Frame} {meth : Method} {c : Code} {E : Ev} {σ : Ms} {ℓ : Mz} {o : Nat} {hs : Ms} {p0 : Int32} {p1 : Int32} {out : Int32 × Mm} (ho : Kd o = 1) (hhs : ∀ h, Kd h = 2 → σ h = hs h)   (C : Cx cX1_cost 5 (some .int) wsX1_cost RX1 E p s m args meth c)  : ∀ (τ : Mm) (H : Heap) (locs : List Loc) (h : HI E (va_up σ o τ) ℓ s H locs) (ls : Array Slot) (hl : lv_has ls 5 [(0, .ref (Ea E o 0)), (1, .int p0), (2, .int p1)]), f_X1_cost_0 hs p0 p1  τ = some out → W p l e rm_X1_cost s m args below meth c H locs 0 0 (MQ below (Po E s.heap.size (some (.int out.1)) (va_up σ o out.2) ℓ) args s 0 0 (AA E s.heap.size)) (F0 m 0 ls []) := by
  intro τ H locs h ls hl hf
  unfold f_X1_cost_0 at hf
  have C0 := C
  obtain ⟨hx, hb, hr, hml, hown, hts, hlk, hK, hSF⟩ := C0
  refine lv_aload_n hx hb dX1_cost_0 rfl (lv_at hl 0 rfl) ?_
  refine lv_iload_n hx hb dX1_cost_1 rfl (lv_at hl 1 rfl) ?_
  refine lv_iload_n hx hb dX1_cost_2 rfl (lv_at hl 2 rfl) ?_
  obtain ⟨u1, hu1, hf⟩ := bd_use hf
  refine r_cv_1 (rest := []) C h (c_X1_sum ho hhs hu1) ho gX1_cost_X1_sum rfl ⟨rfl, rfl⟩ hdX1_sum ⟨Nat.le_of_ble_eq_true rfl, Nat.le_of_ble_eq_true rfl⟩ ⟨Nat.zero_le _, Nat.zero_le _⟩ hl.1 rfl (Nat.le_of_ble_eq_true rfl) dX1_cost_3 (fun H locs h => ?_)
  refine lv_istore_n (lv' := [(3, .int u1.1), (0, .ref (Ea E o 0)), (1, .int p0), (2, .int p1)]) hx hb dX1_cost_6 rfl hl (by decide) rfl (fun ls hl => ?_)
  refine lv_iload_n hx hb dX1_cost_7 rfl (lv_at hl 3 rfl) ?_
  refine lv_aload_n hx hb dX1_cost_8 rfl (lv_at hl 1 rfl) ?_
  refine gf_1_4 C h ho up_eq inX1_cost_1 lkX1_cost_18 dX1_cost_9 ?_
  refine lv_iload_n hx hb dX1_cost_12 rfl (lv_at hl 2 rfl) ?_
  obtain ⟨g2, hf⟩ := gd_use hf
  refine ld_1_3 C h ho up_eq (inB_in g2) dX1_cost_13 ?_
  refine lv_icmp_ge (tgt := 26) hx hb dX1_cost_14 (by decide) (fun c3 => ?_) (fun c3 => ?_)
  · replace hf := it_t c3 hf
    refine lv_iconst (v := (0 : Int32)) hx hb dX1_cost_26 (by decide) ?_
    exact w_X1_cost_27 ho hhs   C  _ _ _ _ _ h ls (lv_sub hl [1, 2, 0] rfl) hf
  replace hf := it_f c3 hf
  refine lv_aload_n hx hb dX1_cost_17 rfl (lv_at hl 1 rfl) ?_
  refine gf_1_3 C h ho up_eq inX1_cost_1 lkX1_cost_15 dX1_cost_18 ?_
  refine lv_iload_n hx hb dX1_cost_21 rfl (lv_at hl 2 rfl) ?_
  obtain ⟨g16, hf⟩ := gd_use hf
  refine ld_1_2 C h ho up_eq (inB_in g16) dX1_cost_22 ?_
  refine lv_goto (tgt := 27) hx hb dX1_cost_23 (by decide) ?_
  exact w_X1_cost_27 ho hhs   C  _ _ _ _ _ h ls (lv_sub hl [1, 2, 0] rfl) hf
theorem c_X1_cost {l : Launch} {E : Ev} {σ : Ms} {ℓ : Mz} {o : Nat} {τ : Mm} {hs : Ms} {p0 : Int32} {p1 : Int32} (ho : Kd o = 1) (hhs : ∀ h, Kd h = 2 → σ h = hs h) {out : Int32 × Mm} (hf : f_X1_cost τ hs p0 p1 = some out) : Ct l yX1_cost wsX1_cost rm_X1_cost [.ref (Ea E o 0), .int p0, .int p1] E (va_up σ o τ) ℓ (some (.int out.1)) (va_up σ o out.2) ℓ := by
  refine Ct_mk (cc := cX1_cost) (mL := 5) (ret := (some .int)) (own := RX1) (by decide +kernel) rfl rfl (Nat.le_of_ble_eq_true rfl) (fun p e s m below meth c C h ls hl => ?_)
  exact w_X1_cost_0 ho hhs C τ _ _ h ls (lv_sub hl [0, 1, 2] rfl) hf
theorem k_X1_cost {l : Launch} {E : Ev} {σ : Ms} {ℓ : Mz} {o : Nat} {τ : Mm} {hs : Ms} {p0 : Int32} {p1 : Int32} (ho : Kd o = 1) (hτ : σ o = τ) (hhs : ∀ h, Kd h = 2 → σ h = hs h) {out : Int32 × Mm} (hf : f_X1_cost τ hs p0 p1 = some out) : Ct l yX1_cost wsX1_cost rm_X1_cost [.ref (Ea E o 0), .int p0, .int p1] E σ ℓ (some (.int out.1)) (va_up σ o out.2) ℓ := by
  subst hτ
  have h := c_X1_cost (l := l) (E := E) (σ := σ) (ℓ := ℓ) ho hhs hf
  rw [up_id σ o] at h
  exact h
theorem hdX1_cheapest : yX1_cheapest.cls = RX1 ∧ yX1_cheapest.cls ≠ "java/lang/invoke/MethodHandle" ∧ yX1_cheapest.cls ≠ "java/lang/invoke/VarHandle" ∧ (parseMethodDescriptor yX1_cheapest.desc).map (fun d => d.parameters.length) = some 1 := by decide +kernel
def rm_X1_cheapest : Room := { frames := 3, cells := 0, slots := 0, locals := 107 }
set_option maxRecDepth 100000 in
theorem inX1_cheapest_1 : ∀ w ∈ wsX10, w ∈ wsX1_cheapest := fun _ h => List.mem_cons_of_mem _ (List.mem_append_left _ (List.mem_append_right _ h))
set_option maxRecDepth 100000 in
theorem lkX1_cheapest_53 : Cond.fieldLink RX1 53 "BellsBelow$Hall" "many" "I" ∈ wsX1_cheapest := by decide +kernel
set_option maxHeartbeats 4000000 in
set_option maxRecDepth 100000 in
theorem w_X1_cheapest_53 {p : Program} {l : Launch} {e : Env} {s : State} {m : MethodId} {args : Array Value} {below : List Frame} {meth : Method} {c : Code} {E : Ev} {σ : Ms} {ℓ : Mz} {o : Nat} {hs : Ms} {p0 : Int32} {out : Int32 × Mm} (ho : Kd o = 1) (hhs : ∀ h, Kd h = 2 → σ h = hs h)   (C : Cx cX1_cheapest 6 (some .int) wsX1_cheapest RX1 E p s m args meth c) {k8 : Mm → Int32 → Int32 → Int32 → Option (Int32 × Mm)} (hk8 : ∀ (τ : Mm) (v2 : Int32) (v3 : Int32) (v4 : Int32) (H : Heap) (locs : List Loc), HI E (va_up σ o τ) ℓ s H locs → ∀ ls : Array Slot, lv_has ls 6 [(0, .ref (Ea E o 0)), (1, .int p0), (2, .int v2), (3, .int v3), (4, .int v4)] → k8 τ v2 v3 v4 = some out → W p l e rm_X1_cheapest s m args below meth c H locs 0 0 (MQ below (Po E s.heap.size (some (.int out.1)) (va_up σ o out.2) ℓ) args s 0 0 (AA E s.heap.size)) (F0 m 8 ls [])) : ∀ (τ : Mm) (v2 : Int32) (v3 : Int32) (v4 : Int32) (H : Heap) (locs : List Loc) (h : HI E (va_up σ o τ) ℓ s H locs) (ls : Array Slot) (hl : lv_has ls 6 [(0, .ref (Ea E o 0)), (1, .int p0), (2, .int v2), (3, .int v3), (4, .int v4)]), f_X1_cheapest_53 hs p0 k8 τ v2 v3 v4 = some out → W p l e rm_X1_cheapest s m args below meth c H locs 0 0 (MQ below (Po E s.heap.size (some (.int out.1)) (va_up σ o out.2) ℓ) args s 0 0 (AA E s.heap.size)) (F0 m 53 ls []) := by
  intro τ v2 v3 v4 H locs h ls hl hf
  unfold f_X1_cheapest_53 at hf
  have C0 := C
  obtain ⟨hx, hb, hr, hml, hown, hts, hlk, hK, hSF⟩ := C0
  obtain ⟨x4, ex4⟩ : ∃ y : Int32, y = (v4 + (1 : Int32)) := ⟨_, rfl⟩
  refine lv_iinc (v := x4) (lv' := [(4, .int x4), (0, .ref (Ea E o 0)), (1, .int p0), (2, .int v2), (3, .int v3)]) hx hb dX1_cheapest_53 hl (k := 4) rfl (by rw [ex4]; rfl) (by decide) rfl (fun ls hl => ?_)
  replace hf := lt_use ex4 hf
  clear ex4
  refine lv_goto (tgt := 8) hx hb dX1_cheapest_56 (by decide) ?_
  exact hk8 _ _ _ _ _ _ h ls (lv_sub hl [1, 2, 3, 4, 0] rfl) hf
set_option maxHeartbeats 4000000 in
set_option maxRecDepth 100000 in
theorem w_X1_cheapest_47 {p : Program} {l : Launch} {e : Env} {s : State} {m : MethodId} {args : Array Value} {below : List Frame} {meth : Method} {c : Code} {E : Ev} {σ : Ms} {ℓ : Mz} {o : Nat} {hs : Ms} {p0 : Int32} {out : Int32 × Mm} (ho : Kd o = 1) (hhs : ∀ h, Kd h = 2 → σ h = hs h)   (C : Cx cX1_cheapest 6 (some .int) wsX1_cheapest RX1 E p s m args meth c) {k8 : Mm → Int32 → Int32 → Int32 → Option (Int32 × Mm)} (hk8 : ∀ (τ : Mm) (v2 : Int32) (v3 : Int32) (v4 : Int32) (H : Heap) (locs : List Loc), HI E (va_up σ o τ) ℓ s H locs → ∀ ls : Array Slot, lv_has ls 6 [(0, .ref (Ea E o 0)), (1, .int p0), (2, .int v2), (3, .int v3), (4, .int v4)] → k8 τ v2 v3 v4 = some out → W p l e rm_X1_cheapest s m args below meth c H locs 0 0 (MQ below (Po E s.heap.size (some (.int out.1)) (va_up σ o out.2) ℓ) args s 0 0 (AA E s.heap.size)) (F0 m 8 ls [])) : ∀ (τ : Mm) (v4 : Int32) (v5 : Int32) (H : Heap) (locs : List Loc) (h : HI E (va_up σ o τ) ℓ s H locs) (ls : Array Slot) (hl : lv_has ls 6 [(0, .ref (Ea E o 0)), (1, .int p0), (4, .int v4), (5, .int v5)]), f_X1_cheapest_47 hs p0 k8 τ v4 v5 = some out → W p l e rm_X1_cheapest s m args below meth c H locs 0 0 (MQ below (Po E s.heap.size (some (.int out.1)) (va_up σ o out.2) ℓ) args s 0 0 (AA E s.heap.size)) (F0 m 47 ls []) := by
  intro τ v4 v5 H locs h ls hl hf
  unfold f_X1_cheapest_47 at hf
  have C0 := C
  obtain ⟨hx, hb, hr, hml, hown, hts, hlk, hK, hSF⟩ := C0
  refine lv_iload hx hb dX1_cheapest_47 (lv_at hl 2 rfl) ?_
  refine lv_istore_n (lv' := [(2, .int v4), (0, .ref (Ea E o 0)), (1, .int p0), (4, .int v4), (5, .int v5)]) hx hb dX1_cheapest_49 rfl hl (by decide) rfl (fun ls hl => ?_)
  refine lv_iload hx hb dX1_cheapest_50 (lv_at hl 4 rfl) ?_
  refine lv_istore_n (lv' := [(3, .int v5), (2, .int v4), (0, .ref (Ea E o 0)), (1, .int p0), (4, .int v4), (5, .int v5)]) hx hb dX1_cheapest_52 rfl hl (by decide) rfl (fun ls hl => ?_)
  exact w_X1_cheapest_53 ho hhs   C hk8 _ _ _ _ _ _ h ls (lv_sub hl [2, 3, 1, 0, 4] rfl) hf
set_option maxHeartbeats 4000000 in
set_option maxRecDepth 100000 in
theorem w_X1_cheapest_8 {p : Program} {l : Launch} {e : Env} {s : State} {m : MethodId} {args : Array Value} {below : List Frame} {meth : Method} {c : Code} {E : Ev} {σ : Ms} {ℓ : Mz} {o : Nat} {hs : Ms} {p0 : Int32} {out : Int32 × Mm} (ho : Kd o = 1) (hhs : ∀ h, Kd h = 2 → σ h = hs h)   (C : Cx cX1_cheapest 6 (some .int) wsX1_cheapest RX1 E p s m args meth c) {k8 : Mm → Int32 → Int32 → Int32 → Option (Int32 × Mm)} (hk8 : ∀ (τ : Mm) (v2 : Int32) (v3 : Int32) (v4 : Int32) (H : Heap) (locs : List Loc), HI E (va_up σ o τ) ℓ s H locs → ∀ ls : Array Slot, lv_has ls 6 [(0, .ref (Ea E o 0)), (1, .int p0), (2, .int v2), (3, .int v3), (4, .int v4)] → k8 τ v2 v3 v4 = some out → W p l e rm_X1_cheapest s m args below meth c H locs 0 0 (MQ below (Po E s.heap.size (some (.int out.1)) (va_up σ o out.2) ℓ) args s 0 0 (AA E s.heap.size)) (F0 m 8 ls [])) : ∀ (τ : Mm) (v2 : Int32) (v3 : Int32) (v4 : Int32) (H : Heap) (locs : List Loc) (h : HI E (va_up σ o τ) ℓ s H locs) (ls : Array Slot) (hl : lv_has ls 6 [(0, .ref (Ea E o 0)), (1, .int p0), (2, .int v2), (3, .int v3), (4, .int v4)]), f_X1_cheapest_8 hs p0 k8 τ v2 v3 v4 = some out → W p l e rm_X1_cheapest s m args below meth c H locs 0 0 (MQ below (Po E s.heap.size (some (.int out.1)) (va_up σ o out.2) ℓ) args s 0 0 (AA E s.heap.size)) (F0 m 8 ls []) := by
  intro τ v2 v3 v4 H locs h ls hl hf
  unfold f_X1_cheapest_8 at hf
  have C0 := C
  obtain ⟨hx, hb, hr, hml, hown, hts, hlk, hK, hSF⟩ := C0
  refine lv_iload hx hb dX1_cheapest_8 (lv_at hl 4 rfl) ?_
  refine lv_aload_n hx hb dX1_cheapest_10 rfl (lv_at hl 0 rfl) ?_
  refine gf_1_12 C h ho up_eq inX1_cheapest_1 lkX1_cheapest_53 dX1_cheapest_11 ?_
  refine lv_icmp_ge (tgt := 59) hx hb dX1_cheapest_14 (by decide) (fun c1 => ?_) (fun c1 => ?_)
  · replace hf := it_t c1 hf
    refine lv_iload_n hx hb dX1_cheapest_59 rfl (lv_at hl 2 rfl) ?_
    replace hf := Option.some.inj hf
    subst hf
    exact r_ire C h dX1_cheapest_60
  replace hf := it_f c1 hf
  refine lv_aload_n hx hb dX1_cheapest_17 rfl (lv_at hl 0 rfl) ?_
  refine lv_iload hx hb dX1_cheapest_18 (lv_at hl 4 rfl) ?_
  obtain ⟨u2, hu2, hf⟩ := bd_use hf
  refine r_cv_1 (rest := []) C h (c_X1_isFree ho up_eq hu2) ho gX1_cheapest_X1_isFree rfl ⟨rfl, rfl⟩ hdX1_isFree ⟨Nat.le_of_ble_eq_true rfl, Nat.le_of_ble_eq_true rfl⟩ ⟨Nat.zero_le _, Nat.zero_le _⟩ hl.1 rfl (Nat.le_of_ble_eq_true rfl) dX1_cheapest_20 (fun H locs h => ?_)
  refine lv_if_eq (tgt := 53) hx hb dX1_cheapest_23 (by decide) (fun c3 => ?_) (fun c3 => ?_)
  · replace hf := it_t c3 hf
    exact w_X1_cheapest_53 ho hhs   C hk8 _ _ _ _ _ _ h ls (lv_sub hl [0, 1, 2, 3, 4] rfl) hf
  replace hf := it_f c3 hf
  refine lv_aload_n hx hb dX1_cheapest_26 rfl (lv_at hl 0 rfl) ?_
  refine lv_iload hx hb dX1_cheapest_27 (lv_at hl 4 rfl) ?_
  refine lv_iload_n hx hb dX1_cheapest_29 rfl (lv_at hl 1 rfl) ?_
  obtain ⟨u5, hu5, hf⟩ := bd_use hf
  refine r_cv_1 (rest := []) C h (c_X1_cost ho hhs hu5) ho gX1_cheapest_X1_cost rfl ⟨rfl, rfl⟩ hdX1_cost ⟨Nat.le_of_ble_eq_true rfl, Nat.le_of_ble_eq_true rfl⟩ ⟨Nat.zero_le _, Nat.zero_le _⟩ hl.1 rfl (Nat.le_of_ble_eq_true rfl) dX1_cheapest_30 (fun H locs h => ?_)
  refine lv_istore (lv' := [(5, .int u5.1), (0, .ref (Ea E o 0)), (1, .int p0), (2, .int v2), (3, .int v3), (4, .int v4)]) hx hb dX1_cheapest_33 hl (by decide) rfl (fun ls hl => ?_)
  refine lv_iload_n hx hb dX1_cheapest_35 rfl (lv_at hl 3 rfl) ?_
  refine lv_bipush (v := (-5 : Int32)) hx hb dX1_cheapest_36 (by decide) ?_
  refine lv_icmp_eq (tgt := 47) hx hb dX1_cheapest_38 (by decide) (fun c6 => ?_) (fun c6 => ?_)
  · replace hf := it_t c6 hf
    exact w_X1_cheapest_47 ho hhs   C hk8 _ _ _ _ _ h ls (lv_sub hl [1, 2, 5, 0] rfl) hf
  replace hf := it_f c6 hf
  refine lv_iload hx hb dX1_cheapest_41 (lv_at hl 0 rfl) ?_
  refine lv_iload_n hx hb dX1_cheapest_43 rfl (lv_at hl 4 rfl) ?_
  refine lv_icmp_ge (tgt := 53) hx hb dX1_cheapest_44 (by decide) (fun c7 => ?_) (fun c7 => ?_)
  · replace hf := it_t c7 hf
    exact w_X1_cheapest_53 ho hhs   C hk8 _ _ _ _ _ _ h ls (lv_sub hl [1, 2, 3, 4, 5] rfl) hf
  replace hf := it_f c7 hf
  exact w_X1_cheapest_47 ho hhs   C hk8 _ _ _ _ _ h ls (lv_sub hl [1, 2, 5, 0] rfl) hf
set_option maxHeartbeats 4000000 in
set_option maxRecDepth 100000 in
theorem w_X1_cheapest_8L {p : Program} {l : Launch} {e : Env} {s : State} {m : MethodId} {args : Array Value} {below : List Frame} {meth : Method} {c : Code} {E : Ev} {σ : Ms} {ℓ : Mz} {o : Nat} {hs : Ms} {p0 : Int32} {out : Int32 × Mm} (ho : Kd o = 1) (hhs : ∀ h, Kd h = 2 → σ h = hs h)   (C : Cx cX1_cheapest 6 (some .int) wsX1_cheapest RX1 E p s m args meth c)  : ∀ (n9 : Nat) (τ : Mm) (v2 : Int32) (v3 : Int32) (v4 : Int32) (H : Heap) (locs : List Loc) (h : HI E (va_up σ o τ) ℓ s H locs) (ls : Array Slot) (hl : lv_has ls 6 [(0, .ref (Ea E o 0)), (1, .int p0), (2, .int v2), (3, .int v3), (4, .int v4)]), f_X1_cheapest_8L hs p0  n9 τ v2 v3 v4 = some out → W p l e rm_X1_cheapest s m args below meth c H locs 0 0 (MQ below (Po E s.heap.size (some (.int out.1)) (va_up σ o out.2) ℓ) args s 0 0 (AA E s.heap.size)) (F0 m 8 ls []) := by
  intro n9
  induction n9 with
  | zero =>
    intro τ v2 v3 v4 H locs h ls hl hf
    cases (show (none : Option (Int32 × Mm)) = some out from hf)
  | succ n9 ih =>
    intro τ v2 v3 v4 H locs h ls hl hf
    exact w_X1_cheapest_8 ho hhs  C  ih τ v2 v3 v4 H locs h ls hl hf
set_option maxHeartbeats 4000000 in
set_option maxRecDepth 100000 in
theorem w_X1_cheapest_0 {p : Program} {l : Launch} {e : Env} {s : State} {m : MethodId} {args : Array Value} {below : List Frame} {meth : Method} {c : Code} {E : Ev} {σ : Ms} {ℓ : Mz} {o : Nat} {hs : Ms} {p0 : Int32} {out : Int32 × Mm} (ho : Kd o = 1) (hhs : ∀ h, Kd h = 2 → σ h = hs h)   (C : Cx cX1_cheapest 6 (some .int) wsX1_cheapest RX1 E p s m args meth c)  : ∀ (τ : Mm) (H : Heap) (locs : List Loc) (h : HI E (va_up σ o τ) ℓ s H locs) (ls : Array Slot) (hl : lv_has ls 6 [(0, .ref (Ea E o 0)), (1, .int p0)]), f_X1_cheapest_0 hs p0  τ = some out → W p l e rm_X1_cheapest s m args below meth c H locs 0 0 (MQ below (Po E s.heap.size (some (.int out.1)) (va_up σ o out.2) ℓ) args s 0 0 (AA E s.heap.size)) (F0 m 0 ls []) := by
  intro τ H locs h ls hl hf
  unfold f_X1_cheapest_0 at hf
  have C0 := C
  obtain ⟨hx, hb, hr, hml, hown, hts, hlk, hK, hSF⟩ := C0
  refine lv_bipush (v := (-5 : Int32)) hx hb dX1_cheapest_0 (by decide) ?_
  refine lv_istore_n (lv' := [(2, .int (-5 : Int32)), (0, .ref (Ea E o 0)), (1, .int p0)]) hx hb dX1_cheapest_2 rfl hl (by decide) rfl (fun ls hl => ?_)
  refine lv_iconst (v := (0 : Int32)) hx hb dX1_cheapest_3 (by decide) ?_
  refine lv_istore_n (lv' := [(3, .int (0 : Int32)), (2, .int (-5 : Int32)), (0, .ref (Ea E o 0)), (1, .int p0)]) hx hb dX1_cheapest_4 rfl hl (by decide) rfl (fun ls hl => ?_)
  refine lv_iconst (v := (0 : Int32)) hx hb dX1_cheapest_5 (by decide) ?_
  refine lv_istore (lv' := [(4, .int (0 : Int32)), (3, .int (0 : Int32)), (2, .int (-5 : Int32)), (0, .ref (Ea E o 0)), (1, .int p0)]) hx hb dX1_cheapest_6 hl (by decide) rfl (fun ls hl => ?_)
  exact w_X1_cheapest_8L ho hhs   C  _ _ _ _ _ _ _ h ls (lv_sub hl [3, 4, 2, 1, 0] rfl) hf
theorem c_X1_cheapest {l : Launch} {E : Ev} {σ : Ms} {ℓ : Mz} {o : Nat} {τ : Mm} {hs : Ms} {p0 : Int32} (ho : Kd o = 1) (hhs : ∀ h, Kd h = 2 → σ h = hs h) {out : Int32 × Mm} (hf : f_X1_cheapest τ hs p0 = some out) : Ct l yX1_cheapest wsX1_cheapest rm_X1_cheapest [.ref (Ea E o 0), .int p0] E (va_up σ o τ) ℓ (some (.int out.1)) (va_up σ o out.2) ℓ := by
  refine Ct_mk (cc := cX1_cheapest) (mL := 6) (ret := (some .int)) (own := RX1) (by decide +kernel) rfl rfl (Nat.le_of_ble_eq_true rfl) (fun p e s m below meth c C h ls hl => ?_)
  exact w_X1_cheapest_0 ho hhs C τ _ _ h ls (lv_sub hl [0, 1] rfl) hf
theorem k_X1_cheapest {l : Launch} {E : Ev} {σ : Ms} {ℓ : Mz} {o : Nat} {τ : Mm} {hs : Ms} {p0 : Int32} (ho : Kd o = 1) (hτ : σ o = τ) (hhs : ∀ h, Kd h = 2 → σ h = hs h) {out : Int32 × Mm} (hf : f_X1_cheapest τ hs p0 = some out) : Ct l yX1_cheapest wsX1_cheapest rm_X1_cheapest [.ref (Ea E o 0), .int p0] E σ ℓ (some (.int out.1)) (va_up σ o out.2) ℓ := by
  subst hτ
  have h := c_X1_cheapest (l := l) (E := E) (σ := σ) (ℓ := ℓ) ho hhs hf
  rw [up_id σ o] at h
  exact h
theorem hdX1_gives : yX1_gives.cls = RX1 ∧ yX1_gives.cls ≠ "java/lang/invoke/MethodHandle" ∧ yX1_gives.cls ≠ "java/lang/invoke/VarHandle" ∧ (parseMethodDescriptor yX1_gives.desc).map (fun d => d.parameters.length) = some 0 := by decide +kernel
def rm_X1_gives : Room := { frames := 4, cells := 0, slots := 0, locals := 132 }
set_option maxRecDepth 100000 in
theorem inX1_gives_1 : ∀ w ∈ wsX10, w ∈ wsX1_gives := fun _ h => List.mem_cons_of_mem _ (List.mem_append_left _ (List.mem_append_right _ h))
set_option maxRecDepth 100000 in
theorem lkX1_gives_21 : Cond.fieldLink RX1 21 "BellsBelow$Hall" "goal" "[I" ∈ wsX1_gives := by decide +kernel
set_option maxHeartbeats 4000000 in
set_option maxRecDepth 100000 in
theorem w_X1_gives_39 {p : Program} {l : Launch} {e : Env} {s : State} {m : MethodId} {args : Array Value} {below : List Frame} {meth : Method} {c : Code} {E : Ev} {σ : Ms} {ℓ : Mz} {o : Nat} {hs : Ms} {out : Mm} (ho : Kd o = 1) (hhs : ∀ h, Kd h = 2 → σ h = hs h)   (C : Cx cX1_gives 3 none wsX1_gives RX1 E p s m args meth c) {k2 : Mm → Int32 → Option (Mm)} (hk2 : ∀ (τ : Mm) (v1 : Int32) (H : Heap) (locs : List Loc), HI E (va_up σ o τ) ℓ s H locs → ∀ ls : Array Slot, lv_has ls 3 [(0, .ref (Ea E o 0)), (1, .int v1)] → k2 τ v1 = some out → W p l e rm_X1_gives s m args below meth c H locs 0 0 (MQ below (Po E s.heap.size none (va_up σ o out) ℓ) args s 0 0 (AA E s.heap.size)) (F0 m 2 ls [])) : ∀ (τ : Mm) (v1 : Int32) (H : Heap) (locs : List Loc) (h : HI E (va_up σ o τ) ℓ s H locs) (ls : Array Slot) (hl : lv_has ls 3 [(0, .ref (Ea E o 0)), (1, .int v1)]), f_X1_gives_39 hs k2 τ v1 = some out → W p l e rm_X1_gives s m args below meth c H locs 0 0 (MQ below (Po E s.heap.size none (va_up σ o out) ℓ) args s 0 0 (AA E s.heap.size)) (F0 m 39 ls []) := by
  intro τ v1 H locs h ls hl hf
  unfold f_X1_gives_39 at hf
  have C0 := C
  obtain ⟨hx, hb, hr, hml, hown, hts, hlk, hK, hSF⟩ := C0
  obtain ⟨x8, ex8⟩ : ∃ y : Int32, y = (v1 + (1 : Int32)) := ⟨_, rfl⟩
  refine lv_iinc (v := x8) (lv' := [(1, .int x8), (0, .ref (Ea E o 0))]) hx hb dX1_gives_39 hl (k := 1) rfl (by rw [ex8]; rfl) (by decide) rfl (fun ls hl => ?_)
  replace hf := lt_use ex8 hf
  clear ex8
  refine lv_goto (tgt := 2) hx hb dX1_gives_42 (by decide) ?_
  exact hk2 _ _ _ _ h ls (lv_sub hl [1, 0] rfl) hf
set_option maxHeartbeats 4000000 in
set_option maxRecDepth 100000 in
theorem w_X1_gives_2 {p : Program} {l : Launch} {e : Env} {s : State} {m : MethodId} {args : Array Value} {below : List Frame} {meth : Method} {c : Code} {E : Ev} {σ : Ms} {ℓ : Mz} {o : Nat} {hs : Ms} {out : Mm} (ho : Kd o = 1) (hhs : ∀ h, Kd h = 2 → σ h = hs h)   (C : Cx cX1_gives 3 none wsX1_gives RX1 E p s m args meth c) {k2 : Mm → Int32 → Option (Mm)} (hk2 : ∀ (τ : Mm) (v1 : Int32) (H : Heap) (locs : List Loc), HI E (va_up σ o τ) ℓ s H locs → ∀ ls : Array Slot, lv_has ls 3 [(0, .ref (Ea E o 0)), (1, .int v1)] → k2 τ v1 = some out → W p l e rm_X1_gives s m args below meth c H locs 0 0 (MQ below (Po E s.heap.size none (va_up σ o out) ℓ) args s 0 0 (AA E s.heap.size)) (F0 m 2 ls [])) : ∀ (τ : Mm) (v1 : Int32) (H : Heap) (locs : List Loc) (h : HI E (va_up σ o τ) ℓ s H locs) (ls : Array Slot) (hl : lv_has ls 3 [(0, .ref (Ea E o 0)), (1, .int v1)]), f_X1_gives_2 hs k2 τ v1 = some out → W p l e rm_X1_gives s m args below meth c H locs 0 0 (MQ below (Po E s.heap.size none (va_up σ o out) ℓ) args s 0 0 (AA E s.heap.size)) (F0 m 2 ls []) := by
  intro τ v1 H locs h ls hl hf
  unfold f_X1_gives_2 at hf
  have C0 := C
  obtain ⟨hx, hb, hr, hml, hown, hts, hlk, hK, hSF⟩ := C0
  refine lv_iload_n hx hb dX1_gives_2 rfl (lv_at hl 1 rfl) ?_
  refine lv_bipush (v := (10 : Int32)) hx hb dX1_gives_3 (by decide) ?_
  refine lv_icmp_ge (tgt := 45) hx hb dX1_gives_5 (by decide) (fun c1 => ?_) (fun c1 => ?_)
  · replace hf := it_t c1 hf
    replace hf := Option.some.inj hf
    subst hf
    exact r_vre C h dX1_gives_45
  replace hf := it_f c1 hf
  refine lv_aload_n hx hb dX1_gives_8 rfl (lv_at hl 0 rfl) ?_
  refine lv_iload_n hx hb dX1_gives_9 rfl (lv_at hl 1 rfl) ?_
  obtain ⟨u2, hu2, hf⟩ := bd_use hf
  refine r_cv_1 (rest := []) C h (c_X1_waitsFor ho up_eq hu2) ho gX1_gives_X1_waitsFor rfl ⟨rfl, rfl⟩ hdX1_waitsFor ⟨Nat.le_of_ble_eq_true rfl, Nat.le_of_ble_eq_true rfl⟩ ⟨Nat.zero_le _, Nat.zero_le _⟩ hl.1 rfl (Nat.le_of_ble_eq_true rfl) dX1_gives_10 (fun H locs h => ?_)
  refine lv_if_ne (tgt := 19) hx hb dX1_gives_13 (by decide) (fun c3 => ?_) (fun c3 => ?_)
  · replace hf := it_f c3 hf
    refine lv_aload_n hx hb dX1_gives_19 rfl (lv_at hl 0 rfl) ?_
    refine lv_iload_n hx hb dX1_gives_20 rfl (lv_at hl 1 rfl) ?_
    obtain ⟨u4, hu4, hf⟩ := bd_use hf
    refine r_cv_1 (rest := []) C h (c_X1_cheapest ho hhs hu4) ho gX1_gives_X1_cheapest rfl ⟨rfl, rfl⟩ hdX1_cheapest ⟨Nat.le_of_ble_eq_true rfl, Nat.le_of_ble_eq_true rfl⟩ ⟨Nat.zero_le _, Nat.zero_le _⟩ hl.1 rfl (Nat.le_of_ble_eq_true rfl) dX1_gives_21 (fun H locs h => ?_)
    refine lv_istore_n (lv' := [(2, .int u4.1), (0, .ref (Ea E o 0)), (1, .int v1)]) hx hb dX1_gives_24 rfl hl (by decide) rfl (fun ls hl => ?_)
    refine lv_iload_n hx hb dX1_gives_25 rfl (lv_at hl 0 rfl) ?_
    refine lv_bipush (v := (-5 : Int32)) hx hb dX1_gives_26 (by decide) ?_
    refine lv_icmp_ne (tgt := 32) hx hb dX1_gives_28 (by decide) (fun c5 => ?_) (fun c5 => ?_)
    · replace hf := it_f c5 hf
      refine lv_aload_n hx hb dX1_gives_32 rfl (lv_at hl 1 rfl) ?_
      refine gf_1_5 C h ho up_eq inX1_gives_1 lkX1_gives_21 dX1_gives_33 ?_
      refine lv_iload_n hx hb dX1_gives_36 rfl (lv_at hl 0 rfl) ?_
      refine lv_iload_n hx hb dX1_gives_37 rfl (lv_at hl 2 rfl) ?_
      obtain ⟨g6, hf⟩ := gd_use hf
      refine sa_1_4 C h ho up_eq (F := fun t => va_up σ o t) (fun _ => up_up) (inB_in g6) dX1_gives_38 (fun τ7 eτ7 H locs h => ?_)
      replace hf := lt_use eτ7 hf
      clear eτ7
      exact w_X1_gives_39 ho hhs   C hk2 _ _ _ _ h ls (lv_sub hl [1, 2] rfl) hf
    replace hf := it_t c5 hf
    replace hf := Option.some.inj hf
    subst hf
    exact r_vre C h dX1_gives_31
  replace hf := it_t c3 hf
  refine lv_goto (tgt := 39) hx hb dX1_gives_16 (by decide) ?_
  exact w_X1_gives_39 ho hhs   C hk2 _ _ _ _ h ls (lv_sub hl [0, 1] rfl) hf
set_option maxHeartbeats 4000000 in
set_option maxRecDepth 100000 in
theorem w_X1_gives_2L {p : Program} {l : Launch} {e : Env} {s : State} {m : MethodId} {args : Array Value} {below : List Frame} {meth : Method} {c : Code} {E : Ev} {σ : Ms} {ℓ : Mz} {o : Nat} {hs : Ms} {out : Mm} (ho : Kd o = 1) (hhs : ∀ h, Kd h = 2 → σ h = hs h)   (C : Cx cX1_gives 3 none wsX1_gives RX1 E p s m args meth c)  : ∀ (n9 : Nat) (τ : Mm) (v1 : Int32) (H : Heap) (locs : List Loc) (h : HI E (va_up σ o τ) ℓ s H locs) (ls : Array Slot) (hl : lv_has ls 3 [(0, .ref (Ea E o 0)), (1, .int v1)]), f_X1_gives_2L hs  n9 τ v1 = some out → W p l e rm_X1_gives s m args below meth c H locs 0 0 (MQ below (Po E s.heap.size none (va_up σ o out) ℓ) args s 0 0 (AA E s.heap.size)) (F0 m 2 ls []) := by
  intro n9
  induction n9 with
  | zero =>
    intro τ v1 H locs h ls hl hf
    cases (show (none : Option (Mm)) = some out from hf)
  | succ n9 ih =>
    intro τ v1 H locs h ls hl hf
    exact w_X1_gives_2 ho hhs  C  ih τ v1 H locs h ls hl hf
set_option maxHeartbeats 4000000 in
set_option maxRecDepth 100000 in
theorem w_X1_gives_0 {p : Program} {l : Launch} {e : Env} {s : State} {m : MethodId} {args : Array Value} {below : List Frame} {meth : Method} {c : Code} {E : Ev} {σ : Ms} {ℓ : Mz} {o : Nat} {hs : Ms} {out : Mm} (ho : Kd o = 1) (hhs : ∀ h, Kd h = 2 → σ h = hs h)   (C : Cx cX1_gives 3 none wsX1_gives RX1 E p s m args meth c)  : ∀ (τ : Mm) (H : Heap) (locs : List Loc) (h : HI E (va_up σ o τ) ℓ s H locs) (ls : Array Slot) (hl : lv_has ls 3 [(0, .ref (Ea E o 0))]), f_X1_gives_0 hs  τ = some out → W p l e rm_X1_gives s m args below meth c H locs 0 0 (MQ below (Po E s.heap.size none (va_up σ o out) ℓ) args s 0 0 (AA E s.heap.size)) (F0 m 0 ls []) := by
  intro τ H locs h ls hl hf
  unfold f_X1_gives_0 at hf
  have C0 := C
  obtain ⟨hx, hb, hr, hml, hown, hts, hlk, hK, hSF⟩ := C0
  refine lv_iconst (v := (0 : Int32)) hx hb dX1_gives_0 (by decide) ?_
  refine lv_istore_n (lv' := [(1, .int (0 : Int32)), (0, .ref (Ea E o 0))]) hx hb dX1_gives_1 rfl hl (by decide) rfl (fun ls hl => ?_)
  exact w_X1_gives_2L ho hhs   C  _ _ _ _ _ h ls (lv_sub hl [1, 0] rfl) hf
theorem c_X1_gives {l : Launch} {E : Ev} {σ : Ms} {ℓ : Mz} {o : Nat} {τ : Mm} {hs : Ms} (ho : Kd o = 1) (hhs : ∀ h, Kd h = 2 → σ h = hs h) {out : Mm} (hf : f_X1_gives τ hs = some out) : Ct l yX1_gives wsX1_gives rm_X1_gives [.ref (Ea E o 0)] E (va_up σ o τ) ℓ none (va_up σ o out) ℓ := by
  refine Ct_mk (cc := cX1_gives) (mL := 3) (ret := none) (own := RX1) (by decide +kernel) rfl rfl (Nat.le_of_ble_eq_true rfl) (fun p e s m below meth c C h ls hl => ?_)
  exact w_X1_gives_0 ho hhs C τ _ _ h ls (lv_sub hl [0] rfl) hf
theorem k_X1_gives {l : Launch} {E : Ev} {σ : Ms} {ℓ : Mz} {o : Nat} {τ : Mm} {hs : Ms} (ho : Kd o = 1) (hτ : σ o = τ) (hhs : ∀ h, Kd h = 2 → σ h = hs h) {out : Mm} (hf : f_X1_gives τ hs = some out) : Ct l yX1_gives wsX1_gives rm_X1_gives [.ref (Ea E o 0)] E σ ℓ none (va_up σ o out) ℓ := by
  subst hτ
  have h := c_X1_gives (l := l) (E := E) (σ := σ) (ℓ := ℓ) ho hhs hf
  rw [up_id σ o] at h
  exact h
theorem hdJ6_compare_7cf53 : yJ6_compare_7cf53.cls ≠ "java/lang/invoke/MethodHandle" ∧ yJ6_compare_7cf53.cls ≠ "java/lang/invoke/VarHandle" ∧ (parseMethodDescriptor yJ6_compare_7cf53.desc).map (fun d => d.parameters.length) = some 2 := by decide +kernel
def rm_J6_compare_7cf53 : Room := { frames := 0, cells := 0, slots := 0, locals := 0 }
set_option maxHeartbeats 4000000 in
set_option maxRecDepth 100000 in
theorem w_J6_compare_7cf53_0 {p : Program} {l : Launch} {e : Env} {s : State} {m : MethodId} {args : Array Value} {below : List Frame} {meth : Method} {c : Code} {E : Ev} {σ : Ms} {ℓ : Mz} {p0 : Int32} {p1 : Int32} {out : Int32}   (C : Cx cJ6_compare_7cf53 2 (some .int) wsJ6_compare_7cf53 RJ6 E p s m args meth c)  : ∀  (H : Heap) (locs : List Loc) (h : HI E σ ℓ s H locs) (ls : Array Slot) (hl : lv_has ls 2 [(0, .int p0), (1, .int p1)]), f_J6_compare_7cf53_0 p0 p1   = some out → W p l e rm_J6_compare_7cf53 s m args below meth c H locs 0 0 (MQ below (Po E s.heap.size (some (.int out)) σ ℓ) args s 0 0 (AA E s.heap.size)) (F0 m 0 ls []) := by
  intro  H locs h ls hl hf
  unfold f_J6_compare_7cf53_0 at hf
  have C0 := C
  obtain ⟨hx, hb, hr, hml, hown, hts, hlk, hK, hSF⟩ := C0
  refine lv_iload_n hx hb dJ6_compare_7cf53_0 rfl (lv_at hl 0 rfl) ?_
  refine lv_iload_n hx hb dJ6_compare_7cf53_1 rfl (lv_at hl 1 rfl) ?_
  refine lv_icmp_ge (tgt := 9) hx hb dJ6_compare_7cf53_2 (by decide) (fun c1 => ?_) (fun c1 => ?_)
  · replace hf := it_t c1 hf
    refine lv_iload_n hx hb dJ6_compare_7cf53_9 rfl (lv_at hl 0 rfl) ?_
    refine lv_iload_n hx hb dJ6_compare_7cf53_10 rfl (lv_at hl 1 rfl) ?_
    refine lv_icmp_ne (tgt := 18) hx hb dJ6_compare_7cf53_11 (by decide) (fun c2 => ?_) (fun c2 => ?_)
    · replace hf := it_f c2 hf
      refine lv_iconst (v := (1 : Int32)) hx hb dJ6_compare_7cf53_18 (by decide) ?_
      replace hf := Option.some.inj hf
      subst hf
      exact r_ire C h dJ6_compare_7cf53_19
    replace hf := it_t c2 hf
    refine lv_iconst (v := (0 : Int32)) hx hb dJ6_compare_7cf53_14 (by decide) ?_
    refine lv_goto (tgt := 19) hx hb dJ6_compare_7cf53_15 (by decide) ?_
    replace hf := Option.some.inj hf
    subst hf
    exact r_ire C h dJ6_compare_7cf53_19
  replace hf := it_f c1 hf
  refine lv_iconst (v := (-1 : Int32)) hx hb dJ6_compare_7cf53_5 (by decide) ?_
  refine lv_goto (tgt := 19) hx hb dJ6_compare_7cf53_6 (by decide) ?_
  replace hf := Option.some.inj hf
  subst hf
  exact r_ire C h dJ6_compare_7cf53_19
theorem c_J6_compare_7cf53 {l : Launch} {E : Ev} {σ : Ms} {ℓ : Mz} {p0 : Int32} {p1 : Int32} {out : Int32} (hf : f_J6_compare_7cf53 p0 p1 = some out) : Ct l yJ6_compare_7cf53 wsJ6_compare_7cf53 rm_J6_compare_7cf53 [.int p0, .int p1] E σ ℓ (some (.int out)) σ ℓ := by
  refine Ct_mk (cc := cJ6_compare_7cf53) (mL := 2) (ret := (some .int)) (own := RJ6) (by decide +kernel) rfl rfl (Nat.le_of_ble_eq_true rfl) (fun p e s m below meth c C h ls hl => ?_)
  exact w_J6_compare_7cf53_0  C  _ _ h ls (lv_sub hl [0, 1] rfl) hf
theorem hdX1_moves : yX1_moves.cls = RX1 ∧ yX1_moves.cls ≠ "java/lang/invoke/MethodHandle" ∧ yX1_moves.cls ≠ "java/lang/invoke/VarHandle" ∧ (parseMethodDescriptor yX1_moves.desc).map (fun d => d.parameters.length) = some 1 := by decide +kernel
def rm_X1_moves : Room := { frames := 1, cells := 0, slots := 0, locals := 60 }
set_option maxRecDepth 100000 in
theorem inX1_moves_1 : ∀ w ∈ wsX10, w ∈ wsX1_moves := fun _ h => List.mem_cons_of_mem _ (List.mem_append_left _ (List.mem_append_right _ h))
set_option maxRecDepth 100000 in
theorem lkX1_moves_21 : Cond.fieldLink RX1 21 "BellsBelow$Hall" "goal" "[I" ∈ wsX1_moves := by decide +kernel
set_option maxRecDepth 100000 in
theorem lkX1_moves_18 : Cond.fieldLink RX1 18 "BellsBelow$Hall" "floor" "[I" ∈ wsX1_moves := by decide +kernel
set_option maxRecDepth 100000 in
theorem lkX1_moves_30 : Cond.fieldLink RX1 30 "BellsBelow$Hall" "came" "[I" ∈ wsX1_moves := by decide +kernel
set_option maxRecDepth 100000 in
theorem lkX1_moves_42 : Cond.fieldLink RX1 42 "BellsBelow$Hall" "mostCame" "I" ∈ wsX1_moves := by decide +kernel
set_option maxRecDepth 100000 in
theorem wdX1_moves_Cond_methodLink_RX1_89_Lib_Math_min_name : Cond.methodLink RX1 89 Lib.Math.min.name ∈ wsX1_moves := by decide +kernel
set_option maxRecDepth 100000 in
theorem wdX1_moves_Cond_static_Lib_Math_min_name : Cond.static Lib.Math.min.name ∈ wsX1_moves := by decide +kernel
set_option maxRecDepth 100000 in
theorem wdX1_moves_Cond_initialized__java_lang_Math_ : Cond.initialized "java/lang/Math" ∈ wsX1_moves := by decide +kernel
set_option maxRecDepth 100000 in
theorem wdX1_moves_Cond_code_Lib_Math_min_name_Lib_Math_min_code_2__some__int_ : Cond.code Lib.Math.min.name Lib.Math.min.code 2 (some .int) ∈ wsX1_moves := by decide +kernel
set_option maxRecDepth 100000 in
theorem lkX1_moves_56 : Cond.fieldLink RX1 56 "BellsBelow$Hall" "rung" "I" ∈ wsX1_moves := by decide +kernel
set_option maxRecDepth 100000 in
theorem lkX1_moves_24 : Cond.fieldLink RX1 24 "BellsBelow$Hall" "rests" "[I" ∈ wsX1_moves := by decide +kernel
set_option maxRecDepth 100000 in
theorem lkX1_moves_65 : Cond.fieldLink RX1 65 "BellsBelow$Hall" "holding" "LBellsBelow$House;" ∈ wsX1_moves := by decide +kernel
set_option maxRecDepth 100000 in
theorem inX1_moves_2 : ∀ w ∈ wsX20, w ∈ wsX1_moves := fun _ h => List.mem_cons_of_mem _ (List.mem_append_right _ h)
set_option maxRecDepth 100000 in
theorem lkX1_moves_115 : Cond.fieldLink RX1 115 "BellsBelow$House" "rest" "I" ∈ wsX1_moves := by decide +kernel
set_option maxRecDepth 100000 in
theorem wdX1_moves_Cond_methodLink_RX1_107_Lib_Math_max_name : Cond.methodLink RX1 107 Lib.Math.max.name ∈ wsX1_moves := by decide +kernel
set_option maxRecDepth 100000 in
theorem wdX1_moves_Cond_static_Lib_Math_max_name : Cond.static Lib.Math.max.name ∈ wsX1_moves := by decide +kernel
set_option maxRecDepth 100000 in
theorem wdX1_moves_Cond_code_Lib_Math_max_name_Lib_Math_max_code_2__some__int_ : Cond.code Lib.Math.max.name Lib.Math.max.code 2 (some .int) ∈ wsX1_moves := by decide +kernel
set_option maxHeartbeats 4000000 in
set_option maxRecDepth 100000 in
theorem w_X1_moves_140 {p : Program} {l : Launch} {e : Env} {s : State} {m : MethodId} {args : Array Value} {below : List Frame} {meth : Method} {c : Code} {E : Ev} {σ : Ms} {ℓ : Mz} {o : Nat} {hs : Ms} {p0 : Int32} {out : Mm} (ho : Kd o = 1) (hhs : ∀ h, Kd h = 2 → σ h = hs h)   (C : Cx cX1_moves 2 none wsX1_moves RX1 E p s m args meth c)  : ∀ (τ : Mm) (w1 : Int32) (w2 : Int32) (H : Heap) (locs : List Loc) (h : HI E (va_up σ o τ) ℓ s H locs) (ls : Array Slot) (hl : lv_has ls 2 []), f_X1_moves_140 hs p0  τ w1 w2 = some out → W p l e rm_X1_moves s m args below meth c H locs 0 0 (MQ below (Po E s.heap.size none (va_up σ o out) ℓ) args s 0 0 (AA E s.heap.size)) (F0 m 140 ls [.int w2, .int w1, .ref (Ea E o 5)]) := by
  intro τ w1 w2 H locs h ls hl hf
  unfold f_X1_moves_140 at hf
  have C0 := C
  obtain ⟨hx, hb, hr, hml, hown, hts, hlk, hK, hSF⟩ := C0
  obtain ⟨g20, hf⟩ := gd_use hf
  refine sa_1_5 C h ho up_eq (F := fun t => va_up σ o t) (fun _ => up_up) (inB_in g20) dX1_moves_140 (fun τ21 eτ21 H locs h => ?_)
  replace hf := lt_use eτ21 hf
  clear eτ21
  replace hf := Option.some.inj hf
  subst hf
  exact r_vre C h dX1_moves_141
set_option maxHeartbeats 4000000 in
set_option maxRecDepth 100000 in
theorem w_X1_moves_0 {p : Program} {l : Launch} {e : Env} {s : State} {m : MethodId} {args : Array Value} {below : List Frame} {meth : Method} {c : Code} {E : Ev} {σ : Ms} {ℓ : Mz} {o : Nat} {hs : Ms} {p0 : Int32} {out : Mm} (ho : Kd o = 1) (hhs : ∀ h, Kd h = 2 → σ h = hs h)   (C : Cx cX1_moves 2 none wsX1_moves RX1 E p s m args meth c)  : ∀ (τ : Mm) (H : Heap) (locs : List Loc) (h : HI E (va_up σ o τ) ℓ s H locs) (ls : Array Slot) (hl : lv_has ls 2 [(0, .ref (Ea E o 0)), (1, .int p0)]), f_X1_moves_0 hs p0  τ = some out → W p l e rm_X1_moves s m args below meth c H locs 0 0 (MQ below (Po E s.heap.size none (va_up σ o out) ℓ) args s 0 0 (AA E s.heap.size)) (F0 m 0 ls []) := by
  intro τ H locs h ls hl hf
  unfold f_X1_moves_0 at hf
  have C0 := C
  obtain ⟨hx, hb, hr, hml, hown, hts, hlk, hK, hSF⟩ := C0
  refine lv_aload_n hx hb dX1_moves_0 rfl (lv_at hl 0 rfl) ?_
  refine gf_1_5 C h ho up_eq inX1_moves_1 lkX1_moves_21 dX1_moves_1 ?_
  refine lv_iload_n hx hb dX1_moves_4 rfl (lv_at hl 1 rfl) ?_
  obtain ⟨g1, hf⟩ := gd_use hf
  refine ld_1_4 C h ho up_eq (inB_in g1) dX1_moves_5 ?_
  refine lv_bipush (v := (-5 : Int32)) hx hb dX1_moves_6 (by decide) ?_
  refine lv_icmp_ne (tgt := 30) hx hb dX1_moves_8 (by decide) (fun c2 => ?_) (fun c2 => ?_)
  · replace hf := it_f c2 hf
    refine lv_aload_n hx hb dX1_moves_30 rfl (lv_at hl 0 rfl) ?_
    refine gf_1_4 C h ho up_eq inX1_moves_1 lkX1_moves_18 dX1_moves_31 ?_
    refine lv_iload_n hx hb dX1_moves_34 rfl (lv_at hl 1 rfl) ?_
    refine lv_dup2_11 hx hb dX1_moves_35 rfl rfl ?_
    obtain ⟨g3, hf⟩ := gd_use hf
    refine ld_1_3 C h ho up_eq (inB_in g3) dX1_moves_36 ?_
    refine lv_aload_n hx hb dX1_moves_37 rfl (lv_at hl 0 rfl) ?_
    refine gf_1_5 C h ho up_eq inX1_moves_1 lkX1_moves_21 dX1_moves_38 ?_
    refine lv_iload_n hx hb dX1_moves_41 rfl (lv_at hl 1 rfl) ?_
    obtain ⟨g4, hf⟩ := gd_use hf
    refine ld_1_4 C h ho up_eq (inB_in g4) dX1_moves_42 ?_
    refine lv_aload_n hx hb dX1_moves_43 rfl (lv_at hl 0 rfl) ?_
    refine gf_1_4 C h ho up_eq inX1_moves_1 lkX1_moves_18 dX1_moves_44 ?_
    refine lv_iload_n hx hb dX1_moves_47 rfl (lv_at hl 1 rfl) ?_
    obtain ⟨g5, hf⟩ := gd_use hf
    refine ld_1_3 C h ho up_eq (inB_in g5) dX1_moves_48 ?_
    obtain ⟨u6, hu6, hf⟩ := bd_use hf
    refine r_cs (rest := [.int (τ 4 p0.toNatClampNeg), .int p0, .ref (Ea E o 3)]) C h (c_J6_compare_7cf53  hu6) gX1_moves_J6_compare_7cf53 rfl ⟨rfl, rfl⟩ hdJ6_compare_7cf53 ⟨Nat.le_of_ble_eq_true rfl, Nat.le_of_ble_eq_true rfl⟩ ⟨Nat.zero_le _, Nat.zero_le _⟩ hl.1 rfl (Nat.le_of_ble_eq_true rfl) dX1_moves_49 (fun H locs h => ?_)
    refine lv_iadd hx hb dX1_moves_52 ?_
    obtain ⟨g7, hf⟩ := gd_use hf
    refine sa_1_3 C h ho up_eq (F := fun t => va_up σ o t) (fun _ => up_up) (inB_in g7) dX1_moves_53 (fun τ8 eτ8 H locs h => ?_)
    replace hf := lt_use eτ8 hf
    clear eτ8
    refine lv_aload_n hx hb dX1_moves_54 rfl (lv_at hl 0 rfl) ?_
    refine gf_1_4 C h ho up_eq inX1_moves_1 lkX1_moves_18 dX1_moves_55 ?_
    refine lv_iload_n hx hb dX1_moves_58 rfl (lv_at hl 1 rfl) ?_
    obtain ⟨g9, hf⟩ := gd_use hf
    refine ld_1_3 C h ho up_eq (inB_in g9) dX1_moves_59 ?_
    refine lv_aload_n hx hb dX1_moves_60 rfl (lv_at hl 0 rfl) ?_
    refine gf_1_5 C h ho up_eq inX1_moves_1 lkX1_moves_21 dX1_moves_61 ?_
    refine lv_iload_n hx hb dX1_moves_64 rfl (lv_at hl 1 rfl) ?_
    obtain ⟨g10, hf⟩ := gd_use hf
    refine ld_1_4 C h ho up_eq (inB_in g10) dX1_moves_65 ?_
    refine lv_icmp_ne (tgt := 141) hx hb dX1_moves_66 (by decide) (fun c11 => ?_) (fun c11 => ?_)
    · replace hf := it_f c11 hf
      replace hf := Option.some.inj hf
      subst hf
      exact r_vre C h dX1_moves_141
    replace hf := it_t c11 hf
    refine lv_aload_n hx hb dX1_moves_69 rfl (lv_at hl 0 rfl) ?_
    refine gf_1_8 C h ho up_eq inX1_moves_1 lkX1_moves_30 dX1_moves_70 ?_
    refine lv_iload_n hx hb dX1_moves_73 rfl (lv_at hl 1 rfl) ?_
    refine lv_aload_n hx hb dX1_moves_74 rfl (lv_at hl 0 rfl) ?_
    refine gf_1_0 C h ho up_eq inX1_moves_1 lkX1_moves_42 dX1_moves_75 ?_
    refine lv_aload_n hx hb dX1_moves_78 rfl (lv_at hl 0 rfl) ?_
    refine gf_1_8 C h ho up_eq inX1_moves_1 lkX1_moves_30 dX1_moves_79 ?_
    refine lv_iload_n hx hb dX1_moves_82 rfl (lv_at hl 1 rfl) ?_
    obtain ⟨g12, hf⟩ := gd_use hf
    refine ld_1_7 C h ho up_eq (inB_in g12) dX1_moves_83 ?_
    refine lv_iconst (v := (1 : Int32)) hx hb dX1_moves_84 (by decide) ?_
    refine lv_iadd hx hb dX1_moves_85 ?_
    refine va_mmin hx hb (by rw [hml]; exact hl.1.symm) hown (hts _ wdX1_moves_Cond_methodLink_RX1_89_Lib_Math_min_name) (hts _ wdX1_moves_Cond_static_Lib_Math_min_name) (hts _ wdX1_moves_Cond_initialized__java_lang_Math_) (hts _ wdX1_moves_Cond_code_Lib_Math_min_name_Lib_Math_min_code_2__some__int_) (Nat.le_of_ble_eq_true rfl) (Nat.le_of_ble_eq_true rfl) (Nat.zero_le _) (Nat.zero_le _) dX1_moves_86 ?_
    obtain ⟨g13, hf⟩ := gd_use hf
    refine sa_1_7 C h ho up_eq (F := fun t => va_up σ o t) (fun _ => up_up) (inB_in g13) dX1_moves_89 (fun τ14 eτ14 H locs h => ?_)
    replace hf := lt_use eτ14 hf
    clear eτ14
    refine lv_aload_n hx hb dX1_moves_90 rfl (lv_at hl 0 rfl) ?_
    refine lv_dup hx hb dX1_moves_91 rfl ?_
    refine gf_1_13 C h ho up_eq inX1_moves_1 lkX1_moves_56 dX1_moves_92 ?_
    refine lv_iconst (v := (1 : Int32)) hx hb dX1_moves_95 (by decide) ?_
    refine lv_aload_n hx hb dX1_moves_96 rfl (lv_at hl 0 rfl) ?_
    refine gf_1_5 C h ho up_eq inX1_moves_1 lkX1_moves_21 dX1_moves_97 ?_
    refine lv_iload_n hx hb dX1_moves_100 rfl (lv_at hl 1 rfl) ?_
    obtain ⟨g15, hf⟩ := gd_use hf
    refine ld_1_4 C h ho up_eq (inB_in g15) dX1_moves_101 ?_
    refine lv_ishl hx hb dX1_moves_102 ?_
    refine lv_iconst (v := (-1 : Int32)) hx hb dX1_moves_103 (by decide) ?_
    refine lv_ixor hx hb dX1_moves_104 ?_
    refine lv_iand hx hb dX1_moves_105 ?_
    refine pf_1_13 C h ho up_eq (F := fun t => va_up σ o t) (fun _ => up_up) inX1_moves_1 lkX1_moves_56 dX1_moves_106 (fun τ16 eτ16 H locs h => ?_)
    replace hf := lt_use eτ16 hf
    clear eτ16
    refine lv_aload_n hx hb dX1_moves_109 rfl (lv_at hl 0 rfl) ?_
    refine gf_1_5 C h ho up_eq inX1_moves_1 lkX1_moves_21 dX1_moves_110 ?_
    refine lv_iload_n hx hb dX1_moves_113 rfl (lv_at hl 1 rfl) ?_
    refine lv_bipush (v := (-5 : Int32)) hx hb dX1_moves_114 (by decide) ?_
    obtain ⟨g17, hf⟩ := gd_use hf
    refine sa_1_4 C h ho up_eq (F := fun t => va_up σ o t) (fun _ => up_up) (inB_in g17) dX1_moves_116 (fun τ18 eτ18 H locs h => ?_)
    replace hf := lt_use eτ18 hf
    clear eτ18
    refine lv_aload_n hx hb dX1_moves_117 rfl (lv_at hl 0 rfl) ?_
    refine gf_1_6 C h ho up_eq inX1_moves_1 lkX1_moves_24 dX1_moves_118 ?_
    refine lv_iload_n hx hb dX1_moves_121 rfl (lv_at hl 1 rfl) ?_
    refine lv_aload_n hx hb dX1_moves_122 rfl (lv_at hl 0 rfl) ?_
    refine gf_1_16 C h ho up_eq inX1_moves_1 lkX1_moves_65 dX1_moves_123 ?_
    by_cases c19 : (τ18 16 0) = 0
    · replace hf := it_t c19 hf
      refine r_top (hr_0 c19) ?_
      refine lv_ifnonnullN hx hb dX1_moves_126 ?_
      refine lv_iconst (v := (2 : Int32)) hx hb dX1_moves_129 (by decide) ?_
      refine lv_goto (tgt := 140) hx hb dX1_moves_130 (by decide) ?_
      exact w_X1_moves_140 ho hhs   C  _ _ _ _ _ h ls (lv_sub hl [] rfl) hf
    replace hf := it_f c19 hf
    obtain ⟨g22, hf⟩ := gd_use hf
    refine r_top (hr_nn g22) ?_
    refine lv_ifnonnull (tgt := 133) hx hb dX1_moves_126 (by decide) ?_
    refine lv_aload_n hx hb dX1_moves_133 rfl (lv_at hl 0 rfl) ?_
    refine gf_1_16 C h ho up_eq inX1_moves_1 lkX1_moves_65 dX1_moves_134 ?_
    obtain ⟨g23, hf⟩ := gd_use hf
    refine r_top (hr_nn g23) ?_
    refine gf_2_2 C h (inH_k g23) (hs_up hhs ho (by decide) _ (inH_k g23)) inX1_moves_2 lkX1_moves_115 dX1_moves_137 ?_
    exact w_X1_moves_140 ho hhs   C  _ _ _ _ _ h ls (lv_sub hl [] rfl) hf
  replace hf := it_t c2 hf
  refine lv_aload_n hx hb dX1_moves_11 rfl (lv_at hl 0 rfl) ?_
  refine gf_1_6 C h ho up_eq inX1_moves_1 lkX1_moves_24 dX1_moves_12 ?_
  refine lv_iload_n hx hb dX1_moves_15 rfl (lv_at hl 1 rfl) ?_
  refine lv_iconst (v := (0 : Int32)) hx hb dX1_moves_16 (by decide) ?_
  refine lv_aload_n hx hb dX1_moves_17 rfl (lv_at hl 0 rfl) ?_
  refine gf_1_6 C h ho up_eq inX1_moves_1 lkX1_moves_24 dX1_moves_18 ?_
  refine lv_iload_n hx hb dX1_moves_21 rfl (lv_at hl 1 rfl) ?_
  obtain ⟨g24, hf⟩ := gd_use hf
  refine ld_1_5 C h ho up_eq (inB_in g24) dX1_moves_22 ?_
  refine lv_iconst (v := (1 : Int32)) hx hb dX1_moves_23 (by decide) ?_
  refine lv_isub hx hb dX1_moves_24 ?_
  refine va_mmax hx hb (by rw [hml]; exact hl.1.symm) hown (hts _ wdX1_moves_Cond_methodLink_RX1_107_Lib_Math_max_name) (hts _ wdX1_moves_Cond_static_Lib_Math_max_name) (hts _ wdX1_moves_Cond_initialized__java_lang_Math_) (hts _ wdX1_moves_Cond_code_Lib_Math_max_name_Lib_Math_max_code_2__some__int_) (Nat.le_of_ble_eq_true rfl) (Nat.le_of_ble_eq_true rfl) (Nat.zero_le _) (Nat.zero_le _) dX1_moves_25 ?_
  obtain ⟨g25, hf⟩ := gd_use hf
  refine sa_1_5 C h ho up_eq (F := fun t => va_up σ o t) (fun _ => up_up) (inB_in g25) dX1_moves_28 (fun τ26 eτ26 H locs h => ?_)
  replace hf := lt_use eτ26 hf
  clear eτ26
  replace hf := Option.some.inj hf
  subst hf
  exact r_vre C h dX1_moves_29
theorem c_X1_moves {l : Launch} {E : Ev} {σ : Ms} {ℓ : Mz} {o : Nat} {τ : Mm} {hs : Ms} {p0 : Int32} (ho : Kd o = 1) (hhs : ∀ h, Kd h = 2 → σ h = hs h) {out : Mm} (hf : f_X1_moves τ hs p0 = some out) : Ct l yX1_moves wsX1_moves rm_X1_moves [.ref (Ea E o 0), .int p0] E (va_up σ o τ) ℓ none (va_up σ o out) ℓ := by
  refine Ct_mk (cc := cX1_moves) (mL := 2) (ret := none) (own := RX1) (by decide +kernel) rfl rfl (Nat.le_of_ble_eq_true rfl) (fun p e s m below meth c C h ls hl => ?_)
  exact w_X1_moves_0 ho hhs C τ _ _ h ls (lv_sub hl [0, 1] rfl) hf
theorem k_X1_moves {l : Launch} {E : Ev} {σ : Ms} {ℓ : Mz} {o : Nat} {τ : Mm} {hs : Ms} {p0 : Int32} (ho : Kd o = 1) (hτ : σ o = τ) (hhs : ∀ h, Kd h = 2 → σ h = hs h) {out : Mm} (hf : f_X1_moves τ hs p0 = some out) : Ct l yX1_moves wsX1_moves rm_X1_moves [.ref (Ea E o 0), .int p0] E σ ℓ none (va_up σ o out) ℓ := by
  subst hτ
  have h := c_X1_moves (l := l) (E := E) (σ := σ) (ℓ := ℓ) ho hhs hf
  rw [up_id σ o] at h
  exact h
theorem hdX1_goes : yX1_goes.cls = RX1 ∧ yX1_goes.cls ≠ "java/lang/invoke/MethodHandle" ∧ yX1_goes.cls ≠ "java/lang/invoke/VarHandle" ∧ (parseMethodDescriptor yX1_goes.desc).map (fun d => d.parameters.length) = some 1 := by decide +kernel
def rm_X1_goes : Room := { frames := 5, cells := 0, slots := 0, locals := 154 }
set_option maxRecDepth 100000 in
theorem inX1_goes_1 : ∀ w ∈ wsX10, w ∈ wsX1_goes := fun _ h => List.mem_cons_of_mem _ (List.mem_append_left _ (List.mem_append_right _ h))
set_option maxRecDepth 100000 in
theorem lkX1_goes_53 : Cond.fieldLink RX1 53 "BellsBelow$Hall" "many" "I" ∈ wsX1_goes := by decide +kernel
set_option maxRecDepth 100000 in
theorem lkX1_goes_46 : Cond.fieldLink RX1 46 "BellsBelow$Hall" "mostWaited" "I" ∈ wsX1_goes := by decide +kernel
set_option maxRecDepth 100000 in
theorem lkX1_goes_59 : Cond.fieldLink RX1 59 "BellsBelow$Hall" "waited" "I" ∈ wsX1_goes := by decide +kernel
set_option maxRecDepth 100000 in
theorem lkX1_goes_56 : Cond.fieldLink RX1 56 "BellsBelow$Hall" "rung" "I" ∈ wsX1_goes := by decide +kernel
set_option maxRecDepth 100000 in
theorem wdX1_goes_Cond_methodLink_RX1_89_Lib_Math_min_name : Cond.methodLink RX1 89 Lib.Math.min.name ∈ wsX1_goes := by decide +kernel
set_option maxRecDepth 100000 in
theorem wdX1_goes_Cond_static_Lib_Math_min_name : Cond.static Lib.Math.min.name ∈ wsX1_goes := by decide +kernel
set_option maxRecDepth 100000 in
theorem wdX1_goes_Cond_initialized__java_lang_Math_ : Cond.initialized "java/lang/Math" ∈ wsX1_goes := by decide +kernel
set_option maxRecDepth 100000 in
theorem wdX1_goes_Cond_code_Lib_Math_min_name_Lib_Math_min_code_2__some__int_ : Cond.code Lib.Math.min.name Lib.Math.min.code 2 (some .int) ∈ wsX1_goes := by decide +kernel
set_option maxRecDepth 100000 in
theorem lkX1_goes_62 : Cond.fieldLink RX1 62 "BellsBelow$Hall" "minute" "I" ∈ wsX1_goes := by decide +kernel
set_option maxRecDepth 100000 in
theorem lkX1_goes_27 : Cond.fieldLink RX1 27 "BellsBelow$Hall" "gone" "[I" ∈ wsX1_goes := by decide +kernel
set_option maxHeartbeats 4000000 in
set_option maxRecDepth 100000 in
theorem w_X1_goes_35 {p : Program} {l : Launch} {e : Env} {s : State} {m : MethodId} {args : Array Value} {below : List Frame} {meth : Method} {c : Code} {E : Ev} {σ : Ms} {ℓ : Mz} {o : Nat} {hs : Ms} {p0 : Int32} {out : Mm} (ho : Kd o = 1) (hhs : ∀ h, Kd h = 2 → σ h = hs h)   (C : Cx cX1_goes 4 none wsX1_goes RX1 E p s m args meth c) {k2 : Mm → Int32 → Option (Mm)} (hk2 : ∀ (τ : Mm) (v2 : Int32) (H : Heap) (locs : List Loc), HI E (va_up σ o τ) ℓ s H locs → ∀ ls : Array Slot, lv_has ls 4 [(0, .ref (Ea E o 0)), (1, .int p0), (2, .int v2)] → k2 τ v2 = some out → W p l e rm_X1_goes s m args below meth c H locs 0 0 (MQ below (Po E s.heap.size none (va_up σ o out) ℓ) args s 0 0 (AA E s.heap.size)) (F0 m 2 ls [])) {k13 : Mm → Int32 → Int32 → Option (Mm)} (hk13 : ∀ (τ : Mm) (v2 : Int32) (v3 : Int32) (H : Heap) (locs : List Loc), HI E (va_up σ o τ) ℓ s H locs → ∀ ls : Array Slot, lv_has ls 4 [(0, .ref (Ea E o 0)), (1, .int p0), (2, .int v2), (3, .int v3)] → k13 τ v2 v3 = some out → W p l e rm_X1_goes s m args below meth c H locs 0 0 (MQ below (Po E s.heap.size none (va_up σ o out) ℓ) args s 0 0 (AA E s.heap.size)) (F0 m 13 ls [])) : ∀ (τ : Mm) (v2 : Int32) (v3 : Int32) (H : Heap) (locs : List Loc) (h : HI E (va_up σ o τ) ℓ s H locs) (ls : Array Slot) (hl : lv_has ls 4 [(0, .ref (Ea E o 0)), (1, .int p0), (2, .int v2), (3, .int v3)]), f_X1_goes_35 hs p0 k2 k13 τ v2 v3 = some out → W p l e rm_X1_goes s m args below meth c H locs 0 0 (MQ below (Po E s.heap.size none (va_up σ o out) ℓ) args s 0 0 (AA E s.heap.size)) (F0 m 35 ls []) := by
  intro τ v2 v3 H locs h ls hl hf
  unfold f_X1_goes_35 at hf
  have C0 := C
  obtain ⟨hx, hb, hr, hml, hown, hts, hlk, hK, hSF⟩ := C0
  obtain ⟨x10, ex10⟩ : ∃ y : Int32, y = (v3 + (1 : Int32)) := ⟨_, rfl⟩
  refine lv_iinc (v := x10) (lv' := [(3, .int x10), (0, .ref (Ea E o 0)), (1, .int p0), (2, .int v2)]) hx hb dX1_goes_35 hl (k := 3) rfl (by rw [ex10]; rfl) (by decide) rfl (fun ls hl => ?_)
  replace hf := lt_use ex10 hf
  clear ex10
  refine lv_goto (tgt := 13) hx hb dX1_goes_38 (by decide) ?_
  exact hk13 _ _ _ _ _ h ls (lv_sub hl [1, 2, 3, 0] rfl) hf
set_option maxHeartbeats 4000000 in
set_option maxRecDepth 100000 in
theorem w_X1_goes_13 {p : Program} {l : Launch} {e : Env} {s : State} {m : MethodId} {args : Array Value} {below : List Frame} {meth : Method} {c : Code} {E : Ev} {σ : Ms} {ℓ : Mz} {o : Nat} {hs : Ms} {p0 : Int32} {out : Mm} (ho : Kd o = 1) (hhs : ∀ h, Kd h = 2 → σ h = hs h)   (C : Cx cX1_goes 4 none wsX1_goes RX1 E p s m args meth c) {k2 : Mm → Int32 → Option (Mm)} (hk2 : ∀ (τ : Mm) (v2 : Int32) (H : Heap) (locs : List Loc), HI E (va_up σ o τ) ℓ s H locs → ∀ ls : Array Slot, lv_has ls 4 [(0, .ref (Ea E o 0)), (1, .int p0), (2, .int v2)] → k2 τ v2 = some out → W p l e rm_X1_goes s m args below meth c H locs 0 0 (MQ below (Po E s.heap.size none (va_up σ o out) ℓ) args s 0 0 (AA E s.heap.size)) (F0 m 2 ls [])) {k13 : Mm → Int32 → Int32 → Option (Mm)} (hk13 : ∀ (τ : Mm) (v2 : Int32) (v3 : Int32) (H : Heap) (locs : List Loc), HI E (va_up σ o τ) ℓ s H locs → ∀ ls : Array Slot, lv_has ls 4 [(0, .ref (Ea E o 0)), (1, .int p0), (2, .int v2), (3, .int v3)] → k13 τ v2 v3 = some out → W p l e rm_X1_goes s m args below meth c H locs 0 0 (MQ below (Po E s.heap.size none (va_up σ o out) ℓ) args s 0 0 (AA E s.heap.size)) (F0 m 13 ls [])) : ∀ (τ : Mm) (v2 : Int32) (v3 : Int32) (H : Heap) (locs : List Loc) (h : HI E (va_up σ o τ) ℓ s H locs) (ls : Array Slot) (hl : lv_has ls 4 [(0, .ref (Ea E o 0)), (1, .int p0), (2, .int v2), (3, .int v3)]), f_X1_goes_13 hs p0 k2 k13 τ v2 v3 = some out → W p l e rm_X1_goes s m args below meth c H locs 0 0 (MQ below (Po E s.heap.size none (va_up σ o out) ℓ) args s 0 0 (AA E s.heap.size)) (F0 m 13 ls []) := by
  intro τ v2 v3 H locs h ls hl hf
  unfold f_X1_goes_13 at hf
  have C0 := C
  obtain ⟨hx, hb, hr, hml, hown, hts, hlk, hK, hSF⟩ := C0
  refine lv_iload_n hx hb dX1_goes_13 rfl (lv_at hl 3 rfl) ?_
  refine lv_aload_n hx hb dX1_goes_14 rfl (lv_at hl 0 rfl) ?_
  refine gf_1_12 C h ho up_eq inX1_goes_1 lkX1_goes_53 dX1_goes_15 ?_
  refine lv_icmp_ge (tgt := 41) hx hb dX1_goes_18 (by decide) (fun c3 => ?_) (fun c3 => ?_)
  · replace hf := it_t c3 hf
    refine lv_aload_n hx hb dX1_goes_41 rfl (lv_at hl 0 rfl) ?_
    refine lv_aload_n hx hb dX1_goes_42 rfl (lv_at hl 0 rfl) ?_
    refine gf_1_1 C h ho up_eq inX1_goes_1 lkX1_goes_46 dX1_goes_43 ?_
    refine lv_aload_n hx hb dX1_goes_46 rfl (lv_at hl 0 rfl) ?_
    refine gf_1_14 C h ho up_eq inX1_goes_1 lkX1_goes_59 dX1_goes_47 ?_
    refine lv_aload_n hx hb dX1_goes_50 rfl (lv_at hl 0 rfl) ?_
    refine gf_1_13 C h ho up_eq inX1_goes_1 lkX1_goes_56 dX1_goes_51 ?_
    obtain ⟨u4, hu4, hf⟩ := bd_use hf
    refine r_cs (rest := [.int (τ 14 0), .int (τ 1 0), .ref (Ea E o 0)]) C h (c_J6_bitCount_0f7a4  hu4) gX1_goes_J6_bitCount_0f7a4 rfl ⟨rfl, rfl⟩ hdJ6_bitCount_0f7a4 ⟨Nat.le_of_ble_eq_true rfl, Nat.le_of_ble_eq_true rfl⟩ ⟨Nat.zero_le _, Nat.zero_le _⟩ hl.1 rfl (Nat.le_of_ble_eq_true rfl) dX1_goes_54 (fun H locs h => ?_)
    refine lv_iadd hx hb dX1_goes_57 ?_
    refine va_mmin hx hb (by rw [hml]; exact hl.1.symm) hown (hts _ wdX1_goes_Cond_methodLink_RX1_89_Lib_Math_min_name) (hts _ wdX1_goes_Cond_static_Lib_Math_min_name) (hts _ wdX1_goes_Cond_initialized__java_lang_Math_) (hts _ wdX1_goes_Cond_code_Lib_Math_min_name_Lib_Math_min_code_2__some__int_) (Nat.le_of_ble_eq_true rfl) (Nat.le_of_ble_eq_true rfl) (Nat.zero_le _) (Nat.zero_le _) dX1_goes_58 ?_
    refine pf_1_14 C h ho up_eq (F := fun t => va_up σ o t) (fun _ => up_up) inX1_goes_1 lkX1_goes_59 dX1_goes_61 (fun τ5 eτ5 H locs h => ?_)
    replace hf := lt_use eτ5 hf
    clear eτ5
    refine lv_aload_n hx hb dX1_goes_64 rfl (lv_at hl 0 rfl) ?_
    refine lv_dup hx hb dX1_goes_65 rfl ?_
    refine gf_1_15 C h ho up_eq inX1_goes_1 lkX1_goes_62 dX1_goes_66 ?_
    refine lv_iconst (v := (1 : Int32)) hx hb dX1_goes_69 (by decide) ?_
    refine lv_iadd hx hb dX1_goes_70 ?_
    refine pf_1_15 C h ho up_eq (F := fun t => va_up σ o t) (fun _ => up_up) inX1_goes_1 lkX1_goes_62 dX1_goes_71 (fun τ6 eτ6 H locs h => ?_)
    replace hf := lt_use eτ6 hf
    clear eτ6
    obtain ⟨x7, ex7⟩ : ∃ y : Int32, y = (v2 + (1 : Int32)) := ⟨_, rfl⟩
    refine lv_iinc (v := x7) (lv' := [(2, .int x7), (0, .ref (Ea E o 0)), (1, .int p0), (3, .int v3)]) hx hb dX1_goes_74 hl (k := 2) rfl (by rw [ex7]; rfl) (by decide) rfl (fun ls hl => ?_)
    replace hf := lt_use ex7 hf
    clear ex7
    refine lv_goto (tgt := 2) hx hb dX1_goes_77 (by decide) ?_
    exact hk2 _ _ _ _ h ls (lv_sub hl [1, 2, 0] rfl) hf
  replace hf := it_f c3 hf
  refine lv_aload_n hx hb dX1_goes_21 rfl (lv_at hl 0 rfl) ?_
  refine gf_1_7 C h ho up_eq inX1_goes_1 lkX1_goes_27 dX1_goes_22 ?_
  refine lv_iload_n hx hb dX1_goes_25 rfl (lv_at hl 3 rfl) ?_
  obtain ⟨g8, hf⟩ := gd_use hf
  refine ld_1_6 C h ho up_eq (inB_in g8) dX1_goes_26 ?_
  refine lv_if_ne (tgt := 35) hx hb dX1_goes_27 (by decide) (fun c9 => ?_) (fun c9 => ?_)
  · replace hf := it_f c9 hf
    exact w_X1_goes_35 ho hhs   C hk2 hk13 _ _ _ _ _ h ls (lv_sub hl [0, 1, 2, 3] rfl) hf
  replace hf := it_t c9 hf
  refine lv_aload_n hx hb dX1_goes_30 rfl (lv_at hl 0 rfl) ?_
  refine lv_iload_n hx hb dX1_goes_31 rfl (lv_at hl 3 rfl) ?_
  obtain ⟨u11, hu11, hf⟩ := bd_use hf
  refine r_cv_1 (rest := []) C h (c_X1_moves ho hhs hu11) ho gX1_goes_X1_moves rfl ⟨rfl, rfl⟩ hdX1_moves ⟨Nat.le_of_ble_eq_true rfl, Nat.le_of_ble_eq_true rfl⟩ ⟨Nat.zero_le _, Nat.zero_le _⟩ hl.1 rfl (Nat.le_of_ble_eq_true rfl) dX1_goes_32 (fun H locs h => ?_)
  exact w_X1_goes_35 ho hhs   C hk2 hk13 _ _ _ _ _ h ls (lv_sub hl [0, 1, 2, 3] rfl) hf
set_option maxHeartbeats 4000000 in
set_option maxRecDepth 100000 in
theorem w_X1_goes_13L {p : Program} {l : Launch} {e : Env} {s : State} {m : MethodId} {args : Array Value} {below : List Frame} {meth : Method} {c : Code} {E : Ev} {σ : Ms} {ℓ : Mz} {o : Nat} {hs : Ms} {p0 : Int32} {out : Mm} (ho : Kd o = 1) (hhs : ∀ h, Kd h = 2 → σ h = hs h)   (C : Cx cX1_goes 4 none wsX1_goes RX1 E p s m args meth c) {k2 : Mm → Int32 → Option (Mm)} (hk2 : ∀ (τ : Mm) (v2 : Int32) (H : Heap) (locs : List Loc), HI E (va_up σ o τ) ℓ s H locs → ∀ ls : Array Slot, lv_has ls 4 [(0, .ref (Ea E o 0)), (1, .int p0), (2, .int v2)] → k2 τ v2 = some out → W p l e rm_X1_goes s m args below meth c H locs 0 0 (MQ below (Po E s.heap.size none (va_up σ o out) ℓ) args s 0 0 (AA E s.heap.size)) (F0 m 2 ls [])) : ∀ (n9 : Nat) (τ : Mm) (v2 : Int32) (v3 : Int32) (H : Heap) (locs : List Loc) (h : HI E (va_up σ o τ) ℓ s H locs) (ls : Array Slot) (hl : lv_has ls 4 [(0, .ref (Ea E o 0)), (1, .int p0), (2, .int v2), (3, .int v3)]), f_X1_goes_13L hs p0 k2 n9 τ v2 v3 = some out → W p l e rm_X1_goes s m args below meth c H locs 0 0 (MQ below (Po E s.heap.size none (va_up σ o out) ℓ) args s 0 0 (AA E s.heap.size)) (F0 m 13 ls []) := by
  intro n9
  induction n9 with
  | zero =>
    intro τ v2 v3 H locs h ls hl hf
    cases (show (none : Option (Mm)) = some out from hf)
  | succ n9 ih =>
    intro τ v2 v3 H locs h ls hl hf
    exact w_X1_goes_13 ho hhs  C hk2 ih τ v2 v3 H locs h ls hl hf
set_option maxHeartbeats 4000000 in
set_option maxRecDepth 100000 in
theorem w_X1_goes_2 {p : Program} {l : Launch} {e : Env} {s : State} {m : MethodId} {args : Array Value} {below : List Frame} {meth : Method} {c : Code} {E : Ev} {σ : Ms} {ℓ : Mz} {o : Nat} {hs : Ms} {p0 : Int32} {out : Mm} (ho : Kd o = 1) (hhs : ∀ h, Kd h = 2 → σ h = hs h)   (C : Cx cX1_goes 4 none wsX1_goes RX1 E p s m args meth c) {k2 : Mm → Int32 → Option (Mm)} (hk2 : ∀ (τ : Mm) (v2 : Int32) (H : Heap) (locs : List Loc), HI E (va_up σ o τ) ℓ s H locs → ∀ ls : Array Slot, lv_has ls 4 [(0, .ref (Ea E o 0)), (1, .int p0), (2, .int v2)] → k2 τ v2 = some out → W p l e rm_X1_goes s m args below meth c H locs 0 0 (MQ below (Po E s.heap.size none (va_up σ o out) ℓ) args s 0 0 (AA E s.heap.size)) (F0 m 2 ls [])) : ∀ (τ : Mm) (v2 : Int32) (H : Heap) (locs : List Loc) (h : HI E (va_up σ o τ) ℓ s H locs) (ls : Array Slot) (hl : lv_has ls 4 [(0, .ref (Ea E o 0)), (1, .int p0), (2, .int v2)]), f_X1_goes_2 hs p0 k2 τ v2 = some out → W p l e rm_X1_goes s m args below meth c H locs 0 0 (MQ below (Po E s.heap.size none (va_up σ o out) ℓ) args s 0 0 (AA E s.heap.size)) (F0 m 2 ls []) := by
  intro τ v2 H locs h ls hl hf
  unfold f_X1_goes_2 at hf
  have C0 := C
  obtain ⟨hx, hb, hr, hml, hown, hts, hlk, hK, hSF⟩ := C0
  refine lv_iload_n hx hb dX1_goes_2 rfl (lv_at hl 2 rfl) ?_
  refine lv_iload_n hx hb dX1_goes_3 rfl (lv_at hl 1 rfl) ?_
  refine lv_icmp_ge (tgt := 80) hx hb dX1_goes_4 (by decide) (fun c1 => ?_) (fun c1 => ?_)
  · replace hf := it_t c1 hf
    replace hf := Option.some.inj hf
    subst hf
    exact r_vre C h dX1_goes_80
  replace hf := it_f c1 hf
  refine lv_aload_n hx hb dX1_goes_7 rfl (lv_at hl 0 rfl) ?_
  obtain ⟨u2, hu2, hf⟩ := bd_use hf
  refine r_cv_1 (rest := []) C h (c_X1_gives ho hhs hu2) ho gX1_goes_X1_gives rfl ⟨rfl, rfl⟩ hdX1_gives ⟨Nat.le_of_ble_eq_true rfl, Nat.le_of_ble_eq_true rfl⟩ ⟨Nat.zero_le _, Nat.zero_le _⟩ hl.1 rfl (Nat.le_of_ble_eq_true rfl) dX1_goes_8 (fun H locs h => ?_)
  refine lv_iconst (v := (0 : Int32)) hx hb dX1_goes_11 (by decide) ?_
  refine lv_istore_n (lv' := [(3, .int (0 : Int32)), (0, .ref (Ea E o 0)), (1, .int p0), (2, .int v2)]) hx hb dX1_goes_12 rfl hl (by decide) rfl (fun ls hl => ?_)
  exact w_X1_goes_13L ho hhs   C hk2 _ _ _ _ _ _ h ls (lv_sub hl [1, 2, 3, 0] rfl) hf
set_option maxHeartbeats 4000000 in
set_option maxRecDepth 100000 in
theorem w_X1_goes_2L {p : Program} {l : Launch} {e : Env} {s : State} {m : MethodId} {args : Array Value} {below : List Frame} {meth : Method} {c : Code} {E : Ev} {σ : Ms} {ℓ : Mz} {o : Nat} {hs : Ms} {p0 : Int32} {out : Mm} (ho : Kd o = 1) (hhs : ∀ h, Kd h = 2 → σ h = hs h)   (C : Cx cX1_goes 4 none wsX1_goes RX1 E p s m args meth c)  : ∀ (n9 : Nat) (τ : Mm) (v2 : Int32) (H : Heap) (locs : List Loc) (h : HI E (va_up σ o τ) ℓ s H locs) (ls : Array Slot) (hl : lv_has ls 4 [(0, .ref (Ea E o 0)), (1, .int p0), (2, .int v2)]), f_X1_goes_2L hs p0  n9 τ v2 = some out → W p l e rm_X1_goes s m args below meth c H locs 0 0 (MQ below (Po E s.heap.size none (va_up σ o out) ℓ) args s 0 0 (AA E s.heap.size)) (F0 m 2 ls []) := by
  intro n9
  induction n9 with
  | zero =>
    intro τ v2 H locs h ls hl hf
    cases (show (none : Option (Mm)) = some out from hf)
  | succ n9 ih =>
    intro τ v2 H locs h ls hl hf
    exact w_X1_goes_2 ho hhs  C  ih τ v2 H locs h ls hl hf
set_option maxHeartbeats 4000000 in
set_option maxRecDepth 100000 in
theorem w_X1_goes_0 {p : Program} {l : Launch} {e : Env} {s : State} {m : MethodId} {args : Array Value} {below : List Frame} {meth : Method} {c : Code} {E : Ev} {σ : Ms} {ℓ : Mz} {o : Nat} {hs : Ms} {p0 : Int32} {out : Mm} (ho : Kd o = 1) (hhs : ∀ h, Kd h = 2 → σ h = hs h)   (C : Cx cX1_goes 4 none wsX1_goes RX1 E p s m args meth c)  : ∀ (τ : Mm) (H : Heap) (locs : List Loc) (h : HI E (va_up σ o τ) ℓ s H locs) (ls : Array Slot) (hl : lv_has ls 4 [(0, .ref (Ea E o 0)), (1, .int p0)]), f_X1_goes_0 hs p0  τ = some out → W p l e rm_X1_goes s m args below meth c H locs 0 0 (MQ below (Po E s.heap.size none (va_up σ o out) ℓ) args s 0 0 (AA E s.heap.size)) (F0 m 0 ls []) := by
  intro τ H locs h ls hl hf
  unfold f_X1_goes_0 at hf
  have C0 := C
  obtain ⟨hx, hb, hr, hml, hown, hts, hlk, hK, hSF⟩ := C0
  refine lv_iconst (v := (0 : Int32)) hx hb dX1_goes_0 (by decide) ?_
  refine lv_istore_n (lv' := [(2, .int (0 : Int32)), (0, .ref (Ea E o 0)), (1, .int p0)]) hx hb dX1_goes_1 rfl hl (by decide) rfl (fun ls hl => ?_)
  exact w_X1_goes_2L ho hhs   C  _ _ _ _ _ h ls (lv_sub hl [1, 2, 0] rfl) hf
theorem c_X1_goes {l : Launch} {E : Ev} {σ : Ms} {ℓ : Mz} {o : Nat} {τ : Mm} {hs : Ms} {p0 : Int32} (ho : Kd o = 1) (hhs : ∀ h, Kd h = 2 → σ h = hs h) {out : Mm} (hf : f_X1_goes τ hs p0 = some out) : Ct l yX1_goes wsX1_goes rm_X1_goes [.ref (Ea E o 0), .int p0] E (va_up σ o τ) ℓ none (va_up σ o out) ℓ := by
  refine Ct_mk (cc := cX1_goes) (mL := 4) (ret := none) (own := RX1) (by decide +kernel) rfl rfl (Nat.le_of_ble_eq_true rfl) (fun p e s m below meth c C h ls hl => ?_)
  exact w_X1_goes_0 ho hhs C τ _ _ h ls (lv_sub hl [0, 1] rfl) hf
theorem k_X1_goes {l : Launch} {E : Ev} {σ : Ms} {ℓ : Mz} {o : Nat} {τ : Mm} {hs : Ms} {p0 : Int32} (ho : Kd o = 1) (hτ : σ o = τ) (hhs : ∀ h, Kd h = 2 → σ h = hs h) {out : Mm} (hf : f_X1_goes τ hs p0 = some out) : Ct l yX1_goes wsX1_goes rm_X1_goes [.ref (Ea E o 0), .int p0] E σ ℓ none (va_up σ o out) ℓ := by
  subst hτ
  have h := c_X1_goes (l := l) (E := E) (σ := σ) (ℓ := ℓ) ho hhs hf
  rw [up_id σ o] at h
  exact h
theorem hdX1_loop : yX1_loop.cls = RX1 ∧ yX1_loop.cls ≠ "java/lang/invoke/MethodHandle" ∧ yX1_loop.cls ≠ "java/lang/invoke/VarHandle" ∧ (parseMethodDescriptor yX1_loop.desc).map (fun d => d.parameters.length) = some 1 := by decide +kernel
def rm_X1_loop : Room := { frames := 0, cells := 0, slots := 0, locals := 0 }
set_option maxRecDepth 100000 in
theorem inX1_loop_1 : ∀ w ∈ wsX10, w ∈ wsX1_loop := fun _ h => List.mem_cons_of_mem _ (List.mem_append_right _ h)
set_option maxRecDepth 100000 in
theorem lkX1_loop_36 : Cond.fieldLink RX1 36 "BellsBelow$Hall" "wires" "[I" ∈ wsX1_loop := by decide +kernel
set_option maxHeartbeats 4000000 in
set_option maxRecDepth 100000 in
theorem w_X1_loop_9 {p : Program} {l : Launch} {e : Env} {s : State} {m : MethodId} {args : Array Value} {below : List Frame} {meth : Method} {c : Code} {E : Ev} {σ : Ms} {ℓ : Mz} {o : Nat} {τ : Mm} {p0 : Int32} {out : Int32} (ho : Kd o = 1) (hτ : σ o = τ)   (C : Cx cX1_loop 4 (some .int) wsX1_loop RX1 E p s m args meth c) {k9 : Int32 → Int32 → Option (Int32)} (hk9 : ∀ (v2 : Int32) (v3 : Int32) (H : Heap) (locs : List Loc), HI E σ ℓ s H locs → ∀ ls : Array Slot, lv_has ls 4 [(0, .ref (Ea E o 0)), (1, .int p0), (2, .int v2), (3, .int v3)] → k9 v2 v3 = some out → W p l e rm_X1_loop s m args below meth c H locs 0 0 (MQ below (Po E s.heap.size (some (.int out)) σ ℓ) args s 0 0 (AA E s.heap.size)) (F0 m 9 ls [])) : ∀ (v2 : Int32) (v3 : Int32) (H : Heap) (locs : List Loc) (h : HI E σ ℓ s H locs) (ls : Array Slot) (hl : lv_has ls 4 [(0, .ref (Ea E o 0)), (1, .int p0), (2, .int v2), (3, .int v3)]), f_X1_loop_9 τ p0 k9 v2 v3 = some out → W p l e rm_X1_loop s m args below meth c H locs 0 0 (MQ below (Po E s.heap.size (some (.int out)) σ ℓ) args s 0 0 (AA E s.heap.size)) (F0 m 9 ls []) := by
  intro v2 v3 H locs h ls hl hf
  unfold f_X1_loop_9 at hf
  have C0 := C
  obtain ⟨hx, hb, hr, hml, hown, hts, hlk, hK, hSF⟩ := C0
  refine lv_iload_n hx hb dX1_loop_9 rfl (lv_at hl 3 rfl) ?_
  refine lv_iload_n hx hb dX1_loop_10 rfl (lv_at hl 1 rfl) ?_
  refine lv_icmp_eq (tgt := 33) hx hb dX1_loop_11 (by decide) (fun c3 => ?_) (fun c3 => ?_)
  · replace hf := it_t c3 hf
    refine lv_iload_n hx hb dX1_loop_33 rfl (lv_at hl 2 rfl) ?_
    replace hf := Option.some.inj hf
    subst hf
    exact r_ire C h dX1_loop_34
  replace hf := it_f c3 hf
  refine lv_iload_n hx hb dX1_loop_14 rfl (lv_at hl 2 rfl) ?_
  refine lv_bipush (v := (10 : Int32)) hx hb dX1_loop_15 (by decide) ?_
  refine lv_icmp_ge (tgt := 33) hx hb dX1_loop_17 (by decide) (fun c4 => ?_) (fun c4 => ?_)
  · replace hf := it_t c4 hf
    refine lv_iload_n hx hb dX1_loop_33 rfl (lv_at hl 2 rfl) ?_
    replace hf := Option.some.inj hf
    subst hf
    exact r_ire C h dX1_loop_34
  replace hf := it_f c4 hf
  refine lv_aload_n hx hb dX1_loop_20 rfl (lv_at hl 0 rfl) ?_
  refine gf_1_10 C h ho hτ inX1_loop_1 lkX1_loop_36 dX1_loop_21 ?_
  refine lv_iload_n hx hb dX1_loop_24 rfl (lv_at hl 3 rfl) ?_
  obtain ⟨g5, hf⟩ := gd_use hf
  refine ld_1_9 C h ho hτ (inB_in g5) dX1_loop_25 ?_
  refine lv_topi (fun x6 ex6 => ?_)
  replace hf := lt_use ex6 hf
  clear ex6
  refine lv_istore_n (lv' := [(3, .int x6), (0, .ref (Ea E o 0)), (1, .int p0), (2, .int v2)]) hx hb dX1_loop_26 rfl hl (by decide) rfl (fun ls hl => ?_)
  obtain ⟨x7, ex7⟩ : ∃ y : Int32, y = (v2 + (1 : Int32)) := ⟨_, rfl⟩
  refine lv_iinc (v := x7) (lv' := [(2, .int x7), (3, .int x6), (0, .ref (Ea E o 0)), (1, .int p0)]) hx hb dX1_loop_27 hl (k := 3) rfl (by rw [ex7]; rfl) (by decide) rfl (fun ls hl => ?_)
  replace hf := lt_use ex7 hf
  clear ex7
  refine lv_goto (tgt := 9) hx hb dX1_loop_30 (by decide) ?_
  exact hk9 _ _ _ _ h ls (lv_sub hl [2, 3, 0, 1] rfl) hf
set_option maxHeartbeats 4000000 in
set_option maxRecDepth 100000 in
theorem w_X1_loop_9L {p : Program} {l : Launch} {e : Env} {s : State} {m : MethodId} {args : Array Value} {below : List Frame} {meth : Method} {c : Code} {E : Ev} {σ : Ms} {ℓ : Mz} {o : Nat} {τ : Mm} {p0 : Int32} {out : Int32} (ho : Kd o = 1) (hτ : σ o = τ)   (C : Cx cX1_loop 4 (some .int) wsX1_loop RX1 E p s m args meth c)  : ∀ (n9 : Nat) (v2 : Int32) (v3 : Int32) (H : Heap) (locs : List Loc) (h : HI E σ ℓ s H locs) (ls : Array Slot) (hl : lv_has ls 4 [(0, .ref (Ea E o 0)), (1, .int p0), (2, .int v2), (3, .int v3)]), f_X1_loop_9L τ p0  n9 v2 v3 = some out → W p l e rm_X1_loop s m args below meth c H locs 0 0 (MQ below (Po E s.heap.size (some (.int out)) σ ℓ) args s 0 0 (AA E s.heap.size)) (F0 m 9 ls []) := by
  intro n9
  induction n9 with
  | zero =>
    intro v2 v3 H locs h ls hl hf
    cases (show (none : Option (Int32)) = some out from hf)
  | succ n9 ih =>
    intro v2 v3 H locs h ls hl hf
    exact w_X1_loop_9 ho hτ  C  ih v2 v3 H locs h ls hl hf
set_option maxHeartbeats 4000000 in
set_option maxRecDepth 100000 in
theorem w_X1_loop_0 {p : Program} {l : Launch} {e : Env} {s : State} {m : MethodId} {args : Array Value} {below : List Frame} {meth : Method} {c : Code} {E : Ev} {σ : Ms} {ℓ : Mz} {o : Nat} {τ : Mm} {p0 : Int32} {out : Int32} (ho : Kd o = 1) (hτ : σ o = τ)   (C : Cx cX1_loop 4 (some .int) wsX1_loop RX1 E p s m args meth c)  : ∀  (H : Heap) (locs : List Loc) (h : HI E σ ℓ s H locs) (ls : Array Slot) (hl : lv_has ls 4 [(0, .ref (Ea E o 0)), (1, .int p0)]), f_X1_loop_0 τ p0   = some out → W p l e rm_X1_loop s m args below meth c H locs 0 0 (MQ below (Po E s.heap.size (some (.int out)) σ ℓ) args s 0 0 (AA E s.heap.size)) (F0 m 0 ls []) := by
  intro  H locs h ls hl hf
  unfold f_X1_loop_0 at hf
  have C0 := C
  obtain ⟨hx, hb, hr, hml, hown, hts, hlk, hK, hSF⟩ := C0
  refine lv_iconst (v := (1 : Int32)) hx hb dX1_loop_0 (by decide) ?_
  refine lv_istore_n (lv' := [(2, .int (1 : Int32)), (0, .ref (Ea E o 0)), (1, .int p0)]) hx hb dX1_loop_1 rfl hl (by decide) rfl (fun ls hl => ?_)
  refine lv_aload_n hx hb dX1_loop_2 rfl (lv_at hl 1 rfl) ?_
  refine gf_1_10 C h ho hτ inX1_loop_1 lkX1_loop_36 dX1_loop_3 ?_
  refine lv_iload_n hx hb dX1_loop_6 rfl (lv_at hl 2 rfl) ?_
  obtain ⟨g1, hf⟩ := gd_use hf
  refine ld_1_9 C h ho hτ (inB_in g1) dX1_loop_7 ?_
  refine lv_topi (fun x2 ex2 => ?_)
  replace hf := lt_use ex2 hf
  clear ex2
  refine lv_istore_n (lv' := [(3, .int x2), (2, .int (1 : Int32)), (0, .ref (Ea E o 0)), (1, .int p0)]) hx hb dX1_loop_8 rfl hl (by decide) rfl (fun ls hl => ?_)
  exact w_X1_loop_9L ho hτ   C  _ _ _ _ _ h ls (lv_sub hl [2, 3, 1, 0] rfl) hf
theorem c_X1_loop {l : Launch} {E : Ev} {σ : Ms} {ℓ : Mz} {o : Nat} {τ : Mm} {p0 : Int32} (ho : Kd o = 1) (hτ : σ o = τ) {out : Int32} (hf : f_X1_loop τ p0 = some out) : Ct l yX1_loop wsX1_loop rm_X1_loop [.ref (Ea E o 0), .int p0] E σ ℓ (some (.int out)) σ ℓ := by
  refine Ct_mk (cc := cX1_loop) (mL := 4) (ret := (some .int)) (own := RX1) (by decide +kernel) rfl rfl (Nat.le_of_ble_eq_true rfl) (fun p e s m below meth c C h ls hl => ?_)
  exact w_X1_loop_0 ho hτ C  _ _ h ls (lv_sub hl [0, 1] rfl) hf
theorem hdX1_crossings : yX1_crossings.cls = RX1 ∧ yX1_crossings.cls ≠ "java/lang/invoke/MethodHandle" ∧ yX1_crossings.cls ≠ "java/lang/invoke/VarHandle" ∧ (parseMethodDescriptor yX1_crossings.desc).map (fun d => d.parameters.length) = some 0 := by decide +kernel
def rm_X1_crossings : Room := { frames := 0, cells := 0, slots := 0, locals := 0 }
set_option maxRecDepth 100000 in
theorem inX1_crossings_1 : ∀ w ∈ wsX10, w ∈ wsX1_crossings := fun _ h => List.mem_cons_of_mem _ (List.mem_append_right _ h)
set_option maxRecDepth 100000 in
theorem lkX1_crossings_36 : Cond.fieldLink RX1 36 "BellsBelow$Hall" "wires" "[I" ∈ wsX1_crossings := by decide +kernel
set_option maxHeartbeats 4000000 in
set_option maxRecDepth 100000 in
theorem w_X1_crossings_53 {p : Program} {l : Launch} {e : Env} {s : State} {m : MethodId} {args : Array Value} {below : List Frame} {meth : Method} {c : Code} {E : Ev} {σ : Ms} {ℓ : Mz} {o : Nat} {τ : Mm} {out : Int32} (ho : Kd o = 1) (hτ : σ o = τ)   (C : Cx cX1_crossings 5 (some .int) wsX1_crossings RX1 E p s m args meth c) {k4 : Int32 → Int32 → Option (Int32)} (hk4 : ∀ (v1 : Int32) (v2 : Int32) (H : Heap) (locs : List Loc), HI E σ ℓ s H locs → ∀ ls : Array Slot, lv_has ls 5 [(0, .ref (Ea E o 0)), (1, .int v1), (2, .int v2)] → k4 v1 v2 = some out → W p l e rm_X1_crossings s m args below meth c H locs 0 0 (MQ below (Po E s.heap.size (some (.int out)) σ ℓ) args s 0 0 (AA E s.heap.size)) (F0 m 4 ls [])) : ∀ (v1 : Int32) (v2 : Int32) (H : Heap) (locs : List Loc) (h : HI E σ ℓ s H locs) (ls : Array Slot) (hl : lv_has ls 5 [(0, .ref (Ea E o 0)), (1, .int v1), (2, .int v2)]), f_X1_crossings_53 τ k4 v1 v2 = some out → W p l e rm_X1_crossings s m args below meth c H locs 0 0 (MQ below (Po E s.heap.size (some (.int out)) σ ℓ) args s 0 0 (AA E s.heap.size)) (F0 m 53 ls []) := by
  intro v1 v2 H locs h ls hl hf
  unfold f_X1_crossings_53 at hf
  have C0 := C
  obtain ⟨hx, hb, hr, hml, hown, hts, hlk, hK, hSF⟩ := C0
  obtain ⟨x6, ex6⟩ : ∃ y : Int32, y = (v2 + (1 : Int32)) := ⟨_, rfl⟩
  refine lv_iinc (v := x6) (lv' := [(2, .int x6), (0, .ref (Ea E o 0)), (1, .int v1)]) hx hb dX1_crossings_53 hl (k := 2) rfl (by rw [ex6]; rfl) (by decide) rfl (fun ls hl => ?_)
  replace hf := lt_use ex6 hf
  clear ex6
  refine lv_goto (tgt := 4) hx hb dX1_crossings_56 (by decide) ?_
  exact hk4 _ _ _ _ h ls (lv_sub hl [1, 2, 0] rfl) hf
set_option maxHeartbeats 4000000 in
set_option maxRecDepth 100000 in
theorem w_X1_crossings_45 {p : Program} {l : Launch} {e : Env} {s : State} {m : MethodId} {args : Array Value} {below : List Frame} {meth : Method} {c : Code} {E : Ev} {σ : Ms} {ℓ : Mz} {o : Nat} {τ : Mm} {out : Int32} (ho : Kd o = 1) (hτ : σ o = τ)   (C : Cx cX1_crossings 5 (some .int) wsX1_crossings RX1 E p s m args meth c) {k4 : Int32 → Int32 → Option (Int32)} (hk4 : ∀ (v1 : Int32) (v2 : Int32) (H : Heap) (locs : List Loc), HI E σ ℓ s H locs → ∀ ls : Array Slot, lv_has ls 5 [(0, .ref (Ea E o 0)), (1, .int v1), (2, .int v2)] → k4 v1 v2 = some out → W p l e rm_X1_crossings s m args below meth c H locs 0 0 (MQ below (Po E s.heap.size (some (.int out)) σ ℓ) args s 0 0 (AA E s.heap.size)) (F0 m 4 ls [])) : ∀ (v1 : Int32) (v2 : Int32) (v3 : Int32) (H : Heap) (locs : List Loc) (h : HI E σ ℓ s H locs) (ls : Array Slot) (hl : lv_has ls 5 [(0, .ref (Ea E o 0)), (1, .int v1), (2, .int v2), (3, .int v3)]), f_X1_crossings_45 τ k4 v1 v2 v3 = some out → W p l e rm_X1_crossings s m args below meth c H locs 0 0 (MQ below (Po E s.heap.size (some (.int out)) σ ℓ) args s 0 0 (AA E s.heap.size)) (F0 m 45 ls []) := by
  intro v1 v2 v3 H locs h ls hl hf
  unfold f_X1_crossings_45 at hf
  have C0 := C
  obtain ⟨hx, hb, hr, hml, hown, hts, hlk, hK, hSF⟩ := C0
  refine lv_iload_n hx hb dX1_crossings_45 rfl (lv_at hl 3 rfl) ?_
  refine lv_iload_n hx hb dX1_crossings_46 rfl (lv_at hl 2 rfl) ?_
  refine lv_icmp_eq (tgt := 53) hx hb dX1_crossings_47 (by decide) (fun c5 => ?_) (fun c5 => ?_)
  · replace hf := it_t c5 hf
    exact w_X1_crossings_53 ho hτ   C hk4 _ _ _ _ h ls (lv_sub hl [0, 1, 2] rfl) hf
  replace hf := it_f c5 hf
  obtain ⟨x7, ex7⟩ : ∃ y : Int32, y = (v1 + (1 : Int32)) := ⟨_, rfl⟩
  refine lv_iinc (v := x7) (lv' := [(1, .int x7), (0, .ref (Ea E o 0)), (2, .int v2), (3, .int v3)]) hx hb dX1_crossings_50 hl (k := 1) rfl (by rw [ex7]; rfl) (by decide) rfl (fun ls hl => ?_)
  replace hf := lt_use ex7 hf
  clear ex7
  exact w_X1_crossings_53 ho hτ   C hk4 _ _ _ _ h ls (lv_sub hl [1, 0, 2] rfl) hf
set_option maxHeartbeats 4000000 in
set_option maxRecDepth 100000 in
theorem w_X1_crossings_20 {p : Program} {l : Launch} {e : Env} {s : State} {m : MethodId} {args : Array Value} {below : List Frame} {meth : Method} {c : Code} {E : Ev} {σ : Ms} {ℓ : Mz} {o : Nat} {τ : Mm} {out : Int32} (ho : Kd o = 1) (hτ : σ o = τ)   (C : Cx cX1_crossings 5 (some .int) wsX1_crossings RX1 E p s m args meth c) {k4 : Int32 → Int32 → Option (Int32)} (hk4 : ∀ (v1 : Int32) (v2 : Int32) (H : Heap) (locs : List Loc), HI E σ ℓ s H locs → ∀ ls : Array Slot, lv_has ls 5 [(0, .ref (Ea E o 0)), (1, .int v1), (2, .int v2)] → k4 v1 v2 = some out → W p l e rm_X1_crossings s m args below meth c H locs 0 0 (MQ below (Po E s.heap.size (some (.int out)) σ ℓ) args s 0 0 (AA E s.heap.size)) (F0 m 4 ls [])) {k20 : Int32 → Int32 → Int32 → Int32 → Option (Int32)} (hk20 : ∀ (v1 : Int32) (v2 : Int32) (v3 : Int32) (v4 : Int32) (H : Heap) (locs : List Loc), HI E σ ℓ s H locs → ∀ ls : Array Slot, lv_has ls 5 [(0, .ref (Ea E o 0)), (1, .int v1), (2, .int v2), (3, .int v3), (4, .int v4)] → k20 v1 v2 v3 v4 = some out → W p l e rm_X1_crossings s m args below meth c H locs 0 0 (MQ below (Po E s.heap.size (some (.int out)) σ ℓ) args s 0 0 (AA E s.heap.size)) (F0 m 20 ls [])) : ∀ (v1 : Int32) (v2 : Int32) (v3 : Int32) (v4 : Int32) (H : Heap) (locs : List Loc) (h : HI E σ ℓ s H locs) (ls : Array Slot) (hl : lv_has ls 5 [(0, .ref (Ea E o 0)), (1, .int v1), (2, .int v2), (3, .int v3), (4, .int v4)]), f_X1_crossings_20 τ k4 k20 v1 v2 v3 v4 = some out → W p l e rm_X1_crossings s m args below meth c H locs 0 0 (MQ below (Po E s.heap.size (some (.int out)) σ ℓ) args s 0 0 (AA E s.heap.size)) (F0 m 20 ls []) := by
  intro v1 v2 v3 v4 H locs h ls hl hf
  unfold f_X1_crossings_20 at hf
  have C0 := C
  obtain ⟨hx, hb, hr, hml, hown, hts, hlk, hK, hSF⟩ := C0
  refine lv_iload hx hb dX1_crossings_20 (lv_at hl 4 rfl) ?_
  refine lv_bipush (v := (10 : Int32)) hx hb dX1_crossings_22 (by decide) ?_
  refine lv_icmp_ge (tgt := 45) hx hb dX1_crossings_24 (by decide) (fun c4 => ?_) (fun c4 => ?_)
  · replace hf := it_t c4 hf
    exact w_X1_crossings_45 ho hτ   C hk4 _ _ _ _ _ h ls (lv_sub hl [0, 1, 2, 3] rfl) hf
  replace hf := it_f c4 hf
  refine lv_iload_n hx hb dX1_crossings_27 rfl (lv_at hl 3 rfl) ?_
  refine lv_iload_n hx hb dX1_crossings_28 rfl (lv_at hl 2 rfl) ?_
  refine lv_icmp_le (tgt := 45) hx hb dX1_crossings_29 (by decide) (fun c8 => ?_) (fun c8 => ?_)
  · replace hf := it_t c8 hf
    exact w_X1_crossings_45 ho hτ   C hk4 _ _ _ _ _ h ls (lv_sub hl [0, 1, 2, 3] rfl) hf
  replace hf := it_f c8 hf
  refine lv_aload_n hx hb dX1_crossings_32 rfl (lv_at hl 0 rfl) ?_
  refine gf_1_10 C h ho hτ inX1_crossings_1 lkX1_crossings_36 dX1_crossings_33 ?_
  refine lv_iload_n hx hb dX1_crossings_36 rfl (lv_at hl 3 rfl) ?_
  obtain ⟨g9, hf⟩ := gd_use hf
  refine ld_1_9 C h ho hτ (inB_in g9) dX1_crossings_37 ?_
  refine lv_topi (fun x10 ex10 => ?_)
  replace hf := lt_use ex10 hf
  clear ex10
  refine lv_istore_n (lv' := [(3, .int x10), (0, .ref (Ea E o 0)), (1, .int v1), (2, .int v2), (4, .int v4)]) hx hb dX1_crossings_38 rfl hl (by decide) rfl (fun ls hl => ?_)
  obtain ⟨x11, ex11⟩ : ∃ y : Int32, y = (v4 + (1 : Int32)) := ⟨_, rfl⟩
  refine lv_iinc (v := x11) (lv' := [(4, .int x11), (3, .int x10), (0, .ref (Ea E o 0)), (1, .int v1), (2, .int v2)]) hx hb dX1_crossings_39 hl (k := 4) rfl (by rw [ex11]; rfl) (by decide) rfl (fun ls hl => ?_)
  replace hf := lt_use ex11 hf
  clear ex11
  refine lv_goto (tgt := 20) hx hb dX1_crossings_42 (by decide) ?_
  exact hk20 _ _ _ _ _ _ h ls (lv_sub hl [2, 3, 4, 1, 0] rfl) hf
set_option maxHeartbeats 4000000 in
set_option maxRecDepth 100000 in
theorem w_X1_crossings_20L {p : Program} {l : Launch} {e : Env} {s : State} {m : MethodId} {args : Array Value} {below : List Frame} {meth : Method} {c : Code} {E : Ev} {σ : Ms} {ℓ : Mz} {o : Nat} {τ : Mm} {out : Int32} (ho : Kd o = 1) (hτ : σ o = τ)   (C : Cx cX1_crossings 5 (some .int) wsX1_crossings RX1 E p s m args meth c) {k4 : Int32 → Int32 → Option (Int32)} (hk4 : ∀ (v1 : Int32) (v2 : Int32) (H : Heap) (locs : List Loc), HI E σ ℓ s H locs → ∀ ls : Array Slot, lv_has ls 5 [(0, .ref (Ea E o 0)), (1, .int v1), (2, .int v2)] → k4 v1 v2 = some out → W p l e rm_X1_crossings s m args below meth c H locs 0 0 (MQ below (Po E s.heap.size (some (.int out)) σ ℓ) args s 0 0 (AA E s.heap.size)) (F0 m 4 ls [])) : ∀ (n9 : Nat) (v1 : Int32) (v2 : Int32) (v3 : Int32) (v4 : Int32) (H : Heap) (locs : List Loc) (h : HI E σ ℓ s H locs) (ls : Array Slot) (hl : lv_has ls 5 [(0, .ref (Ea E o 0)), (1, .int v1), (2, .int v2), (3, .int v3), (4, .int v4)]), f_X1_crossings_20L τ k4 n9 v1 v2 v3 v4 = some out → W p l e rm_X1_crossings s m args below meth c H locs 0 0 (MQ below (Po E s.heap.size (some (.int out)) σ ℓ) args s 0 0 (AA E s.heap.size)) (F0 m 20 ls []) := by
  intro n9
  induction n9 with
  | zero =>
    intro v1 v2 v3 v4 H locs h ls hl hf
    cases (show (none : Option (Int32)) = some out from hf)
  | succ n9 ih =>
    intro v1 v2 v3 v4 H locs h ls hl hf
    exact w_X1_crossings_20 ho hτ  C hk4 ih v1 v2 v3 v4 H locs h ls hl hf
set_option maxHeartbeats 4000000 in
set_option maxRecDepth 100000 in
theorem w_X1_crossings_4 {p : Program} {l : Launch} {e : Env} {s : State} {m : MethodId} {args : Array Value} {below : List Frame} {meth : Method} {c : Code} {E : Ev} {σ : Ms} {ℓ : Mz} {o : Nat} {τ : Mm} {out : Int32} (ho : Kd o = 1) (hτ : σ o = τ)   (C : Cx cX1_crossings 5 (some .int) wsX1_crossings RX1 E p s m args meth c) {k4 : Int32 → Int32 → Option (Int32)} (hk4 : ∀ (v1 : Int32) (v2 : Int32) (H : Heap) (locs : List Loc), HI E σ ℓ s H locs → ∀ ls : Array Slot, lv_has ls 5 [(0, .ref (Ea E o 0)), (1, .int v1), (2, .int v2)] → k4 v1 v2 = some out → W p l e rm_X1_crossings s m args below meth c H locs 0 0 (MQ below (Po E s.heap.size (some (.int out)) σ ℓ) args s 0 0 (AA E s.heap.size)) (F0 m 4 ls [])) : ∀ (v1 : Int32) (v2 : Int32) (H : Heap) (locs : List Loc) (h : HI E σ ℓ s H locs) (ls : Array Slot) (hl : lv_has ls 5 [(0, .ref (Ea E o 0)), (1, .int v1), (2, .int v2)]), f_X1_crossings_4 τ k4 v1 v2 = some out → W p l e rm_X1_crossings s m args below meth c H locs 0 0 (MQ below (Po E s.heap.size (some (.int out)) σ ℓ) args s 0 0 (AA E s.heap.size)) (F0 m 4 ls []) := by
  intro v1 v2 H locs h ls hl hf
  unfold f_X1_crossings_4 at hf
  have C0 := C
  obtain ⟨hx, hb, hr, hml, hown, hts, hlk, hK, hSF⟩ := C0
  refine lv_iload_n hx hb dX1_crossings_4 rfl (lv_at hl 2 rfl) ?_
  refine lv_bipush (v := (10 : Int32)) hx hb dX1_crossings_5 (by decide) ?_
  refine lv_icmp_ge (tgt := 59) hx hb dX1_crossings_7 (by decide) (fun c1 => ?_) (fun c1 => ?_)
  · replace hf := it_t c1 hf
    refine lv_iload_n hx hb dX1_crossings_59 rfl (lv_at hl 1 rfl) ?_
    replace hf := Option.some.inj hf
    subst hf
    exact r_ire C h dX1_crossings_60
  replace hf := it_f c1 hf
  refine lv_aload_n hx hb dX1_crossings_10 rfl (lv_at hl 0 rfl) ?_
  refine gf_1_10 C h ho hτ inX1_crossings_1 lkX1_crossings_36 dX1_crossings_11 ?_
  refine lv_iload_n hx hb dX1_crossings_14 rfl (lv_at hl 2 rfl) ?_
  obtain ⟨g2, hf⟩ := gd_use hf
  refine ld_1_9 C h ho hτ (inB_in g2) dX1_crossings_15 ?_
  refine lv_topi (fun x3 ex3 => ?_)
  replace hf := lt_use ex3 hf
  clear ex3
  refine lv_istore_n (lv' := [(3, .int x3), (0, .ref (Ea E o 0)), (1, .int v1), (2, .int v2)]) hx hb dX1_crossings_16 rfl hl (by decide) rfl (fun ls hl => ?_)
  refine lv_iconst (v := (0 : Int32)) hx hb dX1_crossings_17 (by decide) ?_
  refine lv_istore (lv' := [(4, .int (0 : Int32)), (3, .int x3), (0, .ref (Ea E o 0)), (1, .int v1), (2, .int v2)]) hx hb dX1_crossings_18 hl (by decide) rfl (fun ls hl => ?_)
  exact w_X1_crossings_20L ho hτ   C hk4 _ _ _ _ _ _ _ h ls (lv_sub hl [2, 3, 4, 1, 0] rfl) hf
set_option maxHeartbeats 4000000 in
set_option maxRecDepth 100000 in
theorem w_X1_crossings_4L {p : Program} {l : Launch} {e : Env} {s : State} {m : MethodId} {args : Array Value} {below : List Frame} {meth : Method} {c : Code} {E : Ev} {σ : Ms} {ℓ : Mz} {o : Nat} {τ : Mm} {out : Int32} (ho : Kd o = 1) (hτ : σ o = τ)   (C : Cx cX1_crossings 5 (some .int) wsX1_crossings RX1 E p s m args meth c)  : ∀ (n9 : Nat) (v1 : Int32) (v2 : Int32) (H : Heap) (locs : List Loc) (h : HI E σ ℓ s H locs) (ls : Array Slot) (hl : lv_has ls 5 [(0, .ref (Ea E o 0)), (1, .int v1), (2, .int v2)]), f_X1_crossings_4L τ  n9 v1 v2 = some out → W p l e rm_X1_crossings s m args below meth c H locs 0 0 (MQ below (Po E s.heap.size (some (.int out)) σ ℓ) args s 0 0 (AA E s.heap.size)) (F0 m 4 ls []) := by
  intro n9
  induction n9 with
  | zero =>
    intro v1 v2 H locs h ls hl hf
    cases (show (none : Option (Int32)) = some out from hf)
  | succ n9 ih =>
    intro v1 v2 H locs h ls hl hf
    exact w_X1_crossings_4 ho hτ  C  ih v1 v2 H locs h ls hl hf
set_option maxHeartbeats 4000000 in
set_option maxRecDepth 100000 in
theorem w_X1_crossings_0 {p : Program} {l : Launch} {e : Env} {s : State} {m : MethodId} {args : Array Value} {below : List Frame} {meth : Method} {c : Code} {E : Ev} {σ : Ms} {ℓ : Mz} {o : Nat} {τ : Mm} {out : Int32} (ho : Kd o = 1) (hτ : σ o = τ)   (C : Cx cX1_crossings 5 (some .int) wsX1_crossings RX1 E p s m args meth c)  : ∀  (H : Heap) (locs : List Loc) (h : HI E σ ℓ s H locs) (ls : Array Slot) (hl : lv_has ls 5 [(0, .ref (Ea E o 0))]), f_X1_crossings_0 τ   = some out → W p l e rm_X1_crossings s m args below meth c H locs 0 0 (MQ below (Po E s.heap.size (some (.int out)) σ ℓ) args s 0 0 (AA E s.heap.size)) (F0 m 0 ls []) := by
  intro  H locs h ls hl hf
  unfold f_X1_crossings_0 at hf
  have C0 := C
  obtain ⟨hx, hb, hr, hml, hown, hts, hlk, hK, hSF⟩ := C0
  refine lv_iconst (v := (0 : Int32)) hx hb dX1_crossings_0 (by decide) ?_
  refine lv_istore_n (lv' := [(1, .int (0 : Int32)), (0, .ref (Ea E o 0))]) hx hb dX1_crossings_1 rfl hl (by decide) rfl (fun ls hl => ?_)
  refine lv_iconst (v := (0 : Int32)) hx hb dX1_crossings_2 (by decide) ?_
  refine lv_istore_n (lv' := [(2, .int (0 : Int32)), (1, .int (0 : Int32)), (0, .ref (Ea E o 0))]) hx hb dX1_crossings_3 rfl hl (by decide) rfl (fun ls hl => ?_)
  exact w_X1_crossings_4L ho hτ   C  _ _ _ _ _ h ls (lv_sub hl [2, 1, 0] rfl) hf
theorem c_X1_crossings {l : Launch} {E : Ev} {σ : Ms} {ℓ : Mz} {o : Nat} {τ : Mm} (ho : Kd o = 1) (hτ : σ o = τ) {out : Int32} (hf : f_X1_crossings τ = some out) : Ct l yX1_crossings wsX1_crossings rm_X1_crossings [.ref (Ea E o 0)] E σ ℓ (some (.int out)) σ ℓ := by
  refine Ct_mk (cc := cX1_crossings) (mL := 5) (ret := (some .int)) (own := RX1) (by decide +kernel) rfl rfl (Nat.le_of_ble_eq_true rfl) (fun p e s m below meth c C h ls hl => ?_)
  exact w_X1_crossings_0 ho hτ C  _ _ h ls (lv_sub hl [0] rfl) hf
theorem hdX1_firstCrossed : yX1_firstCrossed.cls = RX1 ∧ yX1_firstCrossed.cls ≠ "java/lang/invoke/MethodHandle" ∧ yX1_firstCrossed.cls ≠ "java/lang/invoke/VarHandle" ∧ (parseMethodDescriptor yX1_firstCrossed.desc).map (fun d => d.parameters.length) = some 0 := by decide +kernel
def rm_X1_firstCrossed : Room := { frames := 0, cells := 0, slots := 0, locals := 0 }
set_option maxRecDepth 100000 in
theorem inX1_firstCrossed_1 : ∀ w ∈ wsX10, w ∈ wsX1_firstCrossed := fun _ h => List.mem_cons_of_mem _ (List.mem_append_right _ h)
set_option maxRecDepth 100000 in
theorem lkX1_firstCrossed_36 : Cond.fieldLink RX1 36 "BellsBelow$Hall" "wires" "[I" ∈ wsX1_firstCrossed := by decide +kernel
set_option maxHeartbeats 4000000 in
set_option maxRecDepth 100000 in
theorem w_X1_firstCrossed_2 {p : Program} {l : Launch} {e : Env} {s : State} {m : MethodId} {args : Array Value} {below : List Frame} {meth : Method} {c : Code} {E : Ev} {σ : Ms} {ℓ : Mz} {o : Nat} {τ : Mm} {out : Int32} (ho : Kd o = 1) (hτ : σ o = τ)   (C : Cx cX1_firstCrossed 2 (some .int) wsX1_firstCrossed RX1 E p s m args meth c) {k2 : Int32 → Option (Int32)} (hk2 : ∀ (v1 : Int32) (H : Heap) (locs : List Loc), HI E σ ℓ s H locs → ∀ ls : Array Slot, lv_has ls 2 [(0, .ref (Ea E o 0)), (1, .int v1)] → k2 v1 = some out → W p l e rm_X1_firstCrossed s m args below meth c H locs 0 0 (MQ below (Po E s.heap.size (some (.int out)) σ ℓ) args s 0 0 (AA E s.heap.size)) (F0 m 2 ls [])) : ∀ (v1 : Int32) (H : Heap) (locs : List Loc) (h : HI E σ ℓ s H locs) (ls : Array Slot) (hl : lv_has ls 2 [(0, .ref (Ea E o 0)), (1, .int v1)]), f_X1_firstCrossed_2 τ k2 v1 = some out → W p l e rm_X1_firstCrossed s m args below meth c H locs 0 0 (MQ below (Po E s.heap.size (some (.int out)) σ ℓ) args s 0 0 (AA E s.heap.size)) (F0 m 2 ls []) := by
  intro v1 H locs h ls hl hf
  unfold f_X1_firstCrossed_2 at hf
  have C0 := C
  obtain ⟨hx, hb, hr, hml, hown, hts, hlk, hK, hSF⟩ := C0
  refine lv_iload_n hx hb dX1_firstCrossed_2 rfl (lv_at hl 1 rfl) ?_
  refine lv_bipush (v := (10 : Int32)) hx hb dX1_firstCrossed_3 (by decide) ?_
  refine lv_icmp_ge (tgt := 26) hx hb dX1_firstCrossed_5 (by decide) (fun c1 => ?_) (fun c1 => ?_)
  · replace hf := it_t c1 hf
    refine lv_bipush (v := (-5 : Int32)) hx hb dX1_firstCrossed_26 (by decide) ?_
    replace hf := Option.some.inj hf
    subst hf
    exact r_ire C h dX1_firstCrossed_28
  replace hf := it_f c1 hf
  refine lv_aload_n hx hb dX1_firstCrossed_8 rfl (lv_at hl 0 rfl) ?_
  refine gf_1_10 C h ho hτ inX1_firstCrossed_1 lkX1_firstCrossed_36 dX1_firstCrossed_9 ?_
  refine lv_iload_n hx hb dX1_firstCrossed_12 rfl (lv_at hl 1 rfl) ?_
  obtain ⟨g2, hf⟩ := gd_use hf
  refine ld_1_9 C h ho hτ (inB_in g2) dX1_firstCrossed_13 ?_
  refine lv_iload_n hx hb dX1_firstCrossed_14 rfl (lv_at hl 1 rfl) ?_
  refine lv_icmp_eq (tgt := 20) hx hb dX1_firstCrossed_15 (by decide) (fun c3 => ?_) (fun c3 => ?_)
  · replace hf := it_t c3 hf
    obtain ⟨x4, ex4⟩ : ∃ y : Int32, y = (v1 + (1 : Int32)) := ⟨_, rfl⟩
    refine lv_iinc (v := x4) (lv' := [(1, .int x4), (0, .ref (Ea E o 0))]) hx hb dX1_firstCrossed_20 hl (k := 1) rfl (by rw [ex4]; rfl) (by decide) rfl (fun ls hl => ?_)
    replace hf := lt_use ex4 hf
    clear ex4
    refine lv_goto (tgt := 2) hx hb dX1_firstCrossed_23 (by decide) ?_
    exact hk2 _ _ _ h ls (lv_sub hl [1, 0] rfl) hf
  replace hf := it_f c3 hf
  refine lv_iload_n hx hb dX1_firstCrossed_18 rfl (lv_at hl 1 rfl) ?_
  replace hf := Option.some.inj hf
  subst hf
  exact r_ire C h dX1_firstCrossed_19
set_option maxHeartbeats 4000000 in
set_option maxRecDepth 100000 in
theorem w_X1_firstCrossed_2L {p : Program} {l : Launch} {e : Env} {s : State} {m : MethodId} {args : Array Value} {below : List Frame} {meth : Method} {c : Code} {E : Ev} {σ : Ms} {ℓ : Mz} {o : Nat} {τ : Mm} {out : Int32} (ho : Kd o = 1) (hτ : σ o = τ)   (C : Cx cX1_firstCrossed 2 (some .int) wsX1_firstCrossed RX1 E p s m args meth c)  : ∀ (n9 : Nat) (v1 : Int32) (H : Heap) (locs : List Loc) (h : HI E σ ℓ s H locs) (ls : Array Slot) (hl : lv_has ls 2 [(0, .ref (Ea E o 0)), (1, .int v1)]), f_X1_firstCrossed_2L τ  n9 v1 = some out → W p l e rm_X1_firstCrossed s m args below meth c H locs 0 0 (MQ below (Po E s.heap.size (some (.int out)) σ ℓ) args s 0 0 (AA E s.heap.size)) (F0 m 2 ls []) := by
  intro n9
  induction n9 with
  | zero =>
    intro v1 H locs h ls hl hf
    cases (show (none : Option (Int32)) = some out from hf)
  | succ n9 ih =>
    intro v1 H locs h ls hl hf
    exact w_X1_firstCrossed_2 ho hτ  C  ih v1 H locs h ls hl hf
set_option maxHeartbeats 4000000 in
set_option maxRecDepth 100000 in
theorem w_X1_firstCrossed_0 {p : Program} {l : Launch} {e : Env} {s : State} {m : MethodId} {args : Array Value} {below : List Frame} {meth : Method} {c : Code} {E : Ev} {σ : Ms} {ℓ : Mz} {o : Nat} {τ : Mm} {out : Int32} (ho : Kd o = 1) (hτ : σ o = τ)   (C : Cx cX1_firstCrossed 2 (some .int) wsX1_firstCrossed RX1 E p s m args meth c)  : ∀  (H : Heap) (locs : List Loc) (h : HI E σ ℓ s H locs) (ls : Array Slot) (hl : lv_has ls 2 [(0, .ref (Ea E o 0))]), f_X1_firstCrossed_0 τ   = some out → W p l e rm_X1_firstCrossed s m args below meth c H locs 0 0 (MQ below (Po E s.heap.size (some (.int out)) σ ℓ) args s 0 0 (AA E s.heap.size)) (F0 m 0 ls []) := by
  intro  H locs h ls hl hf
  unfold f_X1_firstCrossed_0 at hf
  have C0 := C
  obtain ⟨hx, hb, hr, hml, hown, hts, hlk, hK, hSF⟩ := C0
  refine lv_iconst (v := (0 : Int32)) hx hb dX1_firstCrossed_0 (by decide) ?_
  refine lv_istore_n (lv' := [(1, .int (0 : Int32)), (0, .ref (Ea E o 0))]) hx hb dX1_firstCrossed_1 rfl hl (by decide) rfl (fun ls hl => ?_)
  exact w_X1_firstCrossed_2L ho hτ   C  _ _ _ _ h ls (lv_sub hl [1, 0] rfl) hf
theorem c_X1_firstCrossed {l : Launch} {E : Ev} {σ : Ms} {ℓ : Mz} {o : Nat} {τ : Mm} (ho : Kd o = 1) (hτ : σ o = τ) {out : Int32} (hf : f_X1_firstCrossed τ = some out) : Ct l yX1_firstCrossed wsX1_firstCrossed rm_X1_firstCrossed [.ref (Ea E o 0)] E σ ℓ (some (.int out)) σ ℓ := by
  refine Ct_mk (cc := cX1_firstCrossed) (mL := 2) (ret := (some .int)) (own := RX1) (by decide +kernel) rfl rfl (Nat.le_of_ble_eq_true rfl) (fun p e s m below meth c C h ls hl => ?_)
  exact w_X1_firstCrossed_0 ho hτ C  _ _ h ls (lv_sub hl [0] rfl) hf
theorem hdX2_empties : yX2_empties.cls = RX2 ∧ yX2_empties.cls ≠ "java/lang/invoke/MethodHandle" ∧ yX2_empties.cls ≠ "java/lang/invoke/VarHandle" ∧ (parseMethodDescriptor yX2_empties.desc).map (fun d => d.parameters.length) = some 0 := by decide +kernel
def rm_X2_empties : Room := { frames := 0, cells := 0, slots := 0, locals := 0 }
set_option maxRecDepth 100000 in
theorem inX2_empties_2 : ∀ w ∈ wsX20, w ∈ wsX2_empties := fun _ h => List.mem_cons_of_mem _ (List.mem_append_right _ h)
set_option maxRecDepth 100000 in
theorem lkX2_empties_15 : Cond.fieldLink RX2 15 "BellsBelow$House" "used" "I" ∈ wsX2_empties := by decide +kernel
set_option maxRecDepth 100000 in
theorem lkX2_empties_19 : Cond.fieldLink RX2 19 "BellsBelow$House" "rest" "I" ∈ wsX2_empties := by decide +kernel
set_option maxHeartbeats 4000000 in
set_option maxRecDepth 100000 in
theorem w_X2_empties_0 {p : Program} {l : Launch} {e : Env} {s : State} {m : MethodId} {args : Array Value} {below : List Frame} {meth : Method} {c : Code} {E : Ev} {σ : Ms} {ℓ : Mz} {o : Nat} {out : Mm} (ho : Kd o = 2)   (C : Cx cX2_empties 1 none wsX2_empties RX2 E p s m args meth c)  : ∀ (τ : Mm) (H : Heap) (locs : List Loc) (h : HI E (va_up σ o τ) ℓ s H locs) (ls : Array Slot) (hl : lv_has ls 1 [(0, .ref (Ea E o 0))]), f_X2_empties_0   τ = some out → W p l e rm_X2_empties s m args below meth c H locs 0 0 (MQ below (Po E s.heap.size none (va_up σ o out) ℓ) args s 0 0 (AA E s.heap.size)) (F0 m 0 ls []) := by
  intro τ H locs h ls hl hf
  unfold f_X2_empties_0 at hf
  have C0 := C
  obtain ⟨hx, hb, hr, hml, hown, hts, hlk, hK, hSF⟩ := C0
  refine lv_aload_n hx hb dX2_empties_0 rfl (lv_at hl 0 rfl) ?_
  refine lv_iconst (v := (0 : Int32)) hx hb dX2_empties_1 (by decide) ?_
  refine pf_2_1 C h ho up_eq (F := fun t => va_up σ o t) (fun _ => up_up) inX2_empties_2 lkX2_empties_15 dX2_empties_2 (fun τ1 eτ1 H locs h => ?_)
  replace hf := lt_use eτ1 hf
  clear eτ1
  refine lv_aload_n hx hb dX2_empties_5 rfl (lv_at hl 0 rfl) ?_
  refine lv_iconst (v := (2 : Int32)) hx hb dX2_empties_6 (by decide) ?_
  refine pf_2_2 C h ho up_eq (F := fun t => va_up σ o t) (fun _ => up_up) inX2_empties_2 lkX2_empties_19 dX2_empties_7 (fun τ2 eτ2 H locs h => ?_)
  replace hf := lt_use eτ2 hf
  clear eτ2
  replace hf := Option.some.inj hf
  subst hf
  exact r_vre C h dX2_empties_10
theorem c_X2_empties {l : Launch} {E : Ev} {σ : Ms} {ℓ : Mz} {o : Nat} {τ : Mm} (ho : Kd o = 2) {out : Mm} (hf : f_X2_empties τ = some out) : Ct l yX2_empties wsX2_empties rm_X2_empties [.ref (Ea E o 0)] E (va_up σ o τ) ℓ none (va_up σ o out) ℓ := by
  refine Ct_mk (cc := cX2_empties) (mL := 1) (ret := none) (own := RX2) (by decide +kernel) rfl rfl (Nat.le_of_ble_eq_true rfl) (fun p e s m below meth c C h ls hl => ?_)
  exact w_X2_empties_0 ho C τ _ _ h ls (lv_sub hl [0] rfl) hf
theorem k_X2_empties {l : Launch} {E : Ev} {σ : Ms} {ℓ : Mz} {o : Nat} {τ : Mm} (ho : Kd o = 2) (hτ : σ o = τ) {out : Mm} (hf : f_X2_empties τ = some out) : Ct l yX2_empties wsX2_empties rm_X2_empties [.ref (Ea E o 0)] E σ ℓ none (va_up σ o out) ℓ := by
  subst hτ
  have h := c_X2_empties (l := l) (E := E) (σ := σ) (ℓ := ℓ) ho hf
  rw [up_id σ o] at h
  exact h
theorem hdX2_adds : yX2_adds.cls = RX2 ∧ yX2_adds.cls ≠ "java/lang/invoke/MethodHandle" ∧ yX2_adds.cls ≠ "java/lang/invoke/VarHandle" ∧ (parseMethodDescriptor yX2_adds.desc).map (fun d => d.parameters.length) = some 1 := by decide +kernel
def rm_X2_adds : Room := { frames := 0, cells := 0, slots := 0, locals := 0 }
set_option maxRecDepth 100000 in
theorem inX2_adds_2 : ∀ w ∈ wsX20, w ∈ wsX2_adds := fun _ h => List.mem_cons_of_mem _ (List.mem_append_right _ h)
set_option maxRecDepth 100000 in
theorem lkX2_adds_15 : Cond.fieldLink RX2 15 "BellsBelow$House" "used" "I" ∈ wsX2_adds := by decide +kernel
set_option maxRecDepth 100000 in
theorem lkX2_adds_9 : Cond.fieldLink RX2 9 "BellsBelow$House" "steps" "[I" ∈ wsX2_adds := by decide +kernel
set_option maxHeartbeats 4000000 in
set_option maxRecDepth 100000 in
theorem w_X2_adds_0 {p : Program} {l : Launch} {e : Env} {s : State} {m : MethodId} {args : Array Value} {below : List Frame} {meth : Method} {c : Code} {E : Ev} {σ : Ms} {ℓ : Mz} {o : Nat} {p0 : Int32} {out : Mm} (ho : Kd o = 2)   (C : Cx cX2_adds 2 none wsX2_adds RX2 E p s m args meth c)  : ∀ (τ : Mm) (H : Heap) (locs : List Loc) (h : HI E (va_up σ o τ) ℓ s H locs) (ls : Array Slot) (hl : lv_has ls 2 [(0, .ref (Ea E o 0)), (1, .int p0)]), f_X2_adds_0 p0  τ = some out → W p l e rm_X2_adds s m args below meth c H locs 0 0 (MQ below (Po E s.heap.size none (va_up σ o out) ℓ) args s 0 0 (AA E s.heap.size)) (F0 m 0 ls []) := by
  intro τ H locs h ls hl hf
  unfold f_X2_adds_0 at hf
  have C0 := C
  obtain ⟨hx, hb, hr, hml, hown, hts, hlk, hK, hSF⟩ := C0
  refine lv_aload_n hx hb dX2_adds_0 rfl (lv_at hl 0 rfl) ?_
  refine gf_2_1 C h ho up_eq inX2_adds_2 lkX2_adds_15 dX2_adds_1 ?_
  refine lv_aload_n hx hb dX2_adds_4 rfl (lv_at hl 0 rfl) ?_
  refine gf_2_0 C h ho up_eq inX2_adds_2 lkX2_adds_9 dX2_adds_5 ?_
  refine al_2_1 C h ho dX2_adds_8 ?_
  refine lv_icmp_ge (tgt := 32) hx hb dX2_adds_9 (by decide) (fun c1 => ?_) (fun c1 => ?_)
  · replace hf := it_t c1 hf
    replace hf := Option.some.inj hf
    subst hf
    exact r_vre C h dX2_adds_32
  replace hf := it_f c1 hf
  refine lv_aload_n hx hb dX2_adds_12 rfl (lv_at hl 0 rfl) ?_
  refine gf_2_0 C h ho up_eq inX2_adds_2 lkX2_adds_9 dX2_adds_13 ?_
  refine lv_aload_n hx hb dX2_adds_16 rfl (lv_at hl 0 rfl) ?_
  refine gf_2_1 C h ho up_eq inX2_adds_2 lkX2_adds_15 dX2_adds_17 ?_
  refine lv_iload_n hx hb dX2_adds_20 rfl (lv_at hl 1 rfl) ?_
  obtain ⟨g2, hf⟩ := gd_use hf
  refine sa_2_1 C h ho up_eq (F := fun t => va_up σ o t) (fun _ => up_up) (inB_in g2) dX2_adds_21 (fun τ3 eτ3 H locs h => ?_)
  replace hf := lt_use eτ3 hf
  clear eτ3
  refine lv_aload_n hx hb dX2_adds_22 rfl (lv_at hl 0 rfl) ?_
  refine lv_dup hx hb dX2_adds_23 rfl ?_
  refine gf_2_1 C h ho up_eq inX2_adds_2 lkX2_adds_15 dX2_adds_24 ?_
  refine lv_iconst (v := (1 : Int32)) hx hb dX2_adds_27 (by decide) ?_
  refine lv_iadd hx hb dX2_adds_28 ?_
  refine pf_2_1 C h ho up_eq (F := fun t => va_up σ o t) (fun _ => up_up) inX2_adds_2 lkX2_adds_15 dX2_adds_29 (fun τ4 eτ4 H locs h => ?_)
  replace hf := lt_use eτ4 hf
  clear eτ4
  replace hf := Option.some.inj hf
  subst hf
  exact r_vre C h dX2_adds_32
theorem c_X2_adds {l : Launch} {E : Ev} {σ : Ms} {ℓ : Mz} {o : Nat} {τ : Mm} {p0 : Int32} (ho : Kd o = 2) {out : Mm} (hf : f_X2_adds τ p0 = some out) : Ct l yX2_adds wsX2_adds rm_X2_adds [.ref (Ea E o 0), .int p0] E (va_up σ o τ) ℓ none (va_up σ o out) ℓ := by
  refine Ct_mk (cc := cX2_adds) (mL := 2) (ret := none) (own := RX2) (by decide +kernel) rfl rfl (Nat.le_of_ble_eq_true rfl) (fun p e s m below meth c C h ls hl => ?_)
  exact w_X2_adds_0 ho C τ _ _ h ls (lv_sub hl [0, 1] rfl) hf
theorem k_X2_adds {l : Launch} {E : Ev} {σ : Ms} {ℓ : Mz} {o : Nat} {τ : Mm} {p0 : Int32} (ho : Kd o = 2) (hτ : σ o = τ) {out : Mm} (hf : f_X2_adds τ p0 = some out) : Ct l yX2_adds wsX2_adds rm_X2_adds [.ref (Ea E o 0), .int p0] E σ ℓ none (va_up σ o out) ℓ := by
  subst hτ
  have h := c_X2_adds (l := l) (E := E) (σ := σ) (ℓ := ℓ) ho hf
  rw [up_id σ o] at h
  exact h
def rm_X8_copy_4_1 : Room := { frames := 1, cells := 0, slots := 0, locals := 60 }
set_option maxHeartbeats 4000000 in
set_option maxRecDepth 100000 in
theorem w_X8_copy_4_1_0 {p : Program} {l : Launch} {e : Env} {s : State} {m : MethodId} {args : Array Value} {below : List Frame} {meth : Method} {c : Code} {E : Ev} {σ : Ms} {ℓ : Mz} {o : Nat} {j : Nat} {τo : Mm} {N : Nat} {No : Nat} {out : Mm} (ho : Kd o = 4) (hj : Kd j = 4) (hne : j ≠ o) (hτo : σ j = τo) (hN : rl o = N) (hNo : rl j = No)   (C : Cx cX8_copy 2 none wsX8_copy RX8 E p s m args meth c)  : ∀ (τ : Mm) (H : Heap) (locs : List Loc) (h : HI E (va_up σ o τ) ℓ s H locs) (ls : Array Slot) (hl : lv_has ls 2 [(0, .ref (Ea E j 1)), (1, .ref (Ea E o 1))]), f_X8_copy_4_1_0 τo N No  τ = some out → W p l e rm_X8_copy_4_1 s m args below meth c H locs 0 0 (MQ below (Po E s.heap.size none (va_up σ o out) ℓ) args s 0 0 (AA E s.heap.size)) (F0 m 0 ls []) := by
  intro τ H locs h ls hl hf
  unfold f_X8_copy_4_1_0 at hf
  have C0 := C
  obtain ⟨hx, hb, hr, hml, hown, hts, hlk, hK, hSF⟩ := C0
  refine lv_aload_n hx hb dX8_copy_0 rfl (lv_at hl 0 rfl) ?_
  refine lv_iconst (v := (0 : Int32)) hx hb dX8_copy_1 (by decide) ?_
  refine lv_aload_n hx hb dX8_copy_2 rfl (lv_at hl 1 rfl) ?_
  refine lv_iconst (v := (0 : Int32)) hx hb dX8_copy_3 (by decide) ?_
  refine lv_aload_n hx hb dX8_copy_4 rfl (lv_at hl 0 rfl) ?_
  refine al_4_1 C h hj dX8_copy_5 ?_
  rw [hNo]
  refine lv_aload_n hx hb dX8_copy_6 rfl (lv_at hl 1 rfl) ?_
  refine al_4_1 C h ho dX8_copy_7 ?_
  rw [hN]
  refine va_mmin hx hb (by rw [hml]; exact hl.1.symm) hown (hts _ wdX8_copy_Cond_methodLink_RX8_284_Lib_Math_min_name) (hts _ wdX8_copy_Cond_static_Lib_Math_min_name) (hts _ wdX8_copy_Cond_initialized__java_lang_Math_) (hts _ wdX8_copy_Cond_code_Lib_Math_min_name_Lib_Math_min_code_2__some__int_) (Nat.le_of_ble_eq_true rfl) (Nat.le_of_ble_eq_true rfl) (Nat.zero_le _) (Nat.zero_le _) dX8_copy_8 ?_
  obtain ⟨g1, hf⟩ := gd_use hf
  refine cp_4_1 C h ho up_eq (F := fun t => va_up σ o t) (fun _ => up_up) hj ((up_ne hne).trans hτo) hml hl.1 wdX8_copy_Cond_methodLink_RX8_302_arraycopyName wdX8_copy_Cond_native_arraycopyName wdX8_copy_Cond_static_arraycopyName wdX8_copy_Cond_initialized__java_lang_System_ (by rw [hN, hNo]; exact g1) (Nat.le_of_ble_eq_true rfl) (Nat.le_of_ble_eq_true rfl) dX8_copy_11 (fun τ2 eτ2 H locs h => ?_)
  replace hf := lt_use eτ2 hf
  clear eτ2
  replace hf := Option.some.inj hf
  subst hf
  exact r_vre C h dX8_copy_14
theorem c_X8_copy_4_1 {l : Launch} {E : Ev} {σ : Ms} {ℓ : Mz} {o : Nat} {j : Nat} {τ : Mm} {τo : Mm} {N : Nat} {No : Nat} (ho : Kd o = 4) (hj : Kd j = 4) (hne : j ≠ o) (hτo : σ j = τo) (hN : rl o = N) (hNo : rl j = No) {out : Mm} (hf : f_X8_copy_4_1 τ τo N No = some out) : Ct l yX8_copy wsX8_copy rm_X8_copy_4_1 [.ref (Ea E j 1), .ref (Ea E o 1)] E (va_up σ o τ) ℓ none (va_up σ o out) ℓ := by
  refine Ct_mk (cc := cX8_copy) (mL := 2) (ret := none) (own := RX8) (by decide +kernel) rfl rfl (Nat.le_of_ble_eq_true rfl) (fun p e s m below meth c C h ls hl => ?_)
  exact w_X8_copy_4_1_0 ho hj hne hτo hN hNo C τ _ _ h ls (lv_sub hl [0, 1] rfl) hf
theorem k_X8_copy_4_1 {l : Launch} {E : Ev} {σ : Ms} {ℓ : Mz} {o : Nat} {j : Nat} {τ : Mm} {τo : Mm} {N : Nat} {No : Nat} (ho : Kd o = 4) (hj : Kd j = 4) (hne : j ≠ o) (hτ : σ o = τ) (hτo : σ j = τo) (hN : rl o = N) (hNo : rl j = No) {out : Mm} (hf : f_X8_copy_4_1 τ τo N No = some out) : Ct l yX8_copy wsX8_copy rm_X8_copy_4_1 [.ref (Ea E j 1), .ref (Ea E o 1)] E σ ℓ none (va_up σ o out) ℓ := by
  subst hτ
  have h := c_X8_copy_4_1 (l := l) (E := E) (σ := σ) (ℓ := ℓ) ho hj hne hτo hN hNo hf
  rw [up_id σ o] at h
  exact h
def rm_X8_copy_4_2 : Room := { frames := 1, cells := 0, slots := 0, locals := 60 }
set_option maxHeartbeats 4000000 in
set_option maxRecDepth 100000 in
theorem w_X8_copy_4_2_0 {p : Program} {l : Launch} {e : Env} {s : State} {m : MethodId} {args : Array Value} {below : List Frame} {meth : Method} {c : Code} {E : Ev} {σ : Ms} {ℓ : Mz} {o : Nat} {j : Nat} {τo : Mm} {N : Nat} {No : Nat} {out : Mm} (ho : Kd o = 4) (hj : Kd j = 4) (hne : j ≠ o) (hτo : σ j = τo) (hN : rl o = N) (hNo : rl j = No)   (C : Cx cX8_copy 2 none wsX8_copy RX8 E p s m args meth c)  : ∀ (τ : Mm) (H : Heap) (locs : List Loc) (h : HI E (va_up σ o τ) ℓ s H locs) (ls : Array Slot) (hl : lv_has ls 2 [(0, .ref (Ea E j 2)), (1, .ref (Ea E o 2))]), f_X8_copy_4_2_0 τo N No  τ = some out → W p l e rm_X8_copy_4_2 s m args below meth c H locs 0 0 (MQ below (Po E s.heap.size none (va_up σ o out) ℓ) args s 0 0 (AA E s.heap.size)) (F0 m 0 ls []) := by
  intro τ H locs h ls hl hf
  unfold f_X8_copy_4_2_0 at hf
  have C0 := C
  obtain ⟨hx, hb, hr, hml, hown, hts, hlk, hK, hSF⟩ := C0
  refine lv_aload_n hx hb dX8_copy_0 rfl (lv_at hl 0 rfl) ?_
  refine lv_iconst (v := (0 : Int32)) hx hb dX8_copy_1 (by decide) ?_
  refine lv_aload_n hx hb dX8_copy_2 rfl (lv_at hl 1 rfl) ?_
  refine lv_iconst (v := (0 : Int32)) hx hb dX8_copy_3 (by decide) ?_
  refine lv_aload_n hx hb dX8_copy_4 rfl (lv_at hl 0 rfl) ?_
  refine al_4_2 C h hj dX8_copy_5 ?_
  rw [hNo]
  refine lv_aload_n hx hb dX8_copy_6 rfl (lv_at hl 1 rfl) ?_
  refine al_4_2 C h ho dX8_copy_7 ?_
  rw [hN]
  refine va_mmin hx hb (by rw [hml]; exact hl.1.symm) hown (hts _ wdX8_copy_Cond_methodLink_RX8_284_Lib_Math_min_name) (hts _ wdX8_copy_Cond_static_Lib_Math_min_name) (hts _ wdX8_copy_Cond_initialized__java_lang_Math_) (hts _ wdX8_copy_Cond_code_Lib_Math_min_name_Lib_Math_min_code_2__some__int_) (Nat.le_of_ble_eq_true rfl) (Nat.le_of_ble_eq_true rfl) (Nat.zero_le _) (Nat.zero_le _) dX8_copy_8 ?_
  obtain ⟨g1, hf⟩ := gd_use hf
  refine cp_4_2 C h ho up_eq (F := fun t => va_up σ o t) (fun _ => up_up) hj ((up_ne hne).trans hτo) hml hl.1 wdX8_copy_Cond_methodLink_RX8_302_arraycopyName wdX8_copy_Cond_native_arraycopyName wdX8_copy_Cond_static_arraycopyName wdX8_copy_Cond_initialized__java_lang_System_ (by rw [hN, hNo]; exact g1) (Nat.le_of_ble_eq_true rfl) (Nat.le_of_ble_eq_true rfl) dX8_copy_11 (fun τ2 eτ2 H locs h => ?_)
  replace hf := lt_use eτ2 hf
  clear eτ2
  replace hf := Option.some.inj hf
  subst hf
  exact r_vre C h dX8_copy_14
theorem c_X8_copy_4_2 {l : Launch} {E : Ev} {σ : Ms} {ℓ : Mz} {o : Nat} {j : Nat} {τ : Mm} {τo : Mm} {N : Nat} {No : Nat} (ho : Kd o = 4) (hj : Kd j = 4) (hne : j ≠ o) (hτo : σ j = τo) (hN : rl o = N) (hNo : rl j = No) {out : Mm} (hf : f_X8_copy_4_2 τ τo N No = some out) : Ct l yX8_copy wsX8_copy rm_X8_copy_4_2 [.ref (Ea E j 2), .ref (Ea E o 2)] E (va_up σ o τ) ℓ none (va_up σ o out) ℓ := by
  refine Ct_mk (cc := cX8_copy) (mL := 2) (ret := none) (own := RX8) (by decide +kernel) rfl rfl (Nat.le_of_ble_eq_true rfl) (fun p e s m below meth c C h ls hl => ?_)
  exact w_X8_copy_4_2_0 ho hj hne hτo hN hNo C τ _ _ h ls (lv_sub hl [0, 1] rfl) hf
theorem k_X8_copy_4_2 {l : Launch} {E : Ev} {σ : Ms} {ℓ : Mz} {o : Nat} {j : Nat} {τ : Mm} {τo : Mm} {N : Nat} {No : Nat} (ho : Kd o = 4) (hj : Kd j = 4) (hne : j ≠ o) (hτ : σ o = τ) (hτo : σ j = τo) (hN : rl o = N) (hNo : rl j = No) {out : Mm} (hf : f_X8_copy_4_2 τ τo N No = some out) : Ct l yX8_copy wsX8_copy rm_X8_copy_4_2 [.ref (Ea E j 2), .ref (Ea E o 2)] E σ ℓ none (va_up σ o out) ℓ := by
  subst hτ
  have h := c_X8_copy_4_2 (l := l) (E := E) (σ := σ) (ℓ := ℓ) ho hj hne hτo hN hNo hf
  rw [up_id σ o] at h
  exact h
def rm_X8_copy_4_3 : Room := { frames := 1, cells := 0, slots := 0, locals := 60 }
set_option maxHeartbeats 4000000 in
set_option maxRecDepth 100000 in
theorem w_X8_copy_4_3_0 {p : Program} {l : Launch} {e : Env} {s : State} {m : MethodId} {args : Array Value} {below : List Frame} {meth : Method} {c : Code} {E : Ev} {σ : Ms} {ℓ : Mz} {o : Nat} {j : Nat} {τo : Mm} {N : Nat} {No : Nat} {out : Mm} (ho : Kd o = 4) (hj : Kd j = 4) (hne : j ≠ o) (hτo : σ j = τo) (hN : rl o = N) (hNo : rl j = No)   (C : Cx cX8_copy 2 none wsX8_copy RX8 E p s m args meth c)  : ∀ (τ : Mm) (H : Heap) (locs : List Loc) (h : HI E (va_up σ o τ) ℓ s H locs) (ls : Array Slot) (hl : lv_has ls 2 [(0, .ref (Ea E j 3)), (1, .ref (Ea E o 3))]), f_X8_copy_4_3_0 τo N No  τ = some out → W p l e rm_X8_copy_4_3 s m args below meth c H locs 0 0 (MQ below (Po E s.heap.size none (va_up σ o out) ℓ) args s 0 0 (AA E s.heap.size)) (F0 m 0 ls []) := by
  intro τ H locs h ls hl hf
  unfold f_X8_copy_4_3_0 at hf
  have C0 := C
  obtain ⟨hx, hb, hr, hml, hown, hts, hlk, hK, hSF⟩ := C0
  refine lv_aload_n hx hb dX8_copy_0 rfl (lv_at hl 0 rfl) ?_
  refine lv_iconst (v := (0 : Int32)) hx hb dX8_copy_1 (by decide) ?_
  refine lv_aload_n hx hb dX8_copy_2 rfl (lv_at hl 1 rfl) ?_
  refine lv_iconst (v := (0 : Int32)) hx hb dX8_copy_3 (by decide) ?_
  refine lv_aload_n hx hb dX8_copy_4 rfl (lv_at hl 0 rfl) ?_
  refine al_4_3 C h hj dX8_copy_5 ?_
  rw [hNo]
  refine lv_aload_n hx hb dX8_copy_6 rfl (lv_at hl 1 rfl) ?_
  refine al_4_3 C h ho dX8_copy_7 ?_
  rw [hN]
  refine va_mmin hx hb (by rw [hml]; exact hl.1.symm) hown (hts _ wdX8_copy_Cond_methodLink_RX8_284_Lib_Math_min_name) (hts _ wdX8_copy_Cond_static_Lib_Math_min_name) (hts _ wdX8_copy_Cond_initialized__java_lang_Math_) (hts _ wdX8_copy_Cond_code_Lib_Math_min_name_Lib_Math_min_code_2__some__int_) (Nat.le_of_ble_eq_true rfl) (Nat.le_of_ble_eq_true rfl) (Nat.zero_le _) (Nat.zero_le _) dX8_copy_8 ?_
  obtain ⟨g1, hf⟩ := gd_use hf
  refine cp_4_3 C h ho up_eq (F := fun t => va_up σ o t) (fun _ => up_up) hj ((up_ne hne).trans hτo) hml hl.1 wdX8_copy_Cond_methodLink_RX8_302_arraycopyName wdX8_copy_Cond_native_arraycopyName wdX8_copy_Cond_static_arraycopyName wdX8_copy_Cond_initialized__java_lang_System_ (by rw [hN, hNo]; exact g1) (Nat.le_of_ble_eq_true rfl) (Nat.le_of_ble_eq_true rfl) dX8_copy_11 (fun τ2 eτ2 H locs h => ?_)
  replace hf := lt_use eτ2 hf
  clear eτ2
  replace hf := Option.some.inj hf
  subst hf
  exact r_vre C h dX8_copy_14
theorem c_X8_copy_4_3 {l : Launch} {E : Ev} {σ : Ms} {ℓ : Mz} {o : Nat} {j : Nat} {τ : Mm} {τo : Mm} {N : Nat} {No : Nat} (ho : Kd o = 4) (hj : Kd j = 4) (hne : j ≠ o) (hτo : σ j = τo) (hN : rl o = N) (hNo : rl j = No) {out : Mm} (hf : f_X8_copy_4_3 τ τo N No = some out) : Ct l yX8_copy wsX8_copy rm_X8_copy_4_3 [.ref (Ea E j 3), .ref (Ea E o 3)] E (va_up σ o τ) ℓ none (va_up σ o out) ℓ := by
  refine Ct_mk (cc := cX8_copy) (mL := 2) (ret := none) (own := RX8) (by decide +kernel) rfl rfl (Nat.le_of_ble_eq_true rfl) (fun p e s m below meth c C h ls hl => ?_)
  exact w_X8_copy_4_3_0 ho hj hne hτo hN hNo C τ _ _ h ls (lv_sub hl [0, 1] rfl) hf
theorem k_X8_copy_4_3 {l : Launch} {E : Ev} {σ : Ms} {ℓ : Mz} {o : Nat} {j : Nat} {τ : Mm} {τo : Mm} {N : Nat} {No : Nat} (ho : Kd o = 4) (hj : Kd j = 4) (hne : j ≠ o) (hτ : σ o = τ) (hτo : σ j = τo) (hN : rl o = N) (hNo : rl j = No) {out : Mm} (hf : f_X8_copy_4_3 τ τo N No = some out) : Ct l yX8_copy wsX8_copy rm_X8_copy_4_3 [.ref (Ea E j 3), .ref (Ea E o 3)] E σ ℓ none (va_up σ o out) ℓ := by
  subst hτ
  have h := c_X8_copy_4_3 (l := l) (E := E) (σ := σ) (ℓ := ℓ) ho hj hne hτo hN hNo hf
  rw [up_id σ o] at h
  exact h
theorem hdJ0_isLatin1_aae02 : yJ0_isLatin1_aae02.cls = RJ0 ∧ yJ0_isLatin1_aae02.cls ≠ "java/lang/invoke/MethodHandle" ∧ yJ0_isLatin1_aae02.cls ≠ "java/lang/invoke/VarHandle" ∧ (parseMethodDescriptor yJ0_isLatin1_aae02.desc).map (fun d => d.parameters.length) = some 0 := by decide +kernel
def rm_J0_isLatin1_aae02 : Room := { frames := 0, cells := 0, slots := 0, locals := 0 }
set_option maxRecDepth 100000 in
theorem lkJ0_isLatin1_aae02_38 : Cond.fieldLink RJ0 38 "java/lang/String" "COMPACT_STRINGS" "Z" ∈ wsJ0_isLatin1_aae02 := by decide +kernel
set_option maxRecDepth 100000 in
theorem lkJ0_isLatin1_aae02_15 : Cond.fieldLink RJ0 15 "java/lang/String" "coder" "B" ∈ wsJ0_isLatin1_aae02 := by decide +kernel
set_option maxHeartbeats 4000000 in
set_option maxRecDepth 100000 in
theorem w_J0_isLatin1_aae02_0 {p : Program} {l : Launch} {e : Env} {s : State} {m : MethodId} {args : Array Value} {below : List Frame} {meth : Method} {c : Code} {E : Ev} {σ : Ms} {ℓ : Mz} {w : Nat} {out : Int32} (hw : w < 5)   (C : Cx cJ0_isLatin1_aae02 1 (some .boolean) wsJ0_isLatin1_aae02 RJ0 E p s m args meth c)  : ∀  (H : Heap) (locs : List Loc) (h : HI E σ ℓ s H locs) (ls : Array Slot) (hl : lv_has ls 1 [(0, .ref (Ek E w))]), f_J0_isLatin1_aae02_0 w   = some out → W p l e rm_J0_isLatin1_aae02 s m args below meth c H locs 0 0 (MQ below (Po E s.heap.size (some (.int out)) σ ℓ) args s 0 0 (AA E s.heap.size)) (F0 m 0 ls []) := by
  intro  H locs h ls hl hf
  unfold f_J0_isLatin1_aae02_0 at hf
  have C0 := C
  obtain ⟨hx, hb, hr, hml, hown, hts, hlk, hK, hSF⟩ := C0
  refine va_gets hx hb hSF.2.2.1 h.2.2 hown (hts _ lkJ0_isLatin1_aae02_38) (fun _ h9 => h9) dJ0_isLatin1_aae02_0 ?_
  refine lv_if_eq (tgt := 17) hx hb dJ0_isLatin1_aae02_3 (by decide) (fun c1 => ?_) (fun c1 => ?_)
  · replace hf := it_t c1 hf
    refine lv_iconst (v := (0 : Int32)) hx hb dJ0_isLatin1_aae02_17 (by decide) ?_
    replace hf := Option.some.inj hf
    subst hf
    exact r_zre (v := (0 : Int32)) C h rfl dJ0_isLatin1_aae02_18
  replace hf := it_f c1 hf
  refine lv_aload_n hx hb dJ0_isLatin1_aae02_6 rfl (lv_at hl 0 rfl) ?_
  refine vk_getf hx hb (hSF.2.2.2.2.1.1 w hw).2.1 h.2.2 hown (hts _ lkJ0_isLatin1_aae02_15) (fun _ h9 => h9) dJ0_isLatin1_aae02_7 ?_
  refine lv_if_ne (tgt := 17) hx hb dJ0_isLatin1_aae02_10 (by decide) (fun c2 => ?_) (fun c2 => ?_)
  · replace hf := it_f c2 hf
    refine lv_iconst (v := (0 : Int32)) hx hb dJ0_isLatin1_aae02_17 (by decide) ?_
    replace hf := Option.some.inj hf
    subst hf
    exact r_zre (v := (0 : Int32)) C h rfl dJ0_isLatin1_aae02_18
  replace hf := it_t c2 hf
  refine lv_iconst (v := (1 : Int32)) hx hb dJ0_isLatin1_aae02_13 (by decide) ?_
  refine lv_goto (tgt := 18) hx hb dJ0_isLatin1_aae02_14 (by decide) ?_
  replace hf := Option.some.inj hf
  subst hf
  exact r_zre (v := (1 : Int32)) C h rfl dJ0_isLatin1_aae02_18
theorem c_J0_isLatin1_aae02 {l : Launch} {E : Ev} {σ : Ms} {ℓ : Mz} {w : Nat} (hw : w < 5) {out : Int32} (hf : f_J0_isLatin1_aae02 w = some out) : Ct l yJ0_isLatin1_aae02 wsJ0_isLatin1_aae02 rm_J0_isLatin1_aae02 [.ref (Ek E w)] E σ ℓ (some (.int out)) σ ℓ := by
  refine Ct_mk (cc := cJ0_isLatin1_aae02) (mL := 1) (ret := (some .boolean)) (own := RJ0) (by decide +kernel) rfl rfl (Nat.le_of_ble_eq_true rfl) (fun p e s m below meth c C h ls hl => ?_)
  exact w_J0_isLatin1_aae02_0 hw C  _ _ h ls (lv_sub hl [0] rfl) hf
theorem hdJ0_coder_7d493 : yJ0_coder_7d493.cls = RJ0 ∧ yJ0_coder_7d493.cls ≠ "java/lang/invoke/MethodHandle" ∧ yJ0_coder_7d493.cls ≠ "java/lang/invoke/VarHandle" ∧ (parseMethodDescriptor yJ0_coder_7d493.desc).map (fun d => d.parameters.length) = some 0 := by decide +kernel
def rm_J0_coder_7d493 : Room := { frames := 0, cells := 0, slots := 0, locals := 0 }
set_option maxRecDepth 100000 in
theorem lkJ0_coder_7d493_38 : Cond.fieldLink RJ0 38 "java/lang/String" "COMPACT_STRINGS" "Z" ∈ wsJ0_coder_7d493 := by decide +kernel
set_option maxRecDepth 100000 in
theorem lkJ0_coder_7d493_15 : Cond.fieldLink RJ0 15 "java/lang/String" "coder" "B" ∈ wsJ0_coder_7d493 := by decide +kernel
set_option maxHeartbeats 4000000 in
set_option maxRecDepth 100000 in
theorem w_J0_coder_7d493_0 {p : Program} {l : Launch} {e : Env} {s : State} {m : MethodId} {args : Array Value} {below : List Frame} {meth : Method} {c : Code} {E : Ev} {σ : Ms} {ℓ : Mz} {w : Nat} {out : Int32} (hw : w < 5)   (C : Cx cJ0_coder_7d493 1 (some .byte) wsJ0_coder_7d493 RJ0 E p s m args meth c)  : ∀  (H : Heap) (locs : List Loc) (h : HI E σ ℓ s H locs) (ls : Array Slot) (hl : lv_has ls 1 [(0, .ref (Ek E w))]), f_J0_coder_7d493_0 w   = some out → W p l e rm_J0_coder_7d493 s m args below meth c H locs 0 0 (MQ below (Po E s.heap.size (some (.int out)) σ ℓ) args s 0 0 (AA E s.heap.size)) (F0 m 0 ls []) := by
  intro  H locs h ls hl hf
  unfold f_J0_coder_7d493_0 at hf
  have C0 := C
  obtain ⟨hx, hb, hr, hml, hown, hts, hlk, hK, hSF⟩ := C0
  refine va_gets hx hb hSF.2.2.1 h.2.2 hown (hts _ lkJ0_coder_7d493_38) (fun _ h9 => h9) dJ0_coder_7d493_0 ?_
  refine lv_if_eq (tgt := 13) hx hb dJ0_coder_7d493_3 (by decide) (fun c1 => ?_) (fun c1 => ?_)
  · replace hf := it_t c1 hf
    refine lv_iconst (v := (1 : Int32)) hx hb dJ0_coder_7d493_13 (by decide) ?_
    replace hf := Option.some.inj hf
    subst hf
    exact r_zre (v := (1 : Int32)) C h rfl dJ0_coder_7d493_14
  replace hf := it_f c1 hf
  refine lv_aload_n hx hb dJ0_coder_7d493_6 rfl (lv_at hl 0 rfl) ?_
  refine vk_getf hx hb (hSF.2.2.2.2.1.1 w hw).2.1 h.2.2 hown (hts _ lkJ0_coder_7d493_15) (fun _ h9 => h9) dJ0_coder_7d493_7 ?_
  refine lv_goto (tgt := 14) hx hb dJ0_coder_7d493_10 (by decide) ?_
  replace hf := Option.some.inj hf
  subst hf
  exact r_zre (v := (0 : Int32)) C h rfl dJ0_coder_7d493_14
theorem c_J0_coder_7d493 {l : Launch} {E : Ev} {σ : Ms} {ℓ : Mz} {w : Nat} (hw : w < 5) {out : Int32} (hf : f_J0_coder_7d493 w = some out) : Ct l yJ0_coder_7d493 wsJ0_coder_7d493 rm_J0_coder_7d493 [.ref (Ek E w)] E σ ℓ (some (.int out)) σ ℓ := by
  refine Ct_mk (cc := cJ0_coder_7d493) (mL := 1) (ret := (some .byte)) (own := RJ0) (by decide +kernel) rfl rfl (Nat.le_of_ble_eq_true rfl) (fun p e s m below meth c C h ls hl => ?_)
  exact w_J0_coder_7d493_0 hw C  _ _ h ls (lv_sub hl [0] rfl) hf
theorem hdJ0_length_8abf5 : yJ0_length_8abf5.cls = RJ0 ∧ yJ0_length_8abf5.cls ≠ "java/lang/invoke/MethodHandle" ∧ yJ0_length_8abf5.cls ≠ "java/lang/invoke/VarHandle" ∧ (parseMethodDescriptor yJ0_length_8abf5.desc).map (fun d => d.parameters.length) = some 0 := by decide +kernel
def rm_J0_length_8abf5 : Room := { frames := 1, cells := 0, slots := 0, locals := 20 }
set_option maxRecDepth 100000 in
theorem lkJ0_length_8abf5_9 : Cond.fieldLink RJ0 9 "java/lang/String" "value" "[B" ∈ wsJ0_length_8abf5 := by decide +kernel
set_option maxHeartbeats 4000000 in
set_option maxRecDepth 100000 in
theorem w_J0_length_8abf5_0 {p : Program} {l : Launch} {e : Env} {s : State} {m : MethodId} {args : Array Value} {below : List Frame} {meth : Method} {c : Code} {E : Ev} {σ : Ms} {ℓ : Mz} {w : Nat} {out : Int32} (hw : w < 5)   (C : Cx cJ0_length_8abf5 1 (some .int) wsJ0_length_8abf5 RJ0 E p s m args meth c)  : ∀  (H : Heap) (locs : List Loc) (h : HI E σ ℓ s H locs) (ls : Array Slot) (hl : lv_has ls 1 [(0, .ref (Ek E w))]), f_J0_length_8abf5_0 w   = some out → W p l e rm_J0_length_8abf5 s m args below meth c H locs 0 0 (MQ below (Po E s.heap.size (some (.int out)) σ ℓ) args s 0 0 (AA E s.heap.size)) (F0 m 0 ls []) := by
  intro  H locs h ls hl hf
  unfold f_J0_length_8abf5_0 at hf
  have C0 := C
  obtain ⟨hx, hb, hr, hml, hown, hts, hlk, hK, hSF⟩ := C0
  refine lv_aload_n hx hb dJ0_length_8abf5_0 rfl (lv_at hl 0 rfl) ?_
  refine vk_getf hx hb (hSF.2.2.2.2.1.1 w hw).2.2.1 h.2.2 hown (hts _ lkJ0_length_8abf5_9) (fun _ h9 => h9) dJ0_length_8abf5_1 ?_
  refine va_tlen (v := nI (sLen.getD w 0)) hx hb (hSF.2.2.2.2.1.1 w hw).2.2.2 h.2.2 rfl dJ0_length_8abf5_4 ?_
  refine lv_aload_n hx hb dJ0_length_8abf5_5 rfl (lv_at hl 0 rfl) ?_
  obtain ⟨u1, hu1, hf⟩ := bd_use hf
  refine r_cvT (rest := [.int (nI (sLen.getD w 0))]) C h (c_J0_coder_7d493 hw hu1) hw gJ0_length_8abf5_J0_coder_7d493 rfl ⟨rfl, rfl⟩ hdJ0_coder_7d493 ⟨Nat.le_of_ble_eq_true rfl, Nat.le_of_ble_eq_true rfl⟩ ⟨Nat.zero_le _, Nat.zero_le _⟩ hl.1 rfl (Nat.le_of_ble_eq_true rfl) dJ0_length_8abf5_6 (fun H locs h => ?_)
  refine lv_ishr hx hb dJ0_length_8abf5_9 ?_
  replace hf := Option.some.inj hf
  subst hf
  exact r_ire C h dJ0_length_8abf5_10
theorem c_J0_length_8abf5 {l : Launch} {E : Ev} {σ : Ms} {ℓ : Mz} {w : Nat} (hw : w < 5) {out : Int32} (hf : f_J0_length_8abf5 w = some out) : Ct l yJ0_length_8abf5 wsJ0_length_8abf5 rm_J0_length_8abf5 [.ref (Ek E w)] E σ ℓ (some (.int out)) σ ℓ := by
  refine Ct_mk (cc := cJ0_length_8abf5) (mL := 1) (ret := (some .int)) (own := RJ0) (by decide +kernel) rfl rfl (Nat.le_of_ble_eq_true rfl) (fun p e s m below meth c C h ls hl => ?_)
  exact w_J0_length_8abf5_0 hw C  _ _ h ls (lv_sub hl [0] rfl) hf
theorem hdJ1_canEncode_9a6ad : yJ1_canEncode_9a6ad.cls ≠ "java/lang/invoke/MethodHandle" ∧ yJ1_canEncode_9a6ad.cls ≠ "java/lang/invoke/VarHandle" ∧ (parseMethodDescriptor yJ1_canEncode_9a6ad.desc).map (fun d => d.parameters.length) = some 1 := by decide +kernel
def rm_J1_canEncode_9a6ad : Room := { frames := 0, cells := 0, slots := 0, locals := 0 }
set_option maxHeartbeats 4000000 in
set_option maxRecDepth 100000 in
theorem w_J1_canEncode_9a6ad_0 {p : Program} {l : Launch} {e : Env} {s : State} {m : MethodId} {args : Array Value} {below : List Frame} {meth : Method} {c : Code} {E : Ev} {σ : Ms} {ℓ : Mz} {p0 : Int32} {out : Int32}   (C : Cx cJ1_canEncode_9a6ad 1 (some .boolean) wsJ1_canEncode_9a6ad RJ1 E p s m args meth c)  : ∀  (H : Heap) (locs : List Loc) (h : HI E σ ℓ s H locs) (ls : Array Slot) (hl : lv_has ls 1 [(0, .int p0)]), f_J1_canEncode_9a6ad_0 p0   = some out → W p l e rm_J1_canEncode_9a6ad s m args below meth c H locs 0 0 (MQ below (Po E s.heap.size (some (.int out)) σ ℓ) args s 0 0 (AA E s.heap.size)) (F0 m 0 ls []) := by
  intro  H locs h ls hl hf
  unfold f_J1_canEncode_9a6ad_0 at hf
  have C0 := C
  obtain ⟨hx, hb, hr, hml, hown, hts, hlk, hK, hSF⟩ := C0
  refine lv_iload_n hx hb dJ1_canEncode_9a6ad_0 rfl (lv_at hl 0 rfl) ?_
  refine lv_if_lt (tgt := 15) hx hb dJ1_canEncode_9a6ad_1 (by decide) (fun c1 => ?_) (fun c1 => ?_)
  · replace hf := it_t c1 hf
    refine lv_iconst (v := (0 : Int32)) hx hb dJ1_canEncode_9a6ad_15 (by decide) ?_
    replace hf := Option.some.inj hf
    subst hf
    exact r_zre (v := (0 : Int32)) C h rfl dJ1_canEncode_9a6ad_16
  replace hf := it_f c1 hf
  refine lv_iload_n hx hb dJ1_canEncode_9a6ad_4 rfl (lv_at hl 0 rfl) ?_
  refine lv_sipush (v := (255 : Int32)) hx hb dJ1_canEncode_9a6ad_5 (by decide) ?_
  refine lv_icmp_gt (tgt := 15) hx hb dJ1_canEncode_9a6ad_8 (by decide) (fun c2 => ?_) (fun c2 => ?_)
  · replace hf := it_t c2 hf
    refine lv_iconst (v := (0 : Int32)) hx hb dJ1_canEncode_9a6ad_15 (by decide) ?_
    replace hf := Option.some.inj hf
    subst hf
    exact r_zre (v := (0 : Int32)) C h rfl dJ1_canEncode_9a6ad_16
  replace hf := it_f c2 hf
  refine lv_iconst (v := (1 : Int32)) hx hb dJ1_canEncode_9a6ad_11 (by decide) ?_
  refine lv_goto (tgt := 16) hx hb dJ1_canEncode_9a6ad_12 (by decide) ?_
  replace hf := Option.some.inj hf
  subst hf
  exact r_zre (v := (1 : Int32)) C h rfl dJ1_canEncode_9a6ad_16
theorem c_J1_canEncode_9a6ad {l : Launch} {E : Ev} {σ : Ms} {ℓ : Mz} {p0 : Int32} {out : Int32} (hf : f_J1_canEncode_9a6ad p0 = some out) : Ct l yJ1_canEncode_9a6ad wsJ1_canEncode_9a6ad rm_J1_canEncode_9a6ad [.int p0] E σ ℓ (some (.int out)) σ ℓ := by
  refine Ct_mk (cc := cJ1_canEncode_9a6ad) (mL := 1) (ret := (some .boolean)) (own := RJ1) (by decide +kernel) rfl rfl (Nat.le_of_ble_eq_true rfl) (fun p e s m below meth c C h ls hl => ?_)
  exact w_J1_canEncode_9a6ad_0  C  _ _ h ls (lv_sub hl [0] rfl) hf
theorem hdJ1_indexOfChar_4cfef : yJ1_indexOfChar_4cfef.cls ≠ "java/lang/invoke/MethodHandle" ∧ yJ1_indexOfChar_4cfef.cls ≠ "java/lang/invoke/VarHandle" ∧ (parseMethodDescriptor yJ1_indexOfChar_4cfef.desc).map (fun d => d.parameters.length) = some 4 := by decide +kernel
def rm_J1_indexOfChar_4cfef : Room := { frames := 0, cells := 0, slots := 0, locals := 0 }
set_option maxHeartbeats 4000000 in
set_option maxRecDepth 100000 in
theorem w_J1_indexOfChar_4cfef_7 {p : Program} {l : Launch} {e : Env} {s : State} {m : MethodId} {args : Array Value} {below : List Frame} {meth : Method} {c : Code} {E : Ev} {σ : Ms} {ℓ : Mz} {w : Nat} {p1 : Int32} {p2 : Int32} {p3 : Int32} {out : Int32} (hw : w < 5)   (C : Cx cJ1_indexOfChar_4cfef 6 (some .int) wsJ1_indexOfChar_4cfef RJ1 E p s m args meth c) {k7 : Int32 → Int32 → Option (Int32)} (hk7 : ∀ (v4 : Int32) (v5 : Int32) (H : Heap) (locs : List Loc), HI E σ ℓ s H locs → ∀ ls : Array Slot, lv_has ls 6 [(0, .ref (Ew E w)), (3, .int p3), (4, .int v4), (5, .int v5)] → k7 v4 v5 = some out → W p l e rm_J1_indexOfChar_4cfef s m args below meth c H locs 0 0 (MQ below (Po E s.heap.size (some (.int out)) σ ℓ) args s 0 0 (AA E s.heap.size)) (F0 m 7 ls [])) : ∀ (v4 : Int32) (v5 : Int32) (H : Heap) (locs : List Loc) (h : HI E σ ℓ s H locs) (ls : Array Slot) (hl : lv_has ls 6 [(0, .ref (Ew E w)), (3, .int p3), (4, .int v4), (5, .int v5)]), f_J1_indexOfChar_4cfef_7 w p1 p2 p3 k7 v4 v5 = some out → W p l e rm_J1_indexOfChar_4cfef s m args below meth c H locs 0 0 (MQ below (Po E s.heap.size (some (.int out)) σ ℓ) args s 0 0 (AA E s.heap.size)) (F0 m 7 ls []) := by
  intro v4 v5 H locs h ls hl hf
  unfold f_J1_indexOfChar_4cfef_7 at hf
  have C0 := C
  obtain ⟨hx, hb, hr, hml, hown, hts, hlk, hK, hSF⟩ := C0
  refine lv_iload hx hb dJ1_indexOfChar_4cfef_7 (lv_at hl 3 rfl) ?_
  refine lv_iload_n hx hb dJ1_indexOfChar_4cfef_9 rfl (lv_at hl 1 rfl) ?_
  refine lv_icmp_ge (tgt := 31) hx hb dJ1_indexOfChar_4cfef_10 (by decide) (fun c1 => ?_) (fun c1 => ?_)
  · replace hf := it_t c1 hf
    refine lv_iconst (v := (-1 : Int32)) hx hb dJ1_indexOfChar_4cfef_31 (by decide) ?_
    replace hf := Option.some.inj hf
    subst hf
    exact r_ire C h dJ1_indexOfChar_4cfef_32
  replace hf := it_f c1 hf
  refine lv_aload_n hx hb dJ1_indexOfChar_4cfef_13 rfl (lv_at hl 0 rfl) ?_
  refine lv_iload hx hb dJ1_indexOfChar_4cfef_14 (lv_at hl 3 rfl) ?_
  obtain ⟨g2, hf⟩ := gd_use hf
  refine va_tb (v := .int ((sByt.getD w []).getD v5.toNatClampNeg 0)) hx hb (hSF.2.2.2.2.1.1 w hw).2.2.2 h.2.2 (inB_in g2) rfl dJ1_indexOfChar_4cfef_16 ?_
  refine lv_iload hx hb dJ1_indexOfChar_4cfef_17 (lv_at hl 2 rfl) ?_
  refine lv_icmp_ne (tgt := 25) hx hb dJ1_indexOfChar_4cfef_19 (by decide) (fun c3 => ?_) (fun c3 => ?_)
  · replace hf := it_f c3 hf
    obtain ⟨x4, ex4⟩ : ∃ y : Int32, y = (v5 + (1 : Int32)) := ⟨_, rfl⟩
    refine lv_iinc (v := x4) (lv' := [(5, .int x4), (0, .ref (Ew E w)), (3, .int p3), (4, .int v4)]) hx hb dJ1_indexOfChar_4cfef_25 hl (k := 3) rfl (by rw [ex4]; rfl) (by decide) rfl (fun ls hl => ?_)
    replace hf := lt_use ex4 hf
    clear ex4
    refine lv_goto (tgt := 7) hx hb dJ1_indexOfChar_4cfef_28 (by decide) ?_
    exact hk7 _ _ _ _ h ls (lv_sub hl [1, 2, 3, 0] rfl) hf
  replace hf := it_t c3 hf
  refine lv_iload hx hb dJ1_indexOfChar_4cfef_22 (lv_at hl 3 rfl) ?_
  replace hf := Option.some.inj hf
  subst hf
  exact r_ire C h dJ1_indexOfChar_4cfef_24
set_option maxHeartbeats 4000000 in
set_option maxRecDepth 100000 in
theorem w_J1_indexOfChar_4cfef_7L {p : Program} {l : Launch} {e : Env} {s : State} {m : MethodId} {args : Array Value} {below : List Frame} {meth : Method} {c : Code} {E : Ev} {σ : Ms} {ℓ : Mz} {w : Nat} {p1 : Int32} {p2 : Int32} {p3 : Int32} {out : Int32} (hw : w < 5)   (C : Cx cJ1_indexOfChar_4cfef 6 (some .int) wsJ1_indexOfChar_4cfef RJ1 E p s m args meth c)  : ∀ (n9 : Nat) (v4 : Int32) (v5 : Int32) (H : Heap) (locs : List Loc) (h : HI E σ ℓ s H locs) (ls : Array Slot) (hl : lv_has ls 6 [(0, .ref (Ew E w)), (3, .int p3), (4, .int v4), (5, .int v5)]), f_J1_indexOfChar_4cfef_7L w p1 p2 p3  n9 v4 v5 = some out → W p l e rm_J1_indexOfChar_4cfef s m args below meth c H locs 0 0 (MQ below (Po E s.heap.size (some (.int out)) σ ℓ) args s 0 0 (AA E s.heap.size)) (F0 m 7 ls []) := by
  intro n9
  induction n9 with
  | zero =>
    intro v4 v5 H locs h ls hl hf
    cases (show (none : Option (Int32)) = some out from hf)
  | succ n9 ih =>
    intro v4 v5 H locs h ls hl hf
    exact w_J1_indexOfChar_4cfef_7 hw  C  ih v4 v5 H locs h ls hl hf
set_option maxHeartbeats 4000000 in
set_option maxRecDepth 100000 in
theorem w_J1_indexOfChar_4cfef_0 {p : Program} {l : Launch} {e : Env} {s : State} {m : MethodId} {args : Array Value} {below : List Frame} {meth : Method} {c : Code} {E : Ev} {σ : Ms} {ℓ : Mz} {w : Nat} {p1 : Int32} {p2 : Int32} {p3 : Int32} {out : Int32} (hw : w < 5)   (C : Cx cJ1_indexOfChar_4cfef 6 (some .int) wsJ1_indexOfChar_4cfef RJ1 E p s m args meth c)  : ∀  (H : Heap) (locs : List Loc) (h : HI E σ ℓ s H locs) (ls : Array Slot) (hl : lv_has ls 6 [(0, .ref (Ew E w)), (1, .int p1), (2, .int p2), (3, .int p3)]), f_J1_indexOfChar_4cfef_0 w p1 p2 p3   = some out → W p l e rm_J1_indexOfChar_4cfef s m args below meth c H locs 0 0 (MQ below (Po E s.heap.size (some (.int out)) σ ℓ) args s 0 0 (AA E s.heap.size)) (F0 m 0 ls []) := by
  intro  H locs h ls hl hf
  unfold f_J1_indexOfChar_4cfef_0 at hf
  have C0 := C
  obtain ⟨hx, hb, hr, hml, hown, hts, hlk, hK, hSF⟩ := C0
  refine lv_iload_n hx hb dJ1_indexOfChar_4cfef_0 rfl (lv_at hl 1 rfl) ?_
  refine lv_i2b hx hb dJ1_indexOfChar_4cfef_1 rfl ?_
  refine lv_istore (lv' := [(4, .int p1.toInt8.toInt32), (0, .ref (Ew E w)), (1, .int p1), (2, .int p2), (3, .int p3)]) hx hb dJ1_indexOfChar_4cfef_2 hl (by decide) rfl (fun ls hl => ?_)
  refine lv_iload_n hx hb dJ1_indexOfChar_4cfef_4 rfl (lv_at hl 3 rfl) ?_
  refine lv_istore (lv' := [(5, .int p2), (4, .int p1.toInt8.toInt32), (0, .ref (Ew E w)), (1, .int p1), (2, .int p2), (3, .int p3)]) hx hb dJ1_indexOfChar_4cfef_5 hl (by decide) rfl (fun ls hl => ?_)
  exact w_J1_indexOfChar_4cfef_7L hw   C  _ _ _ _ _ h ls (lv_sub hl [2, 5, 1, 0] rfl) hf
theorem c_J1_indexOfChar_4cfef {l : Launch} {E : Ev} {σ : Ms} {ℓ : Mz} {w : Nat} {p1 : Int32} {p2 : Int32} {p3 : Int32} (hw : w < 5) {out : Int32} (hf : f_J1_indexOfChar_4cfef w p1 p2 p3 = some out) : Ct l yJ1_indexOfChar_4cfef wsJ1_indexOfChar_4cfef rm_J1_indexOfChar_4cfef [.ref (Ew E w), .int p1, .int p2, .int p3] E σ ℓ (some (.int out)) σ ℓ := by
  refine Ct_mk (cc := cJ1_indexOfChar_4cfef) (mL := 6) (ret := (some .int)) (own := RJ1) (by decide +kernel) rfl rfl (Nat.le_of_ble_eq_true rfl) (fun p e s m below meth c C h ls hl => ?_)
  exact w_J1_indexOfChar_4cfef_0 hw C  _ _ h ls (lv_sub hl [0, 1, 2, 3] rfl) hf
theorem hdJ1_indexOf_4cfef : yJ1_indexOf_4cfef.cls ≠ "java/lang/invoke/MethodHandle" ∧ yJ1_indexOf_4cfef.cls ≠ "java/lang/invoke/VarHandle" ∧ (parseMethodDescriptor yJ1_indexOf_4cfef.desc).map (fun d => d.parameters.length) = some 4 := by decide +kernel
def rm_J1_indexOf_4cfef : Room := { frames := 1, cells := 0, slots := 0, locals := 60 }
set_option maxRecDepth 100000 in
theorem wdJ1_indexOf_4cfef_Cond_methodLink_RJ1_92_Lib_Math_max_name : Cond.methodLink RJ1 92 Lib.Math.max.name ∈ wsJ1_indexOf_4cfef := by decide +kernel
set_option maxRecDepth 100000 in
theorem wdJ1_indexOf_4cfef_Cond_static_Lib_Math_max_name : Cond.static Lib.Math.max.name ∈ wsJ1_indexOf_4cfef := by decide +kernel
set_option maxRecDepth 100000 in
theorem wdJ1_indexOf_4cfef_Cond_initialized__java_lang_Math_ : Cond.initialized "java/lang/Math" ∈ wsJ1_indexOf_4cfef := by decide +kernel
set_option maxRecDepth 100000 in
theorem wdJ1_indexOf_4cfef_Cond_code_Lib_Math_max_name_Lib_Math_max_code_2__some__int_ : Cond.code Lib.Math.max.name Lib.Math.max.code 2 (some .int) ∈ wsJ1_indexOf_4cfef := by decide +kernel
set_option maxRecDepth 100000 in
theorem wdJ1_indexOf_4cfef_Cond_methodLink_RJ1_38_Lib_Math_min_name : Cond.methodLink RJ1 38 Lib.Math.min.name ∈ wsJ1_indexOf_4cfef := by decide +kernel
set_option maxRecDepth 100000 in
theorem wdJ1_indexOf_4cfef_Cond_static_Lib_Math_min_name : Cond.static Lib.Math.min.name ∈ wsJ1_indexOf_4cfef := by decide +kernel
set_option maxRecDepth 100000 in
theorem wdJ1_indexOf_4cfef_Cond_code_Lib_Math_min_name_Lib_Math_min_code_2__some__int_ : Cond.code Lib.Math.min.name Lib.Math.min.code 2 (some .int) ∈ wsJ1_indexOf_4cfef := by decide +kernel
set_option maxHeartbeats 4000000 in
set_option maxRecDepth 100000 in
theorem w_J1_indexOf_4cfef_0 {p : Program} {l : Launch} {e : Env} {s : State} {m : MethodId} {args : Array Value} {below : List Frame} {meth : Method} {c : Code} {E : Ev} {σ : Ms} {ℓ : Mz} {w : Nat} {p1 : Int32} {out : Int32} (hw : w < 5)   (C : Cx cJ1_indexOf_4cfef 4 (some .int) wsJ1_indexOf_4cfef RJ1 E p s m args meth c)  : ∀ (v2 : Int32) (v3 : Int32) (H : Heap) (locs : List Loc) (h : HI E σ ℓ s H locs) (ls : Array Slot) (hl : lv_has ls 4 [(0, .ref (Ew E w)), (1, .int p1), (2, .int v2), (3, .int v3)]), f_J1_indexOf_4cfef_0 w p1  v2 v3 = some out → W p l e rm_J1_indexOf_4cfef s m args below meth c H locs 0 0 (MQ below (Po E s.heap.size (some (.int out)) σ ℓ) args s 0 0 (AA E s.heap.size)) (F0 m 0 ls []) := by
  intro v2 v3 H locs h ls hl hf
  unfold f_J1_indexOf_4cfef_0 at hf
  have C0 := C
  obtain ⟨hx, hb, hr, hml, hown, hts, hlk, hK, hSF⟩ := C0
  refine lv_iload_n hx hb dJ1_indexOf_4cfef_0 rfl (lv_at hl 1 rfl) ?_
  obtain ⟨u1, hu1, hf⟩ := bd_use hf
  refine r_cs (rest := []) C h (c_J1_canEncode_9a6ad  hu1) gJ1_indexOf_4cfef_J1_canEncode_9a6ad rfl ⟨rfl, rfl⟩ hdJ1_canEncode_9a6ad ⟨Nat.le_of_ble_eq_true rfl, Nat.le_of_ble_eq_true rfl⟩ ⟨Nat.zero_le _, Nat.zero_le _⟩ hl.1 rfl (Nat.le_of_ble_eq_true rfl) dJ1_indexOf_4cfef_1 (fun H locs h => ?_)
  refine lv_if_ne (tgt := 9) hx hb dJ1_indexOf_4cfef_4 (by decide) (fun c2 => ?_) (fun c2 => ?_)
  · replace hf := it_f c2 hf
    refine lv_iload_n hx hb dJ1_indexOf_4cfef_9 rfl (lv_at hl 2 rfl) ?_
    refine lv_iconst (v := (0 : Int32)) hx hb dJ1_indexOf_4cfef_10 (by decide) ?_
    refine va_mmax hx hb (by rw [hml]; exact hl.1.symm) hown (hts _ wdJ1_indexOf_4cfef_Cond_methodLink_RJ1_92_Lib_Math_max_name) (hts _ wdJ1_indexOf_4cfef_Cond_static_Lib_Math_max_name) (hts _ wdJ1_indexOf_4cfef_Cond_initialized__java_lang_Math_) (hts _ wdJ1_indexOf_4cfef_Cond_code_Lib_Math_max_name_Lib_Math_max_code_2__some__int_) (Nat.le_of_ble_eq_true rfl) (Nat.le_of_ble_eq_true rfl) (Nat.zero_le _) (Nat.zero_le _) dJ1_indexOf_4cfef_11 ?_
    refine lv_topi (fun x3 ex3 => ?_)
    replace hf := lt_use ex3 hf
    clear ex3
    refine lv_istore_n (lv' := [(2, .int x3), (0, .ref (Ew E w)), (1, .int p1), (3, .int v3)]) hx hb dJ1_indexOf_4cfef_14 rfl hl (by decide) rfl (fun ls hl => ?_)
    refine lv_iload_n hx hb dJ1_indexOf_4cfef_15 rfl (lv_at hl 3 rfl) ?_
    refine lv_aload_n hx hb dJ1_indexOf_4cfef_16 rfl (lv_at hl 1 rfl) ?_
    refine va_tlen (v := nI (sLen.getD w 0)) hx hb (hSF.2.2.2.2.1.1 w hw).2.2.2 h.2.2 rfl dJ1_indexOf_4cfef_17 ?_
    refine va_mmin hx hb (by rw [hml]; exact hl.1.symm) hown (hts _ wdJ1_indexOf_4cfef_Cond_methodLink_RJ1_38_Lib_Math_min_name) (hts _ wdJ1_indexOf_4cfef_Cond_static_Lib_Math_min_name) (hts _ wdJ1_indexOf_4cfef_Cond_initialized__java_lang_Math_) (hts _ wdJ1_indexOf_4cfef_Cond_code_Lib_Math_min_name_Lib_Math_min_code_2__some__int_) (Nat.le_of_ble_eq_true rfl) (Nat.le_of_ble_eq_true rfl) (Nat.zero_le _) (Nat.zero_le _) dJ1_indexOf_4cfef_18 ?_
    refine lv_topi (fun x4 ex4 => ?_)
    replace hf := lt_use ex4 hf
    clear ex4
    refine lv_istore_n (lv' := [(3, .int x4), (2, .int x3), (0, .ref (Ew E w)), (1, .int p1)]) hx hb dJ1_indexOf_4cfef_21 rfl hl (by decide) rfl (fun ls hl => ?_)
    refine lv_iload_n hx hb dJ1_indexOf_4cfef_22 rfl (lv_at hl 1 rfl) ?_
    refine lv_iload_n hx hb dJ1_indexOf_4cfef_23 rfl (lv_at hl 0 rfl) ?_
    refine lv_icmp_lt (tgt := 29) hx hb dJ1_indexOf_4cfef_24 (by decide) (fun c5 => ?_) (fun c5 => ?_)
    · replace hf := it_t c5 hf
      refine lv_aload_n hx hb dJ1_indexOf_4cfef_29 rfl (lv_at hl 2 rfl) ?_
      refine lv_iload_n hx hb dJ1_indexOf_4cfef_30 rfl (lv_at hl 3 rfl) ?_
      refine lv_iload_n hx hb dJ1_indexOf_4cfef_31 rfl (lv_at hl 1 rfl) ?_
      refine lv_iload_n hx hb dJ1_indexOf_4cfef_32 rfl (lv_at hl 0 rfl) ?_
      obtain ⟨u6, hu6, hf⟩ := bd_use hf
      refine r_cs (rest := []) C h (c_J1_indexOfChar_4cfef hw hu6) gJ1_indexOf_4cfef_J1_indexOfChar_4cfef rfl ⟨rfl, rfl⟩ hdJ1_indexOfChar_4cfef ⟨Nat.le_of_ble_eq_true rfl, Nat.le_of_ble_eq_true rfl⟩ ⟨Nat.zero_le _, Nat.zero_le _⟩ hl.1 rfl (Nat.le_of_ble_eq_true rfl) dJ1_indexOf_4cfef_33 (fun H locs h => ?_)
      replace hf := Option.some.inj hf
      subst hf
      exact r_ire C h dJ1_indexOf_4cfef_36
    replace hf := it_f c5 hf
    refine lv_iconst (v := (-1 : Int32)) hx hb dJ1_indexOf_4cfef_27 (by decide) ?_
    replace hf := Option.some.inj hf
    subst hf
    exact r_ire C h dJ1_indexOf_4cfef_28
  replace hf := it_t c2 hf
  refine lv_iconst (v := (-1 : Int32)) hx hb dJ1_indexOf_4cfef_7 (by decide) ?_
  replace hf := Option.some.inj hf
  subst hf
  exact r_ire C h dJ1_indexOf_4cfef_8
theorem c_J1_indexOf_4cfef {l : Launch} {E : Ev} {σ : Ms} {ℓ : Mz} {w : Nat} {p1 : Int32} {p2 : Int32} {p3 : Int32} (hw : w < 5) {out : Int32} (hf : f_J1_indexOf_4cfef w p1 p2 p3 = some out) : Ct l yJ1_indexOf_4cfef wsJ1_indexOf_4cfef rm_J1_indexOf_4cfef [.ref (Ew E w), .int p1, .int p2, .int p3] E σ ℓ (some (.int out)) σ ℓ := by
  refine Ct_mk (cc := cJ1_indexOf_4cfef) (mL := 4) (ret := (some .int)) (own := RJ1) (by decide +kernel) rfl rfl (Nat.le_of_ble_eq_true rfl) (fun p e s m below meth c C h ls hl => ?_)
  exact w_J1_indexOf_4cfef_0 hw C p2 p3 _ _ h ls (lv_sub hl [0, 1, 2, 3] rfl) hf
theorem hdJ0_indexOf_7cf53 : yJ0_indexOf_7cf53.cls = RJ0 ∧ yJ0_indexOf_7cf53.cls ≠ "java/lang/invoke/MethodHandle" ∧ yJ0_indexOf_7cf53.cls ≠ "java/lang/invoke/VarHandle" ∧ (parseMethodDescriptor yJ0_indexOf_7cf53.desc).map (fun d => d.parameters.length) = some 2 := by decide +kernel
def rm_J0_indexOf_7cf53 : Room := { frames := 2, cells := 0, slots := 0, locals := 83 }
set_option maxRecDepth 100000 in
theorem lkJ0_indexOf_7cf53_9 : Cond.fieldLink RJ0 9 "java/lang/String" "value" "[B" ∈ wsJ0_indexOf_7cf53 := by decide +kernel
set_option maxHeartbeats 4000000 in
set_option maxRecDepth 100000 in
theorem w_J0_indexOf_7cf53_0 {p : Program} {l : Launch} {e : Env} {s : State} {m : MethodId} {args : Array Value} {below : List Frame} {meth : Method} {c : Code} {E : Ev} {σ : Ms} {ℓ : Mz} {w : Nat} {p0 : Int32} {p1 : Int32} {out : Int32} (hw : w < 5)   (C : Cx cJ0_indexOf_7cf53 3 (some .int) wsJ0_indexOf_7cf53 RJ0 E p s m args meth c)  : ∀  (H : Heap) (locs : List Loc) (h : HI E σ ℓ s H locs) (ls : Array Slot) (hl : lv_has ls 3 [(0, .ref (Ek E w)), (1, .int p0), (2, .int p1)]), f_J0_indexOf_7cf53_0 w p0 p1   = some out → W p l e rm_J0_indexOf_7cf53 s m args below meth c H locs 0 0 (MQ below (Po E s.heap.size (some (.int out)) σ ℓ) args s 0 0 (AA E s.heap.size)) (F0 m 0 ls []) := by
  intro  H locs h ls hl hf
  unfold f_J0_indexOf_7cf53_0 at hf
  have C0 := C
  obtain ⟨hx, hb, hr, hml, hown, hts, hlk, hK, hSF⟩ := C0
  refine lv_aload_n hx hb dJ0_indexOf_7cf53_0 rfl (lv_at hl 0 rfl) ?_
  obtain ⟨u1, hu1, hf⟩ := bd_use hf
  refine r_cvT (rest := []) C h (c_J0_isLatin1_aae02 hw hu1) hw gJ0_indexOf_7cf53_J0_isLatin1_aae02 rfl ⟨rfl, rfl⟩ hdJ0_isLatin1_aae02 ⟨Nat.le_of_ble_eq_true rfl, Nat.le_of_ble_eq_true rfl⟩ ⟨Nat.zero_le _, Nat.zero_le _⟩ hl.1 rfl (Nat.le_of_ble_eq_true rfl) dJ0_indexOf_7cf53_1 (fun H locs h => ?_)
  refine lv_if_eq (tgt := 23) hx hb dJ0_indexOf_7cf53_4 (by decide) (fun c2 => ?_) (fun c2 => ?_)
  · replace hf := it_t c2 hf
    cases (show (none : Option _) = some _ from hf)
  replace hf := it_f c2 hf
  refine lv_aload_n hx hb dJ0_indexOf_7cf53_7 rfl (lv_at hl 0 rfl) ?_
  refine vk_getf hx hb (hSF.2.2.2.2.1.1 w hw).2.2.1 h.2.2 hown (hts _ lkJ0_indexOf_7cf53_9) (fun _ h9 => h9) dJ0_indexOf_7cf53_8 ?_
  refine lv_iload_n hx hb dJ0_indexOf_7cf53_11 rfl (lv_at hl 1 rfl) ?_
  refine lv_iload_n hx hb dJ0_indexOf_7cf53_12 rfl (lv_at hl 2 rfl) ?_
  refine lv_aload_n hx hb dJ0_indexOf_7cf53_13 rfl (lv_at hl 0 rfl) ?_
  obtain ⟨u4, hu4, hf⟩ := bd_use hf
  refine r_cvT (rest := [.int p1, .int p0, .ref (Ew E w)]) C h (c_J0_length_8abf5 hw hu4) hw gJ0_indexOf_7cf53_J0_length_8abf5 rfl ⟨rfl, rfl⟩ hdJ0_length_8abf5 ⟨Nat.le_of_ble_eq_true rfl, Nat.le_of_ble_eq_true rfl⟩ ⟨Nat.zero_le _, Nat.zero_le _⟩ hl.1 rfl (Nat.le_of_ble_eq_true rfl) dJ0_indexOf_7cf53_14 (fun H locs h => ?_)
  obtain ⟨u5, hu5, hf⟩ := bd_use hf
  refine r_cs (rest := []) C h (c_J1_indexOf_4cfef hw hu5) gJ0_indexOf_7cf53_J1_indexOf_4cfef rfl ⟨rfl, rfl⟩ hdJ1_indexOf_4cfef ⟨Nat.le_of_ble_eq_true rfl, Nat.le_of_ble_eq_true rfl⟩ ⟨Nat.zero_le _, Nat.zero_le _⟩ hl.1 rfl (Nat.le_of_ble_eq_true rfl) dJ0_indexOf_7cf53_17 (fun H locs h => ?_)
  refine lv_goto (tgt := 36) hx hb dJ0_indexOf_7cf53_20 (by decide) ?_
  replace hf := Option.some.inj hf
  subst hf
  exact r_ire C h dJ0_indexOf_7cf53_36
theorem c_J0_indexOf_7cf53 {l : Launch} {E : Ev} {σ : Ms} {ℓ : Mz} {w : Nat} {p0 : Int32} {p1 : Int32} (hw : w < 5) {out : Int32} (hf : f_J0_indexOf_7cf53 w p0 p1 = some out) : Ct l yJ0_indexOf_7cf53 wsJ0_indexOf_7cf53 rm_J0_indexOf_7cf53 [.ref (Ek E w), .int p0, .int p1] E σ ℓ (some (.int out)) σ ℓ := by
  refine Ct_mk (cc := cJ0_indexOf_7cf53) (mL := 3) (ret := (some .int)) (own := RJ0) (by decide +kernel) rfl rfl (Nat.le_of_ble_eq_true rfl) (fun p e s m below meth c C h ls hl => ?_)
  exact w_J0_indexOf_7cf53_0 hw C  _ _ h ls (lv_sub hl [0, 1, 2] rfl) hf
theorem hdJ0_indexOf_0f7a4 : yJ0_indexOf_0f7a4.cls = RJ0 ∧ yJ0_indexOf_0f7a4.cls ≠ "java/lang/invoke/MethodHandle" ∧ yJ0_indexOf_0f7a4.cls ≠ "java/lang/invoke/VarHandle" ∧ (parseMethodDescriptor yJ0_indexOf_0f7a4.desc).map (fun d => d.parameters.length) = some 1 := by decide +kernel
def rm_J0_indexOf_0f7a4 : Room := { frames := 3, cells := 0, slots := 0, locals := 105 }
set_option maxHeartbeats 4000000 in
set_option maxRecDepth 100000 in
theorem w_J0_indexOf_0f7a4_0 {p : Program} {l : Launch} {e : Env} {s : State} {m : MethodId} {args : Array Value} {below : List Frame} {meth : Method} {c : Code} {E : Ev} {σ : Ms} {ℓ : Mz} {w : Nat} {p0 : Int32} {out : Int32} (hw : w < 5)   (C : Cx cJ0_indexOf_0f7a4 2 (some .int) wsJ0_indexOf_0f7a4 RJ0 E p s m args meth c)  : ∀  (H : Heap) (locs : List Loc) (h : HI E σ ℓ s H locs) (ls : Array Slot) (hl : lv_has ls 2 [(0, .ref (Ek E w)), (1, .int p0)]), f_J0_indexOf_0f7a4_0 w p0   = some out → W p l e rm_J0_indexOf_0f7a4 s m args below meth c H locs 0 0 (MQ below (Po E s.heap.size (some (.int out)) σ ℓ) args s 0 0 (AA E s.heap.size)) (F0 m 0 ls []) := by
  intro  H locs h ls hl hf
  unfold f_J0_indexOf_0f7a4_0 at hf
  have C0 := C
  obtain ⟨hx, hb, hr, hml, hown, hts, hlk, hK, hSF⟩ := C0
  refine lv_aload_n hx hb dJ0_indexOf_0f7a4_0 rfl (lv_at hl 0 rfl) ?_
  refine lv_iload_n hx hb dJ0_indexOf_0f7a4_1 rfl (lv_at hl 1 rfl) ?_
  refine lv_iconst (v := (0 : Int32)) hx hb dJ0_indexOf_0f7a4_2 (by decide) ?_
  obtain ⟨u1, hu1, hf⟩ := bd_use hf
  refine r_cvT (rest := []) C h (c_J0_indexOf_7cf53 hw hu1) hw gJ0_indexOf_0f7a4_J0_indexOf_7cf53 rfl ⟨rfl, rfl⟩ hdJ0_indexOf_7cf53 ⟨Nat.le_of_ble_eq_true rfl, Nat.le_of_ble_eq_true rfl⟩ ⟨Nat.zero_le _, Nat.zero_le _⟩ hl.1 rfl (Nat.le_of_ble_eq_true rfl) dJ0_indexOf_0f7a4_3 (fun H locs h => ?_)
  replace hf := Option.some.inj hf
  subst hf
  exact r_ire C h dJ0_indexOf_0f7a4_6
theorem c_J0_indexOf_0f7a4 {l : Launch} {E : Ev} {σ : Ms} {ℓ : Mz} {w : Nat} {p0 : Int32} (hw : w < 5) {out : Int32} (hf : f_J0_indexOf_0f7a4 w p0 = some out) : Ct l yJ0_indexOf_0f7a4 wsJ0_indexOf_0f7a4 rm_J0_indexOf_0f7a4 [.ref (Ek E w), .int p0] E σ ℓ (some (.int out)) σ ℓ := by
  refine Ct_mk (cc := cJ0_indexOf_0f7a4) (mL := 2) (ret := (some .int)) (own := RJ0) (by decide +kernel) rfl rfl (Nat.le_of_ble_eq_true rfl) (fun p e s m below meth c C h ls hl => ?_)
  exact w_J0_indexOf_0f7a4_0 hw C  _ _ h ls (lv_sub hl [0, 1] rfl) hf
theorem hdJ3_checkIndex_8e157 : yJ3_checkIndex_8e157.cls ≠ "java/lang/invoke/MethodHandle" ∧ yJ3_checkIndex_8e157.cls ≠ "java/lang/invoke/VarHandle" ∧ (parseMethodDescriptor yJ3_checkIndex_8e157.desc).map (fun d => d.parameters.length) = some 3 := by decide +kernel
def rm_J3_checkIndex_8e157 : Room := { frames := 0, cells := 0, slots := 0, locals := 0 }
set_option maxHeartbeats 4000000 in
set_option maxRecDepth 100000 in
theorem w_J3_checkIndex_8e157_0 {p : Program} {l : Launch} {e : Env} {s : State} {m : MethodId} {args : Array Value} {below : List Frame} {meth : Method} {c : Code} {E : Ev} {σ : Ms} {ℓ : Mz} {z : Option Nat} {p0 : Int32} {p1 : Int32} {out : Int32}   (C : Cx cJ3_checkIndex_8e157 3 (some .int) wsJ3_checkIndex_8e157 RJ3 E p s m args meth c)  : ∀  (H : Heap) (locs : List Loc) (h : HI E σ ℓ s H locs) (ls : Array Slot) (hl : lv_has ls 3 [(0, .int p0), (1, .int p1), (2, va_rf z)]), f_J3_checkIndex_8e157_0 p0 p1   = some out → W p l e rm_J3_checkIndex_8e157 s m args below meth c H locs 0 0 (MQ below (Po E s.heap.size (some (.int out)) σ ℓ) args s 0 0 (AA E s.heap.size)) (F0 m 0 ls []) := by
  intro  H locs h ls hl hf
  unfold f_J3_checkIndex_8e157_0 at hf
  have C0 := C
  obtain ⟨hx, hb, hr, hml, hown, hts, hlk, hK, hSF⟩ := C0
  refine lv_iload_n hx hb dJ3_checkIndex_8e157_0 rfl (lv_at hl 0 rfl) ?_
  refine lv_if_lt (tgt := 9) hx hb dJ3_checkIndex_8e157_1 (by decide) (fun c1 => ?_) (fun c1 => ?_)
  · replace hf := it_t c1 hf
    cases (show (none : Option _) = some _ from hf)
  replace hf := it_f c1 hf
  refine lv_iload_n hx hb dJ3_checkIndex_8e157_4 rfl (lv_at hl 0 rfl) ?_
  refine lv_iload_n hx hb dJ3_checkIndex_8e157_5 rfl (lv_at hl 1 rfl) ?_
  refine lv_icmp_lt (tgt := 16) hx hb dJ3_checkIndex_8e157_6 (by decide) (fun c2 => ?_) (fun c2 => ?_)
  · replace hf := it_t c2 hf
    refine lv_iload_n hx hb dJ3_checkIndex_8e157_16 rfl (lv_at hl 0 rfl) ?_
    replace hf := Option.some.inj hf
    subst hf
    exact r_ire C h dJ3_checkIndex_8e157_17
  replace hf := it_f c2 hf
  cases (show (none : Option _) = some _ from hf)
theorem c_J3_checkIndex_8e157 {l : Launch} {E : Ev} {σ : Ms} {ℓ : Mz} {z : Option Nat} {p0 : Int32} {p1 : Int32} {out : Int32} (hf : f_J3_checkIndex_8e157 p0 p1 = some out) : Ct l yJ3_checkIndex_8e157 wsJ3_checkIndex_8e157 rm_J3_checkIndex_8e157 [.int p0, .int p1, va_rf z] E σ ℓ (some (.int out)) σ ℓ := by
  cases z <;> exact Ct_mk (cc := cJ3_checkIndex_8e157) (mL := 3) (ret := (some .int)) (own := RJ3) (by decide +kernel) rfl rfl (Nat.le_of_ble_eq_true rfl) (fun p e s m below meth c C h ls hl => w_J3_checkIndex_8e157_0  C  _ _ h ls (lv_sub hl [0, 1, 2] rfl) hf)
theorem hdJ0_checkIndex_df160 : yJ0_checkIndex_df160.cls ≠ "java/lang/invoke/MethodHandle" ∧ yJ0_checkIndex_df160.cls ≠ "java/lang/invoke/VarHandle" ∧ (parseMethodDescriptor yJ0_checkIndex_df160.desc).map (fun d => d.parameters.length) = some 2 := by decide +kernel
def rm_J0_checkIndex_df160 : Room := { frames := 1, cells := 0, slots := 0, locals := 22 }
set_option maxRecDepth 100000 in
theorem lkJ0_checkIndex_df160_1053 : Cond.fieldLink RJ0 1053 "jdk/internal/util/Preconditions" "SIOOBE_FORMATTER" "Ljava/util/function/BiFunction;" ∈ wsJ0_checkIndex_df160 := by decide +kernel
set_option maxHeartbeats 4000000 in
set_option maxRecDepth 100000 in
theorem w_J0_checkIndex_df160_0 {p : Program} {l : Launch} {e : Env} {s : State} {m : MethodId} {args : Array Value} {below : List Frame} {meth : Method} {c : Code} {E : Ev} {σ : Ms} {ℓ : Mz} {p0 : Int32} {p1 : Int32} {out : Unit}   (C : Cx cJ0_checkIndex_df160 2 none wsJ0_checkIndex_df160 RJ0 E p s m args meth c)  : ∀  (H : Heap) (locs : List Loc) (h : HI E σ ℓ s H locs) (ls : Array Slot) (hl : lv_has ls 2 [(0, .int p0), (1, .int p1)]), f_J0_checkIndex_df160_0 p0 p1   = some out → W p l e rm_J0_checkIndex_df160 s m args below meth c H locs 0 0 (MQ below (Po E s.heap.size none σ ℓ) args s 0 0 (AA E s.heap.size)) (F0 m 0 ls []) := by
  intro  H locs h ls hl hf
  unfold f_J0_checkIndex_df160_0 at hf
  have C0 := C
  obtain ⟨hx, hb, hr, hml, hown, hts, hlk, hK, hSF⟩ := C0
  refine lv_iload_n hx hb dJ0_checkIndex_df160_0 rfl (lv_at hl 0 rfl) ?_
  refine lv_iload_n hx hb dJ0_checkIndex_df160_1 rfl (lv_at hl 1 rfl) ?_
  obtain ⟨z1, hz1⟩ := zq_some hSF.2.2.2.1
  refine va_gets hx hb hz1 h.2.2 hown (hts _ lkJ0_checkIndex_df160_1053) (fun _ h9 => h9) dJ0_checkIndex_df160_2 ?_
  obtain ⟨u2, hu2, hf⟩ := bd_use hf
  refine r_cs (rest := []) C h (c_J3_checkIndex_8e157  hu2) gJ0_checkIndex_df160_J3_checkIndex_8e157 rfl ⟨rfl, rfl⟩ hdJ3_checkIndex_8e157 ⟨Nat.le_of_ble_eq_true rfl, Nat.le_of_ble_eq_true rfl⟩ ⟨Nat.zero_le _, Nat.zero_le _⟩ hl.1 rfl (Nat.le_of_ble_eq_true rfl) dJ0_checkIndex_df160_5 (fun H locs h => ?_)
  refine lv_pop hx hb dJ0_checkIndex_df160_8 rfl ?_
  replace hf := Option.some.inj hf
  subst hf
  exact r_vre C h dJ0_checkIndex_df160_9
theorem c_J0_checkIndex_df160 {l : Launch} {E : Ev} {σ : Ms} {ℓ : Mz} {p0 : Int32} {p1 : Int32} {out : Unit} (hf : f_J0_checkIndex_df160 p0 p1 = some out) : Ct l yJ0_checkIndex_df160 wsJ0_checkIndex_df160 rm_J0_checkIndex_df160 [.int p0, .int p1] E σ ℓ none σ ℓ := by
  refine Ct_mk (cc := cJ0_checkIndex_df160) (mL := 2) (ret := none) (own := RJ0) (by decide +kernel) rfl rfl (Nat.le_of_ble_eq_true rfl) (fun p e s m below meth c C h ls hl => ?_)
  exact w_J0_checkIndex_df160_0  C  _ _ h ls (lv_sub hl [0, 1] rfl) hf
theorem hdJ1_charAt_3b067 : yJ1_charAt_3b067.cls ≠ "java/lang/invoke/MethodHandle" ∧ yJ1_charAt_3b067.cls ≠ "java/lang/invoke/VarHandle" ∧ (parseMethodDescriptor yJ1_charAt_3b067.desc).map (fun d => d.parameters.length) = some 2 := by decide +kernel
def rm_J1_charAt_3b067 : Room := { frames := 2, cells := 0, slots := 0, locals := 43 }
set_option maxHeartbeats 4000000 in
set_option maxRecDepth 100000 in
theorem w_J1_charAt_3b067_0 {p : Program} {l : Launch} {e : Env} {s : State} {m : MethodId} {args : Array Value} {below : List Frame} {meth : Method} {c : Code} {E : Ev} {σ : Ms} {ℓ : Mz} {w : Nat} {p1 : Int32} {out : Int32} (hw : w < 5)   (C : Cx cJ1_charAt_3b067 2 (some .char) wsJ1_charAt_3b067 RJ1 E p s m args meth c)  : ∀  (H : Heap) (locs : List Loc) (h : HI E σ ℓ s H locs) (ls : Array Slot) (hl : lv_has ls 2 [(0, .ref (Ew E w)), (1, .int p1)]), f_J1_charAt_3b067_0 w p1   = some out → W p l e rm_J1_charAt_3b067 s m args below meth c H locs 0 0 (MQ below (Po E s.heap.size (some (.int out)) σ ℓ) args s 0 0 (AA E s.heap.size)) (F0 m 0 ls []) := by
  intro  H locs h ls hl hf
  unfold f_J1_charAt_3b067_0 at hf
  have C0 := C
  obtain ⟨hx, hb, hr, hml, hown, hts, hlk, hK, hSF⟩ := C0
  refine lv_iload_n hx hb dJ1_charAt_3b067_0 rfl (lv_at hl 1 rfl) ?_
  refine lv_aload_n hx hb dJ1_charAt_3b067_1 rfl (lv_at hl 0 rfl) ?_
  refine va_tlen (v := nI (sLen.getD w 0)) hx hb (hSF.2.2.2.2.1.1 w hw).2.2.2 h.2.2 rfl dJ1_charAt_3b067_2 ?_
  obtain ⟨u1, hu1, hf⟩ := bd_use hf
  refine r_cs (rest := []) C h (c_J0_checkIndex_df160  hu1) gJ1_charAt_3b067_J0_checkIndex_df160 rfl ⟨rfl, rfl⟩ hdJ0_checkIndex_df160 ⟨Nat.le_of_ble_eq_true rfl, Nat.le_of_ble_eq_true rfl⟩ ⟨Nat.zero_le _, Nat.zero_le _⟩ hl.1 rfl (Nat.le_of_ble_eq_true rfl) dJ1_charAt_3b067_3 (fun H locs h => ?_)
  refine lv_aload_n hx hb dJ1_charAt_3b067_6 rfl (lv_at hl 0 rfl) ?_
  refine lv_iload_n hx hb dJ1_charAt_3b067_7 rfl (lv_at hl 1 rfl) ?_
  obtain ⟨g2, hf⟩ := gd_use hf
  refine va_tb (v := .int ((sByt.getD w []).getD p1.toNatClampNeg 0)) hx hb (hSF.2.2.2.2.1.1 w hw).2.2.2 h.2.2 (inB_in g2) rfl dJ1_charAt_3b067_8 ?_
  refine lv_sipush (v := (255 : Int32)) hx hb dJ1_charAt_3b067_9 (by decide) ?_
  refine lv_iand hx hb dJ1_charAt_3b067_12 ?_
  refine lv_i2c hx hb dJ1_charAt_3b067_13 rfl ?_
  obtain ⟨g3, hf⟩ := gd_use hf
  replace hf := Option.some.inj hf
  subst hf
  exact r_zre C h (isC_use g3) dJ1_charAt_3b067_14
theorem c_J1_charAt_3b067 {l : Launch} {E : Ev} {σ : Ms} {ℓ : Mz} {w : Nat} {p1 : Int32} (hw : w < 5) {out : Int32} (hf : f_J1_charAt_3b067 w p1 = some out) : Ct l yJ1_charAt_3b067 wsJ1_charAt_3b067 rm_J1_charAt_3b067 [.ref (Ew E w), .int p1] E σ ℓ (some (.int out)) σ ℓ := by
  refine Ct_mk (cc := cJ1_charAt_3b067) (mL := 2) (ret := (some .char)) (own := RJ1) (by decide +kernel) rfl rfl (Nat.le_of_ble_eq_true rfl) (fun p e s m below meth c C h ls hl => ?_)
  exact w_J1_charAt_3b067_0 hw C  _ _ h ls (lv_sub hl [0, 1] rfl) hf
theorem hdJ0_charAt_5068e : yJ0_charAt_5068e.cls = RJ0 ∧ yJ0_charAt_5068e.cls ≠ "java/lang/invoke/MethodHandle" ∧ yJ0_charAt_5068e.cls ≠ "java/lang/invoke/VarHandle" ∧ (parseMethodDescriptor yJ0_charAt_5068e.desc).map (fun d => d.parameters.length) = some 1 := by decide +kernel
def rm_J0_charAt_5068e : Room := { frames := 3, cells := 0, slots := 0, locals := 64 }
set_option maxRecDepth 100000 in
theorem lkJ0_charAt_5068e_9 : Cond.fieldLink RJ0 9 "java/lang/String" "value" "[B" ∈ wsJ0_charAt_5068e := by decide +kernel
set_option maxHeartbeats 4000000 in
set_option maxRecDepth 100000 in
theorem w_J0_charAt_5068e_0 {p : Program} {l : Launch} {e : Env} {s : State} {m : MethodId} {args : Array Value} {below : List Frame} {meth : Method} {c : Code} {E : Ev} {σ : Ms} {ℓ : Mz} {w : Nat} {p0 : Int32} {out : Int32} (hw : w < 5)   (C : Cx cJ0_charAt_5068e 2 (some .char) wsJ0_charAt_5068e RJ0 E p s m args meth c)  : ∀  (H : Heap) (locs : List Loc) (h : HI E σ ℓ s H locs) (ls : Array Slot) (hl : lv_has ls 2 [(0, .ref (Ek E w)), (1, .int p0)]), f_J0_charAt_5068e_0 w p0   = some out → W p l e rm_J0_charAt_5068e s m args below meth c H locs 0 0 (MQ below (Po E s.heap.size (some (.int out)) σ ℓ) args s 0 0 (AA E s.heap.size)) (F0 m 0 ls []) := by
  intro  H locs h ls hl hf
  unfold f_J0_charAt_5068e_0 at hf
  have C0 := C
  obtain ⟨hx, hb, hr, hml, hown, hts, hlk, hK, hSF⟩ := C0
  refine lv_aload_n hx hb dJ0_charAt_5068e_0 rfl (lv_at hl 0 rfl) ?_
  obtain ⟨u1, hu1, hf⟩ := bd_use hf
  refine r_cvT (rest := []) C h (c_J0_isLatin1_aae02 hw hu1) hw gJ0_charAt_5068e_J0_isLatin1_aae02 rfl ⟨rfl, rfl⟩ hdJ0_isLatin1_aae02 ⟨Nat.le_of_ble_eq_true rfl, Nat.le_of_ble_eq_true rfl⟩ ⟨Nat.zero_le _, Nat.zero_le _⟩ hl.1 rfl (Nat.le_of_ble_eq_true rfl) dJ0_charAt_5068e_1 (fun H locs h => ?_)
  refine lv_if_eq (tgt := 16) hx hb dJ0_charAt_5068e_4 (by decide) (fun c2 => ?_) (fun c2 => ?_)
  · replace hf := it_t c2 hf
    cases (show (none : Option _) = some _ from hf)
  replace hf := it_f c2 hf
  refine lv_aload_n hx hb dJ0_charAt_5068e_7 rfl (lv_at hl 0 rfl) ?_
  refine vk_getf hx hb (hSF.2.2.2.2.1.1 w hw).2.2.1 h.2.2 hown (hts _ lkJ0_charAt_5068e_9) (fun _ h9 => h9) dJ0_charAt_5068e_8 ?_
  refine lv_iload_n hx hb dJ0_charAt_5068e_11 rfl (lv_at hl 1 rfl) ?_
  obtain ⟨u3, hu3, hf⟩ := bd_use hf
  refine r_cs (rest := []) C h (c_J1_charAt_3b067 hw hu3) gJ0_charAt_5068e_J1_charAt_3b067 rfl ⟨rfl, rfl⟩ hdJ1_charAt_3b067 ⟨Nat.le_of_ble_eq_true rfl, Nat.le_of_ble_eq_true rfl⟩ ⟨Nat.zero_le _, Nat.zero_le _⟩ hl.1 rfl (Nat.le_of_ble_eq_true rfl) dJ0_charAt_5068e_12 (fun H locs h => ?_)
  obtain ⟨g4, hf⟩ := gd_use hf
  replace hf := Option.some.inj hf
  subst hf
  exact r_zre C h (isC_use g4) dJ0_charAt_5068e_15
theorem c_J0_charAt_5068e {l : Launch} {E : Ev} {σ : Ms} {ℓ : Mz} {w : Nat} {p0 : Int32} (hw : w < 5) {out : Int32} (hf : f_J0_charAt_5068e w p0 = some out) : Ct l yJ0_charAt_5068e wsJ0_charAt_5068e rm_J0_charAt_5068e [.ref (Ek E w), .int p0] E σ ℓ (some (.int out)) σ ℓ := by
  refine Ct_mk (cc := cJ0_charAt_5068e) (mL := 2) (ret := (some .char)) (own := RJ0) (by decide +kernel) rfl rfl (Nat.le_of_ble_eq_true rfl) (fun p e s m below meth c C h ls hl => ?_)
  exact w_J0_charAt_5068e_0 hw C  _ _ h ls (lv_sub hl [0, 1] rfl) hf
