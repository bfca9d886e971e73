/-! THE LAW'S START: what the tables and the Statement give -/
theorem fi_r (L : List Cond) (B : List Cond) (hB : ∀ w ∈ B, w ∈ lwF) (h : ∀ w ∈ L, w ∈ B) : ∀ w ∈ L, w ∈ lwF := fun w hw => hB w (h w hw)
def lwB : List Cond := lwF_0 ++ (lwF_1 ++ (lwF_2 ++ (lwF_3 ++ lwF_4)))
theorem fm_lwB : ∀ w ∈ lwB, w ∈ lwF := List.forall_mem_append.mpr ⟨fm_lwF_0, List.forall_mem_append.mpr ⟨fm_lwF_1, List.forall_mem_append.mpr ⟨fm_lwF_2, List.forall_mem_append.mpr ⟨fm_lwF_3, fm_lwF_4⟩⟩⟩⟩
set_option maxRecDepth 100000 in
theorem fi_81 : ∀ w ∈ wsX8_init_r1, w ∈ lwB := by decide +kernel
set_option maxRecDepth 100000 in
theorem fi_82 : ∀ w ∈ wsX8_init_r2, w ∈ lwB := by decide +kernel
set_option maxRecDepth 100000 in
theorem fi_83 : ∀ w ∈ wsX8_init_r3, w ∈ lwB := by decide +kernel
set_option maxRecDepth 100000 in
theorem fi_84 : ∀ w ∈ wsX8_init_r4, w ∈ lwB := by decide +kernel
set_option maxRecDepth 100000 in
theorem fi_85 : ∀ w ∈ wsX8_init_r5, w ∈ lwB := by decide +kernel
set_option maxRecDepth 100000 in
theorem fi_91 : ∀ w ∈ wsX9_init_r1, w ∈ lwB := by decide +kernel
set_option maxRecDepth 100000 in
theorem fi_92 : ∀ w ∈ wsX9_init_r2, w ∈ lwB := by decide +kernel
set_option maxRecDepth 100000 in
theorem fi_93 : ∀ w ∈ wsX9_init_r3, w ∈ lwB := by decide +kernel
set_option maxRecDepth 100000 in
theorem fi_94 : ∀ w ∈ wsX9_init_r4, w ∈ lwB := by decide +kernel
theorem fm_X8i : ∀ w ∈ wsX8_init, w ∈ lwF := List.forall_mem_cons.mpr ⟨wf_9, List.forall_mem_append.mpr ⟨List.forall_mem_append.mpr ⟨List.forall_mem_append.mpr ⟨List.forall_mem_append.mpr ⟨List.forall_mem_append.mpr ⟨List.forall_mem_append.mpr ⟨List.forall_mem_append.mpr ⟨List.forall_mem_append.mpr ⟨List.forall_mem_append.mpr ⟨List.forall_mem_append.mpr ⟨fun w h => fm_lwB w (fi_81 w h), List.forall_mem_append.mpr ⟨fun w h => fm_lwB w (fi_82 w h), List.forall_mem_append.mpr ⟨fun w h => fm_lwB w (fi_83 w h), List.forall_mem_append.mpr ⟨fun w h => fm_lwB w (fi_84 w h), fun w h => fm_lwB w (fi_85 w h)⟩⟩⟩⟩, fm_wsX10⟩, fm_wsX80⟩, fm_wsX30⟩, fm_wsX70⟩, fm_wsX50⟩, fm_wsX00⟩, fm_wsX20⟩, fm_wsX60⟩, fm_wsX40⟩⟩
theorem fm_X9i : ∀ w ∈ wsX9_init, w ∈ lwF := List.forall_mem_cons.mpr ⟨wf_111, List.forall_mem_append.mpr ⟨List.forall_mem_append.mpr ⟨fun w h => fm_lwB w (fi_91 w h), List.forall_mem_append.mpr ⟨fun w h => fm_lwB w (fi_92 w h), List.forall_mem_append.mpr ⟨fun w h => fm_lwB w (fi_93 w h), fun w h => fm_lwB w (fi_94 w h)⟩⟩⟩, fm_wsX90⟩⟩
set_option maxRecDepth 100000 in
theorem gF_X8i : GoodIn lwF wsX8_init := goodIn_sub fm_X8i (by decide +kernel)
set_option maxRecDepth 100000 in
theorem gF_X9i : GoodIn lwF wsX9_init := goodIn_sub fm_X9i (by decide +kernel)
theorem ar_pr {args : Array Value} {s : State} {ty : FieldType} (h : (Cond.arrayClass ty).before args s = true) (e : ∀ c : ClassId, s.vm.findClass ("[" ++ ty.toString) = some c → va_RA s c ty) : ∃ c : ClassId, ArrOfT s c ty ∧ va_RA s c ty := by
  obtain ⟨c, k, comp, h1, h2, h3⟩ := Cond.arrayClass_spec h
  exact ⟨c, fun n z => ⟨fun k h => (by cases h), k, h2, comp, h3⟩, e c h1⟩
theorem ar_ob {args : Array Value} {s : State} {C : String} (h : (Cond.arrayOver (.object C)).before args s = true) : ∃ c : ClassId, ArrOfT s c (.object C) ∧ va_RA s c (.object C) := by
  obtain ⟨comp, c, k, f1, -, f3, f4, f5⟩ := Cond.arrayOver_spec h
  exact ⟨c, fun N z => ⟨fun k h => (by cases h), k, f3, comp, f4⟩, k, comp, f3, f4, f1, f5⟩
set_option maxRecDepth 100000 in
theorem K_start {args : Array Value} {s : State} (hts : ∀ w ∈ lw_tbl, w.before args s = true) : ∃ (D : va_G) (cy : Nat → ClassId), va_K D vwCl (tyc cy) s := by
  have hF : ∀ w ∈ lwF, w.before args s = true := fun w hw => hts w (lwF_in w hw)
  obtain ⟨c0, i0, k0⟩ := u_known hF fm_wsX00 (hts (Cond.instantiable RX0 5) (by decide +kernel))
  obtain ⟨c1, i1, k1⟩ := u_known hF fm_wsX10 (hts (Cond.instantiable RX1 17) (by decide +kernel))
  obtain ⟨c2, i2, k2⟩ := u_known hF fm_wsX20 (hts (Cond.instantiable RX2 3) (by decide +kernel))
  obtain ⟨c3, i3, k3⟩ := u_known hF fm_wsX30 (hts (Cond.instantiable RX3 3) (by decide +kernel))
  obtain ⟨c4, i4, k4⟩ := u_known hF fm_wsX40 (hts (Cond.instantiable RX4 4) (by decide +kernel))
  obtain ⟨c5, i5, k5⟩ := u_known hF fm_wsX50 (hts (Cond.instantiable RX5 6) (by decide +kernel))
  obtain ⟨c6, i6, k6⟩ := u_known hF fm_wsX60 (hts (Cond.instantiable RX6 3) (by decide +kernel))
  obtain ⟨c7, i7, k7⟩ := u_known hF fm_wsX70 (hts (Cond.instantiable RX7 5) (by decide +kernel))
  obtain ⟨c8, i8, k8⟩ := u_known hF fm_wsX80 (hts (Cond.instantiable RX8 12) (by decide +kernel))
  obtain ⟨c9, i9, k9⟩ := u_known hF fm_wsX90 (hts (Cond.instantiable RX9 85) (by decide +kernel))
  obtain ⟨a0, u0, v0⟩ := ar_pr (ty := .int) (hts _ (by decide +kernel)) (fun c h => h)
  obtain ⟨a1, u1, v1⟩ := ar_pr (ty := .byte) (hts _ (by decide +kernel)) (fun c h => h)
  obtain ⟨a2, u2, v2⟩ := ar_pr (ty := .long) (hts _ (by decide +kernel)) (fun c h => h)
  obtain ⟨a3, u3, v3⟩ := ar_pr (ty := .boolean) (hts _ (by decide +kernel)) (fun c h => h)
  obtain ⟨a4, u4, v4⟩ := ar_ob (C := "BellsBelow$House") (hts _ (by decide +kernel))
  obtain ⟨a5, u5, v5⟩ := ar_ob (C := "BellsBelow$Tape") (hts _ (by decide +kernel))
  refine ⟨(fun c => [c0, c1, c2, c3, c4, c5, c6, c7, c8, c9].getD c c0, fun c => [i0, i1, i2, i3, i4, i5, i6, i7, i8, i9].getD c i0), fun k => [a0, a1, a2, a3, a4, a5].getD k a0, fun c q hq => ?_, fun k q hq => ?_⟩
  · match c, hq with
    | 0, h => cases Option.some.inj h; exact k0
    | 1, h => cases Option.some.inj h; exact k1
    | 2, h => cases Option.some.inj h; exact k2
    | 3, h => cases Option.some.inj h; exact k3
    | 4, h => cases Option.some.inj h; exact k4
    | 5, h => cases Option.some.inj h; exact k5
    | 6, h => cases Option.some.inj h; exact k6
    | 7, h => cases Option.some.inj h; exact k7
    | 8, h => cases Option.some.inj h; exact k8
    | 9, h => cases Option.some.inj h; exact k9
    | n + 10, h => simp at h
  · match k, hq with
    | 0, h => cases Option.some.inj h; exact ⟨u0, v0⟩
    | 1, h => cases Option.some.inj h; exact ⟨u1, v1⟩
    | 2, h => cases Option.some.inj h; exact ⟨u2, v2⟩
    | 3, h => cases Option.some.inj h; exact ⟨u3, v3⟩
    | 4, h => cases Option.some.inj h; exact ⟨u4, v4⟩
    | 5, h => cases Option.some.inj h; exact ⟨u5, v5⟩
    | n + 6, h => simp [tyc] at h
set_option maxRecDepth 100000 in
theorem NX_start {args : Array Value} {s : State} (hts : ∀ w ∈ lw_tbl, w.before args s = true) : NX s := ⟨va_Nw.of rfl (hts _ (by decide +kernel)), va_Nw.of rfl (hts _ (by decide +kernel)), va_Nw.of rfl (hts _ (by decide +kernel)), va_Nw.of rfl (hts _ (by decide +kernel)), va_Nw.of rfl (hts _ (by decide +kernel)), va_Nw.of rfl (hts _ (by decide +kernel)), va_AO.of (hts _ (by decide +kernel)), va_AO.of (hts _ (by decide +kernel))⟩
