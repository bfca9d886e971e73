set_option maxHeartbeats 16000000 in
set_option maxRecDepth 100000 in
/-- the law's walk, from its entry to its end -/
theorem whole_start {p : Program} {e : Env} {s : State} {m : MethodId} {below : List Frame} {meth : Method} {c : Code} (l : Launch) (hflags : l.flags = flags0) {b L : Nat} {xs : Nat → Int32} (hL : L ≤ 3072) (C0 : lw_At p s m meth c b L xs) : W p l e room_1 s m #[Value.ref b] below meth c s.heap [] 0 0 (lw_Z below #[Value.ref b] s) (entryFrame m ([Value.ref b] : List Value).toArray 4) := by
  obtain ⟨hx, hb, hret, hml, hown, hts, hX, hbl, hlk, hgv⟩ := C0
  have hF : ∀ w ∈ lwF, w.before #[Value.ref b] s = true := fun w hw => hts w (lwF_in w hw)
  obtain ⟨D, cy, hK⟩ := K_start hts
  have C : Cc cL_law 4 ret lwF RL D cy p s m #[Value.ref b] meth c := ⟨hx, hb, hret, hml, hown, hF, hlk, hK, NX_start hts⟩
  have hA : ∀ q : Nat, s.heap.size ≤ q → (fun q => s.heap.size ≤ q) q := fun q h => h
  have h0 : CI D (fun q => s.heap.size ≤ q) s s.heap [] [] := ⟨fun k q h => by simp at h, ⟨fun i j p q h => by simp at h, fun k q h => by simp at h⟩, va_S.rf⟩
  have hl := lv_entry ([.ref b]) (n := 4) (Nat.le_of_ble_eq_true rfl)
  rw [lg_entry_eq]
  generalize (lg_sl ([.ref b]) ++ List.replicate (4 - (lg_sl ([.ref b])).length) Slot.unset).toArray = ls at hl ⊢
  have hl : lv_has ls 4 [(0, .ref b)] := hl
  refine rc_new (ci := 8) (fs := [.null, .null, .null, .null, .null, .int 0, .null, .null, .int 0, .null, .null, .null]) C h0 hA fm_wsX80 tyX8 tyX8_ok wf_0 wf_1 wf_2 rfl (fun j hj => by match j, hj with | 0, _ => rfl | 1, _ => rfl | 2, _ => rfl | 3, _ => rfl | 4, _ => rfl | 5, _ => rfl | 6, _ => rfl | 7, _ => rfl | 8, _ => rfl | 9, _ => rfl | 10, _ => rfl | 11, _ => rfl | k + 12, hk => exact absurd hk (by omega)) (Nat.le_of_ble_eq_true rfl) (Nat.le_of_ble_eq_true rfl) dL_law_0 (fun x0 H h => ?_)
  refine lv_dup hx hb dL_law_3 rfl ?_
  refine rc_call (pre := []) (rest := [.ref x0]) C h hA (n_X8 l D cy x0) gF_X8i rfl ⟨rfl, rfl⟩ wf_2 wf_7 wf_8 rfl hdX8_init ⟨Nat.le_of_ble_eq_true rfl, Nat.le_of_ble_eq_true rfl⟩ ⟨Nat.le_of_ble_eq_true rfl, Nat.le_of_ble_eq_true rfl⟩ hl.1 rfl (Nat.le_of_ble_eq_true rfl) dL_law_4 (fun u H locs h => ?_)
  have h : CI D (fun q => s.heap.size ≤ q) s H locs (wi_X8 cy x0 u) := h
  refine lv_astore_n (lv' := [(1, .ref x0), (0, .ref b)]) hx hb dL_law_7 rfl hl (by decide) rfl (fun ls hl => ?_)
  refine rc_new (ci := 9) (fs := [.int 0, .int 0, .int 0, .int 0, .int 0, .null, .null, .null, .null, .null, .null, .null, .null, .int 0, .int 0, .int 0, .int 0, .int 0, .null, .null, .null, .null, .null, .null, .null, .null, .int 0, .int 0, .int 0, .null, .null, .int 0, .int 0, .int 0, .int 0, .int 0, .int 0, .null, .null, .null, .null, .null, .null, .null, .int 0, .null, .null, .null, .int 0, .int 0, .null, .null, .null, .null, .int 0, .int 0, .int 0, .int 0, .int 0, .int 0, .int 0, .int 0, .int 0, .int 0, .null, .null, .null, .null, .null, .null, .null, .null, .null, .null, .null, .null, .null, .null, .null, .int 0, .null, .null, .null, .null, .null]) C h hA fm_wsX90 tyX9 tyX9_ok wf_3 (by decide +kernel) (by decide +kernel) rfl (fun j hj => X9_dv j hj) (Nat.le_of_ble_eq_true rfl) (Nat.le_of_ble_eq_true rfl) dL_law_8 (fun m0 H h => ?_)
  refine lv_dup hx hb dL_law_11 rfl ?_
  refine rc_call (pre := wi_X8 cy x0 u) (rest := [.ref m0]) C h hA (n_X9 l D cy m0) gF_X9i rfl ⟨rfl, rfl⟩ (by decide +kernel) wf_109 wf_110 rfl hdX9_init ⟨Nat.le_of_ble_eq_true rfl, Nat.le_of_ble_eq_true rfl⟩ ⟨Nat.le_of_ble_eq_true rfl, Nat.le_of_ble_eq_true rfl⟩ hl.1 rfl (Nat.le_of_ble_eq_true rfl) dL_law_12 (fun v H locs h => ?_)
  have h : CI D (fun q => s.heap.size ≤ q) s H locs (W0 cy x0 m0 u v) := h
  refine lv_astore_n (lv' := [(2, .ref m0), (1, .ref x0), (0, .ref b)]) hx hb dL_law_15 rfl hl (by decide) rfl (fun ls hl => ?_)
  refine lv_iconst (v := (0 : Int32)) hx hb dL_law_16 (by decide) ?_
  refine lv_istore_n (lv' := [(3, .int 0), (2, .ref m0), (1, .ref x0), (0, .ref b)]) hx hb dL_law_17 rfl hl (by decide) rfl (fun ls hl => ?_)
  obtain ⟨k, w, hSF⟩ := SF_start (A := fun q => s.heap.size ≤ q) hts hgv (fun a h1 h2 => absurd h1 (Nat.not_lt.mpr h2))
  have hD1 := W0_D (D := D) (k := k) (w := w) h.2.1
  have hP1 := ww_P (k := k) (w := w) h.1
  have hAE : ∀ q, AA (E0 D cy k w x0 m0 u v) s.heap.size q → s.heap.size ≤ q := fun q hq => by
    rcases hq with ⟨o, s', hm, rfl⟩ | hq
    · obtain ⟨j, hj, -⟩ := ww_at (E := E0 D cy k w x0 m0 u v) (σ := S0) (ℓ := Z0) hm
      exact hD1.2 j _ hj
    · exact hq
  have hSE : va_S (AA (E0 D cy k w x0 m0 u v) s.heap.size) s.heap H locs := ⟨h.2.2.1, fun q h1 _ => h.2.2.2.1 q h1 (Nat.not_le.mpr h1), fun q hq => Or.inr (h.2.2.2.2 q hq)⟩
  have hSF1 : SF (E0 D cy k w x0 m0 u v) (AA (E0 D cy k w x0 m0 u v) s.heap.size) s s.heap := by
    obtain ⟨⟨t1, z1, T1⟩, ⟨t2, z2, T2⟩, z3, z4, z5, z6⟩ := hSF (E0 D cy k w x0 m0 u v) rfl rfl
    exact ⟨⟨t1, z1.narrow hAE, T1.narrow hAE⟩, ⟨t2, z2.narrow hAE, T2.narrow hAE⟩, z3.narrow hAE, z4.narrow hAE, z5.narrow hAE, z6⟩
  have CX : Cx cL_law 4 ret lwF RL (E0 D cy k w x0 m0 u v) p s m #[Value.ref b] meth c := ⟨hx, hb, hret, hml, hown, hF, hlk, hK, hSF1⟩
  have hI : HI (E0 D cy k w x0 m0 u v) S0 Z0 s H locs := ⟨hP1, wA hD1, hSE⟩
  exact lw_loop CX hX hbl hAE hL ⟨Nat.le_of_ble_eq_true rfl, Nat.le_of_ble_eq_true rfl⟩ 3072 0 S0 Z0 H locs ls (by omega) (by omega) hI INV_start hl
