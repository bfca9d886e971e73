/-! THE LAW'S CASES, walked (made by wip/whole/gen/gen99b.py) -/
section LC
variable {p : Program} {l : Launch} {e : Env} {s : State} {m : MethodId} {args : Array Value} {below : List Frame} {meth : Method} {c : Code} {H : Heap} {locs : List Loc} {cells slots : Nat} {Q : State → Prop} {rt : Option FieldType} {E : Ev} {σ : Ms} {ℓ : Mz} {b L : Nat} {xs : Nat → Int32} {ls : Array Slot}
theorem in_s {i k : Nat} {x : Int32} (hx : nI k = x) (h : i + k < L) (hL : L ≤ 3072) : vp_in (nI i + x) L := inB_in (by rw [← hx, nI_add]; exact p_inN h (by omega))
set_option maxHeartbeats 4000000 in
set_option maxRecDepth 100000 in
theorem cs_master (C : Cx cL_law 4 rt lwF RL E p s m args meth c) (hX : va_X b L xs s s.heap) (hbl : b < s.heap.size) (hbA : ¬ AA E s.heap.size b) (h : HI E σ ℓ s H locs) (I : INV σ ℓ) {i : Nat} (hi : i + 6 ≤ L) (hL : L ≤ 3072) (hcs : cells ≤ room_1.cells ∧ slots ≤ room_1.slots) (hl : lv_has ls 4 [(3, .int (nI i)), (2, .ref (Ea E 29 0)), (1, .ref (Ea E 0 0)), (0, .ref b)]) (kk : ∀ (σ2 : Ms) (ℓ2 : Mz) (H1 : Heap) (locs1 : List Loc), HI E σ2 ℓ2 s H1 locs1 → INV σ2 ℓ2 → W p l e room_1 s m args below meth c H1 locs1 cells slots Q (F0 m 1285 ls [])) : W p l e room_1 s m args below meth c H locs cells slots Q (F0 m 184 ls []) := by
  obtain ⟨hx, hb, -, hml, hown, hts, -, hK, -⟩ := id C
  obtain ⟨r, σ1, ℓ1, σ2, ℓ2, M8, M9, I2⟩ := L_master (l := l) (E := E) I (xs (nI i + 1).toNatClampNeg) (xs (nI i + 2).toNatClampNeg) (xs (nI i + 3).toNatClampNeg)
  refine lv_aload_n hx hb dL_law_184 rfl (lv_at hl 2 rfl) ?_
  refine lv_aload_n hx hb dL_law_185 rfl (lv_at hl 3 rfl) ?_
  refine lv_iload_n hx hb dL_law_186 rfl (lv_at hl 0 rfl) ?_
  refine lv_iconst (v := (1 : Int32)) hx hb dL_law_187 (by decide) ?_
  refine lv_iadd hx hb dL_law_188 ?_
  refine va_sld hx hb hX hbl hbA h.2.2 (in_s (k := 1) rfl (by omega) hL) dL_law_189 ?_
  refine lv_aload_n hx hb dL_law_190 rfl (lv_at hl 3 rfl) ?_
  refine lv_iload_n hx hb dL_law_191 rfl (lv_at hl 0 rfl) ?_
  refine lv_iconst (v := (2 : Int32)) hx hb dL_law_192 (by decide) ?_
  refine lv_iadd hx hb dL_law_193 ?_
  refine va_sld hx hb hX hbl hbA h.2.2 (in_s (k := 2) rfl (by omega) hL) dL_law_194 ?_
  refine lv_aload_n hx hb dL_law_195 rfl (lv_at hl 3 rfl) ?_
  refine lv_iload_n hx hb dL_law_196 rfl (lv_at hl 0 rfl) ?_
  refine lv_iconst (v := (3 : Int32)) hx hb dL_law_197 (by decide) ?_
  refine lv_iadd hx hb dL_law_198 ?_
  refine va_sld hx hb hX hbl hbA h.2.2 (in_s (k := 3) rfl (by omega) hL) dL_law_199 ?_
  refine r_cv_8 (rest := []) C h M8 (rfl : Kd 0 = 8) gF_X8_master rfl ⟨rfl, rfl⟩ hdX8_master ⟨Nat.le_of_ble_eq_true rfl, Nat.le_of_ble_eq_true rfl⟩ hcs hl.1 rfl (Nat.le_of_ble_eq_true rfl) dL_law_200 (fun H locs h => ?_)
  refine lv_aload_n hx hb dL_law_203 rfl (lv_at hl 1 rfl) ?_
  refine lv_aload_n hx hb dL_law_204 rfl (lv_at hl 3 rfl) ?_
  refine lv_iload_n hx hb dL_law_205 rfl (lv_at hl 0 rfl) ?_
  refine lv_iconst (v := (1 : Int32)) hx hb dL_law_206 (by decide) ?_
  refine lv_iadd hx hb dL_law_207 ?_
  refine va_sld hx hb hX hbl hbA h.2.2 (in_s (k := 1) rfl (by omega) hL) dL_law_208 ?_
  refine lv_aload_n hx hb dL_law_209 rfl (lv_at hl 3 rfl) ?_
  refine lv_iload_n hx hb dL_law_210 rfl (lv_at hl 0 rfl) ?_
  refine lv_iconst (v := (2 : Int32)) hx hb dL_law_211 (by decide) ?_
  refine lv_iadd hx hb dL_law_212 ?_
  refine va_sld hx hb hX hbl hbA h.2.2 (in_s (k := 2) rfl (by omega) hL) dL_law_213 ?_
  refine lv_aload_n hx hb dL_law_214 rfl (lv_at hl 3 rfl) ?_
  refine lv_iload_n hx hb dL_law_215 rfl (lv_at hl 0 rfl) ?_
  refine lv_iconst (v := (3 : Int32)) hx hb dL_law_216 (by decide) ?_
  refine lv_iadd hx hb dL_law_217 ?_
  refine va_sld hx hb hX hbl hbA h.2.2 (in_s (k := 3) rfl (by omega) hL) dL_law_218 ?_
  refine r_cv_9 (rest := [.int r]) C h M9 (rfl : Kd 29 = 9) gF_X9_master rfl ⟨rfl, rfl⟩ hdX9_master ⟨Nat.le_of_ble_eq_true rfl, Nat.le_of_ble_eq_true rfl⟩ hcs hl.1 rfl (Nat.le_of_ble_eq_true rfl) dL_law_219 (fun H locs h => ?_)
  refine lv_icmp_eq (tgt := 1285) hx hb dL_law_222 (by decide) (fun _ => ?_) (fun q => absurd rfl q)
  exact kk σ2 ℓ2 H locs h I2
set_option maxHeartbeats 4000000 in
set_option maxRecDepth 100000 in
theorem cs_of (C : Cx cL_law 4 rt lwF RL E p s m args meth c) (hX : va_X b L xs s s.heap) (hbl : b < s.heap.size) (hbA : ¬ AA E s.heap.size b) (h : HI E σ ℓ s H locs) (I : INV σ ℓ) {i : Nat} (hi : i + 6 ≤ L) (hL : L ≤ 3072) (hcs : cells ≤ room_1.cells ∧ slots ≤ room_1.slots) (hl : lv_has ls 4 [(3, .int (nI i)), (2, .ref (Ea E 29 0)), (1, .ref (Ea E 0 0)), (0, .ref b)]) (kk : ∀ (σ2 : Ms) (ℓ2 : Mz) (H1 : Heap) (locs1 : List Loc), HI E σ2 ℓ2 s H1 locs1 → INV σ2 ℓ2 → W p l e room_1 s m args below meth c H1 locs1 cells slots Q (F0 m 1285 ls [])) : W p l e room_1 s m args below meth c H locs cells slots Q (F0 m 227 ls []) := by
  obtain ⟨hx, hb, -, hml, hown, hts, -, hK, -⟩ := id C
  obtain ⟨r, σ1, ℓ1, σ2, ℓ2, M8, M9, I2⟩ := L_of (l := l) (E := E) I (xs (nI i + 1).toNatClampNeg) (xs (nI i + 2).toNatClampNeg)
  refine lv_aload_n hx hb dL_law_227 rfl (lv_at hl 2 rfl) ?_
  refine lv_aload_n hx hb dL_law_228 rfl (lv_at hl 3 rfl) ?_
  refine lv_iload_n hx hb dL_law_229 rfl (lv_at hl 0 rfl) ?_
  refine lv_iconst (v := (1 : Int32)) hx hb dL_law_230 (by decide) ?_
  refine lv_iadd hx hb dL_law_231 ?_
  refine va_sld hx hb hX hbl hbA h.2.2 (in_s (k := 1) rfl (by omega) hL) dL_law_232 ?_
  refine lv_aload_n hx hb dL_law_233 rfl (lv_at hl 3 rfl) ?_
  refine lv_iload_n hx hb dL_law_234 rfl (lv_at hl 0 rfl) ?_
  refine lv_iconst (v := (2 : Int32)) hx hb dL_law_235 (by decide) ?_
  refine lv_iadd hx hb dL_law_236 ?_
  refine va_sld hx hb hX hbl hbA h.2.2 (in_s (k := 2) rfl (by omega) hL) dL_law_237 ?_
  refine r_cv_8 (rest := []) C h M8 (rfl : Kd 0 = 8) gF_X8_of rfl ⟨rfl, rfl⟩ hdX8_of ⟨Nat.le_of_ble_eq_true rfl, Nat.le_of_ble_eq_true rfl⟩ hcs hl.1 rfl (Nat.le_of_ble_eq_true rfl) dL_law_238 (fun H locs h => ?_)
  refine lv_aload_n hx hb dL_law_241 rfl (lv_at hl 1 rfl) ?_
  refine lv_aload_n hx hb dL_law_242 rfl (lv_at hl 3 rfl) ?_
  refine lv_iload_n hx hb dL_law_243 rfl (lv_at hl 0 rfl) ?_
  refine lv_iconst (v := (1 : Int32)) hx hb dL_law_244 (by decide) ?_
  refine lv_iadd hx hb dL_law_245 ?_
  refine va_sld hx hb hX hbl hbA h.2.2 (in_s (k := 1) rfl (by omega) hL) dL_law_246 ?_
  refine lv_aload_n hx hb dL_law_247 rfl (lv_at hl 3 rfl) ?_
  refine lv_iload_n hx hb dL_law_248 rfl (lv_at hl 0 rfl) ?_
  refine lv_iconst (v := (2 : Int32)) hx hb dL_law_249 (by decide) ?_
  refine lv_iadd hx hb dL_law_250 ?_
  refine va_sld hx hb hX hbl hbA h.2.2 (in_s (k := 2) rfl (by omega) hL) dL_law_251 ?_
  refine r_cv_9 (rest := [.int r]) C h M9 (rfl : Kd 29 = 9) gF_X9_of rfl ⟨rfl, rfl⟩ hdX9_of ⟨Nat.le_of_ble_eq_true rfl, Nat.le_of_ble_eq_true rfl⟩ hcs hl.1 rfl (Nat.le_of_ble_eq_true rfl) dL_law_252 (fun H locs h => ?_)
  refine lv_icmp_eq (tgt := 1285) hx hb dL_law_255 (by decide) (fun _ => ?_) (fun q => absurd rfl q)
  exact kk σ2 ℓ2 H locs h I2
set_option maxHeartbeats 4000000 in
set_option maxRecDepth 100000 in
theorem cs_set (C : Cx cL_law 4 rt lwF RL E p s m args meth c) (hX : va_X b L xs s s.heap) (hbl : b < s.heap.size) (hbA : ¬ AA E s.heap.size b) (h : HI E σ ℓ s H locs) (I : INV σ ℓ) {i : Nat} (hi : i + 6 ≤ L) (hL : L ≤ 3072) (hcs : cells ≤ room_1.cells ∧ slots ≤ room_1.slots) (hl : lv_has ls 4 [(3, .int (nI i)), (2, .ref (Ea E 29 0)), (1, .ref (Ea E 0 0)), (0, .ref b)]) (kk : ∀ (σ2 : Ms) (ℓ2 : Mz) (H1 : Heap) (locs1 : List Loc), HI E σ2 ℓ2 s H1 locs1 → INV σ2 ℓ2 → W p l e room_1 s m args below meth c H1 locs1 cells slots Q (F0 m 1285 ls [])) : W p l e room_1 s m args below meth c H locs cells slots Q (F0 m 260 ls []) := by
  obtain ⟨hx, hb, -, hml, hown, hts, -, hK, -⟩ := id C
  obtain ⟨r, σ1, ℓ1, σ2, ℓ2, M8, M9, I2⟩ := L_set (l := l) (E := E) I (xs (nI i + 1).toNatClampNeg) (xs (nI i + 2).toNatClampNeg) (xs (nI i + 3).toNatClampNeg)
  refine lv_aload_n hx hb dL_law_260 rfl (lv_at hl 2 rfl) ?_
  refine lv_aload_n hx hb dL_law_261 rfl (lv_at hl 3 rfl) ?_
  refine lv_iload_n hx hb dL_law_262 rfl (lv_at hl 0 rfl) ?_
  refine lv_iconst (v := (1 : Int32)) hx hb dL_law_263 (by decide) ?_
  refine lv_iadd hx hb dL_law_264 ?_
  refine va_sld hx hb hX hbl hbA h.2.2 (in_s (k := 1) rfl (by omega) hL) dL_law_265 ?_
  refine lv_aload_n hx hb dL_law_266 rfl (lv_at hl 3 rfl) ?_
  refine lv_iload_n hx hb dL_law_267 rfl (lv_at hl 0 rfl) ?_
  refine lv_iconst (v := (2 : Int32)) hx hb dL_law_268 (by decide) ?_
  refine lv_iadd hx hb dL_law_269 ?_
  refine va_sld hx hb hX hbl hbA h.2.2 (in_s (k := 2) rfl (by omega) hL) dL_law_270 ?_
  refine lv_aload_n hx hb dL_law_271 rfl (lv_at hl 3 rfl) ?_
  refine lv_iload_n hx hb dL_law_272 rfl (lv_at hl 0 rfl) ?_
  refine lv_iconst (v := (3 : Int32)) hx hb dL_law_273 (by decide) ?_
  refine lv_iadd hx hb dL_law_274 ?_
  refine va_sld hx hb hX hbl hbA h.2.2 (in_s (k := 3) rfl (by omega) hL) dL_law_275 ?_
  refine r_cv_8 (rest := []) C h M8 (rfl : Kd 0 = 8) gF_X8_set rfl ⟨rfl, rfl⟩ hdX8_set ⟨Nat.le_of_ble_eq_true rfl, Nat.le_of_ble_eq_true rfl⟩ hcs hl.1 rfl (Nat.le_of_ble_eq_true rfl) dL_law_276 (fun H locs h => ?_)
  refine lv_aload_n hx hb dL_law_279 rfl (lv_at hl 1 rfl) ?_
  refine lv_aload_n hx hb dL_law_280 rfl (lv_at hl 3 rfl) ?_
  refine lv_iload_n hx hb dL_law_281 rfl (lv_at hl 0 rfl) ?_
  refine lv_iconst (v := (1 : Int32)) hx hb dL_law_282 (by decide) ?_
  refine lv_iadd hx hb dL_law_283 ?_
  refine va_sld hx hb hX hbl hbA h.2.2 (in_s (k := 1) rfl (by omega) hL) dL_law_284 ?_
  refine lv_aload_n hx hb dL_law_285 rfl (lv_at hl 3 rfl) ?_
  refine lv_iload_n hx hb dL_law_286 rfl (lv_at hl 0 rfl) ?_
  refine lv_iconst (v := (2 : Int32)) hx hb dL_law_287 (by decide) ?_
  refine lv_iadd hx hb dL_law_288 ?_
  refine va_sld hx hb hX hbl hbA h.2.2 (in_s (k := 2) rfl (by omega) hL) dL_law_289 ?_
  refine lv_aload_n hx hb dL_law_290 rfl (lv_at hl 3 rfl) ?_
  refine lv_iload_n hx hb dL_law_291 rfl (lv_at hl 0 rfl) ?_
  refine lv_iconst (v := (3 : Int32)) hx hb dL_law_292 (by decide) ?_
  refine lv_iadd hx hb dL_law_293 ?_
  refine va_sld hx hb hX hbl hbA h.2.2 (in_s (k := 3) rfl (by omega) hL) dL_law_294 ?_
  refine r_cv_9 (rest := [.int r]) C h M9 (rfl : Kd 29 = 9) gF_X9_set rfl ⟨rfl, rfl⟩ hdX9_set ⟨Nat.le_of_ble_eq_true rfl, Nat.le_of_ble_eq_true rfl⟩ hcs hl.1 rfl (Nat.le_of_ble_eq_true rfl) dL_law_295 (fun H locs h => ?_)
  refine lv_icmp_eq (tgt := 1285) hx hb dL_law_298 (by decide) (fun _ => ?_) (fun q => absurd rfl q)
  exact kk σ2 ℓ2 H locs h I2
set_option maxHeartbeats 4000000 in
set_option maxRecDepth 100000 in
theorem cs_away (C : Cx cL_law 4 rt lwF RL E p s m args meth c) (hX : va_X b L xs s s.heap) (hbl : b < s.heap.size) (hbA : ¬ AA E s.heap.size b) (h : HI E σ ℓ s H locs) (I : INV σ ℓ) {i : Nat} (hi : i + 6 ≤ L) (hL : L ≤ 3072) (hcs : cells ≤ room_1.cells ∧ slots ≤ room_1.slots) (hl : lv_has ls 4 [(3, .int (nI i)), (2, .ref (Ea E 29 0)), (1, .ref (Ea E 0 0)), (0, .ref b)]) (kk : ∀ (σ2 : Ms) (ℓ2 : Mz) (H1 : Heap) (locs1 : List Loc), HI E σ2 ℓ2 s H1 locs1 → INV σ2 ℓ2 → W p l e room_1 s m args below meth c H1 locs1 cells slots Q (F0 m 1285 ls [])) : W p l e room_1 s m args below meth c H locs cells slots Q (F0 m 303 ls []) := by
  obtain ⟨hx, hb, -, hml, hown, hts, -, hK, -⟩ := id C
  by_cases hz : xs (nI i + 2).toNatClampNeg = 0
  · obtain ⟨r, σ1, ℓ1, σ2, ℓ2, M8, M9, I2⟩ := L_away (l := l) (E := E) I (xs (nI i + 1).toNatClampNeg) 0
    refine lv_aload_n hx hb dL_law_303 rfl (lv_at hl 2 rfl) ?_
    refine lv_aload_n hx hb dL_law_304 rfl (lv_at hl 3 rfl) ?_
    refine lv_iload_n hx hb dL_law_305 rfl (lv_at hl 0 rfl) ?_
    refine lv_iconst (v := (1 : Int32)) hx hb dL_law_306 (by decide) ?_
    refine lv_iadd hx hb dL_law_307 ?_
    refine va_sld hx hb hX hbl hbA h.2.2 (in_s (k := 1) rfl (by omega) hL) dL_law_308 ?_
    refine lv_aload_n hx hb dL_law_309 rfl (lv_at hl 3 rfl) ?_
    refine lv_iload_n hx hb dL_law_310 rfl (lv_at hl 0 rfl) ?_
    refine lv_iconst (v := (2 : Int32)) hx hb dL_law_311 (by decide) ?_
    refine lv_iadd hx hb dL_law_312 ?_
    refine va_sld hx hb hX hbl hbA h.2.2 (in_s (k := 2) rfl (by omega) hL) dL_law_313 ?_
    refine lv_if_eq (tgt := 321) hx hb dL_law_314 (by decide) (fun _ => ?_) (fun q => absurd hz q)
    refine lv_iconst (v := (0 : Int32)) hx hb dL_law_321 (by decide) ?_
    refine r_cv_8 (rest := []) C h M8 (rfl : Kd 0 = 8) gF_X8_away rfl ⟨rfl, rfl⟩ hdX8_away ⟨Nat.le_of_ble_eq_true rfl, Nat.le_of_ble_eq_true rfl⟩ hcs hl.1 rfl (Nat.le_of_ble_eq_true rfl) dL_law_322 (fun H locs h => ?_)
    refine lv_aload_n hx hb dL_law_325 rfl (lv_at hl 1 rfl) ?_
    refine lv_aload_n hx hb dL_law_326 rfl (lv_at hl 3 rfl) ?_
    refine lv_iload_n hx hb dL_law_327 rfl (lv_at hl 0 rfl) ?_
    refine lv_iconst (v := (1 : Int32)) hx hb dL_law_328 (by decide) ?_
    refine lv_iadd hx hb dL_law_329 ?_
    refine va_sld hx hb hX hbl hbA h.2.2 (in_s (k := 1) rfl (by omega) hL) dL_law_330 ?_
    refine lv_aload_n hx hb dL_law_331 rfl (lv_at hl 3 rfl) ?_
    refine lv_iload_n hx hb dL_law_332 rfl (lv_at hl 0 rfl) ?_
    refine lv_iconst (v := (2 : Int32)) hx hb dL_law_333 (by decide) ?_
    refine lv_iadd hx hb dL_law_334 ?_
    refine va_sld hx hb hX hbl hbA h.2.2 (in_s (k := 2) rfl (by omega) hL) dL_law_335 ?_
    refine lv_if_eq (tgt := 343) hx hb dL_law_336 (by decide) (fun _ => ?_) (fun q => absurd hz q)
    refine lv_iconst (v := (0 : Int32)) hx hb dL_law_343 (by decide) ?_
    refine r_cv_9 (rest := [.int r]) C h M9 (rfl : Kd 29 = 9) gF_X9_away rfl ⟨rfl, rfl⟩ hdX9_away ⟨Nat.le_of_ble_eq_true rfl, Nat.le_of_ble_eq_true rfl⟩ hcs hl.1 rfl (Nat.le_of_ble_eq_true rfl) dL_law_344 (fun H locs h => ?_)
    refine lv_icmp_eq (tgt := 1285) hx hb dL_law_347 (by decide) (fun _ => ?_) (fun q => absurd rfl q)
    exact kk σ2 ℓ2 H locs h I2
  · obtain ⟨r, σ1, ℓ1, σ2, ℓ2, M8, M9, I2⟩ := L_away (l := l) (E := E) I (xs (nI i + 1).toNatClampNeg) 1
    refine lv_aload_n hx hb dL_law_303 rfl (lv_at hl 2 rfl) ?_
    refine lv_aload_n hx hb dL_law_304 rfl (lv_at hl 3 rfl) ?_
    refine lv_iload_n hx hb dL_law_305 rfl (lv_at hl 0 rfl) ?_
    refine lv_iconst (v := (1 : Int32)) hx hb dL_law_306 (by decide) ?_
    refine lv_iadd hx hb dL_law_307 ?_
    refine va_sld hx hb hX hbl hbA h.2.2 (in_s (k := 1) rfl (by omega) hL) dL_law_308 ?_
    refine lv_aload_n hx hb dL_law_309 rfl (lv_at hl 3 rfl) ?_
    refine lv_iload_n hx hb dL_law_310 rfl (lv_at hl 0 rfl) ?_
    refine lv_iconst (v := (2 : Int32)) hx hb dL_law_311 (by decide) ?_
    refine lv_iadd hx hb dL_law_312 ?_
    refine va_sld hx hb hX hbl hbA h.2.2 (in_s (k := 2) rfl (by omega) hL) dL_law_313 ?_
    refine lv_if_eq (tgt := 321) hx hb dL_law_314 (by decide) (fun q => absurd q hz) (fun _ => ?_)
    refine lv_iconst (v := (1 : Int32)) hx hb dL_law_317 (by decide) ?_
    refine lv_goto (tgt := 322) hx hb dL_law_318 (by decide) ?_
    refine r_cv_8 (rest := []) C h M8 (rfl : Kd 0 = 8) gF_X8_away rfl ⟨rfl, rfl⟩ hdX8_away ⟨Nat.le_of_ble_eq_true rfl, Nat.le_of_ble_eq_true rfl⟩ hcs hl.1 rfl (Nat.le_of_ble_eq_true rfl) dL_law_322 (fun H locs h => ?_)
    refine lv_aload_n hx hb dL_law_325 rfl (lv_at hl 1 rfl) ?_
    refine lv_aload_n hx hb dL_law_326 rfl (lv_at hl 3 rfl) ?_
    refine lv_iload_n hx hb dL_law_327 rfl (lv_at hl 0 rfl) ?_
    refine lv_iconst (v := (1 : Int32)) hx hb dL_law_328 (by decide) ?_
    refine lv_iadd hx hb dL_law_329 ?_
    refine va_sld hx hb hX hbl hbA h.2.2 (in_s (k := 1) rfl (by omega) hL) dL_law_330 ?_
    refine lv_aload_n hx hb dL_law_331 rfl (lv_at hl 3 rfl) ?_
    refine lv_iload_n hx hb dL_law_332 rfl (lv_at hl 0 rfl) ?_
    refine lv_iconst (v := (2 : Int32)) hx hb dL_law_333 (by decide) ?_
    refine lv_iadd hx hb dL_law_334 ?_
    refine va_sld hx hb hX hbl hbA h.2.2 (in_s (k := 2) rfl (by omega) hL) dL_law_335 ?_
    refine lv_if_eq (tgt := 343) hx hb dL_law_336 (by decide) (fun q => absurd q hz) (fun _ => ?_)
    refine lv_iconst (v := (1 : Int32)) hx hb dL_law_339 (by decide) ?_
    refine lv_goto (tgt := 344) hx hb dL_law_340 (by decide) ?_
    refine r_cv_9 (rest := [.int r]) C h M9 (rfl : Kd 29 = 9) gF_X9_away rfl ⟨rfl, rfl⟩ hdX9_away ⟨Nat.le_of_ble_eq_true rfl, Nat.le_of_ble_eq_true rfl⟩ hcs hl.1 rfl (Nat.le_of_ble_eq_true rfl) dL_law_344 (fun H locs h => ?_)
    refine lv_icmp_eq (tgt := 1285) hx hb dL_law_347 (by decide) (fun _ => ?_) (fun q => absurd rfl q)
    exact kk σ2 ℓ2 H locs h I2
set_option maxHeartbeats 4000000 in
set_option maxRecDepth 100000 in
theorem cs_ring (C : Cx cL_law 4 rt lwF RL E p s m args meth c) (hX : va_X b L xs s s.heap) (hbl : b < s.heap.size) (hbA : ¬ AA E s.heap.size b) (h : HI E σ ℓ s H locs) (I : INV σ ℓ) {i : Nat} (hi : i + 6 ≤ L) (hL : L ≤ 3072) (hcs : cells ≤ room_1.cells ∧ slots ≤ room_1.slots) (hl : lv_has ls 4 [(3, .int (nI i)), (2, .ref (Ea E 29 0)), (1, .ref (Ea E 0 0)), (0, .ref b)]) (kk : ∀ (σ2 : Ms) (ℓ2 : Mz) (H1 : Heap) (locs1 : List Loc), HI E σ2 ℓ2 s H1 locs1 → INV σ2 ℓ2 → W p l e room_1 s m args below meth c H1 locs1 cells slots Q (F0 m 1285 ls [])) : W p l e room_1 s m args below meth c H locs cells slots Q (F0 m 352 ls []) := by
  obtain ⟨hx, hb, -, hml, hown, hts, -, hK, -⟩ := id C
  obtain ⟨r, σ1, ℓ1, σ2, ℓ2, M8, M9, I2⟩ := L_ring (l := l) (E := E) I (xs (nI i + 1).toNatClampNeg)
  refine lv_aload_n hx hb dL_law_352 rfl (lv_at hl 2 rfl) ?_
  refine lv_aload_n hx hb dL_law_353 rfl (lv_at hl 3 rfl) ?_
  refine lv_iload_n hx hb dL_law_354 rfl (lv_at hl 0 rfl) ?_
  refine lv_iconst (v := (1 : Int32)) hx hb dL_law_355 (by decide) ?_
  refine lv_iadd hx hb dL_law_356 ?_
  refine va_sld hx hb hX hbl hbA h.2.2 (in_s (k := 1) rfl (by omega) hL) dL_law_357 ?_
  refine r_cv_8 (rest := []) C h M8 (rfl : Kd 0 = 8) gF_X8_ring rfl ⟨rfl, rfl⟩ hdX8_ring ⟨Nat.le_of_ble_eq_true rfl, Nat.le_of_ble_eq_true rfl⟩ hcs hl.1 rfl (Nat.le_of_ble_eq_true rfl) dL_law_358 (fun H locs h => ?_)
  refine lv_aload_n hx hb dL_law_361 rfl (lv_at hl 1 rfl) ?_
  refine lv_aload_n hx hb dL_law_362 rfl (lv_at hl 3 rfl) ?_
  refine lv_iload_n hx hb dL_law_363 rfl (lv_at hl 0 rfl) ?_
  refine lv_iconst (v := (1 : Int32)) hx hb dL_law_364 (by decide) ?_
  refine lv_iadd hx hb dL_law_365 ?_
  refine va_sld hx hb hX hbl hbA h.2.2 (in_s (k := 1) rfl (by omega) hL) dL_law_366 ?_
  refine r_cv_9 (rest := [.int r]) C h M9 (rfl : Kd 29 = 9) gF_X9_ring rfl ⟨rfl, rfl⟩ hdX9_ring ⟨Nat.le_of_ble_eq_true rfl, Nat.le_of_ble_eq_true rfl⟩ hcs hl.1 rfl (Nat.le_of_ble_eq_true rfl) dL_law_367 (fun H locs h => ?_)
  refine lv_icmp_eq (tgt := 1285) hx hb dL_law_370 (by decide) (fun _ => ?_) (fun q => absurd rfl q)
  exact kk σ2 ℓ2 H locs h I2
set_option maxHeartbeats 4000000 in
set_option maxRecDepth 100000 in
theorem cs_cross (C : Cx cL_law 4 rt lwF RL E p s m args meth c) (hX : va_X b L xs s s.heap) (hbl : b < s.heap.size) (hbA : ¬ AA E s.heap.size b) (h : HI E σ ℓ s H locs) (I : INV σ ℓ) {i : Nat} (hi : i + 6 ≤ L) (hL : L ≤ 3072) (hcs : cells ≤ room_1.cells ∧ slots ≤ room_1.slots) (hl : lv_has ls 4 [(3, .int (nI i)), (2, .ref (Ea E 29 0)), (1, .ref (Ea E 0 0)), (0, .ref b)]) (kk : ∀ (σ2 : Ms) (ℓ2 : Mz) (H1 : Heap) (locs1 : List Loc), HI E σ2 ℓ2 s H1 locs1 → INV σ2 ℓ2 → W p l e room_1 s m args below meth c H1 locs1 cells slots Q (F0 m 1285 ls [])) : W p l e room_1 s m args below meth c H locs cells slots Q (F0 m 375 ls []) := by
  obtain ⟨hx, hb, -, hml, hown, hts, -, hK, -⟩ := id C
  obtain ⟨r, σ1, ℓ1, σ2, ℓ2, M8, M9, I2⟩ := L_cross (l := l) (E := E) I (xs (nI i + 1).toNatClampNeg) (xs (nI i + 2).toNatClampNeg)
  refine lv_aload_n hx hb dL_law_375 rfl (lv_at hl 2 rfl) ?_
  refine lv_aload_n hx hb dL_law_376 rfl (lv_at hl 3 rfl) ?_
  refine lv_iload_n hx hb dL_law_377 rfl (lv_at hl 0 rfl) ?_
  refine lv_iconst (v := (1 : Int32)) hx hb dL_law_378 (by decide) ?_
  refine lv_iadd hx hb dL_law_379 ?_
  refine va_sld hx hb hX hbl hbA h.2.2 (in_s (k := 1) rfl (by omega) hL) dL_law_380 ?_
  refine lv_aload_n hx hb dL_law_381 rfl (lv_at hl 3 rfl) ?_
  refine lv_iload_n hx hb dL_law_382 rfl (lv_at hl 0 rfl) ?_
  refine lv_iconst (v := (2 : Int32)) hx hb dL_law_383 (by decide) ?_
  refine lv_iadd hx hb dL_law_384 ?_
  refine va_sld hx hb hX hbl hbA h.2.2 (in_s (k := 2) rfl (by omega) hL) dL_law_385 ?_
  refine r_cv_8 (rest := []) C h M8 (rfl : Kd 0 = 8) gF_X8_cross rfl ⟨rfl, rfl⟩ hdX8_cross ⟨Nat.le_of_ble_eq_true rfl, Nat.le_of_ble_eq_true rfl⟩ hcs hl.1 rfl (Nat.le_of_ble_eq_true rfl) dL_law_386 (fun H locs h => ?_)
  refine lv_aload_n hx hb dL_law_389 rfl (lv_at hl 1 rfl) ?_
  refine lv_aload_n hx hb dL_law_390 rfl (lv_at hl 3 rfl) ?_
  refine lv_iload_n hx hb dL_law_391 rfl (lv_at hl 0 rfl) ?_
  refine lv_iconst (v := (1 : Int32)) hx hb dL_law_392 (by decide) ?_
  refine lv_iadd hx hb dL_law_393 ?_
  refine va_sld hx hb hX hbl hbA h.2.2 (in_s (k := 1) rfl (by omega) hL) dL_law_394 ?_
  refine lv_aload_n hx hb dL_law_395 rfl (lv_at hl 3 rfl) ?_
  refine lv_iload_n hx hb dL_law_396 rfl (lv_at hl 0 rfl) ?_
  refine lv_iconst (v := (2 : Int32)) hx hb dL_law_397 (by decide) ?_
  refine lv_iadd hx hb dL_law_398 ?_
  refine va_sld hx hb hX hbl hbA h.2.2 (in_s (k := 2) rfl (by omega) hL) dL_law_399 ?_
  refine r_cv_9 (rest := [.int r]) C h M9 (rfl : Kd 29 = 9) gF_X9_cross rfl ⟨rfl, rfl⟩ hdX9_cross ⟨Nat.le_of_ble_eq_true rfl, Nat.le_of_ble_eq_true rfl⟩ hcs hl.1 rfl (Nat.le_of_ble_eq_true rfl) dL_law_400 (fun H locs h => ?_)
  refine lv_icmp_eq (tgt := 1285) hx hb dL_law_403 (by decide) (fun _ => ?_) (fun q => absurd rfl q)
  exact kk σ2 ℓ2 H locs h I2
set_option maxHeartbeats 4000000 in
set_option maxRecDepth 100000 in
theorem cs_row (C : Cx cL_law 4 rt lwF RL E p s m args meth c) (hX : va_X b L xs s s.heap) (hbl : b < s.heap.size) (hbA : ¬ AA E s.heap.size b) (h : HI E σ ℓ s H locs) (I : INV σ ℓ) {i : Nat} (hi : i + 6 ≤ L) (hL : L ≤ 3072) (hcs : cells ≤ room_1.cells ∧ slots ≤ room_1.slots) (hl : lv_has ls 4 [(3, .int (nI i)), (2, .ref (Ea E 29 0)), (1, .ref (Ea E 0 0)), (0, .ref b)]) (kk : ∀ (σ2 : Ms) (ℓ2 : Mz) (H1 : Heap) (locs1 : List Loc), HI E σ2 ℓ2 s H1 locs1 → INV σ2 ℓ2 → W p l e room_1 s m args below meth c H1 locs1 cells slots Q (F0 m 1285 ls [])) : W p l e room_1 s m args below meth c H locs cells slots Q (F0 m 408 ls []) := by
  obtain ⟨hx, hb, -, hml, hown, hts, -, hK, -⟩ := id C
  obtain ⟨r, σ1, ℓ1, σ2, ℓ2, M8, M9, I2⟩ := L_row (l := l) (E := E) I (xs (nI i + 1).toNatClampNeg) (xs (nI i + 2).toNatClampNeg) (xs (nI i + 3).toNatClampNeg)
  refine lv_aload_n hx hb dL_law_408 rfl (lv_at hl 2 rfl) ?_
  refine lv_aload_n hx hb dL_law_409 rfl (lv_at hl 3 rfl) ?_
  refine lv_iload_n hx hb dL_law_410 rfl (lv_at hl 0 rfl) ?_
  refine lv_iconst (v := (1 : Int32)) hx hb dL_law_411 (by decide) ?_
  refine lv_iadd hx hb dL_law_412 ?_
  refine va_sld hx hb hX hbl hbA h.2.2 (in_s (k := 1) rfl (by omega) hL) dL_law_413 ?_
  refine lv_aload_n hx hb dL_law_414 rfl (lv_at hl 3 rfl) ?_
  refine lv_iload_n hx hb dL_law_415 rfl (lv_at hl 0 rfl) ?_
  refine lv_iconst (v := (2 : Int32)) hx hb dL_law_416 (by decide) ?_
  refine lv_iadd hx hb dL_law_417 ?_
  refine va_sld hx hb hX hbl hbA h.2.2 (in_s (k := 2) rfl (by omega) hL) dL_law_418 ?_
  refine lv_aload_n hx hb dL_law_419 rfl (lv_at hl 3 rfl) ?_
  refine lv_iload_n hx hb dL_law_420 rfl (lv_at hl 0 rfl) ?_
  refine lv_iconst (v := (3 : Int32)) hx hb dL_law_421 (by decide) ?_
  refine lv_iadd hx hb dL_law_422 ?_
  refine va_sld hx hb hX hbl hbA h.2.2 (in_s (k := 3) rfl (by omega) hL) dL_law_423 ?_
  refine r_cv_8 (rest := []) C h M8 (rfl : Kd 0 = 8) gF_X8_row rfl ⟨rfl, rfl⟩ hdX8_row ⟨Nat.le_of_ble_eq_true rfl, Nat.le_of_ble_eq_true rfl⟩ hcs hl.1 rfl (Nat.le_of_ble_eq_true rfl) dL_law_424 (fun H locs h => ?_)
  refine lv_aload_n hx hb dL_law_427 rfl (lv_at hl 1 rfl) ?_
  refine lv_aload_n hx hb dL_law_428 rfl (lv_at hl 3 rfl) ?_
  refine lv_iload_n hx hb dL_law_429 rfl (lv_at hl 0 rfl) ?_
  refine lv_iconst (v := (1 : Int32)) hx hb dL_law_430 (by decide) ?_
  refine lv_iadd hx hb dL_law_431 ?_
  refine va_sld hx hb hX hbl hbA h.2.2 (in_s (k := 1) rfl (by omega) hL) dL_law_432 ?_
  refine lv_aload_n hx hb dL_law_433 rfl (lv_at hl 3 rfl) ?_
  refine lv_iload_n hx hb dL_law_434 rfl (lv_at hl 0 rfl) ?_
  refine lv_iconst (v := (2 : Int32)) hx hb dL_law_435 (by decide) ?_
  refine lv_iadd hx hb dL_law_436 ?_
  refine va_sld hx hb hX hbl hbA h.2.2 (in_s (k := 2) rfl (by omega) hL) dL_law_437 ?_
  refine lv_aload_n hx hb dL_law_438 rfl (lv_at hl 3 rfl) ?_
  refine lv_iload_n hx hb dL_law_439 rfl (lv_at hl 0 rfl) ?_
  refine lv_iconst (v := (3 : Int32)) hx hb dL_law_440 (by decide) ?_
  refine lv_iadd hx hb dL_law_441 ?_
  refine va_sld hx hb hX hbl hbA h.2.2 (in_s (k := 3) rfl (by omega) hL) dL_law_442 ?_
  refine r_cv_9 (rest := [.int r]) C h M9 (rfl : Kd 29 = 9) gF_X9_row rfl ⟨rfl, rfl⟩ hdX9_row ⟨Nat.le_of_ble_eq_true rfl, Nat.le_of_ble_eq_true rfl⟩ hcs hl.1 rfl (Nat.le_of_ble_eq_true rfl) dL_law_443 (fun H locs h => ?_)
  refine lv_icmp_eq (tgt := 1285) hx hb dL_law_446 (by decide) (fun _ => ?_) (fun q => absurd rfl q)
  exact kk σ2 ℓ2 H locs h I2
set_option maxHeartbeats 4000000 in
set_option maxRecDepth 100000 in
theorem cs_feed (C : Cx cL_law 4 rt lwF RL E p s m args meth c) (hX : va_X b L xs s s.heap) (hbl : b < s.heap.size) (hbA : ¬ AA E s.heap.size b) (h : HI E σ ℓ s H locs) (I : INV σ ℓ) {i : Nat} (hi : i + 6 ≤ L) (hL : L ≤ 3072) (hcs : cells ≤ room_1.cells ∧ slots ≤ room_1.slots) (hl : lv_has ls 4 [(3, .int (nI i)), (2, .ref (Ea E 29 0)), (1, .ref (Ea E 0 0)), (0, .ref b)]) (kk : ∀ (σ2 : Ms) (ℓ2 : Mz) (H1 : Heap) (locs1 : List Loc), HI E σ2 ℓ2 s H1 locs1 → INV σ2 ℓ2 → W p l e room_1 s m args below meth c H1 locs1 cells slots Q (F0 m 1285 ls [])) : W p l e room_1 s m args below meth c H locs cells slots Q (F0 m 451 ls []) := by
  obtain ⟨hx, hb, -, hml, hown, hts, -, hK, -⟩ := id C
  obtain ⟨r, σ1, ℓ1, σ2, ℓ2, M8, M9, I2⟩ := L_feed (l := l) (E := E) I (xs (nI i + 1).toNatClampNeg)
  refine lv_aload_n hx hb dL_law_451 rfl (lv_at hl 2 rfl) ?_
  refine lv_aload_n hx hb dL_law_452 rfl (lv_at hl 3 rfl) ?_
  refine lv_iload_n hx hb dL_law_453 rfl (lv_at hl 0 rfl) ?_
  refine lv_iconst (v := (1 : Int32)) hx hb dL_law_454 (by decide) ?_
  refine lv_iadd hx hb dL_law_455 ?_
  refine va_sld hx hb hX hbl hbA h.2.2 (in_s (k := 1) rfl (by omega) hL) dL_law_456 ?_
  refine r_cv_8 (rest := []) C h M8 (rfl : Kd 0 = 8) gF_X8_feed rfl ⟨rfl, rfl⟩ hdX8_feed ⟨Nat.le_of_ble_eq_true rfl, Nat.le_of_ble_eq_true rfl⟩ hcs hl.1 rfl (Nat.le_of_ble_eq_true rfl) dL_law_457 (fun H locs h => ?_)
  refine lv_aload_n hx hb dL_law_460 rfl (lv_at hl 1 rfl) ?_
  refine lv_aload_n hx hb dL_law_461 rfl (lv_at hl 3 rfl) ?_
  refine lv_iload_n hx hb dL_law_462 rfl (lv_at hl 0 rfl) ?_
  refine lv_iconst (v := (1 : Int32)) hx hb dL_law_463 (by decide) ?_
  refine lv_iadd hx hb dL_law_464 ?_
  refine va_sld hx hb hX hbl hbA h.2.2 (in_s (k := 1) rfl (by omega) hL) dL_law_465 ?_
  refine r_cv_9 (rest := [.int r]) C h M9 (rfl : Kd 29 = 9) gF_X9_feed rfl ⟨rfl, rfl⟩ hdX9_feed ⟨Nat.le_of_ble_eq_true rfl, Nat.le_of_ble_eq_true rfl⟩ hcs hl.1 rfl (Nat.le_of_ble_eq_true rfl) dL_law_466 (fun H locs h => ?_)
  refine lv_icmp_eq (tgt := 1285) hx hb dL_law_469 (by decide) (fun _ => ?_) (fun q => absurd rfl q)
  exact kk σ2 ℓ2 H locs h I2
set_option maxHeartbeats 4000000 in
set_option maxRecDepth 100000 in
theorem cs_house (C : Cx cL_law 4 rt lwF RL E p s m args meth c) (hX : va_X b L xs s s.heap) (hbl : b < s.heap.size) (hbA : ¬ AA E s.heap.size b) (h : HI E σ ℓ s H locs) (I : INV σ ℓ) {i : Nat} (hi : i + 6 ≤ L) (hL : L ≤ 3072) (hcs : cells ≤ room_1.cells ∧ slots ≤ room_1.slots) (hl : lv_has ls 4 [(3, .int (nI i)), (2, .ref (Ea E 29 0)), (1, .ref (Ea E 0 0)), (0, .ref b)]) (kk : ∀ (σ2 : Ms) (ℓ2 : Mz) (H1 : Heap) (locs1 : List Loc), HI E σ2 ℓ2 s H1 locs1 → INV σ2 ℓ2 → W p l e room_1 s m args below meth c H1 locs1 cells slots Q (F0 m 1285 ls [])) : W p l e room_1 s m args below meth c H locs cells slots Q (F0 m 474 ls []) := by
  obtain ⟨hx, hb, -, hml, hown, hts, -, hK, -⟩ := id C
  obtain ⟨r, σ1, ℓ1, σ2, ℓ2, M8, M9, I2⟩ := L_house (l := l) (E := E) I 
  refine lv_aload_n hx hb dL_law_474 rfl (lv_at hl 2 rfl) ?_
  refine r_cv_8 (rest := []) C h M8 (rfl : Kd 0 = 8) gF_X8_house rfl ⟨rfl, rfl⟩ hdX8_house ⟨Nat.le_of_ble_eq_true rfl, Nat.le_of_ble_eq_true rfl⟩ hcs hl.1 rfl (Nat.le_of_ble_eq_true rfl) dL_law_475 (fun H locs h => ?_)
  refine lv_aload_n hx hb dL_law_478 rfl (lv_at hl 1 rfl) ?_
  refine r_cv_9 (rest := [.int r]) C h M9 (rfl : Kd 29 = 9) gF_X9_house rfl ⟨rfl, rfl⟩ hdX9_house ⟨Nat.le_of_ble_eq_true rfl, Nat.le_of_ble_eq_true rfl⟩ hcs hl.1 rfl (Nat.le_of_ble_eq_true rfl) dL_law_479 (fun H locs h => ?_)
  refine lv_icmp_eq (tgt := 1285) hx hb dL_law_482 (by decide) (fun _ => ?_) (fun q => absurd rfl q)
  exact kk σ2 ℓ2 H locs h I2
set_option maxHeartbeats 4000000 in
set_option maxRecDepth 100000 in
theorem cs_told (C : Cx cL_law 4 rt lwF RL E p s m args meth c) (hX : va_X b L xs s s.heap) (hbl : b < s.heap.size) (hbA : ¬ AA E s.heap.size b) (h : HI E σ ℓ s H locs) (I : INV σ ℓ) {i : Nat} (hi : i + 6 ≤ L) (hL : L ≤ 3072) (hcs : cells ≤ room_1.cells ∧ slots ≤ room_1.slots) (hl : lv_has ls 4 [(3, .int (nI i)), (2, .ref (Ea E 29 0)), (1, .ref (Ea E 0 0)), (0, .ref b)]) (kk : ∀ (σ2 : Ms) (ℓ2 : Mz) (H1 : Heap) (locs1 : List Loc), HI E σ2 ℓ2 s H1 locs1 → INV σ2 ℓ2 → W p l e room_1 s m args below meth c H1 locs1 cells slots Q (F0 m 1285 ls [])) : W p l e room_1 s m args below meth c H locs cells slots Q (F0 m 487 ls []) := by
  obtain ⟨hx, hb, -, hml, hown, hts, -, hK, -⟩ := id C
  obtain ⟨r, σ1, ℓ1, σ2, ℓ2, M8, M9, I2⟩ := L_told (l := l) (E := E) I (xs (nI i + 1).toNatClampNeg)
  refine lv_aload_n hx hb dL_law_487 rfl (lv_at hl 2 rfl) ?_
  refine lv_aload_n hx hb dL_law_488 rfl (lv_at hl 3 rfl) ?_
  refine lv_iload_n hx hb dL_law_489 rfl (lv_at hl 0 rfl) ?_
  refine lv_iconst (v := (1 : Int32)) hx hb dL_law_490 (by decide) ?_
  refine lv_iadd hx hb dL_law_491 ?_
  refine va_sld hx hb hX hbl hbA h.2.2 (in_s (k := 1) rfl (by omega) hL) dL_law_492 ?_
  refine r_cv_8 (rest := []) C h M8 (rfl : Kd 0 = 8) gF_X8_told rfl ⟨rfl, rfl⟩ hdX8_told ⟨Nat.le_of_ble_eq_true rfl, Nat.le_of_ble_eq_true rfl⟩ hcs hl.1 rfl (Nat.le_of_ble_eq_true rfl) dL_law_493 (fun H locs h => ?_)
  refine lv_aload_n hx hb dL_law_496 rfl (lv_at hl 1 rfl) ?_
  refine lv_aload_n hx hb dL_law_497 rfl (lv_at hl 3 rfl) ?_
  refine lv_iload_n hx hb dL_law_498 rfl (lv_at hl 0 rfl) ?_
  refine lv_iconst (v := (1 : Int32)) hx hb dL_law_499 (by decide) ?_
  refine lv_iadd hx hb dL_law_500 ?_
  refine va_sld hx hb hX hbl hbA h.2.2 (in_s (k := 1) rfl (by omega) hL) dL_law_501 ?_
  refine r_cv_9 (rest := [.int r]) C h M9 (rfl : Kd 29 = 9) gF_X9_told rfl ⟨rfl, rfl⟩ hdX9_told ⟨Nat.le_of_ble_eq_true rfl, Nat.le_of_ble_eq_true rfl⟩ hcs hl.1 rfl (Nat.le_of_ble_eq_true rfl) dL_law_502 (fun H locs h => ?_)
  refine lv_icmp_eq (tgt := 1285) hx hb dL_law_505 (by decide) (fun _ => ?_) (fun q => absurd rfl q)
  exact kk σ2 ℓ2 H locs h I2
set_option maxHeartbeats 4000000 in
set_option maxRecDepth 100000 in
theorem cs_pass (C : Cx cL_law 4 rt lwF RL E p s m args meth c) (hX : va_X b L xs s s.heap) (hbl : b < s.heap.size) (hbA : ¬ AA E s.heap.size b) (h : HI E σ ℓ s H locs) (I : INV σ ℓ) {i : Nat} (hi : i + 6 ≤ L) (hL : L ≤ 3072) (hcs : cells ≤ room_1.cells ∧ slots ≤ room_1.slots) (hl : lv_has ls 4 [(3, .int (nI i)), (2, .ref (Ea E 29 0)), (1, .ref (Ea E 0 0)), (0, .ref b)]) (kk : ∀ (σ2 : Ms) (ℓ2 : Mz) (H1 : Heap) (locs1 : List Loc), HI E σ2 ℓ2 s H1 locs1 → INV σ2 ℓ2 → W p l e room_1 s m args below meth c H1 locs1 cells slots Q (F0 m 1285 ls [])) : W p l e room_1 s m args below meth c H locs cells slots Q (F0 m 510 ls []) := by
  obtain ⟨hx, hb, -, hml, hown, hts, -, hK, -⟩ := id C
  obtain ⟨r, σ1, ℓ1, σ2, ℓ2, M8, M9, I2⟩ := L_pass (l := l) (E := E) I (xs (nI i + 1).toNatClampNeg)
  refine lv_aload_n hx hb dL_law_510 rfl (lv_at hl 2 rfl) ?_
  refine lv_aload_n hx hb dL_law_511 rfl (lv_at hl 3 rfl) ?_
  refine lv_iload_n hx hb dL_law_512 rfl (lv_at hl 0 rfl) ?_
  refine lv_iconst (v := (1 : Int32)) hx hb dL_law_513 (by decide) ?_
  refine lv_iadd hx hb dL_law_514 ?_
  refine va_sld hx hb hX hbl hbA h.2.2 (in_s (k := 1) rfl (by omega) hL) dL_law_515 ?_
  refine r_cv_8 (rest := []) C h M8 (rfl : Kd 0 = 8) gF_X8_pass rfl ⟨rfl, rfl⟩ hdX8_pass ⟨Nat.le_of_ble_eq_true rfl, Nat.le_of_ble_eq_true rfl⟩ hcs hl.1 rfl (Nat.le_of_ble_eq_true rfl) dL_law_516 (fun H locs h => ?_)
  refine lv_aload_n hx hb dL_law_519 rfl (lv_at hl 1 rfl) ?_
  refine lv_aload_n hx hb dL_law_520 rfl (lv_at hl 3 rfl) ?_
  refine lv_iload_n hx hb dL_law_521 rfl (lv_at hl 0 rfl) ?_
  refine lv_iconst (v := (1 : Int32)) hx hb dL_law_522 (by decide) ?_
  refine lv_iadd hx hb dL_law_523 ?_
  refine va_sld hx hb hX hbl hbA h.2.2 (in_s (k := 1) rfl (by omega) hL) dL_law_524 ?_
  refine r_cv_9 (rest := [.int r]) C h M9 (rfl : Kd 29 = 9) gF_X9_pass rfl ⟨rfl, rfl⟩ hdX9_pass ⟨Nat.le_of_ble_eq_true rfl, Nat.le_of_ble_eq_true rfl⟩ hcs hl.1 rfl (Nat.le_of_ble_eq_true rfl) dL_law_525 (fun H locs h => ?_)
  refine lv_icmp_eq (tgt := 1285) hx hb dL_law_528 (by decide) (fun _ => ?_) (fun q => absurd rfl q)
  exact kk σ2 ℓ2 H locs h I2
set_option maxHeartbeats 4000000 in
set_option maxRecDepth 100000 in
theorem cs_on (C : Cx cL_law 4 rt lwF RL E p s m args meth c) (hX : va_X b L xs s s.heap) (hbl : b < s.heap.size) (hbA : ¬ AA E s.heap.size b) (h : HI E σ ℓ s H locs) (I : INV σ ℓ) {i : Nat} (hi : i + 6 ≤ L) (hL : L ≤ 3072) (hcs : cells ≤ room_1.cells ∧ slots ≤ room_1.slots) (hl : lv_has ls 4 [(3, .int (nI i)), (2, .ref (Ea E 29 0)), (1, .ref (Ea E 0 0)), (0, .ref b)]) (kk : ∀ (σ2 : Ms) (ℓ2 : Mz) (H1 : Heap) (locs1 : List Loc), HI E σ2 ℓ2 s H1 locs1 → INV σ2 ℓ2 → W p l e room_1 s m args below meth c H1 locs1 cells slots Q (F0 m 1285 ls [])) : W p l e room_1 s m args below meth c H locs cells slots Q (F0 m 533 ls []) := by
  obtain ⟨hx, hb, -, hml, hown, hts, -, hK, -⟩ := id C
  obtain ⟨r, σ1, ℓ1, σ2, ℓ2, M8, M9, I2⟩ := L_on (l := l) (E := E) I (xs (nI i + 1).toNatClampNeg) (xs (nI i + 2).toNatClampNeg)
  refine lv_aload_n hx hb dL_law_533 rfl (lv_at hl 2 rfl) ?_
  refine lv_aload_n hx hb dL_law_534 rfl (lv_at hl 3 rfl) ?_
  refine lv_iload_n hx hb dL_law_535 rfl (lv_at hl 0 rfl) ?_
  refine lv_iconst (v := (1 : Int32)) hx hb dL_law_536 (by decide) ?_
  refine lv_iadd hx hb dL_law_537 ?_
  refine va_sld hx hb hX hbl hbA h.2.2 (in_s (k := 1) rfl (by omega) hL) dL_law_538 ?_
  refine lv_aload_n hx hb dL_law_539 rfl (lv_at hl 3 rfl) ?_
  refine lv_iload_n hx hb dL_law_540 rfl (lv_at hl 0 rfl) ?_
  refine lv_iconst (v := (2 : Int32)) hx hb dL_law_541 (by decide) ?_
  refine lv_iadd hx hb dL_law_542 ?_
  refine va_sld hx hb hX hbl hbA h.2.2 (in_s (k := 2) rfl (by omega) hL) dL_law_543 ?_
  refine r_cv_8 (rest := []) C h M8 (rfl : Kd 0 = 8) gF_X8_on rfl ⟨rfl, rfl⟩ hdX8_on ⟨Nat.le_of_ble_eq_true rfl, Nat.le_of_ble_eq_true rfl⟩ hcs hl.1 rfl (Nat.le_of_ble_eq_true rfl) dL_law_544 (fun H locs h => ?_)
  refine lv_aload_n hx hb dL_law_547 rfl (lv_at hl 1 rfl) ?_
  refine lv_aload_n hx hb dL_law_548 rfl (lv_at hl 3 rfl) ?_
  refine lv_iload_n hx hb dL_law_549 rfl (lv_at hl 0 rfl) ?_
  refine lv_iconst (v := (1 : Int32)) hx hb dL_law_550 (by decide) ?_
  refine lv_iadd hx hb dL_law_551 ?_
  refine va_sld hx hb hX hbl hbA h.2.2 (in_s (k := 1) rfl (by omega) hL) dL_law_552 ?_
  refine lv_aload_n hx hb dL_law_553 rfl (lv_at hl 3 rfl) ?_
  refine lv_iload_n hx hb dL_law_554 rfl (lv_at hl 0 rfl) ?_
  refine lv_iconst (v := (2 : Int32)) hx hb dL_law_555 (by decide) ?_
  refine lv_iadd hx hb dL_law_556 ?_
  refine va_sld hx hb hX hbl hbA h.2.2 (in_s (k := 2) rfl (by omega) hL) dL_law_557 ?_
  refine r_cv_9 (rest := [.int r]) C h M9 (rfl : Kd 29 = 9) gF_X9_on rfl ⟨rfl, rfl⟩ hdX9_on ⟨Nat.le_of_ble_eq_true rfl, Nat.le_of_ble_eq_true rfl⟩ hcs hl.1 rfl (Nat.le_of_ble_eq_true rfl) dL_law_558 (fun H locs h => ?_)
  refine lv_icmp_eq (tgt := 1285) hx hb dL_law_561 (by decide) (fun _ => ?_) (fun q => absurd rfl q)
  exact kk σ2 ℓ2 H locs h I2
set_option maxHeartbeats 4000000 in
set_option maxRecDepth 100000 in
theorem cs_bell (C : Cx cL_law 4 rt lwF RL E p s m args meth c) (hX : va_X b L xs s s.heap) (hbl : b < s.heap.size) (hbA : ¬ AA E s.heap.size b) (h : HI E σ ℓ s H locs) (I : INV σ ℓ) {i : Nat} (hi : i + 6 ≤ L) (hL : L ≤ 3072) (hcs : cells ≤ room_1.cells ∧ slots ≤ room_1.slots) (hl : lv_has ls 4 [(3, .int (nI i)), (2, .ref (Ea E 29 0)), (1, .ref (Ea E 0 0)), (0, .ref b)]) (kk : ∀ (σ2 : Ms) (ℓ2 : Mz) (H1 : Heap) (locs1 : List Loc), HI E σ2 ℓ2 s H1 locs1 → INV σ2 ℓ2 → W p l e room_1 s m args below meth c H1 locs1 cells slots Q (F0 m 1285 ls [])) : W p l e room_1 s m args below meth c H locs cells slots Q (F0 m 566 ls []) := by
  obtain ⟨hx, hb, -, hml, hown, hts, -, hK, -⟩ := id C
  obtain ⟨r, σ1, ℓ1, σ2, ℓ2, M8, M9, I2⟩ := L_bell (l := l) (E := E) I (xs (nI i + 1).toNatClampNeg) (xs (nI i + 2).toNatClampNeg)
  refine lv_aload_n hx hb dL_law_566 rfl (lv_at hl 2 rfl) ?_
  refine lv_aload_n hx hb dL_law_567 rfl (lv_at hl 3 rfl) ?_
  refine lv_iload_n hx hb dL_law_568 rfl (lv_at hl 0 rfl) ?_
  refine lv_iconst (v := (1 : Int32)) hx hb dL_law_569 (by decide) ?_
  refine lv_iadd hx hb dL_law_570 ?_
  refine va_sld hx hb hX hbl hbA h.2.2 (in_s (k := 1) rfl (by omega) hL) dL_law_571 ?_
  refine lv_aload_n hx hb dL_law_572 rfl (lv_at hl 3 rfl) ?_
  refine lv_iload_n hx hb dL_law_573 rfl (lv_at hl 0 rfl) ?_
  refine lv_iconst (v := (2 : Int32)) hx hb dL_law_574 (by decide) ?_
  refine lv_iadd hx hb dL_law_575 ?_
  refine va_sld hx hb hX hbl hbA h.2.2 (in_s (k := 2) rfl (by omega) hL) dL_law_576 ?_
  refine r_cv_8 (rest := []) C h M8 (rfl : Kd 0 = 8) gF_X8_bell rfl ⟨rfl, rfl⟩ hdX8_bell ⟨Nat.le_of_ble_eq_true rfl, Nat.le_of_ble_eq_true rfl⟩ hcs hl.1 rfl (Nat.le_of_ble_eq_true rfl) dL_law_577 (fun H locs h => ?_)
  refine lv_aload_n hx hb dL_law_580 rfl (lv_at hl 1 rfl) ?_
  refine lv_aload_n hx hb dL_law_581 rfl (lv_at hl 3 rfl) ?_
  refine lv_iload_n hx hb dL_law_582 rfl (lv_at hl 0 rfl) ?_
  refine lv_iconst (v := (1 : Int32)) hx hb dL_law_583 (by decide) ?_
  refine lv_iadd hx hb dL_law_584 ?_
  refine va_sld hx hb hX hbl hbA h.2.2 (in_s (k := 1) rfl (by omega) hL) dL_law_585 ?_
  refine lv_aload_n hx hb dL_law_586 rfl (lv_at hl 3 rfl) ?_
  refine lv_iload_n hx hb dL_law_587 rfl (lv_at hl 0 rfl) ?_
  refine lv_iconst (v := (2 : Int32)) hx hb dL_law_588 (by decide) ?_
  refine lv_iadd hx hb dL_law_589 ?_
  refine va_sld hx hb hX hbl hbA h.2.2 (in_s (k := 2) rfl (by omega) hL) dL_law_590 ?_
  refine r_cv_9 (rest := [.int r]) C h M9 (rfl : Kd 29 = 9) gF_X9_bell rfl ⟨rfl, rfl⟩ hdX9_bell ⟨Nat.le_of_ble_eq_true rfl, Nat.le_of_ble_eq_true rfl⟩ hcs hl.1 rfl (Nat.le_of_ble_eq_true rfl) dL_law_591 (fun H locs h => ?_)
  refine lv_icmp_eq (tgt := 1285) hx hb dL_law_594 (by decide) (fun _ => ?_) (fun q => absurd rfl q)
  exact kk σ2 ℓ2 H locs h I2
set_option maxHeartbeats 4000000 in
set_option maxRecDepth 100000 in
theorem cs_shared (C : Cx cL_law 4 rt lwF RL E p s m args meth c) (hX : va_X b L xs s s.heap) (hbl : b < s.heap.size) (hbA : ¬ AA E s.heap.size b) (h : HI E σ ℓ s H locs) (I : INV σ ℓ) {i : Nat} (hi : i + 6 ≤ L) (hL : L ≤ 3072) (hcs : cells ≤ room_1.cells ∧ slots ≤ room_1.slots) (hl : lv_has ls 4 [(3, .int (nI i)), (2, .ref (Ea E 29 0)), (1, .ref (Ea E 0 0)), (0, .ref b)]) (kk : ∀ (σ2 : Ms) (ℓ2 : Mz) (H1 : Heap) (locs1 : List Loc), HI E σ2 ℓ2 s H1 locs1 → INV σ2 ℓ2 → W p l e room_1 s m args below meth c H1 locs1 cells slots Q (F0 m 1285 ls [])) : W p l e room_1 s m args below meth c H locs cells slots Q (F0 m 599 ls []) := by
  obtain ⟨hx, hb, -, hml, hown, hts, -, hK, -⟩ := id C
  obtain ⟨r, σ1, ℓ1, σ2, ℓ2, M8, M9, I2⟩ := L_shared (l := l) (E := E) I (xs (nI i + 1).toNatClampNeg)
  refine lv_aload_n hx hb dL_law_599 rfl (lv_at hl 2 rfl) ?_
  refine lv_aload_n hx hb dL_law_600 rfl (lv_at hl 3 rfl) ?_
  refine lv_iload_n hx hb dL_law_601 rfl (lv_at hl 0 rfl) ?_
  refine lv_iconst (v := (1 : Int32)) hx hb dL_law_602 (by decide) ?_
  refine lv_iadd hx hb dL_law_603 ?_
  refine va_sld hx hb hX hbl hbA h.2.2 (in_s (k := 1) rfl (by omega) hL) dL_law_604 ?_
  refine r_cv_8 (rest := []) C h M8 (rfl : Kd 0 = 8) gF_X8_shared rfl ⟨rfl, rfl⟩ hdX8_shared ⟨Nat.le_of_ble_eq_true rfl, Nat.le_of_ble_eq_true rfl⟩ hcs hl.1 rfl (Nat.le_of_ble_eq_true rfl) dL_law_605 (fun H locs h => ?_)
  refine lv_aload_n hx hb dL_law_608 rfl (lv_at hl 1 rfl) ?_
  refine lv_aload_n hx hb dL_law_609 rfl (lv_at hl 3 rfl) ?_
  refine lv_iload_n hx hb dL_law_610 rfl (lv_at hl 0 rfl) ?_
  refine lv_iconst (v := (1 : Int32)) hx hb dL_law_611 (by decide) ?_
  refine lv_iadd hx hb dL_law_612 ?_
  refine va_sld hx hb hX hbl hbA h.2.2 (in_s (k := 1) rfl (by omega) hL) dL_law_613 ?_
  refine r_cv_9 (rest := [.int r]) C h M9 (rfl : Kd 29 = 9) gF_X9_shared rfl ⟨rfl, rfl⟩ hdX9_shared ⟨Nat.le_of_ble_eq_true rfl, Nat.le_of_ble_eq_true rfl⟩ hcs hl.1 rfl (Nat.le_of_ble_eq_true rfl) dL_law_614 (fun H locs h => ?_)
  refine lv_icmp_eq (tgt := 1285) hx hb dL_law_617 (by decide) (fun _ => ?_) (fun q => absurd rfl q)
  exact kk σ2 ℓ2 H locs h I2
set_option maxHeartbeats 4000000 in
set_option maxRecDepth 100000 in
theorem cs_see (C : Cx cL_law 4 rt lwF RL E p s m args meth c) (hX : va_X b L xs s s.heap) (hbl : b < s.heap.size) (hbA : ¬ AA E s.heap.size b) (h : HI E σ ℓ s H locs) (I : INV σ ℓ) {i : Nat} (hi : i + 6 ≤ L) (hL : L ≤ 3072) (hcs : cells ≤ room_1.cells ∧ slots ≤ room_1.slots) (hl : lv_has ls 4 [(3, .int (nI i)), (2, .ref (Ea E 29 0)), (1, .ref (Ea E 0 0)), (0, .ref b)]) (kk : ∀ (σ2 : Ms) (ℓ2 : Mz) (H1 : Heap) (locs1 : List Loc), HI E σ2 ℓ2 s H1 locs1 → INV σ2 ℓ2 → W p l e room_1 s m args below meth c H1 locs1 cells slots Q (F0 m 1285 ls [])) : W p l e room_1 s m args below meth c H locs cells slots Q (F0 m 622 ls []) := by
  obtain ⟨hx, hb, -, hml, hown, hts, -, hK, -⟩ := id C
  obtain ⟨r, σ1, ℓ1, σ2, ℓ2, M8, M9, I2⟩ := L_see (l := l) (E := E) I (xs (nI i + 1).toNatClampNeg) (xs (nI i + 2).toNatClampNeg) (xs (nI i + 3).toNatClampNeg)
  refine lv_aload_n hx hb dL_law_622 rfl (lv_at hl 2 rfl) ?_
  refine lv_aload_n hx hb dL_law_623 rfl (lv_at hl 3 rfl) ?_
  refine lv_iload_n hx hb dL_law_624 rfl (lv_at hl 0 rfl) ?_
  refine lv_iconst (v := (1 : Int32)) hx hb dL_law_625 (by decide) ?_
  refine lv_iadd hx hb dL_law_626 ?_
  refine va_sld hx hb hX hbl hbA h.2.2 (in_s (k := 1) rfl (by omega) hL) dL_law_627 ?_
  refine lv_aload_n hx hb dL_law_628 rfl (lv_at hl 3 rfl) ?_
  refine lv_iload_n hx hb dL_law_629 rfl (lv_at hl 0 rfl) ?_
  refine lv_iconst (v := (2 : Int32)) hx hb dL_law_630 (by decide) ?_
  refine lv_iadd hx hb dL_law_631 ?_
  refine va_sld hx hb hX hbl hbA h.2.2 (in_s (k := 2) rfl (by omega) hL) dL_law_632 ?_
  refine lv_aload_n hx hb dL_law_633 rfl (lv_at hl 3 rfl) ?_
  refine lv_iload_n hx hb dL_law_634 rfl (lv_at hl 0 rfl) ?_
  refine lv_iconst (v := (3 : Int32)) hx hb dL_law_635 (by decide) ?_
  refine lv_iadd hx hb dL_law_636 ?_
  refine va_sld hx hb hX hbl hbA h.2.2 (in_s (k := 3) rfl (by omega) hL) dL_law_637 ?_
  refine r_cv_8 (rest := []) C h M8 (rfl : Kd 0 = 8) gF_X8_see rfl ⟨rfl, rfl⟩ hdX8_see ⟨Nat.le_of_ble_eq_true rfl, Nat.le_of_ble_eq_true rfl⟩ hcs hl.1 rfl (Nat.le_of_ble_eq_true rfl) dL_law_638 (fun H locs h => ?_)
  refine lv_aload_n hx hb dL_law_641 rfl (lv_at hl 1 rfl) ?_
  refine lv_aload_n hx hb dL_law_642 rfl (lv_at hl 3 rfl) ?_
  refine lv_iload_n hx hb dL_law_643 rfl (lv_at hl 0 rfl) ?_
  refine lv_iconst (v := (1 : Int32)) hx hb dL_law_644 (by decide) ?_
  refine lv_iadd hx hb dL_law_645 ?_
  refine va_sld hx hb hX hbl hbA h.2.2 (in_s (k := 1) rfl (by omega) hL) dL_law_646 ?_
  refine lv_aload_n hx hb dL_law_647 rfl (lv_at hl 3 rfl) ?_
  refine lv_iload_n hx hb dL_law_648 rfl (lv_at hl 0 rfl) ?_
  refine lv_iconst (v := (2 : Int32)) hx hb dL_law_649 (by decide) ?_
  refine lv_iadd hx hb dL_law_650 ?_
  refine va_sld hx hb hX hbl hbA h.2.2 (in_s (k := 2) rfl (by omega) hL) dL_law_651 ?_
  refine lv_aload_n hx hb dL_law_652 rfl (lv_at hl 3 rfl) ?_
  refine lv_iload_n hx hb dL_law_653 rfl (lv_at hl 0 rfl) ?_
  refine lv_iconst (v := (3 : Int32)) hx hb dL_law_654 (by decide) ?_
  refine lv_iadd hx hb dL_law_655 ?_
  refine va_sld hx hb hX hbl hbA h.2.2 (in_s (k := 3) rfl (by omega) hL) dL_law_656 ?_
  refine r_cv_9 (rest := [.int r]) C h M9 (rfl : Kd 29 = 9) gF_X9_see rfl ⟨rfl, rfl⟩ hdX9_see ⟨Nat.le_of_ble_eq_true rfl, Nat.le_of_ble_eq_true rfl⟩ hcs hl.1 rfl (Nat.le_of_ble_eq_true rfl) dL_law_657 (fun H locs h => ?_)
  refine lv_icmp_eq (tgt := 1285) hx hb dL_law_660 (by decide) (fun _ => ?_) (fun q => absurd rfl q)
  exact kk σ2 ℓ2 H locs h I2
set_option maxHeartbeats 4000000 in
set_option maxRecDepth 100000 in
theorem cs_from (C : Cx cL_law 4 rt lwF RL E p s m args meth c) (hX : va_X b L xs s s.heap) (hbl : b < s.heap.size) (hbA : ¬ AA E s.heap.size b) (h : HI E σ ℓ s H locs) (I : INV σ ℓ) {i : Nat} (hi : i + 6 ≤ L) (hL : L ≤ 3072) (hcs : cells ≤ room_1.cells ∧ slots ≤ room_1.slots) (hl : lv_has ls 4 [(3, .int (nI i)), (2, .ref (Ea E 29 0)), (1, .ref (Ea E 0 0)), (0, .ref b)]) (kk : ∀ (σ2 : Ms) (ℓ2 : Mz) (H1 : Heap) (locs1 : List Loc), HI E σ2 ℓ2 s H1 locs1 → INV σ2 ℓ2 → W p l e room_1 s m args below meth c H1 locs1 cells slots Q (F0 m 1285 ls [])) : W p l e room_1 s m args below meth c H locs cells slots Q (F0 m 665 ls []) := by
  obtain ⟨hx, hb, -, hml, hown, hts, -, hK, -⟩ := id C
  obtain ⟨r, σ1, ℓ1, σ2, ℓ2, M8, M9, I2⟩ := L_from (l := l) (E := E) I (xs (nI i + 1).toNatClampNeg)
  refine lv_aload_n hx hb dL_law_665 rfl (lv_at hl 2 rfl) ?_
  refine lv_aload_n hx hb dL_law_666 rfl (lv_at hl 3 rfl) ?_
  refine lv_iload_n hx hb dL_law_667 rfl (lv_at hl 0 rfl) ?_
  refine lv_iconst (v := (1 : Int32)) hx hb dL_law_668 (by decide) ?_
  refine lv_iadd hx hb dL_law_669 ?_
  refine va_sld hx hb hX hbl hbA h.2.2 (in_s (k := 1) rfl (by omega) hL) dL_law_670 ?_
  refine r_cv_8 (rest := []) C h M8 (rfl : Kd 0 = 8) gF_X8_from rfl ⟨rfl, rfl⟩ hdX8_from ⟨Nat.le_of_ble_eq_true rfl, Nat.le_of_ble_eq_true rfl⟩ hcs hl.1 rfl (Nat.le_of_ble_eq_true rfl) dL_law_671 (fun H locs h => ?_)
  refine lv_aload_n hx hb dL_law_674 rfl (lv_at hl 1 rfl) ?_
  refine lv_aload_n hx hb dL_law_675 rfl (lv_at hl 3 rfl) ?_
  refine lv_iload_n hx hb dL_law_676 rfl (lv_at hl 0 rfl) ?_
  refine lv_iconst (v := (1 : Int32)) hx hb dL_law_677 (by decide) ?_
  refine lv_iadd hx hb dL_law_678 ?_
  refine va_sld hx hb hX hbl hbA h.2.2 (in_s (k := 1) rfl (by omega) hL) dL_law_679 ?_
  refine r_cv_9 (rest := [.int r]) C h M9 (rfl : Kd 29 = 9) gF_X9_from rfl ⟨rfl, rfl⟩ hdX9_from ⟨Nat.le_of_ble_eq_true rfl, Nat.le_of_ble_eq_true rfl⟩ hcs hl.1 rfl (Nat.le_of_ble_eq_true rfl) dL_law_680 (fun H locs h => ?_)
  refine lv_icmp_eq (tgt := 1285) hx hb dL_law_683 (by decide) (fun _ => ?_) (fun q => absurd rfl q)
  exact kk σ2 ℓ2 H locs h I2
set_option maxHeartbeats 4000000 in
set_option maxRecDepth 100000 in
theorem cs_can (C : Cx cL_law 4 rt lwF RL E p s m args meth c) (hX : va_X b L xs s s.heap) (hbl : b < s.heap.size) (hbA : ¬ AA E s.heap.size b) (h : HI E σ ℓ s H locs) (I : INV σ ℓ) {i : Nat} (hi : i + 6 ≤ L) (hL : L ≤ 3072) (hcs : cells ≤ room_1.cells ∧ slots ≤ room_1.slots) (hl : lv_has ls 4 [(3, .int (nI i)), (2, .ref (Ea E 29 0)), (1, .ref (Ea E 0 0)), (0, .ref b)]) (kk : ∀ (σ2 : Ms) (ℓ2 : Mz) (H1 : Heap) (locs1 : List Loc), HI E σ2 ℓ2 s H1 locs1 → INV σ2 ℓ2 → W p l e room_1 s m args below meth c H1 locs1 cells slots Q (F0 m 1285 ls [])) : W p l e room_1 s m args below meth c H locs cells slots Q (F0 m 688 ls []) := by
  obtain ⟨hx, hb, -, hml, hown, hts, -, hK, -⟩ := id C
  obtain ⟨r, σ1, ℓ1, σ2, ℓ2, M8, M9, I2⟩ := L_can (l := l) (E := E) I (xs (nI i + 1).toNatClampNeg) (xs (nI i + 2).toNatClampNeg)
  refine lv_aload_n hx hb dL_law_688 rfl (lv_at hl 2 rfl) ?_
  refine lv_aload_n hx hb dL_law_689 rfl (lv_at hl 3 rfl) ?_
  refine lv_iload_n hx hb dL_law_690 rfl (lv_at hl 0 rfl) ?_
  refine lv_iconst (v := (1 : Int32)) hx hb dL_law_691 (by decide) ?_
  refine lv_iadd hx hb dL_law_692 ?_
  refine va_sld hx hb hX hbl hbA h.2.2 (in_s (k := 1) rfl (by omega) hL) dL_law_693 ?_
  refine lv_aload_n hx hb dL_law_694 rfl (lv_at hl 3 rfl) ?_
  refine lv_iload_n hx hb dL_law_695 rfl (lv_at hl 0 rfl) ?_
  refine lv_iconst (v := (2 : Int32)) hx hb dL_law_696 (by decide) ?_
  refine lv_iadd hx hb dL_law_697 ?_
  refine va_sld hx hb hX hbl hbA h.2.2 (in_s (k := 2) rfl (by omega) hL) dL_law_698 ?_
  refine r_cv_8 (rest := []) C h M8 (rfl : Kd 0 = 8) gF_X8_can rfl ⟨rfl, rfl⟩ hdX8_can ⟨Nat.le_of_ble_eq_true rfl, Nat.le_of_ble_eq_true rfl⟩ hcs hl.1 rfl (Nat.le_of_ble_eq_true rfl) dL_law_699 (fun H locs h => ?_)
  refine lv_aload_n hx hb dL_law_702 rfl (lv_at hl 1 rfl) ?_
  refine lv_aload_n hx hb dL_law_703 rfl (lv_at hl 3 rfl) ?_
  refine lv_iload_n hx hb dL_law_704 rfl (lv_at hl 0 rfl) ?_
  refine lv_iconst (v := (1 : Int32)) hx hb dL_law_705 (by decide) ?_
  refine lv_iadd hx hb dL_law_706 ?_
  refine va_sld hx hb hX hbl hbA h.2.2 (in_s (k := 1) rfl (by omega) hL) dL_law_707 ?_
  refine lv_aload_n hx hb dL_law_708 rfl (lv_at hl 3 rfl) ?_
  refine lv_iload_n hx hb dL_law_709 rfl (lv_at hl 0 rfl) ?_
  refine lv_iconst (v := (2 : Int32)) hx hb dL_law_710 (by decide) ?_
  refine lv_iadd hx hb dL_law_711 ?_
  refine va_sld hx hb hX hbl hbA h.2.2 (in_s (k := 2) rfl (by omega) hL) dL_law_712 ?_
  refine r_cv_9 (rest := [.int r]) C h M9 (rfl : Kd 29 = 9) gF_X9_can rfl ⟨rfl, rfl⟩ hdX9_can ⟨Nat.le_of_ble_eq_true rfl, Nat.le_of_ble_eq_true rfl⟩ hcs hl.1 rfl (Nat.le_of_ble_eq_true rfl) dL_law_713 (fun H locs h => ?_)
  refine lv_icmp_eq (tgt := 1285) hx hb dL_law_716 (by decide) (fun _ => ?_) (fun q => absurd rfl q)
  exact kk σ2 ℓ2 H locs h I2
set_option maxHeartbeats 4000000 in
set_option maxRecDepth 100000 in
theorem cs_odds (C : Cx cL_law 4 rt lwF RL E p s m args meth c) (hX : va_X b L xs s s.heap) (hbl : b < s.heap.size) (hbA : ¬ AA E s.heap.size b) (h : HI E σ ℓ s H locs) (I : INV σ ℓ) {i : Nat} (hi : i + 6 ≤ L) (hL : L ≤ 3072) (hcs : cells ≤ room_1.cells ∧ slots ≤ room_1.slots) (hl : lv_has ls 4 [(3, .int (nI i)), (2, .ref (Ea E 29 0)), (1, .ref (Ea E 0 0)), (0, .ref b)]) (kk : ∀ (σ2 : Ms) (ℓ2 : Mz) (H1 : Heap) (locs1 : List Loc), HI E σ2 ℓ2 s H1 locs1 → INV σ2 ℓ2 → W p l e room_1 s m args below meth c H1 locs1 cells slots Q (F0 m 1285 ls [])) : W p l e room_1 s m args below meth c H locs cells slots Q (F0 m 721 ls []) := by
  obtain ⟨hx, hb, -, hml, hown, hts, -, hK, -⟩ := id C
  obtain ⟨r, σ1, ℓ1, σ2, ℓ2, M8, M9, I2⟩ := L_odds (l := l) (E := E) I (xs (nI i + 1).toNatClampNeg) (xs (nI i + 2).toNatClampNeg)
  refine lv_aload_n hx hb dL_law_721 rfl (lv_at hl 2 rfl) ?_
  refine lv_aload_n hx hb dL_law_722 rfl (lv_at hl 3 rfl) ?_
  refine lv_iload_n hx hb dL_law_723 rfl (lv_at hl 0 rfl) ?_
  refine lv_iconst (v := (1 : Int32)) hx hb dL_law_724 (by decide) ?_
  refine lv_iadd hx hb dL_law_725 ?_
  refine va_sld hx hb hX hbl hbA h.2.2 (in_s (k := 1) rfl (by omega) hL) dL_law_726 ?_
  refine lv_aload_n hx hb dL_law_727 rfl (lv_at hl 3 rfl) ?_
  refine lv_iload_n hx hb dL_law_728 rfl (lv_at hl 0 rfl) ?_
  refine lv_iconst (v := (2 : Int32)) hx hb dL_law_729 (by decide) ?_
  refine lv_iadd hx hb dL_law_730 ?_
  refine va_sld hx hb hX hbl hbA h.2.2 (in_s (k := 2) rfl (by omega) hL) dL_law_731 ?_
  refine r_cv_8 (rest := []) C h M8 (rfl : Kd 0 = 8) gF_X8_odds rfl ⟨rfl, rfl⟩ hdX8_odds ⟨Nat.le_of_ble_eq_true rfl, Nat.le_of_ble_eq_true rfl⟩ hcs hl.1 rfl (Nat.le_of_ble_eq_true rfl) dL_law_732 (fun H locs h => ?_)
  refine lv_aload_n hx hb dL_law_735 rfl (lv_at hl 1 rfl) ?_
  refine lv_aload_n hx hb dL_law_736 rfl (lv_at hl 3 rfl) ?_
  refine lv_iload_n hx hb dL_law_737 rfl (lv_at hl 0 rfl) ?_
  refine lv_iconst (v := (1 : Int32)) hx hb dL_law_738 (by decide) ?_
  refine lv_iadd hx hb dL_law_739 ?_
  refine va_sld hx hb hX hbl hbA h.2.2 (in_s (k := 1) rfl (by omega) hL) dL_law_740 ?_
  refine lv_aload_n hx hb dL_law_741 rfl (lv_at hl 3 rfl) ?_
  refine lv_iload_n hx hb dL_law_742 rfl (lv_at hl 0 rfl) ?_
  refine lv_iconst (v := (2 : Int32)) hx hb dL_law_743 (by decide) ?_
  refine lv_iadd hx hb dL_law_744 ?_
  refine va_sld hx hb hX hbl hbA h.2.2 (in_s (k := 2) rfl (by omega) hL) dL_law_745 ?_
  refine r_cv_9 (rest := [.long r]) C h M9 (rfl : Kd 29 = 9) gF_X9_odds rfl ⟨rfl, rfl⟩ hdX9_odds ⟨Nat.le_of_ble_eq_true rfl, Nat.le_of_ble_eq_true rfl⟩ hcs hl.1 rfl (Nat.le_of_ble_eq_true rfl) dL_law_746 (fun H locs h => ?_)
  refine W.lcmp hx hb dL_law_749 ?_
  refine lv_if_eq (tgt := 1285) hx hb dL_law_750 (by decide) (fun _ => ?_) (fun q => absurd ((lg_cmp_eq r r).mpr rfl) q)
  exact kk σ2 ℓ2 H locs h I2
set_option maxHeartbeats 4000000 in
set_option maxRecDepth 100000 in
theorem cs_mean (C : Cx cL_law 4 rt lwF RL E p s m args meth c) (hX : va_X b L xs s s.heap) (hbl : b < s.heap.size) (hbA : ¬ AA E s.heap.size b) (h : HI E σ ℓ s H locs) (I : INV σ ℓ) {i : Nat} (hi : i + 6 ≤ L) (hL : L ≤ 3072) (hcs : cells ≤ room_1.cells ∧ slots ≤ room_1.slots) (hl : lv_has ls 4 [(3, .int (nI i)), (2, .ref (Ea E 29 0)), (1, .ref (Ea E 0 0)), (0, .ref b)]) (kk : ∀ (σ2 : Ms) (ℓ2 : Mz) (H1 : Heap) (locs1 : List Loc), HI E σ2 ℓ2 s H1 locs1 → INV σ2 ℓ2 → W p l e room_1 s m args below meth c H1 locs1 cells slots Q (F0 m 1285 ls [])) : W p l e room_1 s m args below meth c H locs cells slots Q (F0 m 755 ls []) := by
  obtain ⟨hx, hb, -, hml, hown, hts, -, hK, -⟩ := id C
  obtain ⟨r, σ1, ℓ1, σ2, ℓ2, M8, M9, I2⟩ := L_mean (l := l) (E := E) I (xs (nI i + 1).toNatClampNeg) (xs (nI i + 2).toNatClampNeg)
  refine lv_aload_n hx hb dL_law_755 rfl (lv_at hl 2 rfl) ?_
  refine lv_aload_n hx hb dL_law_756 rfl (lv_at hl 3 rfl) ?_
  refine lv_iload_n hx hb dL_law_757 rfl (lv_at hl 0 rfl) ?_
  refine lv_iconst (v := (1 : Int32)) hx hb dL_law_758 (by decide) ?_
  refine lv_iadd hx hb dL_law_759 ?_
  refine va_sld hx hb hX hbl hbA h.2.2 (in_s (k := 1) rfl (by omega) hL) dL_law_760 ?_
  refine lv_aload_n hx hb dL_law_761 rfl (lv_at hl 3 rfl) ?_
  refine lv_iload_n hx hb dL_law_762 rfl (lv_at hl 0 rfl) ?_
  refine lv_iconst (v := (2 : Int32)) hx hb dL_law_763 (by decide) ?_
  refine lv_iadd hx hb dL_law_764 ?_
  refine va_sld hx hb hX hbl hbA h.2.2 (in_s (k := 2) rfl (by omega) hL) dL_law_765 ?_
  refine r_cv_8 (rest := []) C h M8 (rfl : Kd 0 = 8) gF_X8_mean rfl ⟨rfl, rfl⟩ hdX8_mean ⟨Nat.le_of_ble_eq_true rfl, Nat.le_of_ble_eq_true rfl⟩ hcs hl.1 rfl (Nat.le_of_ble_eq_true rfl) dL_law_766 (fun H locs h => ?_)
  refine lv_aload_n hx hb dL_law_769 rfl (lv_at hl 1 rfl) ?_
  refine lv_aload_n hx hb dL_law_770 rfl (lv_at hl 3 rfl) ?_
  refine lv_iload_n hx hb dL_law_771 rfl (lv_at hl 0 rfl) ?_
  refine lv_iconst (v := (1 : Int32)) hx hb dL_law_772 (by decide) ?_
  refine lv_iadd hx hb dL_law_773 ?_
  refine va_sld hx hb hX hbl hbA h.2.2 (in_s (k := 1) rfl (by omega) hL) dL_law_774 ?_
  refine lv_aload_n hx hb dL_law_775 rfl (lv_at hl 3 rfl) ?_
  refine lv_iload_n hx hb dL_law_776 rfl (lv_at hl 0 rfl) ?_
  refine lv_iconst (v := (2 : Int32)) hx hb dL_law_777 (by decide) ?_
  refine lv_iadd hx hb dL_law_778 ?_
  refine va_sld hx hb hX hbl hbA h.2.2 (in_s (k := 2) rfl (by omega) hL) dL_law_779 ?_
  refine r_cv_9 (rest := [.long r]) C h M9 (rfl : Kd 29 = 9) gF_X9_mean rfl ⟨rfl, rfl⟩ hdX9_mean ⟨Nat.le_of_ble_eq_true rfl, Nat.le_of_ble_eq_true rfl⟩ hcs hl.1 rfl (Nat.le_of_ble_eq_true rfl) dL_law_780 (fun H locs h => ?_)
  refine W.lcmp hx hb dL_law_783 ?_
  refine lv_if_eq (tgt := 1285) hx hb dL_law_784 (by decide) (fun _ => ?_) (fun q => absurd ((lg_cmp_eq r r).mpr rfl) q)
  exact kk σ2 ℓ2 H locs h I2
set_option maxHeartbeats 4000000 in
set_option maxRecDepth 100000 in
theorem cs_plan (C : Cx cL_law 4 rt lwF RL E p s m args meth c) (hX : va_X b L xs s s.heap) (hbl : b < s.heap.size) (hbA : ¬ AA E s.heap.size b) (h : HI E σ ℓ s H locs) (I : INV σ ℓ) {i : Nat} (hi : i + 6 ≤ L) (hL : L ≤ 3072) (hcs : cells ≤ room_1.cells ∧ slots ≤ room_1.slots) (hl : lv_has ls 4 [(3, .int (nI i)), (2, .ref (Ea E 29 0)), (1, .ref (Ea E 0 0)), (0, .ref b)]) (kk : ∀ (σ2 : Ms) (ℓ2 : Mz) (H1 : Heap) (locs1 : List Loc), HI E σ2 ℓ2 s H1 locs1 → INV σ2 ℓ2 → W p l e room_1 s m args below meth c H1 locs1 cells slots Q (F0 m 1285 ls [])) : W p l e room_1 s m args below meth c H locs cells slots Q (F0 m 789 ls []) := by
  obtain ⟨hx, hb, -, hml, hown, hts, -, hK, -⟩ := id C
  obtain ⟨r, σ1, ℓ1, σ2, ℓ2, M8, M9, I2⟩ := L_plan (l := l) (E := E) I (xs (nI i + 1).toNatClampNeg) (xs (nI i + 2).toNatClampNeg)
  refine lv_aload_n hx hb dL_law_789 rfl (lv_at hl 2 rfl) ?_
  refine lv_aload_n hx hb dL_law_790 rfl (lv_at hl 3 rfl) ?_
  refine lv_iload_n hx hb dL_law_791 rfl (lv_at hl 0 rfl) ?_
  refine lv_iconst (v := (1 : Int32)) hx hb dL_law_792 (by decide) ?_
  refine lv_iadd hx hb dL_law_793 ?_
  refine va_sld hx hb hX hbl hbA h.2.2 (in_s (k := 1) rfl (by omega) hL) dL_law_794 ?_
  refine lv_aload_n hx hb dL_law_795 rfl (lv_at hl 3 rfl) ?_
  refine lv_iload_n hx hb dL_law_796 rfl (lv_at hl 0 rfl) ?_
  refine lv_iconst (v := (2 : Int32)) hx hb dL_law_797 (by decide) ?_
  refine lv_iadd hx hb dL_law_798 ?_
  refine va_sld hx hb hX hbl hbA h.2.2 (in_s (k := 2) rfl (by omega) hL) dL_law_799 ?_
  refine r_cv_8 (rest := []) C h M8 (rfl : Kd 0 = 8) gF_X8_plan rfl ⟨rfl, rfl⟩ hdX8_plan ⟨Nat.le_of_ble_eq_true rfl, Nat.le_of_ble_eq_true rfl⟩ hcs hl.1 rfl (Nat.le_of_ble_eq_true rfl) dL_law_800 (fun H locs h => ?_)
  refine lv_aload_n hx hb dL_law_803 rfl (lv_at hl 1 rfl) ?_
  refine lv_aload_n hx hb dL_law_804 rfl (lv_at hl 3 rfl) ?_
  refine lv_iload_n hx hb dL_law_805 rfl (lv_at hl 0 rfl) ?_
  refine lv_iconst (v := (1 : Int32)) hx hb dL_law_806 (by decide) ?_
  refine lv_iadd hx hb dL_law_807 ?_
  refine va_sld hx hb hX hbl hbA h.2.2 (in_s (k := 1) rfl (by omega) hL) dL_law_808 ?_
  refine lv_aload_n hx hb dL_law_809 rfl (lv_at hl 3 rfl) ?_
  refine lv_iload_n hx hb dL_law_810 rfl (lv_at hl 0 rfl) ?_
  refine lv_iconst (v := (2 : Int32)) hx hb dL_law_811 (by decide) ?_
  refine lv_iadd hx hb dL_law_812 ?_
  refine va_sld hx hb hX hbl hbA h.2.2 (in_s (k := 2) rfl (by omega) hL) dL_law_813 ?_
  refine r_cv_9 (rest := [.int r]) C h M9 (rfl : Kd 29 = 9) gF_X9_plan rfl ⟨rfl, rfl⟩ hdX9_plan ⟨Nat.le_of_ble_eq_true rfl, Nat.le_of_ble_eq_true rfl⟩ hcs hl.1 rfl (Nat.le_of_ble_eq_true rfl) dL_law_814 (fun H locs h => ?_)
  refine lv_icmp_eq (tgt := 1285) hx hb dL_law_817 (by decide) (fun _ => ?_) (fun q => absurd rfl q)
  exact kk σ2 ℓ2 H locs h I2
set_option maxHeartbeats 4000000 in
set_option maxRecDepth 100000 in
theorem cs_ends (C : Cx cL_law 4 rt lwF RL E p s m args meth c) (hX : va_X b L xs s s.heap) (hbl : b < s.heap.size) (hbA : ¬ AA E s.heap.size b) (h : HI E σ ℓ s H locs) (I : INV σ ℓ) {i : Nat} (hi : i + 6 ≤ L) (hL : L ≤ 3072) (hcs : cells ≤ room_1.cells ∧ slots ≤ room_1.slots) (hl : lv_has ls 4 [(3, .int (nI i)), (2, .ref (Ea E 29 0)), (1, .ref (Ea E 0 0)), (0, .ref b)]) (kk : ∀ (σ2 : Ms) (ℓ2 : Mz) (H1 : Heap) (locs1 : List Loc), HI E σ2 ℓ2 s H1 locs1 → INV σ2 ℓ2 → W p l e room_1 s m args below meth c H1 locs1 cells slots Q (F0 m 1285 ls [])) : W p l e room_1 s m args below meth c H locs cells slots Q (F0 m 822 ls []) := by
  obtain ⟨hx, hb, -, hml, hown, hts, -, hK, -⟩ := id C
  obtain ⟨r, σ1, ℓ1, σ2, ℓ2, M8, M9, I2⟩ := L_ends (l := l) (E := E) I (xs (nI i + 1).toNatClampNeg)
  refine lv_aload_n hx hb dL_law_822 rfl (lv_at hl 2 rfl) ?_
  refine lv_aload_n hx hb dL_law_823 rfl (lv_at hl 3 rfl) ?_
  refine lv_iload_n hx hb dL_law_824 rfl (lv_at hl 0 rfl) ?_
  refine lv_iconst (v := (1 : Int32)) hx hb dL_law_825 (by decide) ?_
  refine lv_iadd hx hb dL_law_826 ?_
  refine va_sld hx hb hX hbl hbA h.2.2 (in_s (k := 1) rfl (by omega) hL) dL_law_827 ?_
  refine r_cv_8 (rest := []) C h M8 (rfl : Kd 0 = 8) gF_X8_ends rfl ⟨rfl, rfl⟩ hdX8_ends ⟨Nat.le_of_ble_eq_true rfl, Nat.le_of_ble_eq_true rfl⟩ hcs hl.1 rfl (Nat.le_of_ble_eq_true rfl) dL_law_828 (fun H locs h => ?_)
  refine lv_aload_n hx hb dL_law_831 rfl (lv_at hl 1 rfl) ?_
  refine lv_aload_n hx hb dL_law_832 rfl (lv_at hl 3 rfl) ?_
  refine lv_iload_n hx hb dL_law_833 rfl (lv_at hl 0 rfl) ?_
  refine lv_iconst (v := (1 : Int32)) hx hb dL_law_834 (by decide) ?_
  refine lv_iadd hx hb dL_law_835 ?_
  refine va_sld hx hb hX hbl hbA h.2.2 (in_s (k := 1) rfl (by omega) hL) dL_law_836 ?_
  refine r_cv_9 (rest := [.int r]) C h M9 (rfl : Kd 29 = 9) gF_X9_ends rfl ⟨rfl, rfl⟩ hdX9_ends ⟨Nat.le_of_ble_eq_true rfl, Nat.le_of_ble_eq_true rfl⟩ hcs hl.1 rfl (Nat.le_of_ble_eq_true rfl) dL_law_837 (fun H locs h => ?_)
  refine lv_icmp_eq (tgt := 1285) hx hb dL_law_840 (by decide) (fun _ => ?_) (fun q => absurd rfl q)
  exact kk σ2 ℓ2 H locs h I2
set_option maxHeartbeats 4000000 in
set_option maxRecDepth 100000 in
theorem cs_book (C : Cx cL_law 4 rt lwF RL E p s m args meth c) (hX : va_X b L xs s s.heap) (hbl : b < s.heap.size) (hbA : ¬ AA E s.heap.size b) (h : HI E σ ℓ s H locs) (I : INV σ ℓ) {i : Nat} (hi : i + 6 ≤ L) (hL : L ≤ 3072) (hcs : cells ≤ room_1.cells ∧ slots ≤ room_1.slots) (hl : lv_has ls 4 [(3, .int (nI i)), (2, .ref (Ea E 29 0)), (1, .ref (Ea E 0 0)), (0, .ref b)]) (kk : ∀ (σ2 : Ms) (ℓ2 : Mz) (H1 : Heap) (locs1 : List Loc), HI E σ2 ℓ2 s H1 locs1 → INV σ2 ℓ2 → W p l e room_1 s m args below meth c H1 locs1 cells slots Q (F0 m 1285 ls [])) : W p l e room_1 s m args below meth c H locs cells slots Q (F0 m 845 ls []) := by
  obtain ⟨hx, hb, -, hml, hown, hts, -, hK, -⟩ := id C
  obtain ⟨r, σ1, ℓ1, σ2, ℓ2, M8, M9, I2⟩ := L_book (l := l) (E := E) I (xs (nI i + 1).toNatClampNeg) (xs (nI i + 2).toNatClampNeg)
  refine lv_aload_n hx hb dL_law_845 rfl (lv_at hl 2 rfl) ?_
  refine lv_aload_n hx hb dL_law_846 rfl (lv_at hl 3 rfl) ?_
  refine lv_iload_n hx hb dL_law_847 rfl (lv_at hl 0 rfl) ?_
  refine lv_iconst (v := (1 : Int32)) hx hb dL_law_848 (by decide) ?_
  refine lv_iadd hx hb dL_law_849 ?_
  refine va_sld hx hb hX hbl hbA h.2.2 (in_s (k := 1) rfl (by omega) hL) dL_law_850 ?_
  refine lv_aload_n hx hb dL_law_851 rfl (lv_at hl 3 rfl) ?_
  refine lv_iload_n hx hb dL_law_852 rfl (lv_at hl 0 rfl) ?_
  refine lv_iconst (v := (2 : Int32)) hx hb dL_law_853 (by decide) ?_
  refine lv_iadd hx hb dL_law_854 ?_
  refine va_sld hx hb hX hbl hbA h.2.2 (in_s (k := 2) rfl (by omega) hL) dL_law_855 ?_
  refine r_cv_8 (rest := []) C h M8 (rfl : Kd 0 = 8) gF_X8_book rfl ⟨rfl, rfl⟩ hdX8_book ⟨Nat.le_of_ble_eq_true rfl, Nat.le_of_ble_eq_true rfl⟩ hcs hl.1 rfl (Nat.le_of_ble_eq_true rfl) dL_law_856 (fun H locs h => ?_)
  refine lv_aload_n hx hb dL_law_859 rfl (lv_at hl 1 rfl) ?_
  refine lv_aload_n hx hb dL_law_860 rfl (lv_at hl 3 rfl) ?_
  refine lv_iload_n hx hb dL_law_861 rfl (lv_at hl 0 rfl) ?_
  refine lv_iconst (v := (1 : Int32)) hx hb dL_law_862 (by decide) ?_
  refine lv_iadd hx hb dL_law_863 ?_
  refine va_sld hx hb hX hbl hbA h.2.2 (in_s (k := 1) rfl (by omega) hL) dL_law_864 ?_
  refine lv_aload_n hx hb dL_law_865 rfl (lv_at hl 3 rfl) ?_
  refine lv_iload_n hx hb dL_law_866 rfl (lv_at hl 0 rfl) ?_
  refine lv_iconst (v := (2 : Int32)) hx hb dL_law_867 (by decide) ?_
  refine lv_iadd hx hb dL_law_868 ?_
  refine va_sld hx hb hX hbl hbA h.2.2 (in_s (k := 2) rfl (by omega) hL) dL_law_869 ?_
  refine r_cv_9 (rest := [.int r]) C h M9 (rfl : Kd 29 = 9) gF_X9_book rfl ⟨rfl, rfl⟩ hdX9_book ⟨Nat.le_of_ble_eq_true rfl, Nat.le_of_ble_eq_true rfl⟩ hcs hl.1 rfl (Nat.le_of_ble_eq_true rfl) dL_law_870 (fun H locs h => ?_)
  refine lv_icmp_eq (tgt := 1285) hx hb dL_law_873 (by decide) (fun _ => ?_) (fun q => absurd rfl q)
  exact kk σ2 ℓ2 H locs h I2
set_option maxHeartbeats 4000000 in
set_option maxRecDepth 100000 in
theorem cs_looked (C : Cx cL_law 4 rt lwF RL E p s m args meth c) (hX : va_X b L xs s s.heap) (hbl : b < s.heap.size) (hbA : ¬ AA E s.heap.size b) (h : HI E σ ℓ s H locs) (I : INV σ ℓ) {i : Nat} (hi : i + 6 ≤ L) (hL : L ≤ 3072) (hcs : cells ≤ room_1.cells ∧ slots ≤ room_1.slots) (hl : lv_has ls 4 [(3, .int (nI i)), (2, .ref (Ea E 29 0)), (1, .ref (Ea E 0 0)), (0, .ref b)]) (kk : ∀ (σ2 : Ms) (ℓ2 : Mz) (H1 : Heap) (locs1 : List Loc), HI E σ2 ℓ2 s H1 locs1 → INV σ2 ℓ2 → W p l e room_1 s m args below meth c H1 locs1 cells slots Q (F0 m 1285 ls [])) : W p l e room_1 s m args below meth c H locs cells slots Q (F0 m 878 ls []) := by
  obtain ⟨hx, hb, -, hml, hown, hts, -, hK, -⟩ := id C
  obtain ⟨r, σ1, ℓ1, σ2, ℓ2, M8, M9, I2⟩ := L_looked (l := l) (E := E) I 
  refine lv_aload_n hx hb dL_law_878 rfl (lv_at hl 2 rfl) ?_
  refine r_cv_8 (rest := []) C h M8 (rfl : Kd 0 = 8) gF_X8_looked rfl ⟨rfl, rfl⟩ hdX8_looked ⟨Nat.le_of_ble_eq_true rfl, Nat.le_of_ble_eq_true rfl⟩ hcs hl.1 rfl (Nat.le_of_ble_eq_true rfl) dL_law_879 (fun H locs h => ?_)
  refine lv_aload_n hx hb dL_law_882 rfl (lv_at hl 1 rfl) ?_
  refine r_cv_9 (rest := [.int r]) C h M9 (rfl : Kd 29 = 9) gF_X9_looked rfl ⟨rfl, rfl⟩ hdX9_looked ⟨Nat.le_of_ble_eq_true rfl, Nat.le_of_ble_eq_true rfl⟩ hcs hl.1 rfl (Nat.le_of_ble_eq_true rfl) dL_law_883 (fun H locs h => ?_)
  refine lv_icmp_eq (tgt := 1285) hx hb dL_law_886 (by decide) (fun _ => ?_) (fun q => absurd rfl q)
  exact kk σ2 ℓ2 H locs h I2
set_option maxHeartbeats 4000000 in
set_option maxRecDepth 100000 in
theorem cs_judge (C : Cx cL_law 4 rt lwF RL E p s m args meth c) (hX : va_X b L xs s s.heap) (hbl : b < s.heap.size) (hbA : ¬ AA E s.heap.size b) (h : HI E σ ℓ s H locs) (I : INV σ ℓ) {i : Nat} (hi : i + 6 ≤ L) (hL : L ≤ 3072) (hcs : cells ≤ room_1.cells ∧ slots ≤ room_1.slots) (hl : lv_has ls 4 [(3, .int (nI i)), (2, .ref (Ea E 29 0)), (1, .ref (Ea E 0 0)), (0, .ref b)]) (kk : ∀ (σ2 : Ms) (ℓ2 : Mz) (H1 : Heap) (locs1 : List Loc), HI E σ2 ℓ2 s H1 locs1 → INV σ2 ℓ2 → W p l e room_1 s m args below meth c H1 locs1 cells slots Q (F0 m 1285 ls [])) : W p l e room_1 s m args below meth c H locs cells slots Q (F0 m 891 ls []) := by
  obtain ⟨hx, hb, -, hml, hown, hts, -, hK, -⟩ := id C
  obtain ⟨r, σ1, ℓ1, σ2, ℓ2, M8, M9, I2⟩ := L_judge (l := l) (E := E) I (xs (nI i + 1).toNatClampNeg) (xs (nI i + 2).toNatClampNeg)
  refine lv_aload_n hx hb dL_law_891 rfl (lv_at hl 2 rfl) ?_
  refine lv_aload_n hx hb dL_law_892 rfl (lv_at hl 3 rfl) ?_
  refine lv_iload_n hx hb dL_law_893 rfl (lv_at hl 0 rfl) ?_
  refine lv_iconst (v := (1 : Int32)) hx hb dL_law_894 (by decide) ?_
  refine lv_iadd hx hb dL_law_895 ?_
  refine va_sld hx hb hX hbl hbA h.2.2 (in_s (k := 1) rfl (by omega) hL) dL_law_896 ?_
  refine lv_aload_n hx hb dL_law_897 rfl (lv_at hl 3 rfl) ?_
  refine lv_iload_n hx hb dL_law_898 rfl (lv_at hl 0 rfl) ?_
  refine lv_iconst (v := (2 : Int32)) hx hb dL_law_899 (by decide) ?_
  refine lv_iadd hx hb dL_law_900 ?_
  refine va_sld hx hb hX hbl hbA h.2.2 (in_s (k := 2) rfl (by omega) hL) dL_law_901 ?_
  refine r_cv_8 (rest := []) C h M8 (rfl : Kd 0 = 8) gF_X8_judge rfl ⟨rfl, rfl⟩ hdX8_judge ⟨Nat.le_of_ble_eq_true rfl, Nat.le_of_ble_eq_true rfl⟩ hcs hl.1 rfl (Nat.le_of_ble_eq_true rfl) dL_law_902 (fun H locs h => ?_)
  refine lv_aload_n hx hb dL_law_905 rfl (lv_at hl 1 rfl) ?_
  refine lv_aload_n hx hb dL_law_906 rfl (lv_at hl 3 rfl) ?_
  refine lv_iload_n hx hb dL_law_907 rfl (lv_at hl 0 rfl) ?_
  refine lv_iconst (v := (1 : Int32)) hx hb dL_law_908 (by decide) ?_
  refine lv_iadd hx hb dL_law_909 ?_
  refine va_sld hx hb hX hbl hbA h.2.2 (in_s (k := 1) rfl (by omega) hL) dL_law_910 ?_
  refine lv_aload_n hx hb dL_law_911 rfl (lv_at hl 3 rfl) ?_
  refine lv_iload_n hx hb dL_law_912 rfl (lv_at hl 0 rfl) ?_
  refine lv_iconst (v := (2 : Int32)) hx hb dL_law_913 (by decide) ?_
  refine lv_iadd hx hb dL_law_914 ?_
  refine va_sld hx hb hX hbl hbA h.2.2 (in_s (k := 2) rfl (by omega) hL) dL_law_915 ?_
  refine r_cv_9 (rest := [.int r]) C h M9 (rfl : Kd 29 = 9) gF_X9_judge rfl ⟨rfl, rfl⟩ hdX9_judge ⟨Nat.le_of_ble_eq_true rfl, Nat.le_of_ble_eq_true rfl⟩ hcs hl.1 rfl (Nat.le_of_ble_eq_true rfl) dL_law_916 (fun H locs h => ?_)
  refine lv_icmp_eq (tgt := 1285) hx hb dL_law_919 (by decide) (fun _ => ?_) (fun q => absurd rfl q)
  exact kk σ2 ℓ2 H locs h I2
set_option maxHeartbeats 4000000 in
set_option maxRecDepth 100000 in
theorem cs_image (C : Cx cL_law 4 rt lwF RL E p s m args meth c) (hX : va_X b L xs s s.heap) (hbl : b < s.heap.size) (hbA : ¬ AA E s.heap.size b) (h : HI E σ ℓ s H locs) (I : INV σ ℓ) {i : Nat} (hi : i + 6 ≤ L) (hL : L ≤ 3072) (hcs : cells ≤ room_1.cells ∧ slots ≤ room_1.slots) (hl : lv_has ls 4 [(3, .int (nI i)), (2, .ref (Ea E 29 0)), (1, .ref (Ea E 0 0)), (0, .ref b)]) (kk : ∀ (σ2 : Ms) (ℓ2 : Mz) (H1 : Heap) (locs1 : List Loc), HI E σ2 ℓ2 s H1 locs1 → INV σ2 ℓ2 → W p l e room_1 s m args below meth c H1 locs1 cells slots Q (F0 m 1285 ls [])) : W p l e room_1 s m args below meth c H locs cells slots Q (F0 m 924 ls []) := by
  obtain ⟨hx, hb, -, hml, hown, hts, -, hK, -⟩ := id C
  obtain ⟨r, σ1, ℓ1, σ2, ℓ2, M8, M9, I2⟩ := L_image (l := l) (E := E) I 
  refine lv_aload_n hx hb dL_law_924 rfl (lv_at hl 2 rfl) ?_
  refine r_cv_8 (rest := []) C h M8 (rfl : Kd 0 = 8) gF_X8_image rfl ⟨rfl, rfl⟩ hdX8_image ⟨Nat.le_of_ble_eq_true rfl, Nat.le_of_ble_eq_true rfl⟩ hcs hl.1 rfl (Nat.le_of_ble_eq_true rfl) dL_law_925 (fun H locs h => ?_)
  refine lv_aload_n hx hb dL_law_928 rfl (lv_at hl 1 rfl) ?_
  refine r_cv_9 (rest := [.int r]) C h M9 (rfl : Kd 29 = 9) gF_X9_image rfl ⟨rfl, rfl⟩ hdX9_image ⟨Nat.le_of_ble_eq_true rfl, Nat.le_of_ble_eq_true rfl⟩ hcs hl.1 rfl (Nat.le_of_ble_eq_true rfl) dL_law_929 (fun H locs h => ?_)
  refine lv_icmp_eq (tgt := 1285) hx hb dL_law_932 (by decide) (fun _ => ?_) (fun q => absurd rfl q)
  exact kk σ2 ℓ2 H locs h I2
set_option maxHeartbeats 4000000 in
set_option maxRecDepth 100000 in
theorem cs_undo (C : Cx cL_law 4 rt lwF RL E p s m args meth c) (hX : va_X b L xs s s.heap) (hbl : b < s.heap.size) (hbA : ¬ AA E s.heap.size b) (h : HI E σ ℓ s H locs) (I : INV σ ℓ) {i : Nat} (hi : i + 6 ≤ L) (hL : L ≤ 3072) (hcs : cells ≤ room_1.cells ∧ slots ≤ room_1.slots) (hl : lv_has ls 4 [(3, .int (nI i)), (2, .ref (Ea E 29 0)), (1, .ref (Ea E 0 0)), (0, .ref b)]) (kk : ∀ (σ2 : Ms) (ℓ2 : Mz) (H1 : Heap) (locs1 : List Loc), HI E σ2 ℓ2 s H1 locs1 → INV σ2 ℓ2 → W p l e room_1 s m args below meth c H1 locs1 cells slots Q (F0 m 1285 ls [])) : W p l e room_1 s m args below meth c H locs cells slots Q (F0 m 937 ls []) := by
  obtain ⟨hx, hb, -, hml, hown, hts, -, hK, -⟩ := id C
  obtain ⟨r, σ1, ℓ1, σ2, ℓ2, M8, M9, I2⟩ := L_undo (l := l) (E := E) I 
  refine lv_aload_n hx hb dL_law_937 rfl (lv_at hl 2 rfl) ?_
  refine r_cv_8 (rest := []) C h M8 (rfl : Kd 0 = 8) gF_X8_undo rfl ⟨rfl, rfl⟩ hdX8_undo ⟨Nat.le_of_ble_eq_true rfl, Nat.le_of_ble_eq_true rfl⟩ hcs hl.1 rfl (Nat.le_of_ble_eq_true rfl) dL_law_938 (fun H locs h => ?_)
  refine lv_aload_n hx hb dL_law_941 rfl (lv_at hl 1 rfl) ?_
  refine r_cv_9 (rest := [.int r]) C h M9 (rfl : Kd 29 = 9) gF_X9_undo rfl ⟨rfl, rfl⟩ hdX9_undo ⟨Nat.le_of_ble_eq_true rfl, Nat.le_of_ble_eq_true rfl⟩ hcs hl.1 rfl (Nat.le_of_ble_eq_true rfl) dL_law_942 (fun H locs h => ?_)
  refine lv_icmp_eq (tgt := 1285) hx hb dL_law_945 (by decide) (fun _ => ?_) (fun q => absurd rfl q)
  exact kk σ2 ℓ2 H locs h I2
set_option maxHeartbeats 4000000 in
set_option maxRecDepth 100000 in
theorem cs_act (C : Cx cL_law 4 rt lwF RL E p s m args meth c) (hX : va_X b L xs s s.heap) (hbl : b < s.heap.size) (hbA : ¬ AA E s.heap.size b) (h : HI E σ ℓ s H locs) (I : INV σ ℓ) {i : Nat} (hi : i + 6 ≤ L) (hL : L ≤ 3072) (hcs : cells ≤ room_1.cells ∧ slots ≤ room_1.slots) (hl : lv_has ls 4 [(3, .int (nI i)), (2, .ref (Ea E 29 0)), (1, .ref (Ea E 0 0)), (0, .ref b)]) (kk : ∀ (σ2 : Ms) (ℓ2 : Mz) (H1 : Heap) (locs1 : List Loc), HI E σ2 ℓ2 s H1 locs1 → INV σ2 ℓ2 → W p l e room_1 s m args below meth c H1 locs1 cells slots Q (F0 m 1285 ls [])) : W p l e room_1 s m args below meth c H locs cells slots Q (F0 m 950 ls []) := by
  obtain ⟨hx, hb, -, hml, hown, hts, -, hK, -⟩ := id C
  obtain ⟨r, σ1, ℓ1, σ2, ℓ2, M8, M9, I2⟩ := L_act (l := l) (E := E) I (xs (nI i + 1).toNatClampNeg) (xs (nI i + 2).toNatClampNeg) (xs (nI i + 3).toNatClampNeg)
  refine lv_aload_n hx hb dL_law_950 rfl (lv_at hl 2 rfl) ?_
  refine lv_aload_n hx hb dL_law_951 rfl (lv_at hl 3 rfl) ?_
  refine lv_iload_n hx hb dL_law_952 rfl (lv_at hl 0 rfl) ?_
  refine lv_iconst (v := (1 : Int32)) hx hb dL_law_953 (by decide) ?_
  refine lv_iadd hx hb dL_law_954 ?_
  refine va_sld hx hb hX hbl hbA h.2.2 (in_s (k := 1) rfl (by omega) hL) dL_law_955 ?_
  refine lv_aload_n hx hb dL_law_956 rfl (lv_at hl 3 rfl) ?_
  refine lv_iload_n hx hb dL_law_957 rfl (lv_at hl 0 rfl) ?_
  refine lv_iconst (v := (2 : Int32)) hx hb dL_law_958 (by decide) ?_
  refine lv_iadd hx hb dL_law_959 ?_
  refine va_sld hx hb hX hbl hbA h.2.2 (in_s (k := 2) rfl (by omega) hL) dL_law_960 ?_
  refine lv_aload_n hx hb dL_law_961 rfl (lv_at hl 3 rfl) ?_
  refine lv_iload_n hx hb dL_law_962 rfl (lv_at hl 0 rfl) ?_
  refine lv_iconst (v := (3 : Int32)) hx hb dL_law_963 (by decide) ?_
  refine lv_iadd hx hb dL_law_964 ?_
  refine va_sld hx hb hX hbl hbA h.2.2 (in_s (k := 3) rfl (by omega) hL) dL_law_965 ?_
  refine r_cv_8 (rest := []) C h M8 (rfl : Kd 0 = 8) gF_X8_act rfl ⟨rfl, rfl⟩ hdX8_act ⟨Nat.le_of_ble_eq_true rfl, Nat.le_of_ble_eq_true rfl⟩ hcs hl.1 rfl (Nat.le_of_ble_eq_true rfl) dL_law_966 (fun H locs h => ?_)
  refine lv_aload_n hx hb dL_law_969 rfl (lv_at hl 1 rfl) ?_
  refine lv_aload_n hx hb dL_law_970 rfl (lv_at hl 3 rfl) ?_
  refine lv_iload_n hx hb dL_law_971 rfl (lv_at hl 0 rfl) ?_
  refine lv_iconst (v := (1 : Int32)) hx hb dL_law_972 (by decide) ?_
  refine lv_iadd hx hb dL_law_973 ?_
  refine va_sld hx hb hX hbl hbA h.2.2 (in_s (k := 1) rfl (by omega) hL) dL_law_974 ?_
  refine lv_aload_n hx hb dL_law_975 rfl (lv_at hl 3 rfl) ?_
  refine lv_iload_n hx hb dL_law_976 rfl (lv_at hl 0 rfl) ?_
  refine lv_iconst (v := (2 : Int32)) hx hb dL_law_977 (by decide) ?_
  refine lv_iadd hx hb dL_law_978 ?_
  refine va_sld hx hb hX hbl hbA h.2.2 (in_s (k := 2) rfl (by omega) hL) dL_law_979 ?_
  refine lv_aload_n hx hb dL_law_980 rfl (lv_at hl 3 rfl) ?_
  refine lv_iload_n hx hb dL_law_981 rfl (lv_at hl 0 rfl) ?_
  refine lv_iconst (v := (3 : Int32)) hx hb dL_law_982 (by decide) ?_
  refine lv_iadd hx hb dL_law_983 ?_
  refine va_sld hx hb hX hbl hbA h.2.2 (in_s (k := 3) rfl (by omega) hL) dL_law_984 ?_
  refine r_cv_9 (rest := [.int r]) C h M9 (rfl : Kd 29 = 9) gF_X9_act rfl ⟨rfl, rfl⟩ hdX9_act ⟨Nat.le_of_ble_eq_true rfl, Nat.le_of_ble_eq_true rfl⟩ hcs hl.1 rfl (Nat.le_of_ble_eq_true rfl) dL_law_985 (fun H locs h => ?_)
  refine lv_icmp_eq (tgt := 1285) hx hb dL_law_988 (by decide) (fun _ => ?_) (fun q => absurd rfl q)
  exact kk σ2 ℓ2 H locs h I2
set_option maxHeartbeats 4000000 in
set_option maxRecDepth 100000 in
theorem cs_trace (C : Cx cL_law 4 rt lwF RL E p s m args meth c) (hX : va_X b L xs s s.heap) (hbl : b < s.heap.size) (hbA : ¬ AA E s.heap.size b) (h : HI E σ ℓ s H locs) (I : INV σ ℓ) {i : Nat} (hi : i + 6 ≤ L) (hL : L ≤ 3072) (hcs : cells ≤ room_1.cells ∧ slots ≤ room_1.slots) (hl : lv_has ls 4 [(3, .int (nI i)), (2, .ref (Ea E 29 0)), (1, .ref (Ea E 0 0)), (0, .ref b)]) (kk : ∀ (σ2 : Ms) (ℓ2 : Mz) (H1 : Heap) (locs1 : List Loc), HI E σ2 ℓ2 s H1 locs1 → INV σ2 ℓ2 → W p l e room_1 s m args below meth c H1 locs1 cells slots Q (F0 m 1285 ls [])) : W p l e room_1 s m args below meth c H locs cells slots Q (F0 m 993 ls []) := by
  obtain ⟨hx, hb, -, hml, hown, hts, -, hK, -⟩ := id C
  obtain ⟨r, σ1, ℓ1, σ2, ℓ2, M8, M9, I2⟩ := L_trace (l := l) (E := E) I (xs (nI i + 1).toNatClampNeg)
  refine lv_aload_n hx hb dL_law_993 rfl (lv_at hl 2 rfl) ?_
  refine lv_aload_n hx hb dL_law_994 rfl (lv_at hl 3 rfl) ?_
  refine lv_iload_n hx hb dL_law_995 rfl (lv_at hl 0 rfl) ?_
  refine lv_iconst (v := (1 : Int32)) hx hb dL_law_996 (by decide) ?_
  refine lv_iadd hx hb dL_law_997 ?_
  refine va_sld hx hb hX hbl hbA h.2.2 (in_s (k := 1) rfl (by omega) hL) dL_law_998 ?_
  refine r_cv_8 (rest := []) C h M8 (rfl : Kd 0 = 8) gF_X8_trace rfl ⟨rfl, rfl⟩ hdX8_trace ⟨Nat.le_of_ble_eq_true rfl, Nat.le_of_ble_eq_true rfl⟩ hcs hl.1 rfl (Nat.le_of_ble_eq_true rfl) dL_law_999 (fun H locs h => ?_)
  refine lv_aload_n hx hb dL_law_1002 rfl (lv_at hl 1 rfl) ?_
  refine lv_aload_n hx hb dL_law_1003 rfl (lv_at hl 3 rfl) ?_
  refine lv_iload_n hx hb dL_law_1004 rfl (lv_at hl 0 rfl) ?_
  refine lv_iconst (v := (1 : Int32)) hx hb dL_law_1005 (by decide) ?_
  refine lv_iadd hx hb dL_law_1006 ?_
  refine va_sld hx hb hX hbl hbA h.2.2 (in_s (k := 1) rfl (by omega) hL) dL_law_1007 ?_
  refine r_cv_9 (rest := [.int r]) C h M9 (rfl : Kd 29 = 9) gF_X9_trace rfl ⟨rfl, rfl⟩ hdX9_trace ⟨Nat.le_of_ble_eq_true rfl, Nat.le_of_ble_eq_true rfl⟩ hcs hl.1 rfl (Nat.le_of_ble_eq_true rfl) dL_law_1008 (fun H locs h => ?_)
  refine lv_icmp_eq (tgt := 1285) hx hb dL_law_1011 (by decide) (fun _ => ?_) (fun q => absurd rfl q)
  exact kk σ2 ℓ2 H locs h I2
set_option maxHeartbeats 4000000 in
set_option maxRecDepth 100000 in
theorem cs_taken (C : Cx cL_law 4 rt lwF RL E p s m args meth c) (hX : va_X b L xs s s.heap) (hbl : b < s.heap.size) (hbA : ¬ AA E s.heap.size b) (h : HI E σ ℓ s H locs) (I : INV σ ℓ) {i : Nat} (hi : i + 6 ≤ L) (hL : L ≤ 3072) (hcs : cells ≤ room_1.cells ∧ slots ≤ room_1.slots) (hl : lv_has ls 4 [(3, .int (nI i)), (2, .ref (Ea E 29 0)), (1, .ref (Ea E 0 0)), (0, .ref b)]) (kk : ∀ (σ2 : Ms) (ℓ2 : Mz) (H1 : Heap) (locs1 : List Loc), HI E σ2 ℓ2 s H1 locs1 → INV σ2 ℓ2 → W p l e room_1 s m args below meth c H1 locs1 cells slots Q (F0 m 1285 ls [])) : W p l e room_1 s m args below meth c H locs cells slots Q (F0 m 1016 ls []) := by
  obtain ⟨hx, hb, -, hml, hown, hts, -, hK, -⟩ := id C
  obtain ⟨r, σ1, ℓ1, σ2, ℓ2, M8, M9, I2⟩ := L_taken (l := l) (E := E) I (xs (nI i + 1).toNatClampNeg) (xs (nI i + 2).toNatClampNeg)
  refine lv_aload_n hx hb dL_law_1016 rfl (lv_at hl 2 rfl) ?_
  refine lv_aload_n hx hb dL_law_1017 rfl (lv_at hl 3 rfl) ?_
  refine lv_iload_n hx hb dL_law_1018 rfl (lv_at hl 0 rfl) ?_
  refine lv_iconst (v := (1 : Int32)) hx hb dL_law_1019 (by decide) ?_
  refine lv_iadd hx hb dL_law_1020 ?_
  refine va_sld hx hb hX hbl hbA h.2.2 (in_s (k := 1) rfl (by omega) hL) dL_law_1021 ?_
  refine lv_aload_n hx hb dL_law_1022 rfl (lv_at hl 3 rfl) ?_
  refine lv_iload_n hx hb dL_law_1023 rfl (lv_at hl 0 rfl) ?_
  refine lv_iconst (v := (2 : Int32)) hx hb dL_law_1024 (by decide) ?_
  refine lv_iadd hx hb dL_law_1025 ?_
  refine va_sld hx hb hX hbl hbA h.2.2 (in_s (k := 2) rfl (by omega) hL) dL_law_1026 ?_
  refine r_cv_8 (rest := []) C h M8 (rfl : Kd 0 = 8) gF_X8_taken rfl ⟨rfl, rfl⟩ hdX8_taken ⟨Nat.le_of_ble_eq_true rfl, Nat.le_of_ble_eq_true rfl⟩ hcs hl.1 rfl (Nat.le_of_ble_eq_true rfl) dL_law_1027 (fun H locs h => ?_)
  refine lv_aload_n hx hb dL_law_1030 rfl (lv_at hl 1 rfl) ?_
  refine lv_aload_n hx hb dL_law_1031 rfl (lv_at hl 3 rfl) ?_
  refine lv_iload_n hx hb dL_law_1032 rfl (lv_at hl 0 rfl) ?_
  refine lv_iconst (v := (1 : Int32)) hx hb dL_law_1033 (by decide) ?_
  refine lv_iadd hx hb dL_law_1034 ?_
  refine va_sld hx hb hX hbl hbA h.2.2 (in_s (k := 1) rfl (by omega) hL) dL_law_1035 ?_
  refine lv_aload_n hx hb dL_law_1036 rfl (lv_at hl 3 rfl) ?_
  refine lv_iload_n hx hb dL_law_1037 rfl (lv_at hl 0 rfl) ?_
  refine lv_iconst (v := (2 : Int32)) hx hb dL_law_1038 (by decide) ?_
  refine lv_iadd hx hb dL_law_1039 ?_
  refine va_sld hx hb hX hbl hbA h.2.2 (in_s (k := 2) rfl (by omega) hL) dL_law_1040 ?_
  refine r_cv_9 (rest := [.int r]) C h M9 (rfl : Kd 29 = 9) gF_X9_taken rfl ⟨rfl, rfl⟩ hdX9_taken ⟨Nat.le_of_ble_eq_true rfl, Nat.le_of_ble_eq_true rfl⟩ hcs hl.1 rfl (Nat.le_of_ble_eq_true rfl) dL_law_1041 (fun H locs h => ?_)
  refine lv_icmp_eq (tgt := 1285) hx hb dL_law_1044 (by decide) (fun _ => ?_) (fun q => absurd rfl q)
  exact kk σ2 ℓ2 H locs h I2
set_option maxHeartbeats 4000000 in
set_option maxRecDepth 100000 in
theorem cs_count (C : Cx cL_law 4 rt lwF RL E p s m args meth c) (hX : va_X b L xs s s.heap) (hbl : b < s.heap.size) (hbA : ¬ AA E s.heap.size b) (h : HI E σ ℓ s H locs) (I : INV σ ℓ) {i : Nat} (hi : i + 6 ≤ L) (hL : L ≤ 3072) (hcs : cells ≤ room_1.cells ∧ slots ≤ room_1.slots) (hl : lv_has ls 4 [(3, .int (nI i)), (2, .ref (Ea E 29 0)), (1, .ref (Ea E 0 0)), (0, .ref b)]) (kk : ∀ (σ2 : Ms) (ℓ2 : Mz) (H1 : Heap) (locs1 : List Loc), HI E σ2 ℓ2 s H1 locs1 → INV σ2 ℓ2 → W p l e room_1 s m args below meth c H1 locs1 cells slots Q (F0 m 1285 ls [])) : W p l e room_1 s m args below meth c H locs cells slots Q (F0 m 1049 ls []) := by
  obtain ⟨hx, hb, -, hml, hown, hts, -, hK, -⟩ := id C
  obtain ⟨r, σ1, ℓ1, σ2, ℓ2, M8, M9, I2⟩ := L_count (l := l) (E := E) I (xs (nI i + 1).toNatClampNeg)
  refine lv_aload_n hx hb dL_law_1049 rfl (lv_at hl 2 rfl) ?_
  refine lv_aload_n hx hb dL_law_1050 rfl (lv_at hl 3 rfl) ?_
  refine lv_iload_n hx hb dL_law_1051 rfl (lv_at hl 0 rfl) ?_
  refine lv_iconst (v := (1 : Int32)) hx hb dL_law_1052 (by decide) ?_
  refine lv_iadd hx hb dL_law_1053 ?_
  refine va_sld hx hb hX hbl hbA h.2.2 (in_s (k := 1) rfl (by omega) hL) dL_law_1054 ?_
  refine r_cv_8 (rest := []) C h M8 (rfl : Kd 0 = 8) gF_X8_count rfl ⟨rfl, rfl⟩ hdX8_count ⟨Nat.le_of_ble_eq_true rfl, Nat.le_of_ble_eq_true rfl⟩ hcs hl.1 rfl (Nat.le_of_ble_eq_true rfl) dL_law_1055 (fun H locs h => ?_)
  refine lv_aload_n hx hb dL_law_1058 rfl (lv_at hl 1 rfl) ?_
  refine lv_aload_n hx hb dL_law_1059 rfl (lv_at hl 3 rfl) ?_
  refine lv_iload_n hx hb dL_law_1060 rfl (lv_at hl 0 rfl) ?_
  refine lv_iconst (v := (1 : Int32)) hx hb dL_law_1061 (by decide) ?_
  refine lv_iadd hx hb dL_law_1062 ?_
  refine va_sld hx hb hX hbl hbA h.2.2 (in_s (k := 1) rfl (by omega) hL) dL_law_1063 ?_
  refine r_cv_9 (rest := [.int r]) C h M9 (rfl : Kd 29 = 9) gF_X9_count rfl ⟨rfl, rfl⟩ hdX9_count ⟨Nat.le_of_ble_eq_true rfl, Nat.le_of_ble_eq_true rfl⟩ hcs hl.1 rfl (Nat.le_of_ble_eq_true rfl) dL_law_1064 (fun H locs h => ?_)
  refine lv_icmp_eq (tgt := 1285) hx hb dL_law_1067 (by decide) (fun _ => ?_) (fun q => absurd rfl q)
  exact kk σ2 ℓ2 H locs h I2
set_option maxHeartbeats 4000000 in
set_option maxRecDepth 100000 in
theorem cs_tape (C : Cx cL_law 4 rt lwF RL E p s m args meth c) (hX : va_X b L xs s s.heap) (hbl : b < s.heap.size) (hbA : ¬ AA E s.heap.size b) (h : HI E σ ℓ s H locs) (I : INV σ ℓ) {i : Nat} (hi : i + 6 ≤ L) (hL : L ≤ 3072) (hcs : cells ≤ room_1.cells ∧ slots ≤ room_1.slots) (hl : lv_has ls 4 [(3, .int (nI i)), (2, .ref (Ea E 29 0)), (1, .ref (Ea E 0 0)), (0, .ref b)]) (kk : ∀ (σ2 : Ms) (ℓ2 : Mz) (H1 : Heap) (locs1 : List Loc), HI E σ2 ℓ2 s H1 locs1 → INV σ2 ℓ2 → W p l e room_1 s m args below meth c H1 locs1 cells slots Q (F0 m 1285 ls [])) : W p l e room_1 s m args below meth c H locs cells slots Q (F0 m 1072 ls []) := by
  obtain ⟨hx, hb, -, hml, hown, hts, -, hK, -⟩ := id C
  obtain ⟨r, σ1, ℓ1, σ2, ℓ2, M8, M9, I2⟩ := L_tape (l := l) (E := E) I (xs (nI i + 1).toNatClampNeg) (xs (nI i + 2).toNatClampNeg) (xs (nI i + 3).toNatClampNeg)
  refine lv_aload_n hx hb dL_law_1072 rfl (lv_at hl 2 rfl) ?_
  refine lv_aload_n hx hb dL_law_1073 rfl (lv_at hl 3 rfl) ?_
  refine lv_iload_n hx hb dL_law_1074 rfl (lv_at hl 0 rfl) ?_
  refine lv_iconst (v := (1 : Int32)) hx hb dL_law_1075 (by decide) ?_
  refine lv_iadd hx hb dL_law_1076 ?_
  refine va_sld hx hb hX hbl hbA h.2.2 (in_s (k := 1) rfl (by omega) hL) dL_law_1077 ?_
  refine lv_aload_n hx hb dL_law_1078 rfl (lv_at hl 3 rfl) ?_
  refine lv_iload_n hx hb dL_law_1079 rfl (lv_at hl 0 rfl) ?_
  refine lv_iconst (v := (2 : Int32)) hx hb dL_law_1080 (by decide) ?_
  refine lv_iadd hx hb dL_law_1081 ?_
  refine va_sld hx hb hX hbl hbA h.2.2 (in_s (k := 2) rfl (by omega) hL) dL_law_1082 ?_
  refine lv_aload_n hx hb dL_law_1083 rfl (lv_at hl 3 rfl) ?_
  refine lv_iload_n hx hb dL_law_1084 rfl (lv_at hl 0 rfl) ?_
  refine lv_iconst (v := (3 : Int32)) hx hb dL_law_1085 (by decide) ?_
  refine lv_iadd hx hb dL_law_1086 ?_
  refine va_sld hx hb hX hbl hbA h.2.2 (in_s (k := 3) rfl (by omega) hL) dL_law_1087 ?_
  refine r_cv_8 (rest := []) C h M8 (rfl : Kd 0 = 8) gF_X8_tape rfl ⟨rfl, rfl⟩ hdX8_tape ⟨Nat.le_of_ble_eq_true rfl, Nat.le_of_ble_eq_true rfl⟩ hcs hl.1 rfl (Nat.le_of_ble_eq_true rfl) dL_law_1088 (fun H locs h => ?_)
  refine lv_aload_n hx hb dL_law_1091 rfl (lv_at hl 1 rfl) ?_
  refine lv_aload_n hx hb dL_law_1092 rfl (lv_at hl 3 rfl) ?_
  refine lv_iload_n hx hb dL_law_1093 rfl (lv_at hl 0 rfl) ?_
  refine lv_iconst (v := (1 : Int32)) hx hb dL_law_1094 (by decide) ?_
  refine lv_iadd hx hb dL_law_1095 ?_
  refine va_sld hx hb hX hbl hbA h.2.2 (in_s (k := 1) rfl (by omega) hL) dL_law_1096 ?_
  refine lv_aload_n hx hb dL_law_1097 rfl (lv_at hl 3 rfl) ?_
  refine lv_iload_n hx hb dL_law_1098 rfl (lv_at hl 0 rfl) ?_
  refine lv_iconst (v := (2 : Int32)) hx hb dL_law_1099 (by decide) ?_
  refine lv_iadd hx hb dL_law_1100 ?_
  refine va_sld hx hb hX hbl hbA h.2.2 (in_s (k := 2) rfl (by omega) hL) dL_law_1101 ?_
  refine lv_aload_n hx hb dL_law_1102 rfl (lv_at hl 3 rfl) ?_
  refine lv_iload_n hx hb dL_law_1103 rfl (lv_at hl 0 rfl) ?_
  refine lv_iconst (v := (3 : Int32)) hx hb dL_law_1104 (by decide) ?_
  refine lv_iadd hx hb dL_law_1105 ?_
  refine va_sld hx hb hX hbl hbA h.2.2 (in_s (k := 3) rfl (by omega) hL) dL_law_1106 ?_
  refine r_cv_9 (rest := [.int r]) C h M9 (rfl : Kd 29 = 9) gF_X9_tape rfl ⟨rfl, rfl⟩ hdX9_tape ⟨Nat.le_of_ble_eq_true rfl, Nat.le_of_ble_eq_true rfl⟩ hcs hl.1 rfl (Nat.le_of_ble_eq_true rfl) dL_law_1107 (fun H locs h => ?_)
  refine lv_icmp_eq (tgt := 1285) hx hb dL_law_1110 (by decide) (fun _ => ?_) (fun q => absurd rfl q)
  exact kk σ2 ℓ2 H locs h I2
set_option maxHeartbeats 4000000 in
set_option maxRecDepth 100000 in
theorem cs_item (C : Cx cL_law 4 rt lwF RL E p s m args meth c) (hX : va_X b L xs s s.heap) (hbl : b < s.heap.size) (hbA : ¬ AA E s.heap.size b) (h : HI E σ ℓ s H locs) (I : INV σ ℓ) {i : Nat} (hi : i + 6 ≤ L) (hL : L ≤ 3072) (hcs : cells ≤ room_1.cells ∧ slots ≤ room_1.slots) (hl : lv_has ls 4 [(3, .int (nI i)), (2, .ref (Ea E 29 0)), (1, .ref (Ea E 0 0)), (0, .ref b)]) (kk : ∀ (σ2 : Ms) (ℓ2 : Mz) (H1 : Heap) (locs1 : List Loc), HI E σ2 ℓ2 s H1 locs1 → INV σ2 ℓ2 → W p l e room_1 s m args below meth c H1 locs1 cells slots Q (F0 m 1285 ls [])) : W p l e room_1 s m args below meth c H locs cells slots Q (F0 m 1115 ls []) := by
  obtain ⟨hx, hb, -, hml, hown, hts, -, hK, -⟩ := id C
  obtain ⟨r, σ1, ℓ1, σ2, ℓ2, M8, M9, I2⟩ := L_item (l := l) (E := E) I (xs (nI i + 1).toNatClampNeg) (xs (nI i + 2).toNatClampNeg) (((xs (nI i + 3).toNatClampNeg).toInt64 <<< ((32 : Int32).toInt64 &&& 63)) ||| ((xs (nI i + 4).toNatClampNeg).toInt64 &&& (4294967295 : Int64)))
  refine lv_aload_n hx hb dL_law_1115 rfl (lv_at hl 2 rfl) ?_
  refine lv_aload_n hx hb dL_law_1116 rfl (lv_at hl 3 rfl) ?_
  refine lv_iload_n hx hb dL_law_1117 rfl (lv_at hl 0 rfl) ?_
  refine lv_iconst (v := (1 : Int32)) hx hb dL_law_1118 (by decide) ?_
  refine lv_iadd hx hb dL_law_1119 ?_
  refine va_sld hx hb hX hbl hbA h.2.2 (in_s (k := 1) rfl (by omega) hL) dL_law_1120 ?_
  refine lv_aload_n hx hb dL_law_1121 rfl (lv_at hl 3 rfl) ?_
  refine lv_iload_n hx hb dL_law_1122 rfl (lv_at hl 0 rfl) ?_
  refine lv_iconst (v := (2 : Int32)) hx hb dL_law_1123 (by decide) ?_
  refine lv_iadd hx hb dL_law_1124 ?_
  refine va_sld hx hb hX hbl hbA h.2.2 (in_s (k := 2) rfl (by omega) hL) dL_law_1125 ?_
  refine lv_aload_n hx hb dL_law_1126 rfl (lv_at hl 3 rfl) ?_
  refine lv_iload_n hx hb dL_law_1127 rfl (lv_at hl 0 rfl) ?_
  refine lv_iconst (v := (3 : Int32)) hx hb dL_law_1128 (by decide) ?_
  refine lv_iadd hx hb dL_law_1129 ?_
  refine va_sld hx hb hX hbl hbA h.2.2 (in_s (k := 3) rfl (by omega) hL) dL_law_1130 ?_
  refine lv_i2l hx hb dL_law_1131 rfl ?_
  refine lv_bipush (v := (32 : Int32)) hx hb dL_law_1132 (by decide) ?_
  refine lv_lshl hx hb dL_law_1134 rfl ?_
  refine lv_aload_n hx hb dL_law_1135 rfl (lv_at hl 3 rfl) ?_
  refine lv_iload_n hx hb dL_law_1136 rfl (lv_at hl 0 rfl) ?_
  refine lv_iconst (v := (4 : Int32)) hx hb dL_law_1137 (by decide) ?_
  refine lv_iadd hx hb dL_law_1138 ?_
  refine va_sld hx hb hX hbl hbA h.2.2 (in_s (k := 4) rfl (by omega) hL) dL_law_1139 ?_
  refine lv_i2l hx hb dL_law_1140 rfl ?_
  refine lv_ldc2 hx hb hown (hts _ (fm_lwF_0 (Cond.constantLong RL 143 (4294967295)) (by decide +kernel))) dL_law_1141 ?_
  refine lv_land hx hb dL_law_1144 ?_
  refine lv_lor hx hb dL_law_1145 ?_
  refine r_cv_8 (rest := []) C h M8 (rfl : Kd 0 = 8) gF_X8_item rfl ⟨rfl, rfl⟩ hdX8_item ⟨Nat.le_of_ble_eq_true rfl, Nat.le_of_ble_eq_true rfl⟩ hcs hl.1 rfl (Nat.le_of_ble_eq_true rfl) dL_law_1146 (fun H locs h => ?_)
  refine lv_aload_n hx hb dL_law_1149 rfl (lv_at hl 1 rfl) ?_
  refine lv_aload_n hx hb dL_law_1150 rfl (lv_at hl 3 rfl) ?_
  refine lv_iload_n hx hb dL_law_1151 rfl (lv_at hl 0 rfl) ?_
  refine lv_iconst (v := (1 : Int32)) hx hb dL_law_1152 (by decide) ?_
  refine lv_iadd hx hb dL_law_1153 ?_
  refine va_sld hx hb hX hbl hbA h.2.2 (in_s (k := 1) rfl (by omega) hL) dL_law_1154 ?_
  refine lv_aload_n hx hb dL_law_1155 rfl (lv_at hl 3 rfl) ?_
  refine lv_iload_n hx hb dL_law_1156 rfl (lv_at hl 0 rfl) ?_
  refine lv_iconst (v := (2 : Int32)) hx hb dL_law_1157 (by decide) ?_
  refine lv_iadd hx hb dL_law_1158 ?_
  refine va_sld hx hb hX hbl hbA h.2.2 (in_s (k := 2) rfl (by omega) hL) dL_law_1159 ?_
  refine lv_aload_n hx hb dL_law_1160 rfl (lv_at hl 3 rfl) ?_
  refine lv_iload_n hx hb dL_law_1161 rfl (lv_at hl 0 rfl) ?_
  refine lv_iconst (v := (3 : Int32)) hx hb dL_law_1162 (by decide) ?_
  refine lv_iadd hx hb dL_law_1163 ?_
  refine va_sld hx hb hX hbl hbA h.2.2 (in_s (k := 3) rfl (by omega) hL) dL_law_1164 ?_
  refine lv_i2l hx hb dL_law_1165 rfl ?_
  refine lv_bipush (v := (32 : Int32)) hx hb dL_law_1166 (by decide) ?_
  refine lv_lshl hx hb dL_law_1168 rfl ?_
  refine lv_aload_n hx hb dL_law_1169 rfl (lv_at hl 3 rfl) ?_
  refine lv_iload_n hx hb dL_law_1170 rfl (lv_at hl 0 rfl) ?_
  refine lv_iconst (v := (4 : Int32)) hx hb dL_law_1171 (by decide) ?_
  refine lv_iadd hx hb dL_law_1172 ?_
  refine va_sld hx hb hX hbl hbA h.2.2 (in_s (k := 4) rfl (by omega) hL) dL_law_1173 ?_
  refine lv_i2l hx hb dL_law_1174 rfl ?_
  refine lv_ldc2 hx hb hown (hts _ (fm_lwF_0 (Cond.constantLong RL 143 (4294967295)) (by decide +kernel))) dL_law_1175 ?_
  refine lv_land hx hb dL_law_1178 ?_
  refine lv_lor hx hb dL_law_1179 ?_
  refine r_cv_9 (rest := [.int r]) C h M9 (rfl : Kd 29 = 9) gF_X9_item rfl ⟨rfl, rfl⟩ hdX9_item ⟨Nat.le_of_ble_eq_true rfl, Nat.le_of_ble_eq_true rfl⟩ hcs hl.1 rfl (Nat.le_of_ble_eq_true rfl) dL_law_1180 (fun H locs h => ?_)
  refine lv_icmp_eq (tgt := 1285) hx hb dL_law_1183 (by decide) (fun _ => ?_) (fun q => absurd rfl q)
  exact kk σ2 ℓ2 H locs h I2
set_option maxHeartbeats 4000000 in
set_option maxRecDepth 100000 in
theorem cs_read (C : Cx cL_law 4 rt lwF RL E p s m args meth c) (hX : va_X b L xs s s.heap) (hbl : b < s.heap.size) (hbA : ¬ AA E s.heap.size b) (h : HI E σ ℓ s H locs) (I : INV σ ℓ) {i : Nat} (hi : i + 6 ≤ L) (hL : L ≤ 3072) (hcs : cells ≤ room_1.cells ∧ slots ≤ room_1.slots) (hl : lv_has ls 4 [(3, .int (nI i)), (2, .ref (Ea E 29 0)), (1, .ref (Ea E 0 0)), (0, .ref b)]) (kk : ∀ (σ2 : Ms) (ℓ2 : Mz) (H1 : Heap) (locs1 : List Loc), HI E σ2 ℓ2 s H1 locs1 → INV σ2 ℓ2 → W p l e room_1 s m args below meth c H1 locs1 cells slots Q (F0 m 1285 ls [])) : W p l e room_1 s m args below meth c H locs cells slots Q (F0 m 1188 ls []) := by
  obtain ⟨hx, hb, -, hml, hown, hts, -, hK, -⟩ := id C
  obtain ⟨r, σ1, ℓ1, σ2, ℓ2, M8, M9, I2⟩ := L_read (l := l) (E := E) I (xs (nI i + 1).toNatClampNeg) (xs (nI i + 2).toNatClampNeg)
  refine lv_aload_n hx hb dL_law_1188 rfl (lv_at hl 2 rfl) ?_
  refine lv_aload_n hx hb dL_law_1189 rfl (lv_at hl 3 rfl) ?_
  refine lv_iload_n hx hb dL_law_1190 rfl (lv_at hl 0 rfl) ?_
  refine lv_iconst (v := (1 : Int32)) hx hb dL_law_1191 (by decide) ?_
  refine lv_iadd hx hb dL_law_1192 ?_
  refine va_sld hx hb hX hbl hbA h.2.2 (in_s (k := 1) rfl (by omega) hL) dL_law_1193 ?_
  refine lv_aload_n hx hb dL_law_1194 rfl (lv_at hl 3 rfl) ?_
  refine lv_iload_n hx hb dL_law_1195 rfl (lv_at hl 0 rfl) ?_
  refine lv_iconst (v := (2 : Int32)) hx hb dL_law_1196 (by decide) ?_
  refine lv_iadd hx hb dL_law_1197 ?_
  refine va_sld hx hb hX hbl hbA h.2.2 (in_s (k := 2) rfl (by omega) hL) dL_law_1198 ?_
  refine r_cv_8 (rest := []) C h M8 (rfl : Kd 0 = 8) gF_X8_read rfl ⟨rfl, rfl⟩ hdX8_read ⟨Nat.le_of_ble_eq_true rfl, Nat.le_of_ble_eq_true rfl⟩ hcs hl.1 rfl (Nat.le_of_ble_eq_true rfl) dL_law_1199 (fun H locs h => ?_)
  refine lv_aload_n hx hb dL_law_1202 rfl (lv_at hl 1 rfl) ?_
  refine lv_aload_n hx hb dL_law_1203 rfl (lv_at hl 3 rfl) ?_
  refine lv_iload_n hx hb dL_law_1204 rfl (lv_at hl 0 rfl) ?_
  refine lv_iconst (v := (1 : Int32)) hx hb dL_law_1205 (by decide) ?_
  refine lv_iadd hx hb dL_law_1206 ?_
  refine va_sld hx hb hX hbl hbA h.2.2 (in_s (k := 1) rfl (by omega) hL) dL_law_1207 ?_
  refine lv_aload_n hx hb dL_law_1208 rfl (lv_at hl 3 rfl) ?_
  refine lv_iload_n hx hb dL_law_1209 rfl (lv_at hl 0 rfl) ?_
  refine lv_iconst (v := (2 : Int32)) hx hb dL_law_1210 (by decide) ?_
  refine lv_iadd hx hb dL_law_1211 ?_
  refine va_sld hx hb hX hbl hbA h.2.2 (in_s (k := 2) rfl (by omega) hL) dL_law_1212 ?_
  refine r_cv_9 (rest := [.long r]) C h M9 (rfl : Kd 29 = 9) gF_X9_read rfl ⟨rfl, rfl⟩ hdX9_read ⟨Nat.le_of_ble_eq_true rfl, Nat.le_of_ble_eq_true rfl⟩ hcs hl.1 rfl (Nat.le_of_ble_eq_true rfl) dL_law_1213 (fun H locs h => ?_)
  refine W.lcmp hx hb dL_law_1216 ?_
  refine lv_if_eq (tgt := 1285) hx hb dL_law_1217 (by decide) (fun _ => ?_) (fun q => absurd ((lg_cmp_eq r r).mpr rfl) q)
  exact kk σ2 ℓ2 H locs h I2
set_option maxHeartbeats 4000000 in
set_option maxRecDepth 100000 in
theorem cs_shift (C : Cx cL_law 4 rt lwF RL E p s m args meth c) (hX : va_X b L xs s s.heap) (hbl : b < s.heap.size) (hbA : ¬ AA E s.heap.size b) (h : HI E σ ℓ s H locs) (I : INV σ ℓ) {i : Nat} (hi : i + 6 ≤ L) (hL : L ≤ 3072) (hcs : cells ≤ room_1.cells ∧ slots ≤ room_1.slots) (hl : lv_has ls 4 [(3, .int (nI i)), (2, .ref (Ea E 29 0)), (1, .ref (Ea E 0 0)), (0, .ref b)]) (kk : ∀ (σ2 : Ms) (ℓ2 : Mz) (H1 : Heap) (locs1 : List Loc), HI E σ2 ℓ2 s H1 locs1 → INV σ2 ℓ2 → W p l e room_1 s m args below meth c H1 locs1 cells slots Q (F0 m 1285 ls [])) : W p l e room_1 s m args below meth c H locs cells slots Q (F0 m 1222 ls []) := by
  obtain ⟨hx, hb, -, hml, hown, hts, -, hK, -⟩ := id C
  obtain ⟨r, σ1, ℓ1, σ2, ℓ2, M8, M9, I2⟩ := L_shift (l := l) (E := E) I (xs (nI i + 1).toNatClampNeg) (xs (nI i + 2).toNatClampNeg) (xs (nI i + 3).toNatClampNeg) (xs (nI i + 4).toNatClampNeg) (xs (nI i + 5).toNatClampNeg)
  refine lv_aload_n hx hb dL_law_1222 rfl (lv_at hl 2 rfl) ?_
  refine lv_aload_n hx hb dL_law_1223 rfl (lv_at hl 3 rfl) ?_
  refine lv_iload_n hx hb dL_law_1224 rfl (lv_at hl 0 rfl) ?_
  refine lv_iconst (v := (1 : Int32)) hx hb dL_law_1225 (by decide) ?_
  refine lv_iadd hx hb dL_law_1226 ?_
  refine va_sld hx hb hX hbl hbA h.2.2 (in_s (k := 1) rfl (by omega) hL) dL_law_1227 ?_
  refine lv_aload_n hx hb dL_law_1228 rfl (lv_at hl 3 rfl) ?_
  refine lv_iload_n hx hb dL_law_1229 rfl (lv_at hl 0 rfl) ?_
  refine lv_iconst (v := (2 : Int32)) hx hb dL_law_1230 (by decide) ?_
  refine lv_iadd hx hb dL_law_1231 ?_
  refine va_sld hx hb hX hbl hbA h.2.2 (in_s (k := 2) rfl (by omega) hL) dL_law_1232 ?_
  refine lv_aload_n hx hb dL_law_1233 rfl (lv_at hl 3 rfl) ?_
  refine lv_iload_n hx hb dL_law_1234 rfl (lv_at hl 0 rfl) ?_
  refine lv_iconst (v := (3 : Int32)) hx hb dL_law_1235 (by decide) ?_
  refine lv_iadd hx hb dL_law_1236 ?_
  refine va_sld hx hb hX hbl hbA h.2.2 (in_s (k := 3) rfl (by omega) hL) dL_law_1237 ?_
  refine lv_aload_n hx hb dL_law_1238 rfl (lv_at hl 3 rfl) ?_
  refine lv_iload_n hx hb dL_law_1239 rfl (lv_at hl 0 rfl) ?_
  refine lv_iconst (v := (4 : Int32)) hx hb dL_law_1240 (by decide) ?_
  refine lv_iadd hx hb dL_law_1241 ?_
  refine va_sld hx hb hX hbl hbA h.2.2 (in_s (k := 4) rfl (by omega) hL) dL_law_1242 ?_
  refine lv_aload_n hx hb dL_law_1243 rfl (lv_at hl 3 rfl) ?_
  refine lv_iload_n hx hb dL_law_1244 rfl (lv_at hl 0 rfl) ?_
  refine lv_iconst (v := (5 : Int32)) hx hb dL_law_1245 (by decide) ?_
  refine lv_iadd hx hb dL_law_1246 ?_
  refine va_sld hx hb hX hbl hbA h.2.2 (in_s (k := 5) rfl (by omega) hL) dL_law_1247 ?_
  refine r_cv_8 (rest := []) C h M8 (rfl : Kd 0 = 8) gF_X8_shift rfl ⟨rfl, rfl⟩ hdX8_shift ⟨Nat.le_of_ble_eq_true rfl, Nat.le_of_ble_eq_true rfl⟩ hcs hl.1 rfl (Nat.le_of_ble_eq_true rfl) dL_law_1248 (fun H locs h => ?_)
  refine lv_aload_n hx hb dL_law_1251 rfl (lv_at hl 1 rfl) ?_
  refine lv_aload_n hx hb dL_law_1252 rfl (lv_at hl 3 rfl) ?_
  refine lv_iload_n hx hb dL_law_1253 rfl (lv_at hl 0 rfl) ?_
  refine lv_iconst (v := (1 : Int32)) hx hb dL_law_1254 (by decide) ?_
  refine lv_iadd hx hb dL_law_1255 ?_
  refine va_sld hx hb hX hbl hbA h.2.2 (in_s (k := 1) rfl (by omega) hL) dL_law_1256 ?_
  refine lv_aload_n hx hb dL_law_1257 rfl (lv_at hl 3 rfl) ?_
  refine lv_iload_n hx hb dL_law_1258 rfl (lv_at hl 0 rfl) ?_
  refine lv_iconst (v := (2 : Int32)) hx hb dL_law_1259 (by decide) ?_
  refine lv_iadd hx hb dL_law_1260 ?_
  refine va_sld hx hb hX hbl hbA h.2.2 (in_s (k := 2) rfl (by omega) hL) dL_law_1261 ?_
  refine lv_aload_n hx hb dL_law_1262 rfl (lv_at hl 3 rfl) ?_
  refine lv_iload_n hx hb dL_law_1263 rfl (lv_at hl 0 rfl) ?_
  refine lv_iconst (v := (3 : Int32)) hx hb dL_law_1264 (by decide) ?_
  refine lv_iadd hx hb dL_law_1265 ?_
  refine va_sld hx hb hX hbl hbA h.2.2 (in_s (k := 3) rfl (by omega) hL) dL_law_1266 ?_
  refine lv_aload_n hx hb dL_law_1267 rfl (lv_at hl 3 rfl) ?_
  refine lv_iload_n hx hb dL_law_1268 rfl (lv_at hl 0 rfl) ?_
  refine lv_iconst (v := (4 : Int32)) hx hb dL_law_1269 (by decide) ?_
  refine lv_iadd hx hb dL_law_1270 ?_
  refine va_sld hx hb hX hbl hbA h.2.2 (in_s (k := 4) rfl (by omega) hL) dL_law_1271 ?_
  refine lv_aload_n hx hb dL_law_1272 rfl (lv_at hl 3 rfl) ?_
  refine lv_iload_n hx hb dL_law_1273 rfl (lv_at hl 0 rfl) ?_
  refine lv_iconst (v := (5 : Int32)) hx hb dL_law_1274 (by decide) ?_
  refine lv_iadd hx hb dL_law_1275 ?_
  refine va_sld hx hb hX hbl hbA h.2.2 (in_s (k := 5) rfl (by omega) hL) dL_law_1276 ?_
  refine r_cv_9 (rest := [.int r]) C h M9 (rfl : Kd 29 = 9) gF_X9_shift rfl ⟨rfl, rfl⟩ hdX9_shift ⟨Nat.le_of_ble_eq_true rfl, Nat.le_of_ble_eq_true rfl⟩ hcs hl.1 rfl (Nat.le_of_ble_eq_true rfl) dL_law_1277 (fun H locs h => ?_)
  refine lv_icmp_eq (tgt := 1285) hx hb dL_law_1280 (by decide) (fun _ => ?_) (fun q => absurd rfl q)
  exact kk σ2 ℓ2 H locs h I2
end LC
