/-! THE METHODS AS TEXTS: made by wip/whole/gen -/
def f_X0_begins_22 (p0 : Int32)  (τ : Mm) : Option (Mm) := lt (s_t τ 1 0 ((τ 1 0) + (1 : Int32))) (fun τ2 => some τ2)
def f_X0_begins_0 (p0 : Int32)  (τ : Mm) : Option (Mm) := if (nI 20) ≤ (τ 1 0) then (f_X0_begins_22 p0  τ) else (gd (inB (τ 1 0) 20) (lt (s_t τ 0 (τ 1 0).toNatClampNeg p0) (fun τ4 => f_X0_begins_22 p0  τ4)))
def f_X0_begins (τ : Mm) (p0 : Int32) : Option (Mm) := f_X0_begins_0 p0 τ
def f_X0_body_62 (rec : Mm → Int32 → Int32 → Int32 → Int32 → Option (Int32 × Mm)) (p0 : Int32) (p1 : Int32) (p2 : Int32) (p3 : Int32)  (τ : Mm) (v5 : Int32) : Option (Int32 × Mm) := gd (inB v5 7) (lt ((sAB v5.toNatClampNeg)) (fun x6 => lt ((p3 + (1 : Int32))) (fun x7 => gd (inB ((v5 * (3 : Int32)) + p1) 21) (bd (f_X0_begins τ (sBO ((v5 * (3 : Int32)) + p1).toNatClampNeg)) (fun u10 => gd (inB ((v5 * (3 : Int32)) + p1) 21) (if (sBO ((v5 * (3 : Int32)) + p1).toNatClampNeg) = (10 : Int32) then (some ((p2 + (u10 2 0)), u10)) else (if (sBO ((v5 * (3 : Int32)) + p1).toNatClampNeg) = (11 : Int32) then (bd (rec u10 (u10 4 0) (0 : Int32) p2 x7) (fun u15 => some ((u15.1 - (u15.2 3 0)), u15.2))) else (if (sBO ((v5 * (3 : Int32)) + p1).toNatClampNeg) = (12 : Int32) then (bd (rec u10 (u10 4 0) (1 : Int32) p2 x7) (fun u17 => some ((u17.1 * (2 : Int32)), u17.2))) else (if (sBO ((v5 * (3 : Int32)) + p1).toNatClampNeg) = (20 : Int32) then (bd (rec u10 x6 (1 : Int32) p2 x7) (fun u19 => some ((u19.1 ^^^ (6 : Int32)), u19.2))) else (if (sBO ((v5 * (3 : Int32)) + p1).toNatClampNeg) = (30 : Int32) then (bd (rec u10 x6 (0 : Int32) (p2 * (3 : Int32)) x7) (fun u21 => some (u21.1, u21.2))) else (if (sBO ((v5 * (3 : Int32)) + p1).toNatClampNeg) = (40 : Int32) then (bd (rec u10 x6 (2 : Int32) p2 x7) (fun u23 => bd (rec u23.2 (u23.2 4 0) (1 : Int32) (1 : Int32) x7) (fun u24 => some ((u23.1 + u24.1), u24.2)))) else (if (sBO ((v5 * (3 : Int32)) + p1).toNatClampNeg) = (50 : Int32) then (bd (rec u10 x6 (0 : Int32) p2 x7) (fun u26 => some ((-u26.1), u26.2))) else (if (sBO ((v5 * (3 : Int32)) + p1).toNatClampNeg) = (51 : Int32) then (bd (rec u10 x6 (1 : Int32) (p2 + (1 : Int32)) x7) (fun u28 => some (u28.1, u28.2))) else (if (sBO ((v5 * (3 : Int32)) + p1).toNatClampNeg) = (60 : Int32) then (bd (rec u10 x6 (2 : Int32) (p2 - (u10 2 0)) x7) (fun u30 => some (u30.1, u30.2))) else (if (sBO ((v5 * (3 : Int32)) + p1).toNatClampNeg) = (70 : Int32) then (bd (rec u10 x6 (1 : Int32) p2 x7) (fun u32 => bd (rec u32.2 x6 (0 : Int32) (2 : Int32) x7) (fun u33 => some ((u32.1 + u33.1), u33.2)))) else (if (sBO ((v5 * (3 : Int32)) + p1).toNatClampNeg) = (71 : Int32) then (bd (rec u10 x6 (0 : Int32) p2 x7) (fun u35 => some ((u35.1 ^^^ (u35.2 3 0)), u35.2))) else (some ((0 : Int32), u10))))))))))))))))))
def f_X0_body_19 (rec : Mm → Int32 → Int32 → Int32 → Int32 → Option (Int32 × Mm)) (p0 : Int32) (p1 : Int32) (p2 : Int32) (p3 : Int32) (k19 : Mm → Int32 → Int32 → Option (Int32 × Mm)) (τ : Mm) (v5 : Int32) (v6 : Int32) : Option (Int32 × Mm) := if (7 : Int32) ≤ v6 then (f_X0_body_62 rec p0 p1 p2 p3  τ v5) else (gd (inB v5 7) (if (sAB v5.toNatClampNeg) < (0 : Int32) then (f_X0_body_62 rec p0 p1 p2 p3  τ v5) else (gd (inB ((v5 * (3 : Int32)) + p1) 21) (if (sBO ((v5 * (3 : Int32)) + p1).toNatClampNeg) = (0 : Int32) then (gd (inB v5 7) (lt ((sAB v5.toNatClampNeg)) (fun x44 => lt ((v6 + (1 : Int32))) (fun x45 => k19 τ x44 x45)))) else (f_X0_body_62 rec p0 p1 p2 p3  τ v5)))))
def f_X0_body_19L (rec : Mm → Int32 → Int32 → Int32 → Int32 → Option (Int32 × Mm)) (p0 : Int32) (p1 : Int32) (p2 : Int32) (p3 : Int32)  : Nat → Mm → Int32 → Int32 → Option (Int32 × Mm)
  | 0 => fun _ _ _ => none
  | n + 1 => f_X0_body_19 rec p0 p1 p2 p3  (f_X0_body_19L rec p0 p1 p2 p3  n)
def f_X0_body_0 (rec : Mm → Int32 → Int32 → Int32 → Int32 → Option (Int32 × Mm)) (p0 : Int32) (p1 : Int32) (p2 : Int32) (p3 : Int32)  (τ : Mm) : Option (Int32 × Mm) := if p0 < (0 : Int32) then (some ((0 : Int32), τ)) else (if p3 ≤ (40 : Int32) then (f_X0_body_19L rec p0 p1 p2 p3  FU τ p0 (0 : Int32)) else (some ((0 : Int32), τ)))
def f_X0_body : Nat → Mm → Int32 → Int32 → Int32 → Int32 → Option (Int32 × Mm)
  | 0 => fun _ _ _ _ _ => none
  | n + 1 => fun τ a b x d => f_X0_body_0 (f_X0_body n) a b x d τ
def f_X0_does_0 (p0 : Int32) (p1 : Int32) (p2 : Int32) (p3 : Int32) (p4 : Int32)  (τ : Mm) : Option (Int32 × Mm) := lt (s_t τ 2 0 p0) (fun τ1 => lt (s_t τ1 3 0 p1) (fun τ2 => lt (s_t τ2 4 0 p2) (fun τ3 => bd (f_X0_body 45 τ3 (τ3 4 0) p3 p4 (0 : Int32)) (fun u4 => some (u4.1, u4.2)))))
def f_X0_does (τ : Mm) (p0 : Int32) (p1 : Int32) (p2 : Int32) (p3 : Int32) (p4 : Int32) : Option (Int32 × Mm) := f_X0_does_0 p0 p1 p2 p3 p4 τ
def f_X8_copy_1_1_0 (τo : Mm)  (τ : Mm) : Option (Mm) := gd (cpB (0 : Int32) (0 : Int32) (if (nI 6) < (nI 6) then (nI 6) else (nI 6)) 6 6) (lt (s_r τ 2 (va_cpy (τo 2) (τ 2) (0 : Int32).toNatClampNeg (0 : Int32).toNatClampNeg (if (nI 6) < (nI 6) then (nI 6) else (nI 6)).toNatClampNeg)) (fun τ2 => some τ2))
def f_X8_copy_1_1 (τ : Mm) (τo : Mm) : Option (Mm) := f_X8_copy_1_1_0 τo τ
def f_X8_copy_1_2_0 (τo : Mm)  (τ : Mm) : Option (Mm) := gd (cpB (0 : Int32) (0 : Int32) (if (nI 6) < (nI 6) then (nI 6) else (nI 6)) 6 6) (lt (s_r τ 3 (va_cpy (τo 3) (τ 3) (0 : Int32).toNatClampNeg (0 : Int32).toNatClampNeg (if (nI 6) < (nI 6) then (nI 6) else (nI 6)).toNatClampNeg)) (fun τ2 => some τ2))
def f_X8_copy_1_2 (τ : Mm) (τo : Mm) : Option (Mm) := f_X8_copy_1_2_0 τo τ
def f_X8_copy_1_3_0 (τo : Mm)  (τ : Mm) : Option (Mm) := gd (cpB (0 : Int32) (0 : Int32) (if (nI 6) < (nI 6) then (nI 6) else (nI 6)) 6 6) (lt (s_r τ 4 (va_cpy (τo 4) (τ 4) (0 : Int32).toNatClampNeg (0 : Int32).toNatClampNeg (if (nI 6) < (nI 6) then (nI 6) else (nI 6)).toNatClampNeg)) (fun τ2 => some τ2))
def f_X8_copy_1_3 (τ : Mm) (τo : Mm) : Option (Mm) := f_X8_copy_1_3_0 τo τ
def f_X8_copy_1_4_0 (τo : Mm)  (τ : Mm) : Option (Mm) := gd (cpB (0 : Int32) (0 : Int32) (if (nI 6) < (nI 6) then (nI 6) else (nI 6)) 6 6) (lt (s_r τ 5 (va_cpy (τo 5) (τ 5) (0 : Int32).toNatClampNeg (0 : Int32).toNatClampNeg (if (nI 6) < (nI 6) then (nI 6) else (nI 6)).toNatClampNeg)) (fun τ2 => some τ2))
def f_X8_copy_1_4 (τ : Mm) (τo : Mm) : Option (Mm) := f_X8_copy_1_4_0 τo τ
def f_X8_copy_1_5_0 (τo : Mm)  (τ : Mm) : Option (Mm) := gd (cpB (0 : Int32) (0 : Int32) (if (nI 6) < (nI 6) then (nI 6) else (nI 6)) 6 6) (lt (s_r τ 6 (va_cpy (τo 6) (τ 6) (0 : Int32).toNatClampNeg (0 : Int32).toNatClampNeg (if (nI 6) < (nI 6) then (nI 6) else (nI 6)).toNatClampNeg)) (fun τ2 => some τ2))
def f_X8_copy_1_5 (τ : Mm) (τo : Mm) : Option (Mm) := f_X8_copy_1_5_0 τo τ
def f_X8_copy_1_6_0 (τo : Mm)  (τ : Mm) : Option (Mm) := gd (cpB (0 : Int32) (0 : Int32) (if (nI 6) < (nI 6) then (nI 6) else (nI 6)) 6 6) (lt (s_r τ 7 (va_cpy (τo 7) (τ 7) (0 : Int32).toNatClampNeg (0 : Int32).toNatClampNeg (if (nI 6) < (nI 6) then (nI 6) else (nI 6)).toNatClampNeg)) (fun τ2 => some τ2))
def f_X8_copy_1_6 (τ : Mm) (τo : Mm) : Option (Mm) := f_X8_copy_1_6_0 τo τ
def f_X8_copy_1_7_0 (τo : Mm)  (τ : Mm) : Option (Mm) := gd (cpB (0 : Int32) (0 : Int32) (if (nI 6) < (nI 6) then (nI 6) else (nI 6)) 6 6) (lt (s_r τ 8 (va_cpy (τo 8) (τ 8) (0 : Int32).toNatClampNeg (0 : Int32).toNatClampNeg (if (nI 6) < (nI 6) then (nI 6) else (nI 6)).toNatClampNeg)) (fun τ2 => some τ2))
def f_X8_copy_1_7 (τ : Mm) (τo : Mm) : Option (Mm) := f_X8_copy_1_7_0 τo τ
def f_X8_copy_1_8_0 (τo : Mm)  (τ : Mm) : Option (Mm) := gd (cpB (0 : Int32) (0 : Int32) (if (nI 24) < (nI 24) then (nI 24) else (nI 24)) 24 24) (lt (s_r τ 9 (va_cpy (τo 9) (τ 9) (0 : Int32).toNatClampNeg (0 : Int32).toNatClampNeg (if (nI 24) < (nI 24) then (nI 24) else (nI 24)).toNatClampNeg)) (fun τ2 => some τ2))
def f_X8_copy_1_8 (τ : Mm) (τo : Mm) : Option (Mm) := f_X8_copy_1_8_0 τo τ
def f_X8_copy_1_9_0 (τo : Mm)  (τ : Mm) : Option (Mm) := gd (cpB (0 : Int32) (0 : Int32) (if (nI 10) < (nI 10) then (nI 10) else (nI 10)) 10 10) (lt (s_r τ 10 (va_cpy (τo 10) (τ 10) (0 : Int32).toNatClampNeg (0 : Int32).toNatClampNeg (if (nI 10) < (nI 10) then (nI 10) else (nI 10)).toNatClampNeg)) (fun τ2 => some τ2))
def f_X8_copy_1_9 (τ : Mm) (τo : Mm) : Option (Mm) := f_X8_copy_1_9_0 τo τ
def f_X1_copies_0 (τo : Mm)  (τ : Mm) : Option (Mm) := bd (f_X8_copy_1_1 τ τo) (fun u1 => bd (f_X8_copy_1_2 u1 τo) (fun u2 => bd (f_X8_copy_1_3 u2 τo) (fun u3 => bd (f_X8_copy_1_4 u3 τo) (fun u4 => bd (f_X8_copy_1_5 u4 τo) (fun u5 => bd (f_X8_copy_1_6 u5 τo) (fun u6 => bd (f_X8_copy_1_7 u6 τo) (fun u7 => bd (f_X8_copy_1_8 u7 τo) (fun u8 => bd (f_X8_copy_1_9 u8 τo) (fun u9 => lt (s_t u9 12 0 (τo 12 0)) (fun τ10 => lt (s_t τ10 13 0 (τo 13 0)) (fun τ11 => lt (s_t τ11 14 0 (τo 14 0)) (fun τ12 => lt (s_t τ12 15 0 (τo 15 0)) (fun τ13 => lt (s_t τ13 16 0 (τo 16 0)) (fun τ14 => some τ14))))))))))))))
def f_X1_copies (τ : Mm) (τo : Mm) : Option (Mm) := f_X1_copies_0 τo τ
def f_X1_comes_0 (p0 : Int32) (p1 : Int32) (p2 : Int32)  (τ : Mm) : Option (Int32 × Mm) := lt ((τ 12 0)) (fun x1 => if x1 < (6 : Int32) then (gd (inB x1 6) (lt (s_t τ 2 x1.toNatClampNeg p0) (fun τ4 => gd (inB x1 6) (lt (s_t τ4 3 x1.toNatClampNeg p1) (fun τ6 => gd (inB x1 6) (lt (s_t τ6 4 x1.toNatClampNeg p2) (fun τ8 => gd (inB x1 6) (lt (s_t τ8 5 x1.toNatClampNeg (-5 : Int32)) (fun τ10 => lt (s_t τ10 12 0 ((τ10 12 0) + (1 : Int32))) (fun τ11 => some (x1, τ11))))))))))) else (some ((-4 : Int32), τ)))
def f_X1_comes (τ : Mm) (p0 : Int32) (p1 : Int32) (p2 : Int32) : Option (Int32 × Mm) := f_X1_comes_0 p0 p1 p2 τ
def f_X1_rings_0 (p0 : Int32)  (τ : Mm) : Option (Int32 × Mm) := gd (inB p0 10) (lt (s_t τ 13 0 ((τ 13 0) ||| ((1 : Int32) <<< ((τ 10 p0.toNatClampNeg) &&& 31)))) (fun τ2 => gd (inB p0 10) (some ((τ2 10 p0.toNatClampNeg), τ2))))
def f_X1_rings (τ : Mm) (p0 : Int32) : Option (Int32 × Mm) := f_X1_rings_0 p0 τ
def f_X1_isRung_0 (τ : Mm) (p0 : Int32)   : Option (Int32) := if (((τ 13 0) >>> (p0 &&& 31)) &&& (1 : Int32)) = (0 : Int32) then (some (0 : Int32)) else (some (1 : Int32))
def f_X1_isRung (τ : Mm) (p0 : Int32) : Option (Int32) := f_X1_isRung_0 τ p0 
def f_X1_isFree_0 (τ : Mm) (p0 : Int32)   : Option (Int32) := gd (inB p0 6) (if (τ 7 p0.toNatClampNeg) = (0 : Int32) then (gd (inB p0 6) (if (τ 5 p0.toNatClampNeg) = (-5 : Int32) then (gd (inB p0 6) (if (τ 6 p0.toNatClampNeg) = (0 : Int32) then (some (1 : Int32)) else (some (0 : Int32)))) else (some (0 : Int32)))) else (some (0 : Int32)))
def f_X1_isFree (τ : Mm) (p0 : Int32) : Option (Int32) := f_X1_isFree_0 τ p0 
def f_X1_whoseGoal_2 (τ : Mm) (p0 : Int32) (k2 : Int32 → Option (Int32)) (v2 : Int32) : Option (Int32) := if (τ 12 0) ≤ v2 then (some (-5 : Int32)) else (gd (inB v2 6) (if (τ 5 v2.toNatClampNeg) = p0 then (some v2) else (lt ((v2 + (1 : Int32))) (fun x4 => k2 x4))))
def f_X1_whoseGoal_2L (τ : Mm) (p0 : Int32)  : Nat → Int32 → Option (Int32)
  | 0 => fun _ => none
  | n + 1 => f_X1_whoseGoal_2 τ p0  (f_X1_whoseGoal_2L τ p0  n)
def f_X1_whoseGoal_0 (τ : Mm) (p0 : Int32)   : Option (Int32) := f_X1_whoseGoal_2L τ p0  FU (0 : Int32)
def f_X1_whoseGoal (τ : Mm) (p0 : Int32) : Option (Int32) := f_X1_whoseGoal_0 τ p0 
def f_X1_waitsFor_0 (τ : Mm) (p0 : Int32)   : Option (Int32) := bd (f_X1_isRung τ p0) (fun u1 => if u1 = (0 : Int32) then (some (0 : Int32)) else (bd (f_X1_whoseGoal τ p0) (fun u3 => if u3 = (-5 : Int32) then (some (1 : Int32)) else (some (0 : Int32)))))
def f_X1_waitsFor (τ : Mm) (p0 : Int32) : Option (Int32) := f_X1_waitsFor_0 τ p0 
def f_J6_bitCount_0f7a4_0   (v0 : Int32) : Option (Int32) := lt ((v0 - ((v0.toUInt32 >>> ((1 : Int32).toUInt32 &&& Int32.toUInt32 31)).toInt32 &&& (1431655765 : Int32)))) (fun x1 => lt (((x1 &&& (858993459 : Int32)) + ((x1.toUInt32 >>> ((2 : Int32).toUInt32 &&& Int32.toUInt32 31)).toInt32 &&& (858993459 : Int32)))) (fun x2 => lt (((x2 + (x2.toUInt32 >>> ((4 : Int32).toUInt32 &&& Int32.toUInt32 31)).toInt32) &&& (252645135 : Int32))) (fun x3 => lt ((x3 + (x3.toUInt32 >>> ((8 : Int32).toUInt32 &&& Int32.toUInt32 31)).toInt32)) (fun x4 => lt ((x4 + (x4.toUInt32 >>> ((16 : Int32).toUInt32 &&& Int32.toUInt32 31)).toInt32)) (fun x5 => some (x5 &&& (63 : Int32)))))))
def f_J6_bitCount_0f7a4 (p0 : Int32) : Option (Int32) := f_J6_bitCount_0f7a4_0  p0
def f_X2_weighs_190 (τ : Mm) (τo : Mm) (k7 : Int32 → Int32 → Int32 → Option (Int32)) (v2 : Int32) (v3 : Int32) (v4 : Int32) : Option (Int32) := lt ((v4 + (1 : Int32))) (fun x11 => k7 v2 v3 x11)
def f_X2_weighs_185 (τ : Mm) (τo : Mm) (k7 : Int32 → Int32 → Int32 → Option (Int32)) (v4 : Int32) (w0 : Int32) (w1 : Int32) (w2 : Int32) : Option (Int32) := lt ((w0 + (w1 * w2))) (fun x10 => f_X2_weighs_190 τ τo k7 x10 (0 : Int32) v4)
def f_X2_weighs_100 (τ : Mm) (τo : Mm) (k7 : Int32 → Int32 → Int32 → Option (Int32)) (v2 : Int32) (v4 : Int32) (w0 : Int32) (w1 : Int32) : Option (Int32) := lt ((w0 ||| w1)) (fun x21 => f_X2_weighs_190 τ τo k7 v2 x21 v4)
def f_X2_weighs_78 (τ : Mm) (τo : Mm) (k7 : Int32 → Int32 → Int32 → Option (Int32)) (v2 : Int32) (v3 : Int32) (v4 : Int32) (v5 : Int32) (w0 : Int32) : Option (Int32) := if w0 = ((v5 / (100 : Int32)) - (v5 / (100 : Int32)) / (3 : Int32) * (3 : Int32)) then (f_X2_weighs_100 τ τo k7 v2 v4 (v3 <<< ((1 : Int32) &&& 31)) (1 : Int32)) else (f_X2_weighs_100 τ τo k7 v2 v4 (v3 <<< ((1 : Int32) &&& 31)) (0 : Int32))
def f_X2_weighs_7 (τ : Mm) (τo : Mm) (k7 : Int32 → Int32 → Int32 → Option (Int32)) (v2 : Int32) (v3 : Int32) (v4 : Int32) : Option (Int32) := if (τ 1 0) ≤ v4 then (some v2) else (gd (inB v4 100) (lt ((τ 0 v4.toNatClampNeg)) (fun x3 => lt ((v3 &&& (1 : Int32))) (fun x4 => if (1800 : Int32) ≤ x3 then (if x3 = (1800 : Int32) then (lt ((v3 ^^^ (1 : Int32))) (fun x14 => f_X2_weighs_190 τ τo k7 v2 x14 v4)) else (if x3 = (1801 : Int32) then (lt (((v3 >>> ((1 : Int32) &&& 31)) &&& (x4 ||| (-2 : Int32)))) (fun x13 => f_X2_weighs_190 τ τo k7 v2 x13 v4)) else (if x3 = (1802 : Int32) then (lt (((v3 >>> ((1 : Int32) &&& 31)) ||| x4)) (fun x12 => f_X2_weighs_190 τ τo k7 v2 x12 v4)) else (if (2000 : Int32) ≤ x3 then (f_X2_weighs_185 τ τo k7 v4 v2 x4 ((2000 : Int32) - x3)) else (f_X2_weighs_185 τ τo k7 v4 v2 x4 (x3 - (1900 : Int32))))))) else (gd (inB (x3 / (300 : Int32)) 6) (lt ((τo 11 (x3 / (300 : Int32)).toNatClampNeg)) (fun x16 => lt ((x3 - x3 / (100 : Int32) * (100 : Int32))) (fun x17 => if x17 ≤ x16 then (if x16 = x17 then (f_X2_weighs_78 τ τo k7 v2 v3 v4 x3 (1 : Int32)) else (f_X2_weighs_78 τ τo k7 v2 v3 v4 x3 (2 : Int32))) else (f_X2_weighs_78 τ τo k7 v2 v3 v4 x3 (0 : Int32))))))))))
def f_X2_weighs_7L (τ : Mm) (τo : Mm)  : Nat → Int32 → Int32 → Int32 → Option (Int32)
  | 0 => fun _ _ _ => none
  | n + 1 => f_X2_weighs_7 τ τo  (f_X2_weighs_7L τ τo  n)
def f_X2_weighs_0 (τ : Mm) (τo : Mm)   : Option (Int32) := f_X2_weighs_7L τ τo  FU (0 : Int32) (0 : Int32) (0 : Int32)
def f_X2_weighs (τ : Mm) (τo : Mm) : Option (Int32) := f_X2_weighs_0 τ τo 
def f_X1_sum_0 (hs : Ms) (p0 : Int32) (p1 : Int32)  (τ : Mm) : Option (Int32 × Mm) := gd (inB p0 6) (lt ((if 0 ≤ ((τ 4 p0.toNatClampNeg) - p1) then ((τ 4 p0.toNatClampNeg) - p1) else 0 - ((τ 4 p0.toNatClampNeg) - p1))) (fun x2 => if (τ 16 0) = 0 then (some (((2 : Int32) * x2), τ)) else (gd (inH (τ 16 0)) (gd (inB (0 : Int32) 6) (lt (s_t τ 11 (0 : Int32).toNatClampNeg p0) (fun τ6 => gd (inB p0 6) (gd (inB (1 : Int32) 6) (lt (s_t τ6 11 (1 : Int32).toNatClampNeg (τ6 2 p0.toNatClampNeg)) (fun τ9 => gd (inB p0 6) (gd (inB (2 : Int32) 6) (lt (s_t τ9 11 (2 : Int32).toNatClampNeg (τ9 3 p0.toNatClampNeg)) (fun τ12 => gd (inB (3 : Int32) 6) (lt (s_t τ12 11 (3 : Int32).toNatClampNeg p1) (fun τ14 => gd (inB (4 : Int32) 6) (lt (s_t τ14 11 (4 : Int32).toNatClampNeg x2) (fun τ16 => gd (inB (5 : Int32) 6) (lt (s_t τ16 11 (5 : Int32).toNatClampNeg ((τ16 15 0) - (τ16 15 0) / (10 : Int32) * (10 : Int32))) (fun τ18 => gd (inH (τ18 16 0)) (bd (f_X2_weighs (hs (τ18 16 0).toNatClampNeg) τ18) (fun u20 => some ((((2 : Int32) * x2) + u20), τ18)))))))))))))))))))))
def f_X1_sum (τ : Mm) (hs : Ms) (p0 : Int32) (p1 : Int32) : Option (Int32 × Mm) := f_X1_sum_0 hs p0 p1 τ
def f_X1_cost_27 (hs : Ms) (p0 : Int32) (p1 : Int32)  (τ : Mm) (v3 : Int32) (w0 : Int32) : Option (Int32 × Mm) := gd (inB p0 6) (if (τ 2 p0.toNatClampNeg) = (1 : Int32) then (gd (inB p0 6) (some ((v3 + (τ 8 p0.toNatClampNeg)), τ))) else (if (τ 2 p0.toNatClampNeg) = (2 : Int32) then (some ((v3 / (2 : Int32)), τ)) else (if (τ 2 p0.toNatClampNeg) = (3 : Int32) then (some ((v3 + w0), τ)) else (if (τ 2 p0.toNatClampNeg) = (4 : Int32) then (gd (inB p0 6) (some (((v3 + (τ 8 p0.toNatClampNeg)) + (((τ 15 0) - (τ 15 0) / (2 : Int32) * (2 : Int32)) * (20 : Int32))), τ))) else (if (τ 2 p0.toNatClampNeg) = (5 : Int32) then (gd (inB p0 6) (some (((v3 / (2 : Int32)) - (τ 3 p0.toNatClampNeg)), τ))) else (if (τ 2 p0.toNatClampNeg) = (6 : Int32) then (lt (((p0 * (4 : Int32)) + ((τ 15 0) - (τ 15 0) / (4 : Int32) * (4 : Int32)))) (fun x14 => gd (inB x14 24) (some (((v3 + w0) + (τ 9 x14.toNatClampNeg)), τ)))) else (some (v3, τ))))))))
def f_X1_cost_0 (hs : Ms) (p0 : Int32) (p1 : Int32)  (τ : Mm) : Option (Int32 × Mm) := bd (f_X1_sum τ hs p0 p1) (fun u1 => gd (inB p0 6) (if (u1.2 4 p0.toNatClampNeg) ≤ p1 then (f_X1_cost_27 hs p0 p1  u1.2 u1.1 (0 : Int32)) else (gd (inB p0 6) (f_X1_cost_27 hs p0 p1  u1.2 u1.1 (u1.2 3 p0.toNatClampNeg)))))
def f_X1_cost (τ : Mm) (hs : Ms) (p0 : Int32) (p1 : Int32) : Option (Int32 × Mm) := f_X1_cost_0 hs p0 p1 τ
def f_X1_cheapest_53 (hs : Ms) (p0 : Int32) (k8 : Mm → Int32 → Int32 → Int32 → Option (Int32 × Mm)) (τ : Mm) (v2 : Int32) (v3 : Int32) (v4 : Int32) : Option (Int32 × Mm) := lt ((v4 + (1 : Int32))) (fun x4 => k8 τ v2 v3 x4)
def f_X1_cheapest_47 (hs : Ms) (p0 : Int32) (k8 : Mm → Int32 → Int32 → Int32 → Option (Int32 × Mm)) (τ : Mm) (v4 : Int32) (v5 : Int32) : Option (Int32 × Mm) := f_X1_cheapest_53 hs p0 k8 τ v4 v5 v4
def f_X1_cheapest_8 (hs : Ms) (p0 : Int32) (k8 : Mm → Int32 → Int32 → Int32 → Option (Int32 × Mm)) (τ : Mm) (v2 : Int32) (v3 : Int32) (v4 : Int32) : Option (Int32 × Mm) := if (τ 12 0) ≤ v4 then (some (v2, τ)) else (bd (f_X1_isFree τ v4) (fun u2 => if u2 = (0 : Int32) then (f_X1_cheapest_53 hs p0 k8 τ v2 v3 v4) else (bd (f_X1_cost τ hs v4 p0) (fun u5 => if v2 = (-5 : Int32) then (f_X1_cheapest_47 hs p0 k8 u5.2 v4 u5.1) else (if v3 ≤ u5.1 then (f_X1_cheapest_53 hs p0 k8 u5.2 v2 v3 v4) else (f_X1_cheapest_47 hs p0 k8 u5.2 v4 u5.1))))))
def f_X1_cheapest_8L (hs : Ms) (p0 : Int32)  : Nat → Mm → Int32 → Int32 → Int32 → Option (Int32 × Mm)
  | 0 => fun _ _ _ _ => none
  | n + 1 => f_X1_cheapest_8 hs p0  (f_X1_cheapest_8L hs p0  n)
def f_X1_cheapest_0 (hs : Ms) (p0 : Int32)  (τ : Mm) : Option (Int32 × Mm) := f_X1_cheapest_8L hs p0  FU τ (-5 : Int32) (0 : Int32) (0 : Int32)
def f_X1_cheapest (τ : Mm) (hs : Ms) (p0 : Int32) : Option (Int32 × Mm) := f_X1_cheapest_0 hs p0 τ
def f_X1_gives_39 (hs : Ms) (k2 : Mm → Int32 → Option (Mm)) (τ : Mm) (v1 : Int32) : Option (Mm) := lt ((v1 + (1 : Int32))) (fun x8 => k2 τ x8)
def f_X1_gives_2 (hs : Ms) (k2 : Mm → Int32 → Option (Mm)) (τ : Mm) (v1 : Int32) : Option (Mm) := if (10 : Int32) ≤ v1 then (some τ) else (bd (f_X1_waitsFor τ v1) (fun u2 => if u2 = (0 : Int32) then (f_X1_gives_39 hs k2 τ v1) else (bd (f_X1_cheapest τ hs v1) (fun u4 => if u4.1 = (-5 : Int32) then (some u4.2) else (gd (inB u4.1 6) (lt (s_t u4.2 5 u4.1.toNatClampNeg v1) (fun τ7 => f_X1_gives_39 hs k2 τ7 v1)))))))
def f_X1_gives_2L (hs : Ms)  : Nat → Mm → Int32 → Option (Mm)
  | 0 => fun _ _ => none
  | n + 1 => f_X1_gives_2 hs  (f_X1_gives_2L hs  n)
def f_X1_gives_0 (hs : Ms)  (τ : Mm) : Option (Mm) := f_X1_gives_2L hs  FU τ (0 : Int32)
def f_X1_gives (τ : Mm) (hs : Ms) : Option (Mm) := f_X1_gives_0 hs τ
def f_J6_compare_7cf53_0 (p0 : Int32) (p1 : Int32)   : Option (Int32) := if p1 ≤ p0 then (if p0 = p1 then (some (0 : Int32)) else (some (1 : Int32))) else (some (-1 : Int32))
def f_J6_compare_7cf53 (p0 : Int32) (p1 : Int32) : Option (Int32) := f_J6_compare_7cf53_0 p0 p1 
def f_X1_moves_140 (hs : Ms) (p0 : Int32)  (τ : Mm) (w1 : Int32) (w2 : Int32) : Option (Mm) := gd (inB w1 6) (lt (s_t τ 6 w1.toNatClampNeg w2) (fun τ21 => some τ21))
def f_X1_moves_0 (hs : Ms) (p0 : Int32)  (τ : Mm) : Option (Mm) := gd (inB p0 6) (if (τ 5 p0.toNatClampNeg) = (-5 : Int32) then (gd (inB p0 6) (gd (inB p0 6) (lt (s_t τ 6 p0.toNatClampNeg (if (0 : Int32) < ((τ 6 p0.toNatClampNeg) - (1 : Int32)) then ((τ 6 p0.toNatClampNeg) - (1 : Int32)) else (0 : Int32))) (fun τ26 => some τ26)))) else (gd (inB p0 6) (gd (inB p0 6) (gd (inB p0 6) (bd (f_J6_compare_7cf53 (τ 5 p0.toNatClampNeg) (τ 4 p0.toNatClampNeg)) (fun u6 => gd (inB p0 6) (lt (s_t τ 4 p0.toNatClampNeg ((τ 4 p0.toNatClampNeg) + u6)) (fun τ8 => gd (inB p0 6) (gd (inB p0 6) (if (τ8 4 p0.toNatClampNeg) = (τ8 5 p0.toNatClampNeg) then (gd (inB p0 6) (gd (inB p0 6) (lt (s_t τ8 8 p0.toNatClampNeg (if ((τ8 8 p0.toNatClampNeg) + (1 : Int32)) < (τ8 0 0) then ((τ8 8 p0.toNatClampNeg) + (1 : Int32)) else (τ8 0 0))) (fun τ14 => gd (inB p0 6) (lt (s_t τ14 13 0 ((τ14 13 0) &&& (((1 : Int32) <<< ((τ14 5 p0.toNatClampNeg) &&& 31)) ^^^ (-1 : Int32)))) (fun τ16 => gd (inB p0 6) (lt (s_t τ16 5 p0.toNatClampNeg (-5 : Int32)) (fun τ18 => if (τ18 16 0) = 0 then (f_X1_moves_140 hs p0  τ18 p0 (2 : Int32)) else (gd (inH (τ18 16 0)) (gd (inH (τ18 16 0)) (f_X1_moves_140 hs p0  τ18 p0 ((hs (τ18 16 0).toNatClampNeg) 2 0)))))))))))) else (some τ8)))))))))))
def f_X1_moves (τ : Mm) (hs : Ms) (p0 : Int32) : Option (Mm) := f_X1_moves_0 hs p0 τ
def f_X1_goes_35 (hs : Ms) (p0 : Int32) (k2 : Mm → Int32 → Option (Mm)) (k13 : Mm → Int32 → Int32 → Option (Mm)) (τ : Mm) (v2 : Int32) (v3 : Int32) : Option (Mm) := lt ((v3 + (1 : Int32))) (fun x10 => k13 τ v2 x10)
def f_X1_goes_13 (hs : Ms) (p0 : Int32) (k2 : Mm → Int32 → Option (Mm)) (k13 : Mm → Int32 → Int32 → Option (Mm)) (τ : Mm) (v2 : Int32) (v3 : Int32) : Option (Mm) := if (τ 12 0) ≤ v3 then (bd (f_J6_bitCount_0f7a4 (τ 13 0)) (fun u4 => lt (s_t τ 14 0 (if ((τ 14 0) + u4) < (τ 1 0) then ((τ 14 0) + u4) else (τ 1 0))) (fun τ5 => lt (s_t τ5 15 0 ((τ5 15 0) + (1 : Int32))) (fun τ6 => lt ((v2 + (1 : Int32))) (fun x7 => k2 τ6 x7))))) else (gd (inB v3 6) (if (τ 7 v3.toNatClampNeg) = (0 : Int32) then (bd (f_X1_moves τ hs v3) (fun u11 => f_X1_goes_35 hs p0 k2 k13 u11 v2 v3)) else (f_X1_goes_35 hs p0 k2 k13 τ v2 v3)))
def f_X1_goes_13L (hs : Ms) (p0 : Int32) (k2 : Mm → Int32 → Option (Mm)) : Nat → Mm → Int32 → Int32 → Option (Mm)
  | 0 => fun _ _ _ => none
  | n + 1 => f_X1_goes_13 hs p0 k2 (f_X1_goes_13L hs p0 k2 n)
def f_X1_goes_2 (hs : Ms) (p0 : Int32) (k2 : Mm → Int32 → Option (Mm)) (τ : Mm) (v2 : Int32) : Option (Mm) := if p0 ≤ v2 then (some τ) else (bd (f_X1_gives τ hs) (fun u2 => f_X1_goes_13L hs p0 k2 FU u2 v2 (0 : Int32)))
def f_X1_goes_2L (hs : Ms) (p0 : Int32)  : Nat → Mm → Int32 → Option (Mm)
  | 0 => fun _ _ => none
  | n + 1 => f_X1_goes_2 hs p0  (f_X1_goes_2L hs p0  n)
def f_X1_goes_0 (hs : Ms) (p0 : Int32)  (τ : Mm) : Option (Mm) := f_X1_goes_2L hs p0  FU τ (0 : Int32)
def f_X1_goes (τ : Mm) (hs : Ms) (p0 : Int32) : Option (Mm) := f_X1_goes_0 hs p0 τ
def f_X1_loop_9 (τ : Mm) (p0 : Int32) (k9 : Int32 → Int32 → Option (Int32)) (v2 : Int32) (v3 : Int32) : Option (Int32) := if v3 = p0 then (some v2) else (if (10 : Int32) ≤ v2 then (some v2) else (gd (inB v3 10) (lt ((τ 10 v3.toNatClampNeg)) (fun x6 => lt ((v2 + (1 : Int32))) (fun x7 => k9 x7 x6)))))
def f_X1_loop_9L (τ : Mm) (p0 : Int32)  : Nat → Int32 → Int32 → Option (Int32)
  | 0 => fun _ _ => none
  | n + 1 => f_X1_loop_9 τ p0  (f_X1_loop_9L τ p0  n)
def f_X1_loop_0 (τ : Mm) (p0 : Int32)   : Option (Int32) := gd (inB p0 10) (lt ((τ 10 p0.toNatClampNeg)) (fun x2 => f_X1_loop_9L τ p0  FU (1 : Int32) x2))
def f_X1_loop (τ : Mm) (p0 : Int32) : Option (Int32) := f_X1_loop_0 τ p0 
def f_X1_crossings_53 (τ : Mm) (k4 : Int32 → Int32 → Option (Int32)) (v1 : Int32) (v2 : Int32) : Option (Int32) := lt ((v2 + (1 : Int32))) (fun x6 => k4 v1 x6)
def f_X1_crossings_45 (τ : Mm) (k4 : Int32 → Int32 → Option (Int32)) (v1 : Int32) (v2 : Int32) (v3 : Int32) : Option (Int32) := if v3 = v2 then (f_X1_crossings_53 τ k4 v1 v2) else (lt ((v1 + (1 : Int32))) (fun x7 => f_X1_crossings_53 τ k4 x7 v2))
def f_X1_crossings_20 (τ : Mm) (k4 : Int32 → Int32 → Option (Int32)) (k20 : Int32 → Int32 → Int32 → Int32 → Option (Int32)) (v1 : Int32) (v2 : Int32) (v3 : Int32) (v4 : Int32) : Option (Int32) := if (10 : Int32) ≤ v4 then (f_X1_crossings_45 τ k4 v1 v2 v3) else (if v3 ≤ v2 then (f_X1_crossings_45 τ k4 v1 v2 v3) else (gd (inB v3 10) (lt ((τ 10 v3.toNatClampNeg)) (fun x10 => lt ((v4 + (1 : Int32))) (fun x11 => k20 v1 v2 x10 x11)))))
def f_X1_crossings_20L (τ : Mm) (k4 : Int32 → Int32 → Option (Int32)) : Nat → Int32 → Int32 → Int32 → Int32 → Option (Int32)
  | 0 => fun _ _ _ _ => none
  | n + 1 => f_X1_crossings_20 τ k4 (f_X1_crossings_20L τ k4 n)
def f_X1_crossings_4 (τ : Mm) (k4 : Int32 → Int32 → Option (Int32)) (v1 : Int32) (v2 : Int32) : Option (Int32) := if (10 : Int32) ≤ v2 then (some v1) else (gd (inB v2 10) (lt ((τ 10 v2.toNatClampNeg)) (fun x3 => f_X1_crossings_20L τ k4 FU v1 v2 x3 (0 : Int32))))
def f_X1_crossings_4L (τ : Mm)  : Nat → Int32 → Int32 → Option (Int32)
  | 0 => fun _ _ => none
  | n + 1 => f_X1_crossings_4 τ  (f_X1_crossings_4L τ  n)
def f_X1_crossings_0 (τ : Mm)   : Option (Int32) := f_X1_crossings_4L τ  FU (0 : Int32) (0 : Int32)
def f_X1_crossings (τ : Mm) : Option (Int32) := f_X1_crossings_0 τ 
def f_X1_firstCrossed_2 (τ : Mm) (k2 : Int32 → Option (Int32)) (v1 : Int32) : Option (Int32) := if (10 : Int32) ≤ v1 then (some (-5 : Int32)) else (gd (inB v1 10) (if (τ 10 v1.toNatClampNeg) = v1 then (lt ((v1 + (1 : Int32))) (fun x4 => k2 x4)) else (some v1)))
def f_X1_firstCrossed_2L (τ : Mm)  : Nat → Int32 → Option (Int32)
  | 0 => fun _ => none
  | n + 1 => f_X1_firstCrossed_2 τ  (f_X1_firstCrossed_2L τ  n)
def f_X1_firstCrossed_0 (τ : Mm)   : Option (Int32) := f_X1_firstCrossed_2L τ  FU (0 : Int32)
def f_X1_firstCrossed (τ : Mm) : Option (Int32) := f_X1_firstCrossed_0 τ 
def f_X2_empties_0   (τ : Mm) : Option (Mm) := lt (s_t τ 1 0 (0 : Int32)) (fun τ1 => lt (s_t τ1 2 0 (2 : Int32)) (fun τ2 => some τ2))
def f_X2_empties (τ : Mm) : Option (Mm) := f_X2_empties_0  τ
def f_X2_adds_0 (p0 : Int32)  (τ : Mm) : Option (Mm) := if (nI 100) ≤ (τ 1 0) then (some τ) else (gd (inB (τ 1 0) 100) (lt (s_t τ 0 (τ 1 0).toNatClampNeg p0) (fun τ3 => lt (s_t τ3 1 0 ((τ3 1 0) + (1 : Int32))) (fun τ4 => some τ4))))
def f_X2_adds (τ : Mm) (p0 : Int32) : Option (Mm) := f_X2_adds_0 p0 τ
def f_X8_copy_4_1_0 (τo : Mm) (N : Nat) (No : Nat)  (τ : Mm) : Option (Mm) := gd (cpB (0 : Int32) (0 : Int32) (if (nI N) < (nI No) then (nI N) else (nI No)) No N) (lt (s_r τ 0 (va_cpy (τo 0) (τ 0) (0 : Int32).toNatClampNeg (0 : Int32).toNatClampNeg (if (nI N) < (nI No) then (nI N) else (nI No)).toNatClampNeg)) (fun τ2 => some τ2))
def f_X8_copy_4_1 (τ : Mm) (τo : Mm) (N : Nat) (No : Nat) : Option (Mm) := f_X8_copy_4_1_0 τo N No τ
def f_X8_copy_4_2_0 (τo : Mm) (N : Nat) (No : Nat)  (τ : Mm) : Option (Mm) := gd (cpB (0 : Int32) (0 : Int32) (if (nI N) < (nI No) then (nI N) else (nI No)) No N) (lt (s_r τ 1 (va_cpy (τo 1) (τ 1) (0 : Int32).toNatClampNeg (0 : Int32).toNatClampNeg (if (nI N) < (nI No) then (nI N) else (nI No)).toNatClampNeg)) (fun τ2 => some τ2))
def f_X8_copy_4_2 (τ : Mm) (τo : Mm) (N : Nat) (No : Nat) : Option (Mm) := f_X8_copy_4_2_0 τo N No τ
def f_X8_copy_4_3_0 (τo : Mm) (N : Nat) (No : Nat)  (τ : Mm) : Option (Mm) := gd (cpB (0 : Int32) (0 : Int32) (if (nI N) < (nI No) then (nI N) else (nI No)) No N) (lt (s_r τ 2 (va_cpy (τo 2) (τ 2) (0 : Int32).toNatClampNeg (0 : Int32).toNatClampNeg (if (nI N) < (nI No) then (nI N) else (nI No)).toNatClampNeg)) (fun τ2 => some τ2))
def f_X8_copy_4_3 (τ : Mm) (τo : Mm) (N : Nat) (No : Nat) : Option (Mm) := f_X8_copy_4_3_0 τo N No τ
def f_X4_copies_0 (τo : Mm) (N : Nat) (No : Nat)  (τ : Mm) : Option (Mm) := bd (f_X8_copy_4_1 τ τo N No) (fun u1 => bd (f_X8_copy_4_2 u1 τo N No) (fun u2 => bd (f_X8_copy_4_3 u2 τo N No) (fun u3 => lt (s_t u3 3 0 (τo 3 0)) (fun τ4 => some τ4))))
def f_X4_copies (τ : Mm) (τo : Mm) (N : Nat) (No : Nat) : Option (Mm) := f_X4_copies_0 τo N No τ
def f_X3_copies_4_0   (σ : Ms) : Option (Ms) := bd (f_X4_copies (σ 6) (σ 9) (rl 6) (rl 9)) (fun u1 => lt (va_up σ 6 u1) (fun σ2 => bd (f_X4_copies (σ2 7) (σ2 10) (rl 7) (rl 10)) (fun u3 => lt (va_up σ2 7 u3) (fun σ4 => bd (f_X4_copies (σ4 8) (σ4 11) (rl 8) (rl 11)) (fun u5 => lt (va_up σ4 8 u5) (fun σ6 => some σ6))))))
def f_X3_copies_4 (σ : Ms) : Option (Ms) := f_X3_copies_4_0  σ
def f_X3_copies_5_0   (σ : Ms) : Option (Ms) := bd (f_X4_copies (σ 9) (σ 6) (rl 9) (rl 6)) (fun u1 => lt (va_up σ 9 u1) (fun σ2 => bd (f_X4_copies (σ2 10) (σ2 7) (rl 10) (rl 7)) (fun u3 => lt (va_up σ2 10 u3) (fun σ4 => bd (f_X4_copies (σ4 11) (σ4 8) (rl 11) (rl 8)) (fun u5 => lt (va_up σ4 11 u5) (fun σ6 => some σ6))))))
def f_X3_copies_5 (σ : Ms) : Option (Ms) := f_X3_copies_5_0  σ
def f_X4_isFull_0 (τ : Mm) (N : Nat)   : Option (Int32) := if (τ 3 0) < (nI N) then (some (0 : Int32)) else (some (1 : Int32))
def f_X4_isFull (τ : Mm) (N : Nat) : Option (Int32) := f_X4_isFull_0 τ N 
def f_X4_adds_47 (N : Nat) (p0 : Int32) (p1 : Int32) (p2 : Int32)  (τ : Mm) : Option (Int32 × Mm) := some ((τ 3 0), τ)
def f_X4_adds_0 (N : Nat) (p0 : Int32) (p1 : Int32) (p2 : Int32)  (τ : Mm) : Option (Int32 × Mm) := bd (f_X4_isFull τ N) (fun u1 => if u1 = (0 : Int32) then (gd (inB (τ 3 0) N) (lt (s_t τ 0 (τ 3 0).toNatClampNeg p0) (fun τ4 => gd (inB (τ4 3 0) N) (lt (s_t τ4 1 (τ4 3 0).toNatClampNeg p1) (fun τ6 => gd (inB (τ6 3 0) N) (lt (s_t τ6 2 (τ6 3 0).toNatClampNeg p2) (fun τ8 => lt (s_t τ8 3 0 ((τ8 3 0) + (1 : Int32))) (fun τ9 => f_X4_adds_47 N p0 p1 p2  τ9)))))))) else (f_X4_adds_47 N p0 p1 p2  τ))
def f_X4_adds (τ : Mm) (N : Nat) (p0 : Int32) (p1 : Int32) (p2 : Int32) : Option (Int32 × Mm) := f_X4_adds_0 N p0 p1 p2 τ
def f_X4_empties_0   (τ : Mm) : Option (Int32 × Mm) := lt (s_t τ 3 0 (0 : Int32)) (fun τ1 => some ((0 : Int32), τ1))
def f_X4_empties (τ : Mm) : Option (Int32 × Mm) := f_X4_empties_0  τ
def f_X5_asks_63 (hs : Ms) (p1 : Int32) (k18 : Mm → Mm → Int32 → Option (Mm × Mm)) (τ : Mm) (θ : Mm) (v3 : Int32) : Option (Mm × Mm) := lt ((v3 + (1 : Int32))) (fun x8 => k18 τ θ x8)
def f_X5_asks_18 (hs : Ms) (p1 : Int32) (k18 : Mm → Mm → Int32 → Option (Mm × Mm)) (τ : Mm) (θ : Mm) (v3 : Int32) : Option (Mm × Mm) := if (θ 12 0) ≤ v3 then (some (τ, θ)) else (bd (f_X1_isFree θ v3) (fun u6 => if u6 = (0 : Int32) then (f_X5_asks_63 hs p1 k18 τ θ v3) else (gd (inB p1 10) (gd (inB p1 10) (lt (s_t τ 3 p1.toNatClampNeg ((τ 3 p1.toNatClampNeg) ||| ((1 : Int32) <<< (v3 &&& 31)))) (fun τ11 => bd (f_X1_cost θ hs v3 p1) (fun u12 => gd (inB ((p1 * (6 : Int32)) + v3) 60) (lt (s_t τ11 4 ((p1 * (6 : Int32)) + v3).toNatClampNeg u12.1) (fun τ14 => f_X5_asks_63 hs p1 k18 τ14 u12.2 v3)))))))))
def f_X5_asks_18L (hs : Ms) (p1 : Int32)  : Nat → Mm → Mm → Int32 → Option (Mm × Mm)
  | 0 => fun _ _ _ => none
  | n + 1 => f_X5_asks_18 hs p1  (f_X5_asks_18L hs p1  n)
def f_X5_asks_0 (hs : Ms) (p1 : Int32)  (τ : Mm) (θ : Mm) : Option (Mm × Mm) := gd (inB p1 10) (lt (s_t τ 3 p1.toNatClampNeg (0 : Int32)) (fun τ2 => bd (f_X1_waitsFor θ p1) (fun u3 => if u3 = (0 : Int32) then (some (τ2, θ)) else (f_X5_asks_18L hs p1  FU τ2 θ (0 : Int32)))))
def f_X5_asks (τ : Mm) (θ : Mm) (hs : Ms) (p1 : Int32) : Option (Mm × Mm) := f_X5_asks_0 hs p1 τ θ
def f_X5_isOpen_0 (τ : Mm) (p0 : Int32) (p1 : Int32) (p2 : Int32)   : Option (Int32) := gd (inB p0 10) (if ((((τ 3 p0.toNatClampNeg) &&& (p2 ^^^ (-1 : Int32))) >>> (p1 &&& 31)) &&& (1 : Int32)) = (0 : Int32) then (some (0 : Int32)) else (some (1 : Int32)))
def f_X5_isOpen (τ : Mm) (p0 : Int32) (p1 : Int32) (p2 : Int32) : Option (Int32) := f_X5_isOpen_0 τ p0 p1 p2 
def f_X5_worthBy_0 (τ : Mm) (p0 : Int32) (p1 : Int32) (p2 : Int32)   : Option (Int32) := lt ((((p0 + (1 : Int32)) * (64 : Int32)) + (p2 ||| ((1 : Int32) <<< (p1 &&& 31))))) (fun x1 => gd (inB x1 704) (lt ((τ 5 x1.toNatClampNeg)) (fun x3 => gd (inB ((p0 * (6 : Int32)) + p1) 60) (some ((x3 + (1000000 : Int32)) - (τ 4 ((p0 * (6 : Int32)) + p1).toNatClampNeg))))))
def f_X5_worthBy (τ : Mm) (p0 : Int32) (p1 : Int32) (p2 : Int32) : Option (Int32) := f_X5_worthBy_0 τ p0 p1 p2 
def f_X5_choice_41 (τ : Mm) (p0 : Int32) (p1 : Int32) (k2 : Int32 → Option (Int32)) (v3 : Int32) : Option (Int32) := lt ((v3 + (1 : Int32))) (fun x4 => k2 x4)
def f_X5_choice_2 (τ : Mm) (p0 : Int32) (p1 : Int32) (k2 : Int32 → Option (Int32)) (v3 : Int32) : Option (Int32) := if (6 : Int32) ≤ v3 then (some (-5 : Int32)) else (bd (f_X5_isOpen τ p0 v3 p1) (fun u2 => if u2 = (0 : Int32) then (f_X5_choice_41 τ p0 p1 k2 v3) else (bd (f_X5_worthBy τ p0 v3 p1) (fun u5 => gd (inB ((p0 * (64 : Int32)) + p1) 704) (if u5 = (τ 5 ((p0 * (64 : Int32)) + p1).toNatClampNeg) then (some v3) else (f_X5_choice_41 τ p0 p1 k2 v3))))))
def f_X5_choice_2L (τ : Mm) (p0 : Int32) (p1 : Int32)  : Nat → Int32 → Option (Int32)
  | 0 => fun _ => none
  | n + 1 => f_X5_choice_2 τ p0 p1  (f_X5_choice_2L τ p0 p1  n)
def f_X5_choice_0 (τ : Mm) (p0 : Int32) (p1 : Int32)   : Option (Int32) := f_X5_choice_2L τ p0 p1  FU (0 : Int32)
def f_X5_choice (τ : Mm) (p0 : Int32) (p1 : Int32) : Option (Int32) := f_X5_choice_0 τ p0 p1 
def f_X5_values_56 (p0 : Int32) (k2 : Mm → Int32 → Option (Mm)) (k25 : Mm → Int32 → Int32 → Int32 → Option (Mm)) (τ : Mm) (v2 : Int32) (v3 : Int32) (v4 : Int32) : Option (Mm) := lt ((v4 + (1 : Int32))) (fun x11 => k25 τ v2 v3 x11)
def f_X5_values_25 (p0 : Int32) (k2 : Mm → Int32 → Option (Mm)) (k25 : Mm → Int32 → Int32 → Int32 → Option (Mm)) (τ : Mm) (v2 : Int32) (v3 : Int32) (v4 : Int32) : Option (Mm) := if (6 : Int32) ≤ v4 then (gd (inB ((p0 * (64 : Int32)) + v2) 704) (lt (s_t τ 5 ((p0 * (64 : Int32)) + v2).toNatClampNeg v3) (fun τ7 => lt ((v2 + (1 : Int32))) (fun x8 => k2 τ7 x8)))) else (bd (f_X5_isOpen τ p0 v4 v2) (fun u9 => if u9 = (0 : Int32) then (f_X5_values_56 p0 k2 k25 τ v2 v3 v4) else (bd (f_X5_worthBy τ p0 v4 v2) (fun u12 => lt ((if v3 < u12 then u12 else v3)) (fun x13 => f_X5_values_56 p0 k2 k25 τ v2 x13 v4)))))
def f_X5_values_25L (p0 : Int32) (k2 : Mm → Int32 → Option (Mm)) : Nat → Mm → Int32 → Int32 → Int32 → Option (Mm)
  | 0 => fun _ _ _ _ => none
  | n + 1 => f_X5_values_25 p0 k2 (f_X5_values_25L p0 k2 n)
def f_X5_values_2 (p0 : Int32) (k2 : Mm → Int32 → Option (Mm)) (τ : Mm) (v2 : Int32) : Option (Mm) := if (64 : Int32) ≤ v2 then (some τ) else (lt ((((p0 + (1 : Int32)) * (64 : Int32)) + v2)) (fun x2 => gd (inB x2 704) (lt ((τ 5 x2.toNatClampNeg)) (fun x4 => f_X5_values_25L p0 k2 FU τ v2 x4 (0 : Int32)))))
def f_X5_values_2L (p0 : Int32)  : Nat → Mm → Int32 → Option (Mm)
  | 0 => fun _ _ => none
  | n + 1 => f_X5_values_2 p0  (f_X5_values_2L p0  n)
def f_X5_values_0 (p0 : Int32)  (τ : Mm) : Option (Mm) := f_X5_values_2L p0  FU τ (0 : Int32)
def f_X5_values (τ : Mm) (p0 : Int32) : Option (Mm) := f_X5_values_0 p0 τ
def f_X5_finds_105 (hs : Ms) (k38 : Mm → Mm → Int32 → Int32 → Option (Mm × Mm)) (τ : Mm) (θ : Mm) (v2 : Int32) (v3 : Int32) : Option (Mm × Mm) := lt ((v3 + (1 : Int32))) (fun x9 => k38 τ θ v2 x9)
def f_X5_finds_38 (hs : Ms) (k38 : Mm → Mm → Int32 → Int32 → Option (Mm × Mm)) (τ : Mm) (θ : Mm) (v2 : Int32) (v3 : Int32) : Option (Mm × Mm) := if (10 : Int32) ≤ v3 then (some (τ, θ)) else (bd (f_X5_choice τ v3 v2) (fun u5 => gd (inB v3 10) (lt (s_t τ 0 v3.toNatClampNeg u5) (fun τ7 => if u5 = (-5 : Int32) then (f_X5_finds_105 hs k38 τ7 θ v2 v3) else (lt ((v2 ||| ((1 : Int32) <<< (u5 &&& 31)))) (fun x10 => lt (s_t τ7 1 0 ((τ7 1 0) + (1 : Int32))) (fun τ11 => gd (inB ((v3 * (6 : Int32)) + u5) 60) (lt (s_t τ11 2 0 ((τ11 2 0) + (τ11 4 ((v3 * (6 : Int32)) + u5).toNatClampNeg))) (fun τ13 => f_X5_finds_105 hs k38 τ13 θ x10 v3)))))))))
def f_X5_finds_38L (hs : Ms)  : Nat → Mm → Mm → Int32 → Int32 → Option (Mm × Mm)
  | 0 => fun _ _ _ _ => none
  | n + 1 => f_X5_finds_38 hs  (f_X5_finds_38L hs  n)
def f_X5_finds_3 (hs : Ms) (k3 : Mm → Mm → Int32 → Option (Mm × Mm)) (τ : Mm) (θ : Mm) (v2 : Int32) : Option (Mm × Mm) := if v2 < (0 : Int32) then (lt (s_t τ 1 0 (0 : Int32)) (fun τ2 => lt (s_t τ2 2 0 (0 : Int32)) (fun τ3 => f_X5_finds_38L hs  FU τ3 θ (0 : Int32) (0 : Int32)))) else (bd (f_X5_asks τ θ hs v2) (fun u14 => bd (f_X5_values u14.1 v2) (fun u15 => lt ((v2 + (-1 : Int32))) (fun x16 => k3 u15 u14.2 x16))))
def f_X5_finds_3L (hs : Ms)  : Nat → Mm → Mm → Int32 → Option (Mm × Mm)
  | 0 => fun _ _ _ => none
  | n + 1 => f_X5_finds_3 hs  (f_X5_finds_3L hs  n)
def f_X5_finds_0 (hs : Ms)  (τ : Mm) (θ : Mm) : Option (Mm × Mm) := f_X5_finds_3L hs  FU τ θ (9 : Int32)
def f_X5_finds (τ : Mm) (θ : Mm) (hs : Ms) : Option (Mm × Mm) := f_X5_finds_0 hs τ θ
def f_X6_becomes_12 (p0 : Int32) (p1 : Int32) (k12 : Mm → Mj → Int32 → Option (Mm × Mj)) (τ : Mm) (η : Mj) (v3 : Int32) : Option (Mm × Mj) := if (60 : Int32) ≤ v3 then (some (τ, η)) else (gd (inB v3 60) (lt (s_l η 0 v3.toNatClampNeg (0 : Int64)) (fun η5 => lt ((v3 + (1 : Int32))) (fun x6 => k12 τ η5 x6))))
def f_X6_becomes_12L (p0 : Int32) (p1 : Int32)  : Nat → Mm → Mj → Int32 → Option (Mm × Mj)
  | 0 => fun _ _ _ => none
  | n + 1 => f_X6_becomes_12 p0 p1  (f_X6_becomes_12L p0 p1  n)
def f_X6_becomes_0 (p0 : Int32) (p1 : Int32)  (τ : Mm) (η : Mj) : Option (Mm × Mj) := lt (s_t τ 1 0 p0) (fun τ1 => lt (s_t τ1 2 0 p1) (fun τ2 => f_X6_becomes_12L p0 p1  FU τ2 η (0 : Int32)))
def f_X6_becomes (τ : Mm) (η : Mj) (p0 : Int32) (p1 : Int32) : Option (Mm × Mj) := f_X6_becomes_0 p0 p1 τ η
def f_X6_has_0 (τ : Mm) (p0 : Int64)   : Option (Int32) := if (lg_cmp p0 (0 : Int64)) < (0 : Int32) then (some (0 : Int32)) else (if (0 : Int32) ≤ (lg_cmp p0 ((τ 2 0).toInt64)) then (some (0 : Int32)) else (some (1 : Int32)))
def f_X6_has (τ : Mm) (p0 : Int64) : Option (Int32) := f_X6_has_0 τ p0 
def f_X6_hasRun_0 (τ : Mm) (p0 : Int32) (p1 : Int32)   : Option (Int32) := if p1 < (0 : Int32) then (some (0 : Int32)) else (if p0 < (0 : Int32) then (some (0 : Int32)) else (if ((τ 2 0) - p1) < p0 then (some (0 : Int32)) else (some (1 : Int32))))
def f_X6_hasRun (τ : Mm) (p0 : Int32) (p1 : Int32) : Option (Int32) := f_X6_hasRun_0 τ p0 p1 
def f_X6_fitted_0 (τ : Mm) (p0 : Int64)   : Option (Int64) := if (τ 1 0) = (0 : Int32) then (some p0.toInt32.toInt8.toInt32.toInt64) else (if (τ 1 0) = (1 : Int32) then (some p0.toInt32.toInt16.toInt32.toInt64) else (if (τ 1 0) = (2 : Int32) then (some p0.toInt32.toInt64) else (if (τ 1 0) = (3 : Int32) then (some p0) else (if (lg_cmp p0 (0 : Int64)) = (0 : Int32) then (some (0 : Int64)) else (some (1 : Int64))))))
def f_X6_fitted (τ : Mm) (p0 : Int64) : Option (Int64) := f_X6_fitted_0 τ p0 
def f_X7_adds_33 (p0 : Int32)  (τ : Mm) : Option (Int32 × Mm) := some ((τ 1 0), τ)
def f_X7_adds_0 (p0 : Int32)  (τ : Mm) : Option (Int32 × Mm) := if (nI 100) ≤ (τ 1 0) then (f_X7_adds_33 p0  τ) else (gd (inB (τ 1 0) 100) (lt (s_t τ 0 (τ 1 0).toNatClampNeg (vp_nar .byte p0.toInt8.toInt32)) (fun τ3 => lt (s_t τ3 1 0 ((τ3 1 0) + (1 : Int32))) (fun τ4 => f_X7_adds_33 p0  τ4))))
def f_X7_adds (τ : Mm) (p0 : Int32) : Option (Int32 × Mm) := f_X7_adds_0 p0 τ
def f_X7_takes_0 (p0 : Int32)  (τ : Mm) : Option (Int32 × Mm) := if (τ 3 0) ≤ (τ 2 0) then (some ((0 : Int32), τ)) else (gd (inB (τ 2 0) 100) (if (τ 0 (τ 2 0).toNatClampNeg) = p0 then (lt (s_t τ 2 0 ((τ 2 0) + (1 : Int32))) (fun τ4 => some ((1 : Int32), τ4))) else (some ((0 : Int32), τ))))
def f_X7_takes (τ : Mm) (p0 : Int32) : Option (Int32 × Mm) := f_X7_takes_0 p0 τ
def f_X7_allHold_12 (rec : Nat → Mm → Ms → Int32 → Option (Int32 × Mm × Ms)) (p0 : Int32) (k12 : Mm → Ms → Int32 → Option (Int32 × Mm × Ms)) (τ : Mm) (hs : Ms) (v2 : Int32) : Option (Int32 × Mm × Ms) := if (100 : Int32) ≤ v2 then (some ((1 : Int32), τ, hs)) else (bd (f_X7_takes τ (38 : Int32)) (fun u4 => if u4.1 = (0 : Int32) then (some ((1 : Int32), u4.2, hs)) else (bd (rec 2 u4.2 hs p0) (fun u6 => if u6.1 = (0 : Int32) then (some ((0 : Int32), u6.2.1, u6.2.2)) else (gd (inH (u6.2.1 4 0)) (bd (f_X2_adds (u6.2.2 (u6.2.1 4 0).toNatClampNeg) (1801 : Int32)) (fun u9 => lt (va_up u6.2.2 ((u6.2.1 4 0).toNatClampNeg) u9) (fun hs10 => lt ((v2 + (1 : Int32))) (fun x11 => k12 u6.2.1 hs10 x11)))))))))
def f_X7_allHold_12L (rec : Nat → Mm → Ms → Int32 → Option (Int32 × Mm × Ms)) (p0 : Int32)  : Nat → Mm → Ms → Int32 → Option (Int32 × Mm × Ms)
  | 0 => fun _ _ _ => none
  | n + 1 => f_X7_allHold_12 rec p0  (f_X7_allHold_12L rec p0  n)
def f_X7_allHold_0 (rec : Nat → Mm → Ms → Int32 → Option (Int32 × Mm × Ms)) (p0 : Int32)  (τ : Mm) (hs : Ms) : Option (Int32 × Mm × Ms) := bd (rec 2 τ hs p0) (fun u1 => if u1.1 = (0 : Int32) then (some ((0 : Int32), u1.2.1, u1.2.2)) else (f_X7_allHold_12L rec p0  FU u1.2.1 u1.2.2 (0 : Int32)))
def f_X7_anyHolds_12 (rec : Nat → Mm → Ms → Int32 → Option (Int32 × Mm × Ms)) (p0 : Int32) (k12 : Mm → Ms → Int32 → Option (Int32 × Mm × Ms)) (τ : Mm) (hs : Ms) (v2 : Int32) : Option (Int32 × Mm × Ms) := if (100 : Int32) ≤ v2 then (some ((1 : Int32), τ, hs)) else (bd (f_X7_takes τ (124 : Int32)) (fun u4 => if u4.1 = (0 : Int32) then (some ((1 : Int32), u4.2, hs)) else (bd (rec 1 u4.2 hs p0) (fun u6 => if u6.1 = (0 : Int32) then (some ((0 : Int32), u6.2.1, u6.2.2)) else (gd (inH (u6.2.1 4 0)) (bd (f_X2_adds (u6.2.2 (u6.2.1 4 0).toNatClampNeg) (1802 : Int32)) (fun u9 => lt (va_up u6.2.2 ((u6.2.1 4 0).toNatClampNeg) u9) (fun hs10 => lt ((v2 + (1 : Int32))) (fun x11 => k12 u6.2.1 hs10 x11)))))))))
def f_X7_anyHolds_12L (rec : Nat → Mm → Ms → Int32 → Option (Int32 × Mm × Ms)) (p0 : Int32)  : Nat → Mm → Ms → Int32 → Option (Int32 × Mm × Ms)
  | 0 => fun _ _ _ => none
  | n + 1 => f_X7_anyHolds_12 rec p0  (f_X7_anyHolds_12L rec p0  n)
def f_X7_anyHolds_0 (rec : Nat → Mm → Ms → Int32 → Option (Int32 × Mm × Ms)) (p0 : Int32)  (τ : Mm) (hs : Ms) : Option (Int32 × Mm × Ms) := bd (rec 1 τ hs p0) (fun u1 => if u1.1 = (0 : Int32) then (some ((0 : Int32), u1.2.1, u1.2.2)) else (f_X7_anyHolds_12L rec p0  FU u1.2.1 u1.2.2 (0 : Int32)))
def f_X7_number_59  (k4 : Mm → Int32 → Int32 → Option (Int32 × Mm)) (τ : Mm) (v2 : Int32) (w0 : Int32) : Option (Int32 × Mm) := lt (s_t τ 2 0 ((τ 2 0) + (1 : Int32))) (fun τ8 => lt ((v2 + (1 : Int32))) (fun x9 => k4 τ8 w0 x9))
def f_X7_number_4  (k4 : Mm → Int32 → Int32 → Option (Int32 × Mm)) (τ : Mm) (v1 : Int32) (v2 : Int32) : Option (Int32 × Mm) := if (2 : Int32) ≤ v2 then (some (v1, τ)) else (if (τ 3 0) ≤ (τ 2 0) then (some (v1, τ)) else (gd (inB (τ 2 0) 100) (lt (((τ 0 (τ 2 0).toNatClampNeg) - (48 : Int32))) (fun x4 => if x4 < (0 : Int32) then (some (v1, τ)) else (if x4 ≤ (9 : Int32) then (if v2 = (0 : Int32) then (f_X7_number_59  k4 τ v2 x4) else (f_X7_number_59  k4 τ v2 ((v1 * (10 : Int32)) + x4))) else (some (v1, τ)))))))
def f_X7_number_4L   : Nat → Mm → Int32 → Int32 → Option (Int32 × Mm)
  | 0 => fun _ _ _ => none
  | n + 1 => f_X7_number_4   (f_X7_number_4L   n)
def f_X7_number_0   (τ : Mm) : Option (Int32 × Mm) := f_X7_number_4L   FU τ (-1 : Int32) (0 : Int32)
def f_X7_number (τ : Mm) : Option (Int32 × Mm) := f_X7_number_0  τ
def f_J0_isLatin1_aae02_0 (w : Nat)   : Option (Int32) := if (1 : Int32) = (0 : Int32) then (some (0 : Int32)) else (if (0 : Int32) = (0 : Int32) then (some (1 : Int32)) else (some (0 : Int32)))
def f_J0_isLatin1_aae02 (w : Nat) : Option (Int32) := f_J0_isLatin1_aae02_0 w 
def f_J0_coder_7d493_0 (w : Nat)   : Option (Int32) := if (1 : Int32) = (0 : Int32) then (some (1 : Int32)) else (some (0 : Int32))
def f_J0_coder_7d493 (w : Nat) : Option (Int32) := f_J0_coder_7d493_0 w 
def f_J0_length_8abf5_0 (w : Nat)   : Option (Int32) := bd (f_J0_coder_7d493 w) (fun u1 => some ((nI (sLen.getD w 0)) >>> (u1 &&& 31)))
def f_J0_length_8abf5 (w : Nat) : Option (Int32) := f_J0_length_8abf5_0 w 
def f_J1_canEncode_9a6ad_0 (p0 : Int32)   : Option (Int32) := if p0 < (0 : Int32) then (some (0 : Int32)) else (if (255 : Int32) < p0 then (some (0 : Int32)) else (some (1 : Int32)))
def f_J1_canEncode_9a6ad (p0 : Int32) : Option (Int32) := f_J1_canEncode_9a6ad_0 p0 
def f_J1_indexOfChar_4cfef_7 (w : Nat) (p1 : Int32) (p2 : Int32) (p3 : Int32) (k7 : Int32 → Int32 → Option (Int32)) (v4 : Int32) (v5 : Int32) : Option (Int32) := if p3 ≤ v5 then (some (-1 : Int32)) else (gd (inB v5 (sLen.getD w 0)) (if ((sByt.getD w []).getD v5.toNatClampNeg 0) = v4 then (some v5) else (lt ((v5 + (1 : Int32))) (fun x4 => k7 v4 x4))))
def f_J1_indexOfChar_4cfef_7L (w : Nat) (p1 : Int32) (p2 : Int32) (p3 : Int32)  : Nat → Int32 → Int32 → Option (Int32)
  | 0 => fun _ _ => none
  | n + 1 => f_J1_indexOfChar_4cfef_7 w p1 p2 p3  (f_J1_indexOfChar_4cfef_7L w p1 p2 p3  n)
def f_J1_indexOfChar_4cfef_0 (w : Nat) (p1 : Int32) (p2 : Int32) (p3 : Int32)   : Option (Int32) := f_J1_indexOfChar_4cfef_7L w p1 p2 p3  FU p1.toInt8.toInt32 p2
def f_J1_indexOfChar_4cfef (w : Nat) (p1 : Int32) (p2 : Int32) (p3 : Int32) : Option (Int32) := f_J1_indexOfChar_4cfef_0 w p1 p2 p3 
def f_J1_indexOf_4cfef_0 (w : Nat) (p1 : Int32)  (v2 : Int32) (v3 : Int32) : Option (Int32) := bd (f_J1_canEncode_9a6ad p1) (fun u1 => if u1 = (0 : Int32) then (some (-1 : Int32)) else (lt ((if v2 < (0 : Int32) then (0 : Int32) else v2)) (fun x3 => lt ((if (nI (sLen.getD w 0)) < v3 then (nI (sLen.getD w 0)) else v3)) (fun x4 => if x3 < x4 then (bd (f_J1_indexOfChar_4cfef w p1 x3 x4) (fun u6 => some u6)) else (some (-1 : Int32))))))
def f_J1_indexOf_4cfef (w : Nat) (p1 : Int32) (p2 : Int32) (p3 : Int32) : Option (Int32) := f_J1_indexOf_4cfef_0 w p1 p2 p3
def f_J0_indexOf_7cf53_0 (w : Nat) (p0 : Int32) (p1 : Int32)   : Option (Int32) := bd (f_J0_isLatin1_aae02 w) (fun u1 => if u1 = (0 : Int32) then (none) else (bd (f_J0_length_8abf5 w) (fun u4 => bd (f_J1_indexOf_4cfef w p0 p1 u4) (fun u5 => some u5))))
def f_J0_indexOf_7cf53 (w : Nat) (p0 : Int32) (p1 : Int32) : Option (Int32) := f_J0_indexOf_7cf53_0 w p0 p1 
def f_J0_indexOf_0f7a4_0 (w : Nat) (p0 : Int32)   : Option (Int32) := bd (f_J0_indexOf_7cf53 w p0 (0 : Int32)) (fun u1 => some u1)
def f_J0_indexOf_0f7a4 (w : Nat) (p0 : Int32) : Option (Int32) := f_J0_indexOf_0f7a4_0 w p0 
def f_X7_takesOne_29 (w : Nat)  (τ : Mm) (w0 : Int32) : Option (Int32 × Mm) := if w0 < (0 : Int32) then (some (w0, τ)) else (lt (s_t τ 2 0 ((τ 2 0) + (1 : Int32))) (fun τ3 => some (w0, τ3)))
def f_X7_takesOne_0 (w : Nat)  (τ : Mm) : Option (Int32 × Mm) := if (τ 3 0) ≤ (τ 2 0) then (f_X7_takesOne_29 w  τ (-1 : Int32)) else (gd (inB (τ 2 0) 100) (bd (f_J0_indexOf_0f7a4 w (((τ 0 (τ 2 0).toNatClampNeg).toUInt32 % 65536).toInt32)) (fun u5 => f_X7_takesOne_29 w  τ u5)))
def f_X7_takesOne (τ : Mm) (w : Nat) : Option (Int32 × Mm) := f_X7_takesOne_0 w τ
def f_X7_test_0   (τ : Mm) (hs : Ms) : Option (Int32 × Mm × Ms) := bd (f_X7_takesOne τ 3) (fun u1 => if (0 : Int32) ≤ u1.1 then (bd (f_X7_takesOne u1.2 4) (fun u3 => if (0 : Int32) ≤ u3.1 then (bd (f_X7_number u3.2) (fun u5 => if (0 : Int32) ≤ u5.1 then (gd (inH (u5.2 4 0)) (bd (f_X2_adds (hs (u5.2 4 0).toNatClampNeg) (((u1.1 * (300 : Int32)) + (u3.1 * (100 : Int32))) + u5.1)) (fun u8 => lt (va_up hs ((u5.2 4 0).toNatClampNeg) u8) (fun hs9 => some ((1 : Int32), u5.2, hs9))))) else (some ((0 : Int32), u5.2, hs)))) else (some ((0 : Int32), u3.2, hs)))) else (some ((0 : Int32), u1.2, hs)))
def f_X7_test (τ : Mm) (hs : Ms) : Option (Int32 × Mm × Ms) := f_X7_test_0  τ hs
def f_X7_oneHolds_73 (rec : Nat → Mm → Ms → Int32 → Option (Int32 × Mm × Ms)) (p0 : Int32)  (τ : Mm) (hs : Ms) : Option (Int32 × Mm × Ms) := bd (f_X7_test τ hs) (fun u3 => gd (isB u3.1) (some (u3.1, u3.2.1, u3.2.2)))
def f_X7_oneHolds_34 (rec : Nat → Mm → Ms → Int32 → Option (Int32 × Mm × Ms)) (p0 : Int32)  (τ : Mm) (hs : Ms) : Option (Int32 × Mm × Ms) := if (4 : Int32) ≤ p0 then (f_X7_oneHolds_73 rec p0  τ hs) else (bd (f_X7_takes τ (40 : Int32)) (fun u5 => if u5.1 = (0 : Int32) then (f_X7_oneHolds_73 rec p0  u5.2 hs) else (bd (rec 0 u5.2 hs (p0 + (1 : Int32))) (fun u7 => if u7.1 = (0 : Int32) then (some ((0 : Int32), u7.2.1, u7.2.2)) else (bd (f_X7_takes u7.2.1 (41 : Int32)) (fun u9 => if u9.1 = (0 : Int32) then (some ((0 : Int32), u9.2, u7.2.2)) else (some ((1 : Int32), u9.2, u7.2.2))))))))
def f_X7_oneHolds_0 (rec : Nat → Mm → Ms → Int32 → Option (Int32 × Mm × Ms)) (p0 : Int32)  (τ : Mm) (hs : Ms) : Option (Int32 × Mm × Ms) := if (4 : Int32) ≤ p0 then (f_X7_oneHolds_34 rec p0  τ hs) else (bd (f_X7_takes τ (33 : Int32)) (fun u11 => if u11.1 = (0 : Int32) then (f_X7_oneHolds_34 rec p0  u11.2 hs) else (bd (rec 2 u11.2 hs (p0 + (1 : Int32))) (fun u13 => gd (inH (u13.2.1 4 0)) (bd (f_X2_adds (u13.2.2 (u13.2.1 4 0).toNatClampNeg) (1800 : Int32)) (fun u15 => lt (va_up u13.2.2 ((u13.2.1 4 0).toNatClampNeg) u15) (fun hs16 => gd (isB u13.1) (some (u13.1, u13.2.1, hs16)))))))))
def f_X7_rec : Nat → Nat → Mm → Ms → Int32 → Option (Int32 × Mm × Ms)
  | 0 => fun _ _ _ _ => none
  | n + 1 => fun w τ hs d => if w = 0 then f_X7_anyHolds_0 (f_X7_rec n) d τ hs else if w = 1 then f_X7_allHold_0 (f_X7_rec n) d τ hs else f_X7_oneHolds_0 (f_X7_rec n) d τ hs
def f_J3_checkIndex_8e157_0 (p0 : Int32) (p1 : Int32)   : Option (Int32) := if p0 < (0 : Int32) then (none) else (if p0 < p1 then (some p0) else (none))
def f_J3_checkIndex_8e157 (p0 : Int32) (p1 : Int32) : Option (Int32) := f_J3_checkIndex_8e157_0 p0 p1 
def f_J0_checkIndex_df160_0 (p0 : Int32) (p1 : Int32)   : Option (Unit) := bd (f_J3_checkIndex_8e157 p0 p1) (fun u2 => some ())
def f_J0_checkIndex_df160 (p0 : Int32) (p1 : Int32) : Option (Unit) := f_J0_checkIndex_df160_0 p0 p1 
def f_J1_charAt_3b067_0 (w : Nat) (p1 : Int32)   : Option (Int32) := bd (f_J0_checkIndex_df160 p1 (nI (sLen.getD w 0))) (fun u1 => gd (inB p1 (sLen.getD w 0)) (gd (isC (((((sByt.getD w []).getD p1.toNatClampNeg 0) &&& (255 : Int32)).toUInt32 % 65536).toInt32)) (some (((((sByt.getD w []).getD p1.toNatClampNeg 0) &&& (255 : Int32)).toUInt32 % 65536).toInt32))))
def f_J1_charAt_3b067 (w : Nat) (p1 : Int32) : Option (Int32) := f_J1_charAt_3b067_0 w p1 
def f_J0_charAt_5068e_0 (w : Nat) (p0 : Int32)   : Option (Int32) := bd (f_J0_isLatin1_aae02 w) (fun u1 => if u1 = (0 : Int32) then (none) else (bd (f_J1_charAt_3b067 w p0) (fun u3 => gd (isC u3) (some u3))))
def f_J0_charAt_5068e (w : Nat) (p0 : Int32) : Option (Int32) := f_J0_charAt_5068e_0 w p0 
def f_X7_takesAll_2 (w : Nat) (k2 : Mm → Int32 → Option (Int32 × Mm)) (τ : Mm) (v2 : Int32) : Option (Int32 × Mm) := bd (f_J0_length_8abf5 w) (fun u1 => if u1 ≤ v2 then (some ((1 : Int32), τ)) else (bd (f_J0_charAt_5068e w v2) (fun u3 => bd (f_X7_takes τ u3) (fun u4 => if u4.1 = (0 : Int32) then (some ((0 : Int32), u4.2)) else (lt ((v2 + (1 : Int32))) (fun x6 => k2 u4.2 x6))))))
def f_X7_takesAll_2L (w : Nat)  : Nat → Mm → Int32 → Option (Int32 × Mm)
  | 0 => fun _ _ => none
  | n + 1 => f_X7_takesAll_2 w  (f_X7_takesAll_2L w  n)
def f_X7_takesAll_0 (w : Nat)  (τ : Mm) : Option (Int32 × Mm) := f_X7_takesAll_2L w  FU τ (0 : Int32)
def f_X7_takesAll (τ : Mm) (w : Nat) : Option (Int32 × Mm) := f_X7_takesAll_0 w τ
def f_X7_rest_0   (τ : Mm) (hs : Ms) : Option (Int32 × Mm × Ms) := bd (f_X7_takesAll τ 2) (fun u1 => if u1.1 = (0 : Int32) then (some ((0 : Int32), u1.2, hs)) else (bd (f_X7_number u1.2) (fun u3 => if (0 : Int32) ≤ u3.1 then (gd (inH (u3.2 4 0)) (lt (s_t (hs (u3.2 4 0).toNatClampNeg) 2 0 u3.1) (fun χ6 => lt (va_up hs (u3.2 4 0).toNatClampNeg χ6) (fun hs7 => some ((1 : Int32), u3.2, hs7))))) else (some ((0 : Int32), u3.2, hs)))))
def f_X7_rest (τ : Mm) (hs : Ms) : Option (Int32 × Mm × Ms) := f_X7_rest_0  τ hs
def f_X7_clause_73   (τ : Mm) (hs : Ms) (v1 : Int32) (t1 : Nat) : Option (Int32 × Mm × Ms) := bd (f_X7_takesAll τ t1) (fun u4 => if u4.1 = (0 : Int32) then (some ((0 : Int32), u4.2, hs)) else (bd (f_X7_number u4.2) (fun u6 => if u6.1 < (0 : Int32) then (some ((0 : Int32), u6.2, hs)) else (bd (f_X7_takes u6.2 (32 : Int32)) (fun u8 => if u8.1 = (0 : Int32) then (some ((0 : Int32), u8.2, hs)) else (bd (f_X7_rec 45 0 u8.2 hs (0 : Int32)) (fun u10 => if u10.1 = (0 : Int32) then (some ((0 : Int32), u10.2.1, u10.2.2)) else (gd (inH (u10.2.1 4 0)) (if v1 = (0 : Int32) then (bd (f_X2_adds (u10.2.2 (u10.2.1 4 0).toNatClampNeg) ((1900 : Int32) + u6.1)) (fun u14 => lt (va_up u10.2.2 ((u10.2.1 4 0).toNatClampNeg) u14) (fun hs15 => some ((1 : Int32), u10.2.1, hs15)))) else (bd (f_X2_adds (u10.2.2 (u10.2.1 4 0).toNatClampNeg) ((2000 : Int32) + u6.1)) (fun u16 => lt (va_up u10.2.2 ((u10.2.1 4 0).toNatClampNeg) u16) (fun hs17 => some ((1 : Int32), u10.2.1, hs17)))))))))))))
def f_X7_clause_60   (τ : Mm) (hs : Ms) (w0 : Int32) : Option (Int32 × Mm × Ms) := if w0 = (0 : Int32) then (f_X7_clause_73   τ hs w0 1) else (f_X7_clause_73   τ hs w0 0)
def f_X7_clause_59   (τ : Mm) (hs : Ms) : Option (Int32 × Mm × Ms) := f_X7_clause_60   τ hs (0 : Int32)
def f_X7_clause_30   (τ : Mm) (hs : Ms) : Option (Int32 × Mm × Ms) := if (τ 3 0) ≤ (τ 2 0) then (f_X7_clause_59   τ hs) else (gd (inB (τ 2 0) 100) (if (τ 0 (τ 2 0).toNatClampNeg) = (107 : Int32) then (f_X7_clause_60   τ hs (1 : Int32)) else (f_X7_clause_59   τ hs)))
def f_X7_clause_0   (τ : Mm) (hs : Ms) : Option (Int32 × Mm × Ms) := if (τ 3 0) ≤ (τ 2 0) then (f_X7_clause_30   τ hs) else (gd (inB (τ 2 0) 100) (if (τ 0 (τ 2 0).toNatClampNeg) = (114 : Int32) then (bd (f_X7_rest τ hs) (fun u22 => gd (isB u22.1) (some (u22.1, u22.2.1, u22.2.2)))) else (f_X7_clause_30   τ hs)))
def f_X7_clause (τ : Mm) (hs : Ms) : Option (Int32 × Mm × Ms) := f_X7_clause_0  τ hs
def f_X7_makes_29 (q : Nat) (k29 : Mm → Ms → Int32 → Option (Int32 × Mm × Ms)) (τ : Mm) (hs : Ms) (v2 : Int32) : Option (Int32 × Mm × Ms) := if (10 : Int32) < v2 then (some ((0 : Int32), τ, hs)) else (bd (f_X7_clause τ hs) (fun u8 => if u8.1 = (0 : Int32) then (some ((0 : Int32), u8.2.1, u8.2.2)) else (if (u8.2.1 2 0) = (u8.2.1 3 0) then (some ((1 : Int32), u8.2.1, u8.2.2)) else (if v2 = (10 : Int32) then (some ((0 : Int32), u8.2.1, u8.2.2)) else (bd (f_X7_takes u8.2.1 (59 : Int32)) (fun u12 => if u12.1 = (0 : Int32) then (some ((0 : Int32), u12.2, u8.2.2)) else (lt ((v2 + (1 : Int32))) (fun x14 => k29 u12.2 u8.2.2 x14))))))))
def f_X7_makes_29L (q : Nat)  : Nat → Mm → Ms → Int32 → Option (Int32 × Mm × Ms)
  | 0 => fun _ _ _ => none
  | n + 1 => f_X7_makes_29 q  (f_X7_makes_29L q  n)
def f_X7_makes_0 (q : Nat)  (τ : Mm) (hs : Ms) : Option (Int32 × Mm × Ms) := lt (s_t τ 3 0 (τ 1 0)) (fun τ1 => lt (s_t τ1 1 0 (0 : Int32)) (fun τ2 => lt (s_t τ2 2 0 (0 : Int32)) (fun τ3 => lt (s_t τ3 4 0 (nI q)) (fun τ4 => bd (f_X2_empties (hs q)) (fun u5 => lt (va_up hs q u5) (fun hs6 => f_X7_makes_29L q  FU τ4 hs6 (1 : Int32)))))))
def f_X7_makes (τ : Mm) (hs : Ms) (q : Nat) : Option (Int32 × Mm × Ms) := f_X7_makes_0 q τ hs
def f_X8_within_0 (p0 : Int64) (p1 : Int32)   : Option (Int32) := if (lg_cmp p0 (0 : Int64)) < (0 : Int32) then (some (0 : Int32)) else (if (0 : Int32) ≤ (lg_cmp p0 p1.toInt64) then (some (0 : Int32)) else (some (1 : Int32)))
def f_X8_within (p0 : Int64) (p1 : Int32) : Option (Int32) := f_X8_within_0 p0 p1 
def f_X8_master_0 (p0 : Int32) (p1 : Int32) (p2 : Int32)  (σ : Ms) : Option (Int32 × Ms) := bd (f_X8_within p0.toInt64 (7 : Int32)) (fun u1 => if u1 = (0 : Int32) then (some ((-1 : Int32), σ)) else (bd (f_X8_within p2.toInt64 (10 : Int32)) (fun u3 => if u3 = (0 : Int32) then (some ((-1 : Int32), σ)) else (bd (f_X8_within p1.toInt64 (10 : Int32)) (fun u5 => if u5 = (0 : Int32) then (some ((-2 : Int32), σ)) else (if ((σ 1) 12 0) < (6 : Int32) then (bd (f_X1_comes (σ 1) p0 p1 p2) (fun u8 => lt (va_up σ 1 u8.2) (fun σ9 => some (u8.1, σ9)))) else (some ((-4 : Int32), σ))))))))
def f_X8_master (σ : Ms) (p0 : Int32) (p1 : Int32) (p2 : Int32) : Option (Int32 × Ms) := f_X8_master_0 p0 p1 p2 σ
def f_X8_isMaster_0 (σ : Ms) (p0 : Int64)   : Option (Int32) := bd (f_X8_within p0 ((σ 1) 12 0)) (fun u1 => gd (isB u1) (some u1))
def f_X8_isMaster (σ : Ms) (p0 : Int64) : Option (Int32) := f_X8_isMaster_0 σ p0 
def f_X8_standsBest_68 (p0 : Int32) (k8 : Ms → Int32 → Int32 → Int32 → Option (Int32 × Ms)) (σ : Ms) (v2 : Int32) (v3 : Int32) (v4 : Int32) : Option (Int32 × Ms) := lt ((v4 + (1 : Int32))) (fun x10 => k8 σ v2 v3 x10)
def f_X8_standsBest_8 (p0 : Int32) (k8 : Ms → Int32 → Int32 → Int32 → Option (Int32 × Ms)) (σ : Ms) (v2 : Int32) (v3 : Int32) (v4 : Int32) : Option (Int32 × Ms) := if (10 : Int32) ≤ v4 then (some (v2, σ)) else (bd (f_X1_copies (σ 2) (σ 1)) (fun u2 => lt (va_up σ 2 u2) (fun σ3 => gd (inB p0 6) (lt (s_t (σ3 2) 4 p0.toNatClampNeg v4) (fun τ5 => lt (va_up σ3 2 τ5) (fun σ6 => bd (f_X1_goes (σ6 2) σ6 (20 : Int32)) (fun u7 => lt (va_up σ6 2 u7) (fun σ8 => if v3 ≤ ((σ8 2) 14 0) then (f_X8_standsBest_68 p0 k8 σ8 v2 v3 v4) else (lt (((σ8 2) 14 0)) (fun x11 => f_X8_standsBest_68 p0 k8 σ8 v4 x11 v4))))))))))
def f_X8_standsBest_8L (p0 : Int32)  : Nat → Ms → Int32 → Int32 → Int32 → Option (Int32 × Ms)
  | 0 => fun _ _ _ _ => none
  | n + 1 => f_X8_standsBest_8 p0  (f_X8_standsBest_8L p0  n)
def f_X8_standsBest_0 (p0 : Int32)  (σ : Ms) : Option (Int32 × Ms) := f_X8_standsBest_8L p0  FU σ (0 : Int32) (2147483647 : Int32) (0 : Int32)
def f_X8_standsBest (σ : Ms) (p0 : Int32) : Option (Int32 × Ms) := f_X8_standsBest_0 p0 σ
def f_X8_of_0 (p0 : Int32) (p1 : Int32)  (σ : Ms) : Option (Int32 × Ms) := bd (f_X8_isMaster σ p0.toInt64) (fun u1 => if u1 = (0 : Int32) then (some ((-10001 : Int32), σ)) else (bd (f_X8_within (p1.toInt64 - (10 : Int64)) (10 : Int32)) (fun u3 => if u3 = (0 : Int32) then (if p1 = (0 : Int32) then (gd (inB p0 6) (some (((σ 1) 2 p0.toNatClampNeg), σ))) else (if p1 = (1 : Int32) then (gd (inB p0 6) (some (((σ 1) 3 p0.toNatClampNeg), σ))) else (if p1 = (2 : Int32) then (gd (inB p0 6) (some (((σ 1) 4 p0.toNatClampNeg), σ))) else (if p1 = (3 : Int32) then (gd (inB p0 6) (some (((σ 1) 5 p0.toNatClampNeg), σ))) else (if p1 = (4 : Int32) then (gd (inB p0 6) (some (((σ 1) 6 p0.toNatClampNeg), σ))) else (if p1 = (5 : Int32) then (gd (inB p0 6) (some (((σ 1) 7 p0.toNatClampNeg), σ))) else (if p1 = (6 : Int32) then (gd (inB p0 6) (some (((σ 1) 8 p0.toNatClampNeg), σ))) else (if p1 = (7 : Int32) then (bd (f_X1_isFree (σ 1) p0) (fun u20 => if u20 = (0 : Int32) then (some ((0 : Int32), σ)) else (some ((1 : Int32), σ)))) else (if p1 = (8 : Int32) then (bd (f_X8_standsBest σ p0) (fun u23 => some (u23.1, u23.2))) else (some ((-10001 : Int32), σ))))))))))) else (bd (f_X1_cost (σ 1) σ p0 (p1 - (10 : Int32))) (fun u24 => lt (va_up σ 1 u24.2) (fun σ25 => some (u24.1, σ25)))))))
def f_X8_of (σ : Ms) (p0 : Int32) (p1 : Int32) : Option (Int32 × Ms) := f_X8_of_0 p0 p1 σ
def f_X8_swapIn_3_0 (p1 : Int32) (p2 : Int32)  (τ : Mm) : Option (Int32 × Mm) := gd (inB p1 6) (lt ((τ 4 p1.toNatClampNeg)) (fun x2 => gd (inB p1 6) (lt (s_t τ 4 p1.toNatClampNeg p2) (fun τ4 => some (x2, τ4)))))
def f_X8_swapIn_3 (τ : Mm) (p1 : Int32) (p2 : Int32) : Option (Int32 × Mm) := f_X8_swapIn_3_0 p1 p2 τ
def f_X8_swapIn_5_0 (p1 : Int32) (p2 : Int32)  (τ : Mm) : Option (Int32 × Mm) := gd (inB p1 6) (lt ((τ 6 p1.toNatClampNeg)) (fun x2 => gd (inB p1 6) (lt (s_t τ 6 p1.toNatClampNeg p2) (fun τ4 => some (x2, τ4)))))
def f_X8_swapIn_5 (τ : Mm) (p1 : Int32) (p2 : Int32) : Option (Int32 × Mm) := f_X8_swapIn_5_0 p1 p2 τ
def f_X8_swapIn_6_0 (p1 : Int32) (p2 : Int32)  (τ : Mm) : Option (Int32 × Mm) := gd (inB p1 6) (lt ((τ 7 p1.toNatClampNeg)) (fun x2 => gd (inB p1 6) (lt (s_t τ 7 p1.toNatClampNeg p2) (fun τ4 => some (x2, τ4)))))
def f_X8_swapIn_6 (τ : Mm) (p1 : Int32) (p2 : Int32) : Option (Int32 × Mm) := f_X8_swapIn_6_0 p1 p2 τ
def f_X8_swapIn_8_0 (p1 : Int32) (p2 : Int32)  (τ : Mm) : Option (Int32 × Mm) := gd (inB p1 24) (lt ((τ 9 p1.toNatClampNeg)) (fun x2 => gd (inB p1 24) (lt (s_t τ 9 p1.toNatClampNeg p2) (fun τ4 => some (x2, τ4)))))
def f_X8_swapIn_8 (τ : Mm) (p1 : Int32) (p2 : Int32) : Option (Int32 × Mm) := f_X8_swapIn_8_0 p1 p2 τ
def f_X8_swapIn_9_0 (p1 : Int32) (p2 : Int32)  (τ : Mm) : Option (Int32 × Mm) := gd (inB p1 10) (lt ((τ 10 p1.toNatClampNeg)) (fun x2 => gd (inB p1 10) (lt (s_t τ 10 p1.toNatClampNeg p2) (fun τ4 => some (x2, τ4)))))
def f_X8_swapIn_9 (τ : Mm) (p1 : Int32) (p2 : Int32) : Option (Int32 × Mm) := f_X8_swapIn_9_0 p1 p2 τ
def f_X8_set_33 (p0 : Int32) (p1 : Int32) (p2 : Int32)  (σ : Ms) (w0 : Int64) (w1 : Int32) : Option (Int32 × Ms) := bd (f_X8_within w0 w1) (fun u6 => if u6 = (0 : Int32) then (some ((-2 : Int32), σ)) else (if p1 = (0 : Int32) then (bd (f_X8_swapIn_3 (σ 1) p0 p2) (fun u11 => lt (va_up σ 1 u11.2) (fun σ12 => some (u11.1, σ12)))) else (bd (f_X8_swapIn_5 (σ 1) p0 p2) (fun u9 => lt (va_up σ 1 u9.2) (fun σ10 => some (u9.1, σ10))))))
def f_X8_set_0 (p0 : Int32) (p1 : Int32) (p2 : Int32)  (σ : Ms) : Option (Int32 × Ms) := bd (f_X8_isMaster σ p0.toInt64) (fun u1 => if u1 = (0 : Int32) then (some ((-1 : Int32), σ)) else (bd (f_X8_within p1.toInt64 (2 : Int32)) (fun u3 => if u3 = (0 : Int32) then (some ((-1 : Int32), σ)) else (if p1 = (0 : Int32) then (f_X8_set_33 p0 p1 p2  σ p2.toInt64 (10 : Int32)) else (f_X8_set_33 p0 p1 p2  σ p2.toInt64 (100 : Int32))))))
def f_X8_set (σ : Ms) (p0 : Int32) (p1 : Int32) (p2 : Int32) : Option (Int32 × Ms) := f_X8_set_0 p0 p1 p2 σ
def f_X8_away_26 (p0 : Int32) (p1 : Int32)  (σ : Ms) (w1 : Int32) (w2 : Int32) : Option (Int32 × Ms) := bd (f_X8_swapIn_6 (σ 1) w1 w2) (fun u4 => lt (va_up σ 1 u4.2) (fun σ5 => some (u4.1, σ5)))
def f_X8_away_0 (p0 : Int32) (p1 : Int32)  (σ : Ms) : Option (Int32 × Ms) := bd (f_X8_isMaster σ p0.toInt64) (fun u1 => if u1 = (0 : Int32) then (some ((-1 : Int32), σ)) else (if p1 = (0 : Int32) then (f_X8_away_26 p0 p1  σ p0 (0 : Int32)) else (f_X8_away_26 p0 p1  σ p0 (1 : Int32))))
def f_X8_away (σ : Ms) (p0 : Int32) (p1 : Int32) : Option (Int32 × Ms) := f_X8_away_0 p0 p1 σ
def f_X8_ring_0 (p0 : Int32)  (σ : Ms) : Option (Int32 × Ms) := bd (f_X8_within p0.toInt64 (10 : Int32)) (fun u1 => if u1 = (0 : Int32) then (some ((-1 : Int32), σ)) else (bd (f_X1_rings (σ 1) p0) (fun u3 => lt (va_up σ 1 u3.2) (fun σ4 => some (u3.1, σ4)))))
def f_X8_ring (σ : Ms) (p0 : Int32) : Option (Int32 × Ms) := f_X8_ring_0 p0 σ
def f_X8_cross_0 (p0 : Int32) (p1 : Int32)  (σ : Ms) : Option (Int32 × Ms) := bd (f_X8_within p0.toInt64 (10 : Int32)) (fun u1 => if u1 = (0 : Int32) then (some ((-1 : Int32), σ)) else (bd (f_X8_within p1.toInt64 (10 : Int32)) (fun u3 => if u3 = (0 : Int32) then (some ((-1 : Int32), σ)) else (if p0 = p1 then (some ((-2 : Int32), σ)) else (gd (inB p1 10) (bd (f_X8_swapIn_9 (σ 1) p0 ((σ 1) 10 p1.toNatClampNeg)) (fun u7 => lt (va_up σ 1 u7.2) (fun σ8 => gd (inB p1 10) (lt (s_t (σ8 1) 10 p1.toNatClampNeg u7.1) (fun τ10 => lt (va_up σ8 1 τ10) (fun σ11 => gd (inB p0 10) (some (((σ11 1) 10 p0.toNatClampNeg), σ11)))))))))))))
def f_X8_cross (σ : Ms) (p0 : Int32) (p1 : Int32) : Option (Int32 × Ms) := f_X8_cross_0 p0 p1 σ
def f_X8_row_0 (p0 : Int32) (p1 : Int32) (p2 : Int32)  (σ : Ms) : Option (Int32 × Ms) := bd (f_X8_isMaster σ p0.toInt64) (fun u1 => if u1 = (0 : Int32) then (some ((-1 : Int32), σ)) else (bd (f_X8_within p1.toInt64 (4 : Int32)) (fun u3 => if u3 = (0 : Int32) then (some ((-1 : Int32), σ)) else (bd (f_X8_within p2.toInt64 (10 : Int32)) (fun u5 => if u5 = (0 : Int32) then (some ((-2 : Int32), σ)) else (gd (inB p0 6) (if ((σ 1) 2 p0.toNatClampNeg) = (6 : Int32) then (bd (f_X8_swapIn_8 (σ 1) ((p0 * (4 : Int32)) + p1) p2) (fun u9 => lt (va_up σ 1 u9.2) (fun σ10 => some (u9.1, σ10)))) else (some ((-3 : Int32), σ)))))))))
def f_X8_row (σ : Ms) (p0 : Int32) (p1 : Int32) (p2 : Int32) : Option (Int32 × Ms) := f_X8_row_0 p0 p1 p2 σ
def f_X8_feed_0 (p0 : Int32)  (σ : Ms) : Option (Int32 × Ms) := bd (f_X8_within p0.toInt64 (128 : Int32)) (fun u1 => if u1 = (0 : Int32) then (some ((-2 : Int32), σ)) else (if ((σ 12) 1 0) < (100 : Int32) then (bd (f_X7_adds (σ 12) p0) (fun u4 => lt (va_up σ 12 u4.2) (fun σ5 => some (u4.1, σ5)))) else (some ((-4 : Int32), σ))))
def f_X8_feed (σ : Ms) (p0 : Int32) : Option (Int32 × Ms) := f_X8_feed_0 p0 σ
def f_X8_house_0   (σ : Ms) : Option (Int32 × Ms) := if ((σ 0) 8 0) < (6 : Int32) then (lt (((σ 0) 8 0)) (fun x2 => gd (inB x2 6) (bd (f_X7_makes (σ 12) σ (14 + x2.toNatClampNeg)) (fun u4 => lt (va_up u4.2.2 12 u4.2.1) (fun σ5 => if u4.1 = (0 : Int32) then (some (((-10 : Int32) - ((σ5 12) 2 0)), σ5)) else (lt (s_t (σ5 1) 16 0 (nI (14 + x2.toNatClampNeg))) (fun τ7 => lt (va_up σ5 1 τ7) (fun σ8 => lt (s_t (σ8 0) 8 0 (((σ8 0) 8 0) + (1 : Int32))) (fun τ9 => lt (va_up σ8 0 τ9) (fun σ10 => some ((((σ10 0) 8 0) - (1 : Int32)), σ10))))))))))) else (some ((-4 : Int32), σ))
def f_X8_house (σ : Ms) : Option (Int32 × Ms) := f_X8_house_0  σ
def f_X8_quiet_13  (k13 : Ms → Int32 → Option (Int32 × Ms)) (σ : Ms) (v1 : Int32) : Option (Int32 × Ms) := if (60 : Int32) < v1 then (some ((-5 : Int32), σ)) else (if ((σ 2) 13 0) = (0 : Int32) then (some (v1, σ)) else (bd (f_X1_goes (σ 2) σ (1 : Int32)) (fun u5 => lt (va_up σ 2 u5) (fun σ6 => lt ((v1 + (1 : Int32))) (fun x7 => k13 σ6 x7)))))
def f_X8_quiet_13L   : Nat → Ms → Int32 → Option (Int32 × Ms)
  | 0 => fun _ _ => none
  | n + 1 => f_X8_quiet_13   (f_X8_quiet_13L   n)
def f_X8_quiet_0   (σ : Ms) : Option (Int32 × Ms) := bd (f_X1_copies (σ 2) (σ 1)) (fun u1 => lt (va_up σ 2 u1) (fun σ2 => f_X8_quiet_13L   FU σ2 (0 : Int32)))
def f_X8_quiet (σ : Ms) : Option (Int32 × Ms) := f_X8_quiet_0  σ
def f_X8_told_0 (p0 : Int32)  (σ : Ms) : Option (Int32 × Ms) := bd (f_X8_within (p0.toInt64 - (10 : Int64)) (10 : Int32)) (fun u1 => if u1 = (0 : Int32) then (bd (f_X8_within (p0.toInt64 - (20 : Int64)) (10 : Int32)) (fun u3 => if u3 = (0 : Int32) then (if p0 = (0 : Int32) then (some (((σ 1) 15 0), σ)) else (if p0 = (1 : Int32) then (if ((σ 1) 16 0) = 0 then (some ((2 : Int32), σ)) else (gd (inH ((σ 1) 16 0)) (gd (inH ((σ 1) 16 0)) (some (((σ ((σ 1) 16 0).toNatClampNeg) 2 0), σ))))) else (if p0 = (2 : Int32) then (some (((σ 1) 13 0), σ)) else (if p0 = (3 : Int32) then (some (((σ 1) 14 0), σ)) else (if p0 = (4 : Int32) then (bd (f_X8_quiet σ) (fun u13 => some (u13.1, u13.2))) else (if p0 = (5 : Int32) then (bd (f_X1_crossings (σ 1)) (fun u15 => some (u15, σ))) else (if p0 = (6 : Int32) then (bd (f_X1_firstCrossed (σ 1)) (fun u17 => some (u17, σ))) else (some ((-1 : Int32), σ))))))))) else (bd (f_X1_loop (σ 1) (p0 - (20 : Int32))) (fun u18 => some (u18, σ))))) else (gd (inB (p0 - (10 : Int32)) 10) (some (((σ 1) 10 (p0 - (10 : Int32)).toNatClampNeg), σ))))
def f_X8_told (σ : Ms) (p0 : Int32) : Option (Int32 × Ms) := f_X8_told_0 p0 σ
def f_X8_pass_0 (p0 : Int32)  (σ : Ms) : Option (Int32 × Ms) := bd (f_X8_within p0.toInt64 (61 : Int32)) (fun u1 => if u1 = (0 : Int32) then (some ((-2 : Int32), σ)) else (if (((σ 1) 15 0) + p0) ≤ (9999 : Int32) then (bd (f_X1_goes (σ 1) σ p0) (fun u4 => lt (va_up σ 1 u4) (fun σ5 => some (((σ5 1) 15 0), σ5)))) else (some ((-3 : Int32), σ))))
def f_X8_pass (σ : Ms) (p0 : Int32) : Option (Int32 × Ms) := f_X8_pass_0 p0 σ
def f_X8_on_43 (p0 : Int32) (p1 : Int32)  (σ : Ms) (v3 : Int32) (v4 : Int32) : Option (Int32 × Ms) := bd (f_X8_within p0.toInt64 (61 : Int32)) (fun u5 => if u5 = (0 : Int32) then (some ((-2 : Int32), σ)) else (bd (f_X1_copies (σ 2) (σ 1)) (fun u7 => lt (va_up σ 2 u7) (fun σ8 => bd (f_X1_goes (σ8 2) σ8 p0) (fun u9 => lt (va_up σ8 2 u9) (fun σ10 => if v3 = (0 : Int32) then (if v4 = (0 : Int32) then (if p1 = (0 : Int32) then (some (((σ10 2) 13 0), σ10)) else (some (((σ10 2) 14 0), σ10))) else (gd (inB (p1 - (20 : Int32)) 6) (some (((σ10 2) 5 (p1 - (20 : Int32)).toNatClampNeg), σ10)))) else (gd (inB (p1 - (10 : Int32)) 6) (some (((σ10 2) 4 (p1 - (10 : Int32)).toNatClampNeg), σ10)))))))))
def f_X8_on_0 (p0 : Int32) (p1 : Int32)  (σ : Ms) : Option (Int32 × Ms) := bd (f_X8_isMaster σ (p1.toInt64 - (10 : Int64))) (fun u1 => bd (f_X8_isMaster σ (p1.toInt64 - (20 : Int64))) (fun u2 => bd (f_X8_within p1.toInt64 (2 : Int32)) (fun u3 => if u3 = (0 : Int32) then (if u1 = (0 : Int32) then (if u2 = (0 : Int32) then (some ((-1 : Int32), σ)) else (f_X8_on_43 p0 p1  σ u1 u2)) else (f_X8_on_43 p0 p1  σ u1 u2)) else (f_X8_on_43 p0 p1  σ u1 u2))))
def f_X8_on (σ : Ms) (p0 : Int32) (p1 : Int32) : Option (Int32 × Ms) := f_X8_on_0 p0 p1 σ
def f_X8_minutesTo_2 (p0 : Int32) (k2 : Ms → Int32 → Option (Int32 × Ms)) (σ : Ms) (v2 : Int32) : Option (Int32 × Ms) := if (60 : Int32) < v2 then (some ((-5 : Int32), σ)) else (bd (f_X1_goes (σ 2) σ (1 : Int32)) (fun u2 => lt (va_up σ 2 u2) (fun σ3 => bd (f_X1_isRung (σ3 2) p0) (fun u4 => if u4 = (0 : Int32) then (some (v2, σ3)) else (lt ((v2 + (1 : Int32))) (fun x6 => k2 σ3 x6))))))
def f_X8_minutesTo_2L (p0 : Int32)  : Nat → Ms → Int32 → Option (Int32 × Ms)
  | 0 => fun _ _ => none
  | n + 1 => f_X8_minutesTo_2 p0  (f_X8_minutesTo_2L p0  n)
def f_X8_minutesTo_0 (p0 : Int32)  (σ : Ms) : Option (Int32 × Ms) := f_X8_minutesTo_2L p0  FU σ (1 : Int32)
def f_X8_minutesTo (σ : Ms) (p0 : Int32) : Option (Int32 × Ms) := f_X8_minutesTo_0 p0 σ
def f_X8_whoGoesTo_0 (p0 : Int32)  (σ : Ms) : Option (Int32 × Ms) := bd (f_X1_gives (σ 2) σ) (fun u1 => lt (va_up σ 2 u1) (fun σ2 => bd (f_X1_whoseGoal (σ2 2) p0) (fun u3 => some (u3, σ2))))
def f_X8_whoGoesTo (σ : Ms) (p0 : Int32) : Option (Int32 × Ms) := f_X8_whoGoesTo_0 p0 σ
def f_X8_bell_0 (p0 : Int32) (p1 : Int32)  (σ : Ms) : Option (Int32 × Ms) := bd (f_X8_within p0.toInt64 (10 : Int32)) (fun u1 => if u1 = (0 : Int32) then (some ((-1 : Int32), σ)) else (bd (f_X8_within p1.toInt64 (2 : Int32)) (fun u3 => if u3 = (0 : Int32) then (some ((-1 : Int32), σ)) else (bd (f_X1_copies (σ 2) (σ 1)) (fun u5 => lt (va_up σ 2 u5) (fun σ6 => bd (f_X1_rings (σ6 2) p0) (fun u7 => lt (va_up σ6 2 u7.2) (fun σ8 => if p1 = (0 : Int32) then (bd (f_X8_minutesTo σ8 u7.1) (fun u11 => some (u11.1, u11.2))) else (bd (f_X8_whoGoesTo σ8 u7.1) (fun u10 => some (u10.1, u10.2)))))))))))
def f_X8_bell (σ : Ms) (p0 : Int32) (p1 : Int32) : Option (Int32 × Ms) := f_X8_bell_0 p0 p1 σ
def f_X8_shared_29 (p0 : Int32)  (σ : Ms) (v2 : Int32) : Option (Int32 × Ms) := bd (f_X5_finds (σ 20) (σ 1) σ) (fun u4 => lt (va_up (va_up σ 20 u4.1) 1 u4.2) (fun σ5 => if v2 = (0 : Int32) then (if p0 = (0 : Int32) then (some (((σ5 20) 1 0), σ5)) else (some (((σ5 20) 2 0), σ5))) else (gd (inB (p0 - (10 : Int32)) 10) (some (((σ5 20) 0 (p0 - (10 : Int32)).toNatClampNeg), σ5)))))
def f_X8_shared_0 (p0 : Int32)  (σ : Ms) : Option (Int32 × Ms) := bd (f_X8_within (p0.toInt64 - (10 : Int64)) (10 : Int32)) (fun u1 => bd (f_X8_within p0.toInt64 (2 : Int32)) (fun u2 => if u2 = (0 : Int32) then (if u1 = (0 : Int32) then (some ((-10001 : Int32), σ)) else (f_X8_shared_29 p0  σ u1)) else (f_X8_shared_29 p0  σ u1)))
def f_X8_shared (σ : Ms) (p0 : Int32) : Option (Int32 × Ms) := f_X8_shared_0 p0 σ
def f_X8_see_0 (p0 : Int32) (p1 : Int32) (p2 : Int32)  (σ : Ms) : Option (Int32 × Ms) := if p0 = (-1 : Int32) then (bd (f_X4_empties (σ 6)) (fun u12 => lt (va_up σ 6 u12.2) (fun σ13 => some (u12.1, σ13)))) else (bd (f_X8_isMaster σ p0.toInt64) (fun u2 => if u2 = (0 : Int32) then (some ((-1 : Int32), σ)) else (bd (f_X8_within p2.toInt64 (10 : Int32)) (fun u4 => if u4 = (0 : Int32) then (some ((-1 : Int32), σ)) else (bd (f_X8_within p1.toInt64 (21 : Int32)) (fun u6 => if u6 = (0 : Int32) then (some ((-2 : Int32), σ)) else (bd (f_X4_isFull (σ 6) (rl 6)) (fun u8 => if u8 = (0 : Int32) then (bd (f_X4_adds (σ 6) (rl 6) p0 p2 p1) (fun u10 => lt (va_up σ 6 u10.2) (fun σ11 => some (u10.1, σ11)))) else (some ((-4 : Int32), σ))))))))))
def f_X8_see (σ : Ms) (p0 : Int32) (p1 : Int32) (p2 : Int32) : Option (Int32 × Ms) := f_X8_see_0 p0 p1 p2 σ
def f_X8_isSeenAfter_53 (σ : Ms) (p0 : Int32) (k10 : Int32 → Option (Int32)) (v3 : Int32) : Option (Int32) := lt ((v3 + (1 : Int32))) (fun x4 => k10 x4)
def f_X8_isSeenAfter_10 (σ : Ms) (p0 : Int32) (k10 : Int32 → Option (Int32)) (v3 : Int32) : Option (Int32) := if ((σ 6) 3 0) ≤ v3 then (some (1 : Int32)) else (gd (inB v3 (rl 6)) (if ((σ 6) 2 v3.toNatClampNeg) = p0 then (gd (inB v3 (rl 6)) (gd (inB ((σ 6) 0 v3.toNatClampNeg) 6) (gd (inB v3 (rl 6)) (if ((σ 2) 4 ((σ 6) 0 v3.toNatClampNeg).toNatClampNeg) = ((σ 6) 1 v3.toNatClampNeg) then (f_X8_isSeenAfter_53 σ p0 k10 v3) else (some (0 : Int32)))))) else (f_X8_isSeenAfter_53 σ p0 k10 v3)))
def f_X8_isSeenAfter_10L (σ : Ms) (p0 : Int32)  : Nat → Int32 → Option (Int32)
  | 0 => fun _ => none
  | n + 1 => f_X8_isSeenAfter_10 σ p0  (f_X8_isSeenAfter_10L σ p0  n)
def f_X8_isSeenAfter_0 (σ : Ms) (p0 : Int32)   : Option (Int32) := f_X8_isSeenAfter_10L σ p0  FU (0 : Int32)
def f_X8_isSeenAfter (σ : Ms) (p0 : Int32) : Option (Int32) := f_X8_isSeenAfter_0 σ p0 
def f_X8_allIsSeen_2  (k2 : Ms → Int32 → Option (Int32 × Ms)) (σ : Ms) (v1 : Int32) : Option (Int32 × Ms) := if (20 : Int32) < v1 then (some ((1 : Int32), σ)) else (bd (f_X8_isSeenAfter σ v1) (fun u2 => if u2 = (0 : Int32) then (some ((0 : Int32), σ)) else (bd (f_X1_goes (σ 2) σ (1 : Int32)) (fun u4 => lt (va_up σ 2 u4) (fun σ5 => lt ((v1 + (1 : Int32))) (fun x6 => k2 σ5 x6))))))
def f_X8_allIsSeen_2L   : Nat → Ms → Int32 → Option (Int32 × Ms)
  | 0 => fun _ _ => none
  | n + 1 => f_X8_allIsSeen_2   (f_X8_allIsSeen_2L   n)
def f_X8_allIsSeen_0   (σ : Ms) : Option (Int32 × Ms) := f_X8_allIsSeen_2L   FU σ (0 : Int32)
def f_X8_allIsSeen (σ : Ms) : Option (Int32 × Ms) := f_X8_allIsSeen_0  σ
def f_X8_from_55 (p0 : Int32) (k15 : Ms → Int32 → Int32 → Option (Int32 × Ms)) (σ : Ms) (v2 : Int32) (v3 : Int32) : Option (Int32 × Ms) := lt ((v3 + (1 : Int32))) (fun x11 => k15 σ v2 x11)
def f_X8_from_15 (p0 : Int32) (k15 : Ms → Int32 → Int32 → Option (Int32 × Ms)) (σ : Ms) (v2 : Int32) (v3 : Int32) : Option (Int32 × Ms) := if (10 : Int32) ≤ v3 then (some (v2, σ)) else (bd (f_X1_copies (σ 2) (σ 1)) (fun u4 => lt (va_up σ 2 u4) (fun σ5 => gd (inB p0 6) (lt (s_t (σ5 2) 4 p0.toNatClampNeg v3) (fun τ7 => lt (va_up σ5 2 τ7) (fun σ8 => bd (f_X8_allIsSeen σ8) (fun u9 => if u9.1 = (0 : Int32) then (f_X8_from_55 p0 k15 u9.2 v2 v3) else (lt ((v2 ||| ((1 : Int32) <<< (v3 &&& 31)))) (fun x12 => f_X8_from_55 p0 k15 u9.2 x12 v3)))))))))
def f_X8_from_15L (p0 : Int32)  : Nat → Ms → Int32 → Int32 → Option (Int32 × Ms)
  | 0 => fun _ _ _ => none
  | n + 1 => f_X8_from_15 p0  (f_X8_from_15L p0  n)
def f_X8_from_0 (p0 : Int32)  (σ : Ms) : Option (Int32 × Ms) := bd (f_X8_isMaster σ p0.toInt64) (fun u1 => if u1 = (0 : Int32) then (some ((-1 : Int32), σ)) else (f_X8_from_15L p0  FU σ (0 : Int32) (0 : Int32)))
def f_X8_from (σ : Ms) (p0 : Int32) : Option (Int32 × Ms) := f_X8_from_0 p0 σ
def f_X8_can_71 (p0 : Int32) (p1 : Int32) (k30 : Ms → Int32 → Int32 → Int32 → Option (Int32 × Ms)) (σ : Ms) (v3 : Int32) (v4 : Int32) (v5 : Int32) : Option (Int32 × Ms) := lt ((v5 + (-1 : Int32))) (fun x14 => k30 σ v3 v4 x14)
def f_X8_can_30 (p0 : Int32) (p1 : Int32) (k30 : Ms → Int32 → Int32 → Int32 → Option (Int32 × Ms)) (σ : Ms) (v3 : Int32) (v4 : Int32) (v5 : Int32) : Option (Int32 × Ms) := if v5 < (0 : Int32) then (if p1 = (0 : Int32) then (some (v3, σ)) else (some (v4, σ))) else (bd (f_X1_copies (σ 2) (σ 1)) (fun u7 => lt (va_up σ 2 u7) (fun σ8 => gd (inB p0 6) (lt (s_t (σ8 2) 3 p0.toNatClampNeg v5) (fun τ10 => lt (va_up σ8 2 τ10) (fun σ11 => bd (f_X8_allIsSeen σ11) (fun u12 => if u12.1 = (0 : Int32) then (f_X8_can_71 p0 p1 k30 u12.2 v3 v4 v5) else (lt ((v3 + (1 : Int32))) (fun x15 => f_X8_can_71 p0 p1 k30 u12.2 x15 v5 v5)))))))))
def f_X8_can_30L (p0 : Int32) (p1 : Int32)  : Nat → Ms → Int32 → Int32 → Int32 → Option (Int32 × Ms)
  | 0 => fun _ _ _ _ => none
  | n + 1 => f_X8_can_30 p0 p1  (f_X8_can_30L p0 p1  n)
def f_X8_can_0 (p0 : Int32) (p1 : Int32)  (σ : Ms) : Option (Int32 × Ms) := bd (f_X8_isMaster σ p0.toInt64) (fun u1 => if u1 = (0 : Int32) then (some ((-1 : Int32), σ)) else (bd (f_X8_within p1.toInt64 (2 : Int32)) (fun u3 => if u3 = (0 : Int32) then (some ((-1 : Int32), σ)) else (f_X8_can_30L p0 p1  FU σ (0 : Int32) (-5 : Int32) (9 : Int32)))))
def f_X8_can (σ : Ms) (p0 : Int32) (p1 : Int32) : Option (Int32 × Ms) := f_X8_can_0 p0 p1 σ
def f_X8_lowest_48 (p0 : Int32) (p1 : Int32) (p2 : Int32)  (v3 : Int32) (w0 : Int32) : Option (Int64) := if v3 = (0 : Int32) then (some w0.toInt64) else (gd (nz v3) (some ((w0 / v3).toInt64)))
def f_X8_lowest_39 (p0 : Int32) (p1 : Int32) (p2 : Int32)  (v3 : Int32) : Option (Int64) := if p2 = (0 : Int32) then (f_X8_lowest_48 p0 p1 p2  v3 p0) else (f_X8_lowest_48 p0 p1 p2  v3 p1)
def f_X8_lowest_8 (p0 : Int32) (p1 : Int32) (p2 : Int32) (k8 : Int32 → Int32 → Int32 → Option (Int64)) (v3 : Int32) (v4 : Int32) (v5 : Int32) : Option (Int64) := if (100 : Int32) ≤ v5 then (f_X8_lowest_39 p0 p1 p2  v3) else (if v4 = (0 : Int32) then (f_X8_lowest_39 p0 p1 p2  v3) else (gd (nz v4) (lt ((v3 - v3 / v4 * v4)) (fun x7 => lt ((v5 + (1 : Int32))) (fun x8 => k8 v4 x7 x8)))))
def f_X8_lowest_8L (p0 : Int32) (p1 : Int32) (p2 : Int32)  : Nat → Int32 → Int32 → Int32 → Option (Int64)
  | 0 => fun _ _ _ => none
  | n + 1 => f_X8_lowest_8 p0 p1 p2  (f_X8_lowest_8L p0 p1 p2  n)
def f_X8_lowest_0 (p0 : Int32) (p1 : Int32) (p2 : Int32)   : Option (Int64) := f_X8_lowest_8L p0 p1 p2  FU p1 p0 (0 : Int32)
def f_X8_lowest (p0 : Int32) (p1 : Int32) (p2 : Int32) : Option (Int64) := f_X8_lowest_0 p0 p1 p2 
def f_X8_odds_79 (p0 : Int32) (p1 : Int32) (k27 : Ms → Int32 → Int32 → Option (Int64 × Ms)) (σ : Ms) (v3 : Int32) (v4 : Int32) : Option (Int64 × Ms) := lt ((v4 + (1 : Int32))) (fun x15 => k27 σ v3 x15)
def f_X8_odds_27 (p0 : Int32) (p1 : Int32) (k27 : Ms → Int32 → Int32 → Option (Int64 × Ms)) (σ : Ms) (v3 : Int32) (v4 : Int32) : Option (Int64 × Ms) := if (10 : Int32) ≤ v4 then (bd (f_X8_lowest v3 (10 : Int32) p1) (fun u6 => some (u6, σ))) else (bd (f_X1_copies (σ 2) (σ 1)) (fun u7 => lt (va_up σ 2 u7) (fun σ8 => bd (f_X1_rings (σ8 2) v4) (fun u9 => lt (va_up σ8 2 u9.2) (fun σ10 => bd (f_X1_gives (σ10 2) σ10) (fun u11 => lt (va_up σ10 2 u11) (fun σ12 => gd (inB p0 6) (if ((σ12 2) 5 p0.toNatClampNeg) = (-5 : Int32) then (f_X8_odds_79 p0 p1 k27 σ12 v3 v4) else (lt ((v3 + (1 : Int32))) (fun x16 => f_X8_odds_79 p0 p1 k27 σ12 x16 v4))))))))))
def f_X8_odds_27L (p0 : Int32) (p1 : Int32)  : Nat → Ms → Int32 → Int32 → Option (Int64 × Ms)
  | 0 => fun _ _ _ => none
  | n + 1 => f_X8_odds_27 p0 p1  (f_X8_odds_27L p0 p1  n)
def f_X8_odds_0 (p0 : Int32) (p1 : Int32)  (σ : Ms) : Option (Int64 × Ms) := bd (f_X8_isMaster σ p0.toInt64) (fun u1 => if u1 = (0 : Int32) then (some ((-9223372036854775808 : Int64), σ)) else (bd (f_X8_within p1.toInt64 (2 : Int32)) (fun u3 => if u3 = (0 : Int32) then (some ((-9223372036854775808 : Int64), σ)) else (f_X8_odds_27L p0 p1  FU σ (0 : Int32) (0 : Int32)))))
def f_X8_odds (σ : Ms) (p0 : Int32) (p1 : Int32) : Option (Int64 × Ms) := f_X8_odds_0 p0 p1 σ
def f_X8_mean_57 (p0 : Int32) (p1 : Int32) (k57 : Ms → Int32 → Int32 → Option (Int64 × Ms)) (σ : Ms) (v3 : Int32) (v4 : Int32) : Option (Int64 × Ms) := if ((σ 2) 12 0) ≤ v4 then (bd (f_X8_lowest v3 ((σ 2) 12 0) p1) (fun u11 => some (u11, σ))) else (gd (inB v4 6) (lt ((v3 + ((σ 2) 8 v4.toNatClampNeg))) (fun x13 => lt ((v4 + (1 : Int32))) (fun x14 => k57 σ x13 x14))))
def f_X8_mean_57L (p0 : Int32) (p1 : Int32)  : Nat → Ms → Int32 → Int32 → Option (Int64 × Ms)
  | 0 => fun _ _ _ => none
  | n + 1 => f_X8_mean_57 p0 p1  (f_X8_mean_57L p0 p1  n)
def f_X8_mean_0 (p0 : Int32) (p1 : Int32)  (σ : Ms) : Option (Int64 × Ms) := bd (f_X8_within p0.toInt64 (61 : Int32)) (fun u1 => if u1 = (0 : Int32) then (some ((-9223372036854775808 : Int64), σ)) else (bd (f_X8_within p1.toInt64 (2 : Int32)) (fun u3 => if u3 = (0 : Int32) then (some ((-9223372036854775808 : Int64), σ)) else (if ((σ 1) 12 0) = (0 : Int32) then (some ((-9223372036854775808 : Int64), σ)) else (bd (f_X1_copies (σ 2) (σ 1)) (fun u6 => lt (va_up σ 2 u6) (fun σ7 => bd (f_X1_goes (σ7 2) σ7 p0) (fun u8 => lt (va_up σ7 2 u8) (fun σ9 => f_X8_mean_57L p0 p1  FU σ9 (0 : Int32) (0 : Int32))))))))))
def f_X8_mean (σ : Ms) (p0 : Int32) (p1 : Int32) : Option (Int64 × Ms) := f_X8_mean_0 p0 p1 σ
def f_X8_isPlannable_0 (σ : Ms) (p0 : Int32) (p1 : Int32)   : Option (Int32) := if p0 = (0 : Int32) then (some (1 : Int32)) else (if p0 = (1 : Int32) then (bd (f_X8_within p1.toInt64 (10 : Int32)) (fun u3 => gd (isB u3) (some u3))) else (if p0 = (2 : Int32) then (bd (f_X8_isMaster σ p1.toInt64) (fun u6 => gd (isB u6) (some u6))) else (if p0 = (3 : Int32) then (bd (f_X8_isMaster σ p1.toInt64) (fun u9 => gd (isB u9) (some u9))) else (some (0 : Int32)))))
def f_X8_isPlannable (σ : Ms) (p0 : Int32) (p1 : Int32) : Option (Int32) := f_X8_isPlannable_0 σ p0 p1 
def f_X8_plan_0 (p0 : Int32) (p1 : Int32)  (σ : Ms) : Option (Int32 × Ms) := if p0 = (-1 : Int32) then (bd (f_X4_empties (σ 7)) (fun u8 => lt (va_up σ 7 u8.2) (fun σ9 => some (u8.1, σ9)))) else (bd (f_X8_isPlannable σ p0 p1) (fun u2 => if u2 = (0 : Int32) then (some ((-1 : Int32), σ)) else (bd (f_X4_isFull (σ 7) (rl 7)) (fun u4 => if u4 = (0 : Int32) then (bd (f_X4_adds (σ 7) (rl 7) p0 p1 (0 : Int32)) (fun u6 => lt (va_up σ 7 u6.2) (fun σ7 => some (u6.1, σ7)))) else (some ((-4 : Int32), σ))))))
def f_X8_plan (σ : Ms) (p0 : Int32) (p1 : Int32) : Option (Int32 × Ms) := f_X8_plan_0 p0 p1 σ
def f_X8_carriesOut_69 (p0 : Int32) (p1 : Int32)  (σ : Ms) (w1 : Int32) (w2 : Int32) : Option (Ms) := gd (inB w1 6) (lt (s_t (σ 2) 7 w1.toNatClampNeg w2) (fun τ9 => lt (va_up σ 2 τ9) (fun σ10 => some σ10)))
def f_X8_carriesOut_0 (p0 : Int32) (p1 : Int32)  (σ : Ms) : Option (Ms) := if p0 = (0 : Int32) then (bd (f_X1_goes (σ 2) σ (1 : Int32)) (fun u2 => lt (va_up σ 2 u2) (fun σ3 => some σ3))) else (if p0 = (1 : Int32) then (bd (f_X1_rings (σ 2) p1) (fun u5 => lt (va_up σ 2 u5.2) (fun σ6 => some σ6))) else (if p0 = (2 : Int32) then (f_X8_carriesOut_69 p0 p1  σ p1 (1 : Int32)) else (f_X8_carriesOut_69 p0 p1  σ p1 (0 : Int32))))
def f_X8_carriesOut (σ : Ms) (p0 : Int32) (p1 : Int32) : Option (Ms) := f_X8_carriesOut_0 p0 p1 σ
def f_X8_ends_24 (p0 : Int32) (k24 : Ms → Int32 → Option (Int32 × Ms)) (σ : Ms) (v2 : Int32) : Option (Int32 × Ms) := if ((σ 7) 3 0) ≤ v2 then (if p0 = (0 : Int32) then (some (((σ 2) 14 0), σ)) else (some (((σ 2) 13 0), σ))) else (gd (inB v2 (rl 7)) (gd (inB v2 (rl 7)) (bd (f_X8_carriesOut σ ((σ 7) 0 v2.toNatClampNeg) ((σ 7) 1 v2.toNatClampNeg)) (fun u9 => lt ((v2 + (1 : Int32))) (fun x10 => k24 u9 x10)))))
def f_X8_ends_24L (p0 : Int32)  : Nat → Ms → Int32 → Option (Int32 × Ms)
  | 0 => fun _ _ => none
  | n + 1 => f_X8_ends_24 p0  (f_X8_ends_24L p0  n)
def f_X8_ends_0 (p0 : Int32)  (σ : Ms) : Option (Int32 × Ms) := bd (f_X8_within p0.toInt64 (2 : Int32)) (fun u1 => if u1 = (0 : Int32) then (some ((-1 : Int32), σ)) else (bd (f_X1_copies (σ 2) (σ 1)) (fun u3 => lt (va_up σ 2 u3) (fun σ4 => f_X8_ends_24L p0  FU σ4 (0 : Int32)))))
def f_X8_ends (σ : Ms) (p0 : Int32) : Option (Int32 × Ms) := f_X8_ends_0 p0 σ
def f_X8_book_0 (p0 : Int32) (p1 : Int32)  (σ : Ms) : Option (Int32 × Ms) := if p0 = (-1 : Int32) then (bd (f_X4_empties (σ 8)) (fun u10 => lt (va_up σ 8 u10.2) (fun σ11 => some (u10.1, σ11)))) else (bd (f_X8_isMaster σ p0.toInt64) (fun u2 => if u2 = (0 : Int32) then (some ((-1 : Int32), σ)) else (bd (f_X8_within p1.toInt64 (10 : Int32)) (fun u4 => if u4 = (0 : Int32) then (some ((-1 : Int32), σ)) else (bd (f_X4_isFull (σ 8) (rl 8)) (fun u6 => if u6 = (0 : Int32) then (bd (f_X4_adds (σ 8) (rl 8) p0 p1 (0 : Int32)) (fun u8 => lt (va_up σ 8 u8.2) (fun σ9 => some (u8.1, σ9)))) else (some ((-4 : Int32), σ))))))))
def f_X8_book (σ : Ms) (p0 : Int32) (p1 : Int32) : Option (Int32 × Ms) := f_X8_book_0 p0 p1 σ
def f_X8_looked_2 (σ : Ms) (k2 : Int32 → Option (Int32)) (v1 : Int32) : Option (Int32) := if ((σ 8) 3 0) ≤ v1 then (some (-5 : Int32)) else (gd (inB v1 (rl 8)) (gd (inB ((σ 8) 0 v1.toNatClampNeg) 6) (gd (inB v1 (rl 8)) (if ((σ 1) 4 ((σ 8) 0 v1.toNatClampNeg).toNatClampNeg) = ((σ 8) 1 v1.toNatClampNeg) then (lt ((v1 + (1 : Int32))) (fun x6 => k2 x6)) else (some v1)))))
def f_X8_looked_2L (σ : Ms)  : Nat → Int32 → Option (Int32)
  | 0 => fun _ => none
  | n + 1 => f_X8_looked_2 σ  (f_X8_looked_2L σ  n)
def f_X8_looked_0 (σ : Ms)   : Option (Int32) := f_X8_looked_2L σ  FU (0 : Int32)
def f_X8_looked (σ : Ms) : Option (Int32) := f_X8_looked_0 σ 
def f_X8_judge_40 (σ : Ms) (ℓ : Mz) (p0 : Int32) (p1 : Int32) (k40 : Int32 → Option (Int32)) (v4 : Int32) : Option (Int32) := if (10 : Int32) ≤ v4 then (some (-5 : Int32)) else (bd (f_X6_has (σ (23 + p0.toNatClampNeg)) (p1.toInt64 + v4.toInt64)) (fun u6 => if u6 = (0 : Int32) then (some ((100 : Int32) + v4)) else (gd (inB (p1 + v4) 60) (gd (inB v4 10) (if (lg_cmp ((ℓ (23 + p0.toNatClampNeg)) 0 (p1 + v4).toNatClampNeg) (((σ 1) 10 v4.toNatClampNeg).toInt64)) = (0 : Int32) then (lt ((v4 + (1 : Int32))) (fun x11 => k40 x11)) else (some v4))))))
def f_X8_judge_40L (σ : Ms) (ℓ : Mz) (p0 : Int32) (p1 : Int32)  : Nat → Int32 → Option (Int32)
  | 0 => fun _ => none
  | n + 1 => f_X8_judge_40 σ ℓ p0 p1  (f_X8_judge_40L σ ℓ p0 p1  n)
def f_X8_judge_37 (σ : Ms) (ℓ : Mz) (p0 : Int32) (p1 : Int32)   : Option (Int32) := f_X8_judge_40L σ ℓ p0 p1  FU (0 : Int32)
def f_X8_judge_0 (σ : Ms) (ℓ : Mz) (p0 : Int32) (p1 : Int32)   : Option (Int32) := bd (f_X8_within p0.toInt64 (6 : Int32)) (fun u1 => if u1 = (0 : Int32) then (some (-1 : Int32)) else (gd (inB p0 6) (if ((σ (23 + p0.toNatClampNeg)) 1 0) = (-1 : Int32) then (f_X8_judge_37 σ ℓ p0 p1  ) else (if ((σ (23 + p0.toNatClampNeg)) 1 0) = (0 : Int32) then (f_X8_judge_37 σ ℓ p0 p1  ) else (some (-12 : Int32))))))
def f_X8_judge (σ : Ms) (ℓ : Mz) (p0 : Int32) (p1 : Int32) : Option (Int32) := f_X8_judge_0 σ ℓ p0 p1 
def f_X8_image_0   (σ : Ms) : Option (Int32 × Ms) := bd (f_X1_copies (σ 3) (σ 1)) (fun u1 => lt (va_up σ 3 u1) (fun σ2 => bd (f_X3_copies_5 σ2) (fun u3 => lt (s_t (u3 0) 5 0 (1 : Int32)) (fun τ4 => lt (va_up u3 0 τ4) (fun σ5 => some (((σ5 1) 12 0), σ5))))))
def f_X8_image (σ : Ms) : Option (Int32 × Ms) := f_X8_image_0  σ
def f_X8_undo_0   (σ : Ms) : Option (Int32 × Ms) := if ((σ 0) 5 0) = (0 : Int32) then (some ((-3 : Int32), σ)) else (bd (f_X1_copies (σ 1) (σ 3)) (fun u2 => lt (va_up σ 1 u2) (fun σ3 => bd (f_X3_copies_4 σ3) (fun u4 => some (((u4 1) 12 0), u4)))))
def f_X8_undo (σ : Ms) : Option (Int32 × Ms) := f_X8_undo_0  σ
def f_X8_act_0 (p0 : Int32) (p1 : Int32) (p2 : Int32)  (σ : Ms) : Option (Int32 × Ms) := lt (s_t (σ 21) 1 0 (0 : Int32)) (fun τ1 => lt (va_up σ 21 τ1) (fun σ2 => bd (f_X8_isMaster σ2 p0.toInt64) (fun u3 => if u3 = (0 : Int32) then (some ((0 : Int32), σ2)) else (bd (f_X8_within p1.toInt64 (3 : Int32)) (fun u5 => if u5 = (0 : Int32) then (some ((0 : Int32), σ2)) else (gd (inB p0 6) (gd (inB p0 6) (bd (f_X0_does (σ2 21) p0 ((σ2 1) 3 p0.toNatClampNeg) ((σ2 1) 2 p0.toNatClampNeg) p1 p2) (fun u9 => lt (va_up σ2 21 u9.2) (fun σ10 => some (u9.1, σ10)))))))))))
def f_X8_act (σ : Ms) (p0 : Int32) (p1 : Int32) (p2 : Int32) : Option (Int32 × Ms) := f_X8_act_0 p0 p1 p2 σ
def f_X8_trace_0 (σ : Ms) (p0 : Int32)   : Option (Int32) := bd (f_X8_within p0.toInt64 (if (nI 20) < ((σ 21) 1 0) then (nI 20) else ((σ 21) 1 0))) (fun u1 => if u1 = (0 : Int32) then (some (-1 : Int32)) else (gd (inB p0 20) (some ((σ 21) 0 p0.toNatClampNeg))))
def f_X8_trace (σ : Ms) (p0 : Int32) : Option (Int32) := f_X8_trace_0 σ p0 
def f_X8_isUnder_31 (p0 : Int32) (p1 : Int32)  (v2 : Int32) : Option (Int32) := if v2 = p1 then (some (1 : Int32)) else (some (0 : Int32))
def f_X8_isUnder_4 (p0 : Int32) (p1 : Int32) (k4 : Int32 → Int32 → Option (Int32)) (v2 : Int32) (v3 : Int32) : Option (Int32) := if (7 : Int32) ≤ v3 then (f_X8_isUnder_31 p0 p1  v2) else (if v2 < (0 : Int32) then (f_X8_isUnder_31 p0 p1  v2) else (if v2 = p1 then (f_X8_isUnder_31 p0 p1  v2) else (gd (inB v2 7) (lt ((sAB v2.toNatClampNeg)) (fun x7 => lt ((v3 + (1 : Int32))) (fun x8 => k4 x7 x8))))))
def f_X8_isUnder_4L (p0 : Int32) (p1 : Int32)  : Nat → Int32 → Int32 → Option (Int32)
  | 0 => fun _ _ => none
  | n + 1 => f_X8_isUnder_4 p0 p1  (f_X8_isUnder_4L p0 p1  n)
def f_X8_isUnder_0 (p0 : Int32) (p1 : Int32)   : Option (Int32) := f_X8_isUnder_4L p0 p1  FU p0 (0 : Int32)
def f_X8_isUnder (p0 : Int32) (p1 : Int32) : Option (Int32) := f_X8_isUnder_0 p0 p1 
def f_X8_taken_0 (σ : Ms) (p0 : Int32) (p1 : Int32)   : Option (Int32) := bd (f_X8_within p1.toInt64 (7 : Int32)) (fun u1 => if u1 = (0 : Int32) then (some (-2 : Int32)) else (bd (f_X8_isMaster σ p0.toInt64) (fun u3 => if u3 = (0 : Int32) then (some (-11 : Int32)) else (gd (inB p0 6) (bd (f_X8_isUnder ((σ 1) 2 p0.toNatClampNeg) p1) (fun u6 => if u6 = (0 : Int32) then (some (-12 : Int32)) else (gd (inB p0 6) (some ((σ 1) 2 p0.toNatClampNeg)))))))))
def f_X8_taken (σ : Ms) (p0 : Int32) (p1 : Int32) : Option (Int32) := f_X8_taken_0 σ p0 p1 
def f_X8_count_0 (σ : Ms) (p0 : Int32)   : Option (Int32) := if p0 = (0 : Int32) then (some ((σ 1) 12 0)) else (if p0 = (1 : Int32) then (some ((σ 0) 8 0)) else (if p0 = (2 : Int32) then (some ((σ 6) 3 0)) else (if p0 = (3 : Int32) then (some ((σ 7) 3 0)) else (if p0 = (4 : Int32) then (some ((σ 8) 3 0)) else (if p0 = (5 : Int32) then (some ((σ 12) 1 0)) else (if p0 = (6 : Int32) then (some ((σ 21) 1 0)) else (some (-2 : Int32))))))))
def f_X8_count (σ : Ms) (p0 : Int32) : Option (Int32) := f_X8_count_0 σ p0 
def f_X8_tape_0 (p0 : Int32) (p1 : Int32) (p2 : Int32)  (σ : Ms) (ℓ : Mz) : Option (Int32 × Ms × Mz) := bd (f_X8_within p0.toInt64 (6 : Int32)) (fun u1 => if u1 = (0 : Int32) then (some ((-1 : Int32), σ, ℓ)) else (if p1 = (-1 : Int32) then (gd (inB p0 6) (bd (f_X6_becomes (σ (23 + p0.toNatClampNeg)) (ℓ (23 + p0.toNatClampNeg)) p1 (0 : Int32)) (fun u13 => lt (va_up σ (23 + p0.toNatClampNeg) u13.1) (fun σ14 => lt (va_up ℓ (23 + p0.toNatClampNeg) u13.2) (fun ℓ15 => some ((1 : Int32), σ14, ℓ15)))))) else (bd (f_X8_within p1.toInt64 (5 : Int32)) (fun u4 => if u4 = (0 : Int32) then (some ((-2 : Int32), σ, ℓ)) else (if p2 ≤ (60 : Int32) then (if (0 : Int32) ≤ p2 then (gd (inB p0 6) (bd (f_X6_becomes (σ (23 + p0.toNatClampNeg)) (ℓ (23 + p0.toNatClampNeg)) p1 p2) (fun u9 => lt (va_up σ (23 + p0.toNatClampNeg) u9.1) (fun σ10 => lt (va_up ℓ (23 + p0.toNatClampNeg) u9.2) (fun ℓ11 => some ((1 : Int32), σ10, ℓ11)))))) else (some ((-14 : Int32), σ, ℓ))) else (some ((-2 : Int32), σ, ℓ)))))))
def f_X8_tape (σ : Ms) (ℓ : Mz) (p0 : Int32) (p1 : Int32) (p2 : Int32) : Option (Int32 × Ms × Mz) := f_X8_tape_0 p0 p1 p2 σ ℓ
def f_X8_item_0 (σ : Ms) (p0 : Int32) (p1 : Int32) (p2 : Int64)  (ℓ : Mz) : Option (Int32 × Mz) := bd (f_X8_within p0.toInt64 (6 : Int32)) (fun u1 => if u1 = (0 : Int32) then (some ((-1 : Int32), ℓ)) else (gd (inB p0 6) (if ((σ (23 + p0.toNatClampNeg)) 1 0) = (-1 : Int32) then (some ((-11 : Int32), ℓ)) else (bd (f_X6_has (σ (23 + p0.toNatClampNeg)) p1.toInt64) (fun u5 => if u5 = (0 : Int32) then (some ((-13 : Int32), ℓ)) else (bd (f_X6_fitted (σ (23 + p0.toNatClampNeg)) p2) (fun u7 => gd (inB p1 60) (lt (s_l (ℓ (23 + p0.toNatClampNeg)) 0 p1.toNatClampNeg u7) (fun η9 => lt (va_up ℓ (23 + p0.toNatClampNeg) η9) (fun ℓ10 => some ((1 : Int32), ℓ10)))))))))))
def f_X8_item (σ : Ms) (ℓ : Mz) (p0 : Int32) (p1 : Int32) (p2 : Int64) : Option (Int32 × Mz) := f_X8_item_0 σ p0 p1 p2 ℓ
def f_X8_read_0 (σ : Ms) (ℓ : Mz) (p0 : Int32) (p1 : Int32)   : Option (Int64) := bd (f_X8_within p0.toInt64 (6 : Int32)) (fun u1 => if u1 = (0 : Int32) then (some (-9223372036854775808 : Int64)) else (gd (inB p0 6) (bd (f_X6_has (σ (23 + p0.toNatClampNeg)) p1.toInt64) (fun u4 => if u4 = (0 : Int32) then (some (-9223372036854775808 : Int64)) else (gd (inB p0 6) (gd (inB p1 60) (some ((ℓ (23 + p0.toNatClampNeg)) 0 p1.toNatClampNeg))))))))
def f_X8_read (σ : Ms) (ℓ : Mz) (p0 : Int32) (p1 : Int32) : Option (Int64) := f_X8_read_0 σ ℓ p0 p1 
def f_X8_shift_0 (σ : Ms) (p0 : Int32) (p1 : Int32) (p2 : Int32) (p3 : Int32) (p4 : Int32)  (ℓ : Mz) : Option (Int32 × Mz) := bd (f_X8_within p0.toInt64 (6 : Int32)) (fun u1 => if u1 = (0 : Int32) then (some ((-1 : Int32), ℓ)) else (bd (f_X8_within p2.toInt64 (6 : Int32)) (fun u3 => if u3 = (0 : Int32) then (some ((-1 : Int32), ℓ)) else (gd (inB p0 6) (gd (inB p2 6) (if ((σ (23 + p0.toNatClampNeg)) 1 0) = (-1 : Int32) then (some ((-11 : Int32), ℓ)) else (if ((σ (23 + p2.toNatClampNeg)) 1 0) = (-1 : Int32) then (some ((-11 : Int32), ℓ)) else (if ((σ (23 + p0.toNatClampNeg)) 1 0) = ((σ (23 + p2.toNatClampNeg)) 1 0) then (bd (f_X6_hasRun (σ (23 + p0.toNatClampNeg)) p1 p4) (fun u10 => if u10 = (0 : Int32) then (some ((-13 : Int32), ℓ)) else (bd (f_X6_hasRun (σ (23 + p2.toNatClampNeg)) p3 p4) (fun u12 => if u12 = (0 : Int32) then (some ((-13 : Int32), ℓ)) else (gd (cpB p1 p3 p4 60 60) (lt (s_rl (ℓ (23 + p2.toNatClampNeg)) 0 (va_cpy ((ℓ (23 + p0.toNatClampNeg)) 0) ((ℓ (23 + p2.toNatClampNeg)) 0) p1.toNatClampNeg p3.toNatClampNeg p4.toNatClampNeg)) (fun η15 => lt (va_up ℓ (23 + p2.toNatClampNeg) η15) (fun ℓ16 => some (p4, ℓ16))))))))) else (some ((-12 : Int32), ℓ))))))))))
def f_X8_shift (σ : Ms) (ℓ : Mz) (p0 : Int32) (p1 : Int32) (p2 : Int32) (p3 : Int32) (p4 : Int32) : Option (Int32 × Mz) := f_X8_shift_0 σ p0 p1 p2 p3 p4 ℓ
def f_X9_in_0 (p0 : Int32) (p1 : Int32) (p2 : Int32)   : Option (Int32) := if p0 < p1 then (some (0 : Int32)) else (if p2 < p0 then (some (0 : Int32)) else (some (1 : Int32)))
def f_X9_in (p0 : Int32) (p1 : Int32) (p2 : Int32) : Option (Int32) := f_X9_in_0 p0 p1 p2 
def f_X9_has_0 (p0 : Int32) (p1 : Int32)   : Option (Int32) := if ((p0 >>> (p1 &&& 31)) &&& (1 : Int32)) = (1 : Int32) then (some (1 : Int32)) else (some (0 : Int32))
def f_X9_has (p0 : Int32) (p1 : Int32) : Option (Int32) := f_X9_has_0 p0 p1 
def f_X9_least_0 (p0 : Int32) (p1 : Int32)   : Option (Int32) := if p1 ≤ p0 then (some p1) else (some p0)
def f_X9_least (p0 : Int32) (p1 : Int32) : Option (Int32) := f_X9_least_0 p0 p1 
def f_X9_bits_25 (p0 : Int32) (k4 : Int32 → Int32 → Option (Int32)) (v3 : Int32) (w0 : Int32) (w1 : Int32) : Option (Int32) := lt ((w0 + w1)) (fun x4 => lt ((v3 + (1 : Int32))) (fun x5 => k4 x4 x5))
def f_X9_bits_4 (p0 : Int32) (k4 : Int32 → Int32 → Option (Int32)) (v2 : Int32) (v3 : Int32) : Option (Int32) := if (10 : Int32) ≤ v3 then (some v2) else (bd (f_X9_has p0 v3) (fun u2 => if u2 = (0 : Int32) then (f_X9_bits_25 p0 k4 v3 v2 (0 : Int32)) else (f_X9_bits_25 p0 k4 v3 v2 (1 : Int32))))
def f_X9_bits_4L (p0 : Int32)  : Nat → Int32 → Int32 → Option (Int32)
  | 0 => fun _ _ => none
  | n + 1 => f_X9_bits_4 p0  (f_X9_bits_4L p0  n)
def f_X9_bits_0 (p0 : Int32)   : Option (Int32) := f_X9_bits_4L p0  FU (0 : Int32) (0 : Int32)
def f_X9_bits (p0 : Int32) : Option (Int32) := f_X9_bits_0 p0 
def f_X9_apart_0 (p0 : Int32) (p1 : Int32)   : Option (Int32) := if p1 ≤ p0 then (some (p0 - p1)) else (some (p1 - p0))
def f_X9_apart (p0 : Int32) (p1 : Int32) : Option (Int32) := f_X9_apart_0 p0 p1 
def f_X9_isMaster_0 (τ : Mm) (p0 : Int32)   : Option (Int32) := bd (f_X9_in p0 (0 : Int32) ((τ 0 0) - (1 : Int32))) (fun u1 => gd (isB u1) (some u1))
def f_X9_isMaster (τ : Mm) (p0 : Int32) : Option (Int32) := f_X9_isMaster_0 τ p0 
def f_X9_isFloor_0 (p0 : Int32)   : Option (Int32) := bd (f_X9_in p0 (0 : Int32) (9 : Int32)) (fun u1 => gd (isB u1) (some u1))
def f_X9_isFloor (p0 : Int32) : Option (Int32) := f_X9_isFloor_0 p0 
def f_X9_isMinutes_0 (p0 : Int32)   : Option (Int32) := bd (f_X9_in p0 (0 : Int32) (60 : Int32)) (fun u1 => gd (isB u1) (some u1))
def f_X9_isMinutes (p0 : Int32) : Option (Int32) := f_X9_isMinutes_0 p0 
def f_X9_master_128 (p0 : Int32) (p1 : Int32) (p2 : Int32) (k128 : Mm → Int32 → Option (Int32 × Mm)) (τ : Mm) (v4 : Int32) : Option (Int32 × Mm) := if (4 : Int32) ≤ v4 then (lt (s_t τ 0 0 ((τ 0 0) + (1 : Int32))) (fun τ22 => some (((τ22 0 0) - (1 : Int32)), τ22))) else (gd (inB (((4 : Int32) * (τ 0 0)) + v4) 24) (lt (s_t τ 11 (((4 : Int32) * (τ 0 0)) + v4).toNatClampNeg (0 : Int32)) (fun τ24 => lt ((v4 + (1 : Int32))) (fun x25 => k128 τ24 x25))))
def f_X9_master_128L (p0 : Int32) (p1 : Int32) (p2 : Int32)  : Nat → Mm → Int32 → Option (Int32 × Mm)
  | 0 => fun _ _ => none
  | n + 1 => f_X9_master_128 p0 p1 p2  (f_X9_master_128L p0 p1 p2  n)
def f_X9_master_0 (p0 : Int32) (p1 : Int32) (p2 : Int32)  (τ : Mm) : Option (Int32 × Mm) := bd (f_X9_in p0 (0 : Int32) (6 : Int32)) (fun u1 => if u1 = (0 : Int32) then (some ((-1 : Int32), τ)) else (bd (f_X9_isFloor p2) (fun u3 => if u3 = (0 : Int32) then (some ((-1 : Int32), τ)) else (bd (f_X9_in p1 (0 : Int32) (9 : Int32)) (fun u5 => if u5 = (0 : Int32) then (some ((-2 : Int32), τ)) else (if (τ 0 0) = (6 : Int32) then (some ((-4 : Int32), τ)) else (gd (inB (τ 0 0) 6) (lt (s_t τ 5 (τ 0 0).toNatClampNeg p0) (fun τ9 => gd (inB (τ9 0 0) 6) (lt (s_t τ9 6 (τ9 0 0).toNatClampNeg p1) (fun τ11 => gd (inB (τ11 0 0) 6) (lt (s_t τ11 7 (τ11 0 0).toNatClampNeg p2) (fun τ13 => gd (inB (τ13 0 0) 6) (lt (s_t τ13 8 (τ13 0 0).toNatClampNeg (-5 : Int32)) (fun τ15 => gd (inB (τ15 0 0) 6) (lt (s_t τ15 9 (τ15 0 0).toNatClampNeg (0 : Int32)) (fun τ17 => gd (inB (τ17 0 0) 6) (lt (s_t τ17 10 (τ17 0 0).toNatClampNeg (0 : Int32)) (fun τ19 => lt (s_t τ19 1 0 ((τ19 1 0) &&& (((1 : Int32) <<< ((τ19 0 0) &&& 31)) ^^^ (-1 : Int32)))) (fun τ20 => f_X9_master_128L p0 p1 p2  FU τ20 (0 : Int32)))))))))))))))))))))
def f_X9_master (τ : Mm) (p0 : Int32) (p1 : Int32) (p2 : Int32) : Option (Int32 × Mm) := f_X9_master_0 p0 p1 p2 τ
def f_X9_set_68 (p0 : Int32) (p1 : Int32) (p2 : Int32)  (τ : Mm) (w0 : Int32) : Option (Int32 × Mm) := if p1 = (0 : Int32) then (gd (inB p0 6) (lt (s_t τ 7 p0.toNatClampNeg p2) (fun τ14 => some (w0, τ14)))) else (gd (inB p0 6) (lt (s_t τ 9 p0.toNatClampNeg p2) (fun τ12 => some (w0, τ12))))
def f_X9_set_49 (p0 : Int32) (p1 : Int32) (p2 : Int32)  (τ : Mm) : Option (Int32 × Mm) := if p1 = (0 : Int32) then (gd (inB p0 6) (f_X9_set_68 p0 p1 p2  τ (τ 7 p0.toNatClampNeg))) else (gd (inB p0 6) (f_X9_set_68 p0 p1 p2  τ (τ 9 p0.toNatClampNeg)))
def f_X9_set_0 (p0 : Int32) (p1 : Int32) (p2 : Int32)  (τ : Mm) : Option (Int32 × Mm) := bd (f_X9_isMaster τ p0) (fun u1 => if u1 = (0 : Int32) then (some ((-1 : Int32), τ)) else (bd (f_X9_in p1 (0 : Int32) (1 : Int32)) (fun u3 => if u3 = (0 : Int32) then (some ((-1 : Int32), τ)) else (if p1 = (0 : Int32) then (bd (f_X9_isFloor p2) (fun u16 => if u16 = (0 : Int32) then (some ((-2 : Int32), τ)) else (f_X9_set_49 p0 p1 p2  τ))) else (bd (f_X9_in p2 (0 : Int32) (99 : Int32)) (fun u6 => if u6 = (0 : Int32) then (some ((-2 : Int32), τ)) else (f_X9_set_49 p0 p1 p2  τ)))))))
def f_X9_set (τ : Mm) (p0 : Int32) (p1 : Int32) (p2 : Int32) : Option (Int32 × Mm) := f_X9_set_0 p0 p1 p2 τ
def f_X9_goes_26 (p0 : Int32) (p1 : Int32)  (τ : Mm) (w1 : Int32) : Option (Mm) := lt (s_t τ 1 0 w1) (fun τ2 => some τ2)
def f_X9_goes_0 (p0 : Int32) (p1 : Int32)  (τ : Mm) : Option (Mm) := if p1 = (0 : Int32) then (f_X9_goes_26 p0 p1  τ ((τ 1 0) &&& (((1 : Int32) <<< (p0 &&& 31)) ^^^ (-1 : Int32)))) else (f_X9_goes_26 p0 p1  τ ((τ 1 0) ||| ((1 : Int32) <<< (p0 &&& 31))))
def f_X9_goes (τ : Mm) (p0 : Int32) (p1 : Int32) : Option (Mm) := f_X9_goes_0 p0 p1 τ
def f_X9_away_27 (p0 : Int32) (p1 : Int32)  (τ : Mm) (w0 : Int32) : Option (Int32 × Mm) := bd (f_X9_goes τ p0 p1) (fun u5 => some (w0, u5))
def f_X9_away_0 (p0 : Int32) (p1 : Int32)  (τ : Mm) : Option (Int32 × Mm) := bd (f_X9_isMaster τ p0) (fun u1 => if u1 = (0 : Int32) then (some ((-1 : Int32), τ)) else (bd (f_X9_has (τ 1 0) p0) (fun u3 => if u3 = (0 : Int32) then (f_X9_away_27 p0 p1  τ (0 : Int32)) else (f_X9_away_27 p0 p1  τ (1 : Int32)))))
def f_X9_away (τ : Mm) (p0 : Int32) (p1 : Int32) : Option (Int32 × Mm) := f_X9_away_0 p0 p1 τ
def f_X9_ring_0 (p0 : Int32)  (τ : Mm) : Option (Int32 × Mm) := bd (f_X9_isFloor p0) (fun u1 => if u1 = (0 : Int32) then (some ((-1 : Int32), τ)) else (gd (inB p0 10) (lt (s_t τ 2 0 ((τ 2 0) ||| ((1 : Int32) <<< ((τ 12 p0.toNatClampNeg) &&& 31)))) (fun τ4 => gd (inB p0 10) (some ((τ4 12 p0.toNatClampNeg), τ4))))))
def f_X9_ring (τ : Mm) (p0 : Int32) : Option (Int32 × Mm) := f_X9_ring_0 p0 τ
def f_X9_cross_0 (p0 : Int32) (p1 : Int32)  (τ : Mm) : Option (Int32 × Mm) := bd (f_X9_isFloor p0) (fun u1 => if u1 = (0 : Int32) then (some ((-1 : Int32), τ)) else (bd (f_X9_isFloor p1) (fun u3 => if u3 = (0 : Int32) then (some ((-1 : Int32), τ)) else (if p0 = p1 then (some ((-2 : Int32), τ)) else (gd (inB p0 10) (lt ((τ 12 p0.toNatClampNeg)) (fun x7 => gd (inB p1 10) (gd (inB p0 10) (lt (s_t τ 12 p0.toNatClampNeg (τ 12 p1.toNatClampNeg)) (fun τ10 => gd (inB p1 10) (lt (s_t τ10 12 p1.toNatClampNeg x7) (fun τ12 => gd (inB p0 10) (some ((τ12 12 p0.toNatClampNeg), τ12))))))))))))))
def f_X9_cross (τ : Mm) (p0 : Int32) (p1 : Int32) : Option (Int32 × Mm) := f_X9_cross_0 p0 p1 τ
def f_X9_row_0 (p0 : Int32) (p1 : Int32) (p2 : Int32)  (τ : Mm) : Option (Int32 × Mm) := bd (f_X9_isMaster τ p0) (fun u1 => if u1 = (0 : Int32) then (some ((-1 : Int32), τ)) else (bd (f_X9_in p1 (0 : Int32) (3 : Int32)) (fun u3 => if u3 = (0 : Int32) then (some ((-1 : Int32), τ)) else (bd (f_X9_in p2 (0 : Int32) (9 : Int32)) (fun u5 => if u5 = (0 : Int32) then (some ((-2 : Int32), τ)) else (gd (inB p0 6) (if (τ 5 p0.toNatClampNeg) = (6 : Int32) then (gd (inB (((4 : Int32) * p0) + p1) 24) (lt ((τ 11 (((4 : Int32) * p0) + p1).toNatClampNeg)) (fun x10 => gd (inB (((4 : Int32) * p0) + p1) 24) (lt (s_t τ 11 (((4 : Int32) * p0) + p1).toNatClampNeg p2) (fun τ12 => some (x10, τ12)))))) else (some ((-3 : Int32), τ)))))))))
def f_X9_row (τ : Mm) (p0 : Int32) (p1 : Int32) (p2 : Int32) : Option (Int32 × Mm) := f_X9_row_0 p0 p1 p2 τ
def f_X9_feed_0 (p0 : Int32)  (τ : Mm) : Option (Int32 × Mm) := bd (f_X9_in p0 (0 : Int32) (127 : Int32)) (fun u1 => if u1 = (0 : Int32) then (some ((-2 : Int32), τ)) else (if (τ 15 0) = (100 : Int32) then (some ((-4 : Int32), τ)) else (gd (inB (τ 15 0) 100) (lt (s_t τ 18 (τ 15 0).toNatClampNeg p0) (fun τ5 => lt (s_t τ5 15 0 ((τ5 15 0) + (1 : Int32))) (fun τ6 => some ((τ6 15 0), τ6)))))))
def f_X9_feed (τ : Mm) (p0 : Int32) : Option (Int32 × Mm) := f_X9_feed_0 p0 τ
def f_X9_next_0 (τ : Mm)   : Option (Int32) := if (τ 15 0) ≤ (τ 16 0) then (some (-1 : Int32)) else (gd (inB (τ 16 0) 100) (some (τ 18 (τ 16 0).toNatClampNeg)))
def f_X9_next (τ : Mm) : Option (Int32) := f_X9_next_0 τ 
def f_X9_takes_0 (p0 : Int32)  (τ : Mm) : Option (Int32 × Mm) := bd (f_X9_next τ) (fun u1 => if u1 = p0 then (lt (s_t τ 16 0 ((τ 16 0) + (1 : Int32))) (fun τ3 => some ((1 : Int32), τ3))) else (some ((0 : Int32), τ)))
def f_X9_takes (τ : Mm) (p0 : Int32) : Option (Int32 × Mm) := f_X9_takes_0 p0 τ
def f_X9_takesWord_2 (p0 : Int32) (p1 : Int32) (k2 : Mm → Int32 → Option (Int32 × Mm)) (τ : Mm) (v3 : Int32) : Option (Int32 × Mm) := if p1 ≤ v3 then (bd (f_X9_takes τ (32 : Int32)) (fun u2 => gd (isB u2.1) (some (u2.1, u2.2)))) else (gd (inB (p0 + v3) 12) (bd (f_X9_takes τ (τ 29 (p0 + v3).toNatClampNeg)) (fun u5 => if u5.1 = (0 : Int32) then (some ((0 : Int32), u5.2)) else (lt ((v3 + (1 : Int32))) (fun x7 => k2 u5.2 x7)))))
def f_X9_takesWord_2L (p0 : Int32) (p1 : Int32)  : Nat → Mm → Int32 → Option (Int32 × Mm)
  | 0 => fun _ _ => none
  | n + 1 => f_X9_takesWord_2 p0 p1  (f_X9_takesWord_2L p0 p1  n)
def f_X9_takesWord_0 (p0 : Int32) (p1 : Int32)  (τ : Mm) : Option (Int32 × Mm) := f_X9_takesWord_2L p0 p1  FU τ (0 : Int32)
def f_X9_takesWord (τ : Mm) (p0 : Int32) (p1 : Int32) : Option (Int32 × Mm) := f_X9_takesWord_0 p0 p1 τ
def f_X9_isDigit_0 (τ : Mm)   : Option (Int32) := bd (f_X9_next τ) (fun u1 => bd (f_X9_in u1 (48 : Int32) (57 : Int32)) (fun u2 => gd (isB u2) (some u2)))
def f_X9_isDigit (τ : Mm) : Option (Int32) := f_X9_isDigit_0 τ 
def f_X9_takesNumber_16  (k16 : Mm → Int32 → Option (Int32 × Mm)) (τ : Mm) (v1 : Int32) : Option (Int32 × Mm) := if (2 : Int32) ≤ v1 then (some ((1 : Int32), τ)) else (bd (f_X9_isDigit τ) (fun u5 => if u5 = (0 : Int32) then (some ((1 : Int32), τ)) else (bd (f_X9_next τ) (fun u7 => lt (s_t τ 17 0 ((((10 : Int32) * (τ 17 0)) + u7) - (48 : Int32))) (fun τ8 => lt (s_t τ8 16 0 ((τ8 16 0) + (1 : Int32))) (fun τ9 => lt ((v1 + (1 : Int32))) (fun x10 => k16 τ9 x10)))))))
def f_X9_takesNumber_16L   : Nat → Mm → Int32 → Option (Int32 × Mm)
  | 0 => fun _ _ => none
  | n + 1 => f_X9_takesNumber_16   (f_X9_takesNumber_16L   n)
def f_X9_takesNumber_0   (τ : Mm) : Option (Int32 × Mm) := bd (f_X9_isDigit τ) (fun u1 => if u1 = (0 : Int32) then (some ((0 : Int32), τ)) else (lt (s_t τ 17 0 (0 : Int32)) (fun τ3 => f_X9_takesNumber_16L   FU τ3 (0 : Int32))))
def f_X9_takesNumber (τ : Mm) : Option (Int32 × Mm) := f_X9_takesNumber_0  τ
def f_X9_emits_0 (p0 : Int32)  (τ : Mm) : Option (Mm) := gd (inB (τ 26 0) 600) (lt (s_t τ 24 (τ 26 0).toNatClampNeg p0) (fun τ2 => lt (s_t τ2 26 0 ((τ2 26 0) + (1 : Int32))) (fun τ3 => some τ3)))
def f_X9_emits (τ : Mm) (p0 : Int32) : Option (Mm) := f_X9_emits_0 p0 τ
def f_X9_whole_0  (k0 : Mm → Option (Mm)) (τ : Mm) : Option (Mm) := if (τ 27 0) ≤ (0 : Int32) then (some τ) else (gd (inB ((τ 27 0) - (1 : Int32)) 101) (if (τ 25 ((τ 27 0) - (1 : Int32)).toNatClampNeg) = (33 : Int32) then (bd (f_X9_emits τ (-33 : Int32)) (fun u4 => lt (s_t u4 27 0 ((u4 27 0) - (1 : Int32))) (fun τ5 => lt (s_t τ5 28 0 ((τ5 28 0) - (1 : Int32))) (fun τ6 => k0 τ6)))) else (some τ)))
def f_X9_whole_0L   : Nat → Mm → Option (Mm)
  | 0 => fun _ => none
  | n + 1 => f_X9_whole_0   (f_X9_whole_0L   n)
def f_X9_whole (τ : Mm) : Option (Mm) := f_X9_whole_0L  FU τ
def f_X9_settle_45 (p0 : Int32) (k0 : Mm → Option (Mm)) (τ : Mm) : Option (Mm) := lt (s_t τ 27 0 ((τ 27 0) - (1 : Int32))) (fun τ4 => gd (inB (τ4 27 0) 101) (bd (f_X9_emits τ4 (-(τ4 25 (τ4 27 0).toNatClampNeg))) (fun u6 => k0 u6)))
def f_X9_settle_0 (p0 : Int32) (k0 : Mm → Option (Mm)) (τ : Mm) : Option (Mm) := if (τ 27 0) ≤ (0 : Int32) then (some τ) else (gd (inB ((τ 27 0) - (1 : Int32)) 101) (if (τ 25 ((τ 27 0) - (1 : Int32)).toNatClampNeg) = (38 : Int32) then (f_X9_settle_45 p0 k0 τ) else (gd (inB ((τ 27 0) - (1 : Int32)) 101) (if (τ 25 ((τ 27 0) - (1 : Int32)).toNatClampNeg) = (124 : Int32) then (if p0 = (38 : Int32) then (some τ) else (f_X9_settle_45 p0 k0 τ)) else (some τ)))))
def f_X9_settle_0L (p0 : Int32)  : Nat → Mm → Option (Mm)
  | 0 => fun _ => none
  | n + 1 => f_X9_settle_0 p0  (f_X9_settle_0L p0  n)
def f_X9_settle (τ : Mm) (p0 : Int32) : Option (Mm) := f_X9_settle_0L p0 FU τ
def f_X9_place_0 (p0 : Int32)   : Option (Int32) := if p0 = (97 : Int32) then (some (4 : Int32)) else (if p0 = (102 : Int32) then (some (3 : Int32)) else (if p0 = (107 : Int32) then (some (1 : Int32)) else (if p0 = (109 : Int32) then (some (5 : Int32)) else (if p0 = (112 : Int32) then (some (0 : Int32)) else (if p0 = (118 : Int32) then (some (2 : Int32)) else (some (-1 : Int32)))))))
def f_X9_place (p0 : Int32) : Option (Int32) := f_X9_place_0 p0 
def f_X9_takesTest_0   (τ : Mm) : Option (Int32 × Mm) := bd (f_X9_next τ) (fun u1 => bd (f_X9_place u1) (fun u2 => if (0 : Int32) ≤ u2 then (lt (s_t τ 16 0 ((τ 16 0) + (1 : Int32))) (fun τ4 => bd (f_X9_next τ4) (fun u5 => bd (f_X9_in u5 (60 : Int32) (62 : Int32)) (fun u6 => if u6 = (0 : Int32) then (some ((0 : Int32), τ4)) else (lt (s_t τ4 16 0 ((τ4 16 0) + (1 : Int32))) (fun τ8 => bd (f_X9_takesNumber τ8) (fun u9 => if u9.1 = (0 : Int32) then (some ((0 : Int32), u9.2)) else (bd (f_X9_emits u9.2 ((((1000 : Int32) * u2) + ((100 : Int32) * (u5 - (60 : Int32)))) + (u9.2 17 0))) (fun u11 => bd (f_X9_whole u11) (fun u12 => some ((1 : Int32), u12))))))))))) else (some ((0 : Int32), τ))))
def f_X9_takesTest (τ : Mm) : Option (Int32 × Mm) := f_X9_takesTest_0  τ
def f_X9_takesE_122 (p0 : Int32) (k22 : Mm → Int32 → Option (Int32 × Mm)) (τ : Mm) (v3 : Int32) : Option (Int32 × Mm) := bd (f_X9_settle τ v3) (fun u8 => gd (inB (u8 27 0) 101) (lt (s_t u8 25 (u8 27 0).toNatClampNeg v3) (fun τ10 => lt (s_t τ10 27 0 ((τ10 27 0) + (1 : Int32))) (fun τ11 => lt (s_t τ11 16 0 ((τ11 16 0) + (1 : Int32))) (fun τ12 => k22 τ12 (1 : Int32))))))
def f_X9_takesE_43 (p0 : Int32) (k22 : Mm → Int32 → Option (Int32 × Mm)) (τ : Mm) (v2 : Int32) (v3 : Int32) : Option (Int32 × Mm) := if (τ 28 0) = (4 : Int32) then (some ((0 : Int32), τ)) else (lt (s_t τ 28 0 ((τ 28 0) + (1 : Int32))) (fun τ25 => gd (inB (τ25 27 0) 101) (lt (s_t τ25 25 (τ25 27 0).toNatClampNeg v3) (fun τ27 => lt (s_t τ27 27 0 ((τ27 27 0) + (1 : Int32))) (fun τ28 => lt (s_t τ28 16 0 ((τ28 16 0) + (1 : Int32))) (fun τ29 => k22 τ29 v2))))))
def f_X9_takesE_22 (p0 : Int32) (k22 : Mm → Int32 → Option (Int32 × Mm)) (τ : Mm) (v2 : Int32) : Option (Int32 × Mm) := bd (f_X9_next τ) (fun u5 => if v2 = (0 : Int32) then (if u5 = (38 : Int32) then (f_X9_takesE_122 p0 k22 τ u5) else (if u5 = (124 : Int32) then (f_X9_takesE_122 p0 k22 τ u5) else (bd (f_X9_settle τ (124 : Int32)) (fun u14 => gd (inB p0 60) (lt (s_t u14 23 p0.toNatClampNeg (u14 26 0)) (fun τ16 => if (τ16 27 0) = (0 : Int32) then (some ((1 : Int32), τ16)) else (if u5 = (41 : Int32) then (lt (s_t τ16 27 0 ((τ16 27 0) - (1 : Int32))) (fun τ19 => lt (s_t τ19 28 0 ((τ19 28 0) - (1 : Int32))) (fun τ20 => lt (s_t τ20 16 0 ((τ20 16 0) + (1 : Int32))) (fun τ21 => bd (f_X9_whole τ21) (fun u22 => k22 u22 v2))))) else (some ((0 : Int32), τ16))))))))) else (if u5 = (33 : Int32) then (f_X9_takesE_43 p0 k22 τ v2 u5) else (if u5 = (40 : Int32) then (f_X9_takesE_43 p0 k22 τ v2 u5) else (bd (f_X9_takesTest τ) (fun u31 => if u31.1 = (0 : Int32) then (some ((0 : Int32), u31.2)) else (k22 u31.2 (0 : Int32)))))))
def f_X9_takesE_22L (p0 : Int32)  : Nat → Mm → Int32 → Option (Int32 × Mm)
  | 0 => fun _ _ => none
  | n + 1 => f_X9_takesE_22 p0  (f_X9_takesE_22L p0  n)
def f_X9_takesE_0 (p0 : Int32)  (τ : Mm) : Option (Int32 × Mm) := lt (s_t τ 27 0 (0 : Int32)) (fun τ1 => lt (s_t τ1 28 0 (0 : Int32)) (fun τ2 => gd (inB p0 60) (lt (s_t τ2 22 p0.toNatClampNeg (τ2 26 0)) (fun τ4 => f_X9_takesE_22L p0  FU τ4 (1 : Int32)))))
def f_X9_takesE (τ : Mm) (p0 : Int32) : Option (Int32 × Mm) := f_X9_takesE_0 p0 τ
def f_X9_takesHead_0 (p0 : Int32)  (τ : Mm) : Option (Int32 × Mm) := bd (f_X9_next τ) (fun u1 => if u1 = (107 : Int32) then (gd (inB p0 60) (lt (s_t τ 20 p0.toNatClampNeg (1 : Int32)) (fun τ4 => bd (f_X9_takesWord τ4 (4 : Int32) (4 : Int32)) (fun u5 => gd (isB u5.1) (some (u5.1, u5.2)))))) else (if u1 = (115 : Int32) then (gd (inB p0 60) (lt (s_t τ 20 p0.toNatClampNeg (0 : Int32)) (fun τ9 => bd (f_X9_takesWord τ9 (0 : Int32) (4 : Int32)) (fun u10 => gd (isB u10.1) (some (u10.1, u10.2)))))) else (gd (inB p0 60) (lt (s_t τ 20 p0.toNatClampNeg (2 : Int32)) (fun τ13 => bd (f_X9_takesWord τ13 (8 : Int32) (4 : Int32)) (fun u14 => gd (isB u14.1) (some (u14.1, u14.2))))))))
def f_X9_takesHead (τ : Mm) (p0 : Int32) : Option (Int32 × Mm) := f_X9_takesHead_0 p0 τ
def f_X9_takesClause_54 (p0 : Int32)  (τ : Mm) : Option (Int32 × Mm) := some ((1 : Int32), τ)
def f_X9_takesClause_0 (p0 : Int32)  (τ : Mm) : Option (Int32 × Mm) := bd (f_X9_takesHead τ p0) (fun u1 => if u1.1 = (0 : Int32) then (some ((0 : Int32), u1.2)) else (bd (f_X9_takesNumber u1.2) (fun u3 => if u3.1 = (0 : Int32) then (some ((0 : Int32), u3.2)) else (gd (inB p0 60) (lt (s_t u3.2 21 p0.toNatClampNeg (u3.2 17 0)) (fun τ6 => gd (inB p0 60) (if (τ6 20 p0.toNatClampNeg) = (2 : Int32) then (f_X9_takesClause_54 p0  τ6) else (bd (f_X9_takes τ6 (32 : Int32)) (fun u9 => if u9.1 = (0 : Int32) then (some ((0 : Int32), u9.2)) else (bd (f_X9_takesE u9.2 p0) (fun u11 => if u11.1 = (0 : Int32) then (some ((0 : Int32), u11.2)) else (f_X9_takesClause_54 p0  u11.2))))))))))))
def f_X9_takesClause (τ : Mm) (p0 : Int32) : Option (Int32 × Mm) := f_X9_takesClause_0 p0 τ
def f_X9_goesText_15 (p0 : Int32) (k15 : Mm → Int32 → Option (Int32 × Mm)) (τ : Mm) (v2 : Int32) : Option (Int32 × Mm) := bd (f_X9_takesClause τ (((10 : Int32) * p0) + v2)) (fun u3 => if u3.1 = (0 : Int32) then (some ((0 : Int32), u3.2)) else (lt ((v2 + (1 : Int32))) (fun x5 => gd (inB p0 6) (lt (s_t u3.2 19 p0.toNatClampNeg x5) (fun τ7 => if (τ7 16 0) = (τ7 15 0) then (some ((1 : Int32), τ7)) else (if x5 = (10 : Int32) then (some ((0 : Int32), τ7)) else (bd (f_X9_takes τ7 (59 : Int32)) (fun u10 => if u10.1 = (0 : Int32) then (some ((0 : Int32), u10.2)) else (k15 u10.2 x5)))))))))
def f_X9_goesText_15L (p0 : Int32)  : Nat → Mm → Int32 → Option (Int32 × Mm)
  | 0 => fun _ _ => none
  | n + 1 => f_X9_goesText_15 p0  (f_X9_goesText_15L p0  n)
def f_X9_goesText_0 (p0 : Int32)  (τ : Mm) : Option (Int32 × Mm) := lt (s_t τ 16 0 (0 : Int32)) (fun τ1 => lt (s_t τ1 26 0 ((100 : Int32) * p0)) (fun τ2 => f_X9_goesText_15L p0  FU τ2 (0 : Int32)))
def f_X9_goesText (τ : Mm) (p0 : Int32) : Option (Int32 × Mm) := f_X9_goesText_0 p0 τ
def f_X9_house_0   (τ : Mm) : Option (Int32 × Mm) := if (τ 13 0) = (6 : Int32) then (some ((-4 : Int32), τ)) else (bd (f_X9_goesText τ (τ 13 0)) (fun u2 => lt (s_t u2.2 15 0 (0 : Int32)) (fun τ3 => if u2.1 = (0 : Int32) then (some (((-10 : Int32) - (τ3 16 0)), τ3)) else (lt (s_t τ3 14 0 (τ3 13 0)) (fun τ5 => lt (s_t τ5 13 0 ((τ5 13 0) + (1 : Int32))) (fun τ6 => some ((τ6 14 0), τ6)))))))
def f_X9_house (τ : Mm) : Option (Int32 × Mm) := f_X9_house_0  τ
def f_X9_begin_0 (τ : Mm)   : Option (Int32) := if (0 : Int32) ≤ (τ 14 0) then (some ((10 : Int32) * (τ 14 0))) else (some (0 : Int32))
def f_X9_begin (τ : Mm) : Option (Int32) := f_X9_begin_0 τ 
def f_X9_behind_0 (τ : Mm)   : Option (Int32) := if (0 : Int32) ≤ (τ 14 0) then (gd (inB (τ 14 0) 6) (some (((10 : Int32) * (τ 14 0)) + (τ 19 (τ 14 0).toNatClampNeg)))) else (some (0 : Int32))
def f_X9_behind (τ : Mm) : Option (Int32) := f_X9_behind_0 τ 
def f_X9_rest_35 (τ : Mm) (k7 : Int32 → Int32 → Option (Int32)) (v2 : Int32) (w0 : Int32) : Option (Int32) := lt ((v2 + (1 : Int32))) (fun x6 => k7 w0 x6)
def f_X9_rest_7 (τ : Mm) (k7 : Int32 → Int32 → Option (Int32)) (v1 : Int32) (v2 : Int32) : Option (Int32) := bd (f_X9_behind τ) (fun u2 => if u2 ≤ v2 then (some v1) else (gd (inB v2 60) (if (τ 20 v2.toNatClampNeg) = (2 : Int32) then (gd (inB v2 60) (f_X9_rest_35 τ k7 v2 (τ 21 v2.toNatClampNeg))) else (f_X9_rest_35 τ k7 v2 v1))))
def f_X9_rest_7L (τ : Mm)  : Nat → Int32 → Int32 → Option (Int32)
  | 0 => fun _ _ => none
  | n + 1 => f_X9_rest_7 τ  (f_X9_rest_7L τ  n)
def f_X9_rest_0 (τ : Mm)   : Option (Int32) := bd (f_X9_begin τ) (fun u1 => f_X9_rest_7L τ  FU (2 : Int32) u1)
def f_X9_rest (τ : Mm) : Option (Int32) := f_X9_rest_0 τ 
def f_X9_factOf_0 (τ : Mm) (p0 : Int32) (p1 : Int32) (p2 : Int32)   : Option (Int32) := if p0 = (0 : Int32) then (some p1) else (if p0 = (1 : Int32) then (gd (inB p1 6) (some (τ 5 p1.toNatClampNeg))) else (if p0 = (2 : Int32) then (gd (inB p1 6) (some (τ 6 p1.toNatClampNeg))) else (if p0 = (3 : Int32) then (some p2) else (if p0 = (4 : Int32) then (gd (inB p1 6) (bd (f_X9_apart (τ 7 p1.toNatClampNeg) p2) (fun u9 => some u9))) else (some ((τ 4 0) - (τ 4 0) / (10 : Int32) * (10 : Int32)))))))
def f_X9_factOf (τ : Mm) (p0 : Int32) (p1 : Int32) (p2 : Int32) : Option (Int32) := f_X9_factOf_0 τ p0 p1 p2 
def f_X9_holds_247 (p0 : Int32) (p1 : Int32) (p2 : Int32) (k11 : Mm → Int32 → Int32 → Option (Int32 × Mm)) (τ : Mm) (v4 : Int32) (v5 : Int32) : Option (Int32 × Mm) := lt ((v5 + (1 : Int32))) (fun x19 => k11 τ v4 x19)
def f_X9_holds_243 (p0 : Int32) (p1 : Int32) (p2 : Int32) (k11 : Mm → Int32 → Int32 → Option (Int32 × Mm)) (τ : Mm) (v4 : Int32) (v5 : Int32) (w1 : Int32) (w2 : Int32) : Option (Int32 × Mm) := gd (inB w1 100) (lt (s_t τ 30 w1.toNatClampNeg (vp_nar .boolean w2)) (fun τ17 => lt ((v4 + (1 : Int32))) (fun x18 => f_X9_holds_247 p0 p1 p2 k11 τ17 x18 v5)))
def f_X9_holds_147 (p0 : Int32) (p1 : Int32) (p2 : Int32) (k11 : Mm → Int32 → Int32 → Option (Int32 × Mm)) (τ : Mm) (v4 : Int32) (v5 : Int32) (w1 : Int32) (w2 : Int32) : Option (Int32 × Mm) := gd (inB w1 100) (lt (s_t τ 30 w1.toNatClampNeg (vp_nar .boolean w2)) (fun τ27 => f_X9_holds_247 p0 p1 p2 k11 τ27 v4 v5))
def f_X9_holds_142 (p0 : Int32) (p1 : Int32) (p2 : Int32) (k11 : Mm → Int32 → Int32 → Option (Int32 × Mm)) (τ : Mm) (v4 : Int32) (v5 : Int32) (w1 : Int32) : Option (Int32 × Mm) := f_X9_holds_147 p0 p1 p2 k11 τ v4 v5 w1 (1 : Int32)
def f_X9_holds_116 (p0 : Int32) (p1 : Int32) (p2 : Int32) (k11 : Mm → Int32 → Int32 → Option (Int32 × Mm)) (τ : Mm) (v4 : Int32) (v5 : Int32) (w1 : Int32) : Option (Int32 × Mm) := f_X9_holds_147 p0 p1 p2 k11 τ v4 v5 w1 (0 : Int32)
def f_X9_holds_63 (p0 : Int32) (p1 : Int32) (p2 : Int32) (k11 : Mm → Int32 → Int32 → Option (Int32 × Mm)) (τ : Mm) (v4 : Int32) (v5 : Int32) (w1 : Int32) (w2 : Int32) : Option (Int32 × Mm) := gd (inB w1 100) (lt (s_t τ 30 w1.toNatClampNeg (vp_nar .boolean w2)) (fun τ37 => f_X9_holds_247 p0 p1 p2 k11 τ37 v4 v5))
def f_X9_holds_11 (p0 : Int32) (p1 : Int32) (p2 : Int32) (k11 : Mm → Int32 → Int32 → Option (Int32 × Mm)) (τ : Mm) (v4 : Int32) (v5 : Int32) : Option (Int32 × Mm) := gd (inB p0 60) (if (τ 23 p0.toNatClampNeg) ≤ v5 then (gd (inB (0 : Int32) 100) (gd (isB (τ 30 (0 : Int32).toNatClampNeg)) (some ((τ 30 (0 : Int32).toNatClampNeg), τ)))) else (gd (inB v5 600) (lt ((τ 24 v5.toNatClampNeg)) (fun x8 => if x8 = (-33 : Int32) then (gd (inB (v4 - (1 : Int32)) 100) (if (τ 30 (v4 - (1 : Int32)).toNatClampNeg) = (0 : Int32) then (f_X9_holds_63 p0 p1 p2 k11 τ v4 v5 (v4 - (1 : Int32)) (1 : Int32)) else (f_X9_holds_63 p0 p1 p2 k11 τ v4 v5 (v4 - (1 : Int32)) (0 : Int32)))) else (if (0 : Int32) ≤ x8 then (bd (f_X9_factOf τ (x8 / (1000 : Int32)) p1 p2) (fun u11 => lt (((x8 / (100 : Int32)) - (x8 / (100 : Int32)) / (10 : Int32) * (10 : Int32))) (fun x12 => if x12 = (0 : Int32) then (if (x8 - x8 / (100 : Int32) * (100 : Int32)) ≤ u11 then (f_X9_holds_243 p0 p1 p2 k11 τ v4 v5 v4 (0 : Int32)) else (f_X9_holds_243 p0 p1 p2 k11 τ v4 v5 v4 (1 : Int32))) else (if x12 = (1 : Int32) then (if u11 = (x8 - x8 / (100 : Int32) * (100 : Int32)) then (f_X9_holds_243 p0 p1 p2 k11 τ v4 v5 v4 (1 : Int32)) else (f_X9_holds_243 p0 p1 p2 k11 τ v4 v5 v4 (0 : Int32))) else (if u11 ≤ (x8 - x8 / (100 : Int32) * (100 : Int32)) then (f_X9_holds_243 p0 p1 p2 k11 τ v4 v5 v4 (0 : Int32)) else (f_X9_holds_243 p0 p1 p2 k11 τ v4 v5 v4 (1 : Int32))))))) else (lt ((v4 + (-1 : Int32))) (fun x22 => if x8 = (-38 : Int32) then (gd (inB (x22 - (1 : Int32)) 100) (if (τ 30 (x22 - (1 : Int32)).toNatClampNeg) = (0 : Int32) then (f_X9_holds_116 p0 p1 p2 k11 τ x22 v5 (x22 - (1 : Int32))) else (gd (inB x22 100) (if (τ 30 x22.toNatClampNeg) = (0 : Int32) then (f_X9_holds_116 p0 p1 p2 k11 τ x22 v5 (x22 - (1 : Int32))) else (f_X9_holds_147 p0 p1 p2 k11 τ x22 v5 (x22 - (1 : Int32)) (1 : Int32)))))) else (gd (inB (x22 - (1 : Int32)) 100) (if (τ 30 (x22 - (1 : Int32)).toNatClampNeg) = (0 : Int32) then (gd (inB x22 100) (if (τ 30 x22.toNatClampNeg) = (0 : Int32) then (f_X9_holds_147 p0 p1 p2 k11 τ x22 v5 (x22 - (1 : Int32)) (0 : Int32)) else (f_X9_holds_142 p0 p1 p2 k11 τ x22 v5 (x22 - (1 : Int32))))) else (f_X9_holds_142 p0 p1 p2 k11 τ x22 v5 (x22 - (1 : Int32))))))))))))
def f_X9_holds_11L (p0 : Int32) (p1 : Int32) (p2 : Int32)  : Nat → Mm → Int32 → Int32 → Option (Int32 × Mm)
  | 0 => fun _ _ _ => none
  | n + 1 => f_X9_holds_11 p0 p1 p2  (f_X9_holds_11L p0 p1 p2  n)
def f_X9_holds_0 (p0 : Int32) (p1 : Int32) (p2 : Int32)  (τ : Mm) : Option (Int32 × Mm) := gd (inB p0 60) (lt ((τ 22 p0.toNatClampNeg)) (fun x2 => f_X9_holds_11L p0 p1 p2  FU τ (0 : Int32) x2))
def f_X9_holds (τ : Mm) (p0 : Int32) (p1 : Int32) (p2 : Int32) : Option (Int32 × Mm) := f_X9_holds_0 p0 p1 p2 τ
def f_X9_sum_85 (p0 : Int32) (p1 : Int32) (k20 : Mm → Int32 → Int32 → Option (Int32 × Mm)) (τ : Mm) (v3 : Int32) (v4 : Int32) : Option (Int32 × Mm) := lt ((v4 + (1 : Int32))) (fun x9 => k20 τ v3 x9)
def f_X9_sum_83 (p0 : Int32) (p1 : Int32) (k20 : Mm → Int32 → Int32 → Option (Int32 × Mm)) (τ : Mm) (v4 : Int32) (w0 : Int32) (w1 : Int32) : Option (Int32 × Mm) := lt ((w0 + w1)) (fun x15 => f_X9_sum_85 p0 p1 k20 τ x15 v4)
def f_X9_sum_20 (p0 : Int32) (p1 : Int32) (k20 : Mm → Int32 → Int32 → Option (Int32 × Mm)) (τ : Mm) (v3 : Int32) (v4 : Int32) : Option (Int32 × Mm) := bd (f_X9_behind τ) (fun u5 => if u5 ≤ v4 then (some (v3, τ)) else (gd (inB v4 60) (if (1 : Int32) < (τ 20 v4.toNatClampNeg) then (f_X9_sum_85 p0 p1 k20 τ v3 v4) else (bd (f_X9_holds τ v4 p0 p1) (fun u10 => if u10.1 = (0 : Int32) then (f_X9_sum_85 p0 p1 k20 u10.2 v3 v4) else (gd (inB v4 60) (if (u10.2 20 v4.toNatClampNeg) = (0 : Int32) then (gd (inB v4 60) (f_X9_sum_83 p0 p1 k20 u10.2 v4 v3 (u10.2 21 v4.toNatClampNeg))) else (gd (inB v4 60) (f_X9_sum_83 p0 p1 k20 u10.2 v4 v3 (-(u10.2 21 v4.toNatClampNeg)))))))))))
def f_X9_sum_20L (p0 : Int32) (p1 : Int32)  : Nat → Mm → Int32 → Int32 → Option (Int32 × Mm)
  | 0 => fun _ _ _ => none
  | n + 1 => f_X9_sum_20 p0 p1  (f_X9_sum_20L p0 p1  n)
def f_X9_sum_0 (p0 : Int32) (p1 : Int32)  (τ : Mm) : Option (Int32 × Mm) := gd (inB p0 6) (bd (f_X9_apart (τ 7 p0.toNatClampNeg) p1) (fun u2 => lt (((2 : Int32) * u2)) (fun x3 => bd (f_X9_begin τ) (fun u4 => f_X9_sum_20L p0 p1  FU τ x3 u4))))
def f_X9_sum (τ : Mm) (p0 : Int32) (p1 : Int32) : Option (Int32 × Mm) := f_X9_sum_0 p0 p1 τ
def f_X9_cost_116 (p0 : Int32) (p1 : Int32)  (τ : Mm) (w0 : Int32) (w1 : Int32) : Option (Int32 × Mm) := some ((w0 + w1), τ)
def f_X9_cost_29 (p0 : Int32) (p1 : Int32)  (τ : Mm) (v3 : Int32) (w0 : Int32) : Option (Int32 × Mm) := gd (inB p0 6) (if (τ 5 p0.toNatClampNeg) = (1 : Int32) then (gd (inB p0 6) (some ((v3 + (τ 10 p0.toNatClampNeg)), τ))) else (if (τ 5 p0.toNatClampNeg) = (2 : Int32) then (some ((v3 / (2 : Int32)), τ)) else (if (τ 5 p0.toNatClampNeg) = (3 : Int32) then (some (w0, τ)) else (if (τ 5 p0.toNatClampNeg) = (4 : Int32) then (gd (inB p0 6) (if ((τ 4 0) - (τ 4 0) / (2 : Int32) * (2 : Int32)) = (1 : Int32) then (f_X9_cost_116 p0 p1  τ (v3 + (τ 10 p0.toNatClampNeg)) (20 : Int32)) else (f_X9_cost_116 p0 p1  τ (v3 + (τ 10 p0.toNatClampNeg)) (0 : Int32)))) else (if (τ 5 p0.toNatClampNeg) = (5 : Int32) then (gd (inB p0 6) (some (((v3 / (2 : Int32)) - (τ 6 p0.toNatClampNeg)), τ))) else (if (τ 5 p0.toNatClampNeg) = (6 : Int32) then (lt ((((4 : Int32) * p0) + ((τ 4 0) - (τ 4 0) / (4 : Int32) * (4 : Int32)))) (fun x15 => gd (inB x15 24) (some ((w0 + (τ 11 x15.toNatClampNeg)), τ)))) else (some (v3, τ))))))))
def f_X9_cost_0 (p0 : Int32) (p1 : Int32)  (τ : Mm) : Option (Int32 × Mm) := bd (f_X9_sum τ p0 p1) (fun u1 => gd (inB p0 6) (if (u1.2 7 p0.toNatClampNeg) ≤ p1 then (f_X9_cost_29 p0 p1  u1.2 u1.1 u1.1) else (gd (inB p0 6) (f_X9_cost_29 p0 p1  u1.2 u1.1 (u1.1 + (u1.2 6 p0.toNatClampNeg))))))
def f_X9_cost (τ : Mm) (p0 : Int32) (p1 : Int32) : Option (Int32 × Mm) := f_X9_cost_0 p0 p1 τ
def f_X9_isFree_0 (τ : Mm) (p0 : Int32)   : Option (Int32) := bd (f_X9_has (τ 1 0) p0) (fun u1 => if u1 = (0 : Int32) then (gd (inB p0 6) (if (0 : Int32) ≤ (τ 8 p0.toNatClampNeg) then (some (0 : Int32)) else (gd (inB p0 6) (if (τ 9 p0.toNatClampNeg) = (0 : Int32) then (some (1 : Int32)) else (some (0 : Int32)))))) else (some (0 : Int32)))
def f_X9_isFree (τ : Mm) (p0 : Int32) : Option (Int32) := f_X9_isFree_0 τ p0 
def f_X9_whoGoes_2 (τ : Mm) (p0 : Int32) (k2 : Int32 → Option (Int32)) (v2 : Int32) : Option (Int32) := if (τ 0 0) ≤ v2 then (some (-5 : Int32)) else (gd (inB v2 6) (if (τ 8 v2.toNatClampNeg) = p0 then (some v2) else (lt ((v2 + (1 : Int32))) (fun x4 => k2 x4))))
def f_X9_whoGoes_2L (τ : Mm) (p0 : Int32)  : Nat → Int32 → Option (Int32)
  | 0 => fun _ => none
  | n + 1 => f_X9_whoGoes_2 τ p0  (f_X9_whoGoes_2L τ p0  n)
def f_X9_whoGoes_0 (τ : Mm) (p0 : Int32)   : Option (Int32) := f_X9_whoGoes_2L τ p0  FU (0 : Int32)
def f_X9_whoGoes (τ : Mm) (p0 : Int32) : Option (Int32) := f_X9_whoGoes_0 τ p0 
def f_X9_cheapest_57 (p0 : Int32) (k8 : Mm → Int32 → Int32 → Int32 → Option (Int32 × Mm)) (τ : Mm) (v2 : Int32) (v3 : Int32) (v4 : Int32) : Option (Int32 × Mm) := lt ((v4 + (1 : Int32))) (fun x6 => k8 τ v2 v3 x6)
def f_X9_cheapest_51 (p0 : Int32) (k8 : Mm → Int32 → Int32 → Int32 → Option (Int32 × Mm)) (τ : Mm) (v4 : Int32) (v5 : Int32) : Option (Int32 × Mm) := f_X9_cheapest_57 p0 k8 τ v4 v5 v4
def f_X9_cheapest_8 (p0 : Int32) (k8 : Mm → Int32 → Int32 → Int32 → Option (Int32 × Mm)) (τ : Mm) (v2 : Int32) (v3 : Int32) (v4 : Int32) : Option (Int32 × Mm) := if (τ 0 0) ≤ v4 then (some (v2, τ)) else (bd (f_X9_isFree τ v4) (fun u2 => if u2 = (0 : Int32) then (f_X9_cheapest_57 p0 k8 τ v2 v3 v4) else (bd (f_X9_cost τ v4 p0) (fun u4 => if v2 < (0 : Int32) then (f_X9_cheapest_51 p0 k8 u4.2 v4 u4.1) else (if u4.1 < v3 then (f_X9_cheapest_51 p0 k8 u4.2 v4 u4.1) else (f_X9_cheapest_57 p0 k8 u4.2 v2 v3 v4))))))
def f_X9_cheapest_8L (p0 : Int32)  : Nat → Mm → Int32 → Int32 → Int32 → Option (Int32 × Mm)
  | 0 => fun _ _ _ _ => none
  | n + 1 => f_X9_cheapest_8 p0  (f_X9_cheapest_8L p0  n)
def f_X9_cheapest_0 (p0 : Int32)  (τ : Mm) : Option (Int32 × Mm) := f_X9_cheapest_8L p0  FU τ (-5 : Int32) (0 : Int32) (0 : Int32)
def f_X9_cheapest (τ : Mm) (p0 : Int32) : Option (Int32 × Mm) := f_X9_cheapest_0 p0 τ
def f_X9_isOpen_0 (τ : Mm) (p0 : Int32)   : Option (Int32) := bd (f_X9_has (τ 2 0) p0) (fun u1 => if u1 = (0 : Int32) then (some (0 : Int32)) else (bd (f_X9_whoGoes τ p0) (fun u3 => if (0 : Int32) ≤ u3 then (some (0 : Int32)) else (some (1 : Int32)))))
def f_X9_isOpen (τ : Mm) (p0 : Int32) : Option (Int32) := f_X9_isOpen_0 τ p0 
def f_X9_giveGoals_36  (k2 : Mm → Int32 → Option (Mm)) (τ : Mm) (v1 : Int32) : Option (Mm) := lt ((v1 + (1 : Int32))) (fun x6 => k2 τ x6)
def f_X9_giveGoals_2  (k2 : Mm → Int32 → Option (Mm)) (τ : Mm) (v1 : Int32) : Option (Mm) := if (10 : Int32) ≤ v1 then (some τ) else (bd (f_X9_isOpen τ v1) (fun u2 => if u2 = (0 : Int32) then (f_X9_giveGoals_36  k2 τ v1) else (bd (f_X9_cheapest τ v1) (fun u4 => if u4.1 < (0 : Int32) then (f_X9_giveGoals_36  k2 u4.2 v1) else (gd (inB u4.1 6) (lt (s_t u4.2 8 u4.1.toNatClampNeg v1) (fun τ8 => f_X9_giveGoals_36  k2 τ8 v1)))))))
def f_X9_giveGoals_2L   : Nat → Mm → Int32 → Option (Mm)
  | 0 => fun _ _ => none
  | n + 1 => f_X9_giveGoals_2   (f_X9_giveGoals_2L   n)
def f_X9_giveGoals_0   (τ : Mm) : Option (Mm) := f_X9_giveGoals_2L   FU τ (0 : Int32)
def f_X9_giveGoals (τ : Mm) : Option (Mm) := f_X9_giveGoals_0  τ
def f_X9_comes_41 (p0 : Int32)  (τ : Mm) (v2 : Int32) : Option (Mm) := gd (inB p0 6) (if (τ 7 p0.toNatClampNeg) = v2 then (gd (inB p0 6) (bd (f_X9_least ((τ 10 p0.toNatClampNeg) + (1 : Int32)) (τ 31 0)) (fun u8 => gd (inB p0 6) (lt (s_t τ 10 p0.toNatClampNeg u8) (fun τ10 => lt (s_t τ10 2 0 ((τ10 2 0) &&& (((1 : Int32) <<< (v2 &&& 31)) ^^^ (-1 : Int32)))) (fun τ11 => gd (inB p0 6) (lt (s_t τ11 8 p0.toNatClampNeg (-5 : Int32)) (fun τ13 => bd (f_X9_rest τ13) (fun u14 => gd (inB p0 6) (lt (s_t τ13 9 p0.toNatClampNeg u14) (fun τ16 => some τ16))))))))))) else (some τ))
def f_X9_comes_39 (p0 : Int32)  (τ : Mm) (v2 : Int32) (w1 : Int32) (w2 : Int32) (w3 : Int32) : Option (Mm) := gd (inB w1 6) (lt (s_t τ 7 w1.toNatClampNeg (w2 + w3)) (fun τ21 => f_X9_comes_41 p0  τ21 v2))
def f_X9_comes_0 (p0 : Int32)  (τ : Mm) : Option (Mm) := gd (inB p0 6) (lt ((τ 8 p0.toNatClampNeg)) (fun x2 => gd (inB p0 6) (if (τ 7 p0.toNatClampNeg) = x2 then (f_X9_comes_41 p0  τ x2) else (gd (inB p0 6) (gd (inB p0 6) (if x2 ≤ (τ 7 p0.toNatClampNeg) then (f_X9_comes_39 p0  τ x2 p0 (τ 7 p0.toNatClampNeg) (-1 : Int32)) else (f_X9_comes_39 p0  τ x2 p0 (τ 7 p0.toNatClampNeg) (1 : Int32))))))))
def f_X9_comes (τ : Mm) (p0 : Int32) : Option (Mm) := f_X9_comes_0 p0 τ
def f_X9_goMinute_65  (k6 : Mm → Int32 → Option (Mm)) (τ : Mm) (v1 : Int32) : Option (Mm) := lt ((v1 + (1 : Int32))) (fun x13 => k6 τ x13)
def f_X9_goMinute_6  (k6 : Mm → Int32 → Option (Mm)) (τ : Mm) (v1 : Int32) : Option (Mm) := if (τ 0 0) ≤ v1 then (bd (f_X9_bits (τ 2 0)) (fun u3 => bd (f_X9_least ((τ 3 0) + u3) (τ 32 0)) (fun u4 => lt (s_t τ 3 0 u4) (fun τ5 => lt (s_t τ5 4 0 ((τ5 4 0) + (1 : Int32))) (fun τ6 => some τ6))))) else (bd (f_X9_has (τ 1 0) v1) (fun u7 => if u7 = (0 : Int32) then (gd (inB v1 6) (if (τ 8 v1.toNatClampNeg) < (0 : Int32) then (gd (inB v1 6) (if (τ 9 v1.toNatClampNeg) ≤ (0 : Int32) then (f_X9_goMinute_65  k6 τ v1) else (gd (inB v1 6) (gd (inB v1 6) (lt (s_t τ 9 v1.toNatClampNeg ((τ 9 v1.toNatClampNeg) - (1 : Int32))) (fun τ16 => f_X9_goMinute_65  k6 τ16 v1)))))) else (bd (f_X9_comes τ v1) (fun u17 => f_X9_goMinute_65  k6 u17 v1)))) else (f_X9_goMinute_65  k6 τ v1)))
def f_X9_goMinute_6L   : Nat → Mm → Int32 → Option (Mm)
  | 0 => fun _ _ => none
  | n + 1 => f_X9_goMinute_6   (f_X9_goMinute_6L   n)
def f_X9_goMinute_0   (τ : Mm) : Option (Mm) := bd (f_X9_giveGoals τ) (fun u1 => f_X9_goMinute_6L   FU u1 (0 : Int32))
def f_X9_goMinute (τ : Mm) : Option (Mm) := f_X9_goMinute_0  τ
def f_X9_goMinutes_2 (p0 : Int32) (k2 : Mm → Int32 → Option (Mm)) (τ : Mm) (v2 : Int32) : Option (Mm) := if p0 ≤ v2 then (some τ) else (bd (f_X9_goMinute τ) (fun u2 => lt ((v2 + (1 : Int32))) (fun x3 => k2 u2 x3)))
def f_X9_goMinutes_2L (p0 : Int32)  : Nat → Mm → Int32 → Option (Mm)
  | 0 => fun _ _ => none
  | n + 1 => f_X9_goMinutes_2 p0  (f_X9_goMinutes_2L p0  n)
def f_X9_goMinutes_0 (p0 : Int32)  (τ : Mm) : Option (Mm) := f_X9_goMinutes_2L p0  FU τ (0 : Int32)
def f_X9_goMinutes (τ : Mm) (p0 : Int32) : Option (Mm) := f_X9_goMinutes_0 p0 τ
def f_X9_pass_0 (p0 : Int32)  (τ : Mm) : Option (Int32 × Mm) := bd (f_X9_isMinutes p0) (fun u1 => if u1 = (0 : Int32) then (some ((-2 : Int32), τ)) else (if ((τ 4 0) + p0) ≤ (9999 : Int32) then (bd (f_X9_goMinutes τ p0) (fun u4 => some ((u4 4 0), u4))) else (some ((-3 : Int32), τ))))
def f_X9_pass (τ : Mm) (p0 : Int32) : Option (Int32 × Mm) := f_X9_pass_0 p0 τ
def f_X9_save_48  (k48 : Mm → Int32 → Option (Mm)) (τ : Mm) (v1 : Int32) : Option (Mm) := if (6 : Int32) ≤ v1 then (some τ) else (gd (inB v1 6) (gd (inB v1 6) (lt (s_t τ 37 v1.toNatClampNeg (τ 7 v1.toNatClampNeg)) (fun τ10 => gd (inB v1 6) (gd (inB v1 6) (lt (s_t τ10 38 v1.toNatClampNeg (τ10 8 v1.toNatClampNeg)) (fun τ13 => gd (inB v1 6) (gd (inB v1 6) (lt (s_t τ13 39 v1.toNatClampNeg (τ13 9 v1.toNatClampNeg)) (fun τ16 => gd (inB v1 6) (gd (inB v1 6) (lt (s_t τ16 40 v1.toNatClampNeg (τ16 10 v1.toNatClampNeg)) (fun τ19 => lt ((v1 + (1 : Int32))) (fun x20 => k48 τ19 x20))))))))))))))
def f_X9_save_48L   : Nat → Mm → Int32 → Option (Mm)
  | 0 => fun _ _ => none
  | n + 1 => f_X9_save_48   (f_X9_save_48L   n)
def f_X9_save_0   (τ : Mm) : Option (Mm) := lt (s_t τ 31 0 (2000000000 : Int32)) (fun τ1 => lt (s_t τ1 32 0 (2000000000 : Int32)) (fun τ2 => lt (s_t τ2 33 0 (τ2 1 0)) (fun τ3 => lt (s_t τ3 34 0 (τ3 2 0)) (fun τ4 => lt (s_t τ4 35 0 (τ4 3 0)) (fun τ5 => lt (s_t τ5 36 0 (τ5 4 0)) (fun τ6 => f_X9_save_48L   FU τ6 (0 : Int32)))))))
def f_X9_save (τ : Mm) : Option (Mm) := f_X9_save_0  τ
def f_X9_putBack_47  (k47 : Mm → Int32 → Option (Mm)) (τ : Mm) (v1 : Int32) : Option (Mm) := if (6 : Int32) ≤ v1 then (some τ) else (gd (inB v1 6) (gd (inB v1 6) (lt (s_t τ 7 v1.toNatClampNeg (τ 37 v1.toNatClampNeg)) (fun τ10 => gd (inB v1 6) (gd (inB v1 6) (lt (s_t τ10 8 v1.toNatClampNeg (τ10 38 v1.toNatClampNeg)) (fun τ13 => gd (inB v1 6) (gd (inB v1 6) (lt (s_t τ13 9 v1.toNatClampNeg (τ13 39 v1.toNatClampNeg)) (fun τ16 => gd (inB v1 6) (gd (inB v1 6) (lt (s_t τ16 10 v1.toNatClampNeg (τ16 40 v1.toNatClampNeg)) (fun τ19 => lt ((v1 + (1 : Int32))) (fun x20 => k47 τ19 x20))))))))))))))
def f_X9_putBack_47L   : Nat → Mm → Int32 → Option (Mm)
  | 0 => fun _ _ => none
  | n + 1 => f_X9_putBack_47   (f_X9_putBack_47L   n)
def f_X9_putBack_0   (τ : Mm) : Option (Mm) := lt (s_t τ 31 0 (9999 : Int32)) (fun τ1 => lt (s_t τ1 32 0 (999999 : Int32)) (fun τ2 => lt (s_t τ2 1 0 (τ2 33 0)) (fun τ3 => lt (s_t τ3 2 0 (τ3 34 0)) (fun τ4 => lt (s_t τ4 3 0 (τ4 35 0)) (fun τ5 => lt (s_t τ5 4 0 (τ5 36 0)) (fun τ6 => f_X9_putBack_47L   FU τ6 (0 : Int32)))))))
def f_X9_putBack (τ : Mm) : Option (Mm) := f_X9_putBack_0  τ
def f_X9_stands_59 (p0 : Int32) (k9 : Mm → Int32 → Int32 → Int32 → Option (Int32 × Mm)) (τ : Mm) (v2 : Int32) (v3 : Int32) (v4 : Int32) : Option (Int32 × Mm) := lt ((v4 + (1 : Int32))) (fun x9 => k9 τ v2 v3 x9)
def f_X9_stands_9 (p0 : Int32) (k9 : Mm → Int32 → Int32 → Int32 → Option (Int32 × Mm)) (τ : Mm) (v2 : Int32) (v3 : Int32) (v4 : Int32) : Option (Int32 × Mm) := if (10 : Int32) ≤ v4 then (some (v2, τ)) else (bd (f_X9_save τ) (fun u2 => gd (inB p0 6) (lt (s_t u2 7 p0.toNatClampNeg v4) (fun τ4 => bd (f_X9_goMinutes τ4 (20 : Int32)) (fun u5 => lt ((u5 3 0)) (fun x6 => bd (f_X9_putBack u5) (fun u7 => if x6 < v3 then (f_X9_stands_59 p0 k9 u7 v4 x6 v4) else (f_X9_stands_59 p0 k9 u7 v2 v3 v4))))))))
def f_X9_stands_9L (p0 : Int32)  : Nat → Mm → Int32 → Int32 → Int32 → Option (Int32 × Mm)
  | 0 => fun _ _ _ _ => none
  | n + 1 => f_X9_stands_9 p0  (f_X9_stands_9L p0  n)
def f_X9_stands_0 (p0 : Int32)  (τ : Mm) : Option (Int32 × Mm) := f_X9_stands_9L p0  FU τ (0 : Int32) (2000000000 : Int32) (0 : Int32)
def f_X9_stands (τ : Mm) (p0 : Int32) : Option (Int32 × Mm) := f_X9_stands_0 p0 τ
def f_X9_of_0 (p0 : Int32) (p1 : Int32)  (τ : Mm) : Option (Int32 × Mm) := bd (f_X9_isMaster τ p0) (fun u1 => if u1 = (0 : Int32) then (some ((-10001 : Int32), τ)) else (bd (f_X9_in p1 (10 : Int32) (19 : Int32)) (fun u3 => if u3 = (0 : Int32) then (if p1 = (0 : Int32) then (gd (inB p0 6) (some ((τ 5 p0.toNatClampNeg), τ))) else (if p1 = (1 : Int32) then (gd (inB p0 6) (some ((τ 6 p0.toNatClampNeg), τ))) else (if p1 = (2 : Int32) then (gd (inB p0 6) (some ((τ 7 p0.toNatClampNeg), τ))) else (if p1 = (3 : Int32) then (gd (inB p0 6) (some ((τ 8 p0.toNatClampNeg), τ))) else (if p1 = (4 : Int32) then (gd (inB p0 6) (some ((τ 9 p0.toNatClampNeg), τ))) else (if p1 = (5 : Int32) then (bd (f_X9_has (τ 1 0) p0) (fun u16 => if u16 = (0 : Int32) then (some ((0 : Int32), τ)) else (some ((1 : Int32), τ)))) else (if p1 = (6 : Int32) then (gd (inB p0 6) (some ((τ 10 p0.toNatClampNeg), τ))) else (if p1 = (7 : Int32) then (bd (f_X9_isFree τ p0) (fun u21 => if u21 = (0 : Int32) then (some ((0 : Int32), τ)) else (some ((1 : Int32), τ)))) else (if p1 = (8 : Int32) then (bd (f_X9_stands τ p0) (fun u24 => some (u24.1, u24.2))) else (some ((-10001 : Int32), τ))))))))))) else (bd (f_X9_cost τ p0 (p1 - (10 : Int32))) (fun u25 => some (u25.1, u25.2))))))
def f_X9_of (τ : Mm) (p0 : Int32) (p1 : Int32) : Option (Int32 × Mm) := f_X9_of_0 p0 p1 τ
def f_X9_quiet_29   (τ : Mm) (v1 : Int32) : Option (Int32 × Mm) := bd (f_X9_putBack τ) (fun u3 => if (61 : Int32) ≤ v1 then (some ((-5 : Int32), u3)) else (some (v1, u3)))
def f_X9_quiet_6  (k6 : Mm → Int32 → Option (Int32 × Mm)) (τ : Mm) (v1 : Int32) : Option (Int32 × Mm) := if (61 : Int32) ≤ v1 then (f_X9_quiet_29   τ v1) else (if (τ 2 0) = (0 : Int32) then (f_X9_quiet_29   τ v1) else (bd (f_X9_goMinute τ) (fun u6 => lt ((v1 + (1 : Int32))) (fun x7 => k6 u6 x7))))
def f_X9_quiet_6L   : Nat → Mm → Int32 → Option (Int32 × Mm)
  | 0 => fun _ _ => none
  | n + 1 => f_X9_quiet_6   (f_X9_quiet_6L   n)
def f_X9_quiet_0   (τ : Mm) : Option (Int32 × Mm) := bd (f_X9_save τ) (fun u1 => f_X9_quiet_6L   FU u1 (0 : Int32))
def f_X9_quiet (τ : Mm) : Option (Int32 × Mm) := f_X9_quiet_0  τ
def f_X9_loop_9 (τ : Mm) (p0 : Int32) (k9 : Int32 → Int32 → Option (Int32)) (v2 : Int32) (v3 : Int32) : Option (Int32) := if v3 = p0 then (some v2) else (gd (inB v3 10) (lt ((τ 12 v3.toNatClampNeg)) (fun x5 => lt ((v2 + (1 : Int32))) (fun x6 => k9 x6 x5))))
def f_X9_loop_9L (τ : Mm) (p0 : Int32)  : Nat → Int32 → Int32 → Option (Int32)
  | 0 => fun _ _ => none
  | n + 1 => f_X9_loop_9 τ p0  (f_X9_loop_9L τ p0  n)
def f_X9_loop_0 (τ : Mm) (p0 : Int32)   : Option (Int32) := gd (inB p0 10) (lt ((τ 12 p0.toNatClampNeg)) (fun x2 => f_X9_loop_9L τ p0  FU (1 : Int32) x2))
def f_X9_loop (τ : Mm) (p0 : Int32) : Option (Int32) := f_X9_loop_0 τ p0 
def f_X9_crossed_66 (τ : Mm) (k6 : Int32 → Int32 → Int32 → Option (Int32)) (v1 : Int32) (v2 : Int32) (v3 : Int32) : Option (Int32) := lt ((v3 + (1 : Int32))) (fun x8 => k6 v1 v2 x8)
def f_X9_crossed_37 (τ : Mm) (k6 : Int32 → Int32 → Int32 → Option (Int32)) (k37 : Int32 → Int32 → Int32 → Int32 → Option (Int32)) (v1 : Int32) (v2 : Int32) (v3 : Int32) (v4 : Int32) : Option (Int32) := bd (f_X9_has v2 v4) (fun u6 => if u6 = (0 : Int32) then (lt ((v2 ||| ((1 : Int32) <<< (v4 &&& 31)))) (fun x9 => gd (inB v4 10) (lt ((τ 12 v4.toNatClampNeg)) (fun x11 => k37 v1 x9 v3 x11)))) else (f_X9_crossed_66 τ k6 v1 v2 v3))
def f_X9_crossed_37L (τ : Mm) (k6 : Int32 → Int32 → Int32 → Option (Int32)) : Nat → Int32 → Int32 → Int32 → Int32 → Option (Int32)
  | 0 => fun _ _ _ _ => none
  | n + 1 => f_X9_crossed_37 τ k6 (f_X9_crossed_37L τ k6 n)
def f_X9_crossed_6 (τ : Mm) (k6 : Int32 → Int32 → Int32 → Option (Int32)) (v1 : Int32) (v2 : Int32) (v3 : Int32) : Option (Int32) := if (10 : Int32) ≤ v3 then (some v1) else (bd (f_X9_has v2 v3) (fun u2 => if u2 = (0 : Int32) then (bd (f_X9_loop τ v3) (fun u4 => lt ((v1 + (u4 - (1 : Int32)))) (fun x5 => f_X9_crossed_37L τ k6 FU x5 v2 v3 v3))) else (f_X9_crossed_66 τ k6 v1 v2 v3)))
def f_X9_crossed_6L (τ : Mm)  : Nat → Int32 → Int32 → Int32 → Option (Int32)
  | 0 => fun _ _ _ => none
  | n + 1 => f_X9_crossed_6 τ  (f_X9_crossed_6L τ  n)
def f_X9_crossed_0 (τ : Mm)   : Option (Int32) := f_X9_crossed_6L τ  FU (0 : Int32) (0 : Int32) (0 : Int32)
def f_X9_crossed (τ : Mm) : Option (Int32) := f_X9_crossed_0 τ 
def f_X9_firstCrossed_2 (τ : Mm) (k2 : Int32 → Option (Int32)) (v1 : Int32) : Option (Int32) := if (10 : Int32) ≤ v1 then (some (-5 : Int32)) else (gd (inB v1 10) (if (τ 12 v1.toNatClampNeg) = v1 then (lt ((v1 + (1 : Int32))) (fun x4 => k2 x4)) else (some v1)))
def f_X9_firstCrossed_2L (τ : Mm)  : Nat → Int32 → Option (Int32)
  | 0 => fun _ => none
  | n + 1 => f_X9_firstCrossed_2 τ  (f_X9_firstCrossed_2L τ  n)
def f_X9_firstCrossed_0 (τ : Mm)   : Option (Int32) := f_X9_firstCrossed_2L τ  FU (0 : Int32)
def f_X9_firstCrossed (τ : Mm) : Option (Int32) := f_X9_firstCrossed_0 τ 
def f_X9_told_0 (p0 : Int32)  (τ : Mm) : Option (Int32 × Mm) := bd (f_X9_in p0 (10 : Int32) (19 : Int32)) (fun u1 => if u1 = (0 : Int32) then (bd (f_X9_in p0 (20 : Int32) (29 : Int32)) (fun u3 => if u3 = (0 : Int32) then (if p0 = (0 : Int32) then (some ((τ 4 0), τ)) else (if p0 = (1 : Int32) then (bd (f_X9_rest τ) (fun u7 => some (u7, τ))) else (if p0 = (2 : Int32) then (some ((τ 2 0), τ)) else (if p0 = (3 : Int32) then (some ((τ 3 0), τ)) else (if p0 = (4 : Int32) then (bd (f_X9_quiet τ) (fun u11 => some (u11.1, u11.2))) else (if p0 = (5 : Int32) then (bd (f_X9_crossed τ) (fun u13 => some (u13, τ))) else (if p0 = (6 : Int32) then (bd (f_X9_firstCrossed τ) (fun u15 => some (u15, τ))) else (some ((-1 : Int32), τ))))))))) else (bd (f_X9_loop τ (p0 - (20 : Int32))) (fun u16 => some (u16, τ))))) else (gd (inB (p0 - (10 : Int32)) 10) (some ((τ 12 (p0 - (10 : Int32)).toNatClampNeg), τ))))
def f_X9_told (τ : Mm) (p0 : Int32) : Option (Int32 × Mm) := f_X9_told_0 p0 τ
def f_X9_on_116 (p0 : Int32) (p1 : Int32)  (τ : Mm) (w0 : Int32) : Option (Int32 × Mm) := bd (f_X9_putBack τ) (fun u11 => some (w0, u11))
def f_X9_on_46 (p0 : Int32) (p1 : Int32)  (τ : Mm) : Option (Int32 × Mm) := bd (f_X9_isMinutes p0) (fun u3 => if u3 = (0 : Int32) then (some ((-2 : Int32), τ)) else (bd (f_X9_save τ) (fun u5 => bd (f_X9_goMinutes u5 p0) (fun u6 => if p1 = (0 : Int32) then (f_X9_on_116 p0 p1  u6 (u6 2 0)) else (if p1 = (1 : Int32) then (f_X9_on_116 p0 p1  u6 (u6 3 0)) else (if (20 : Int32) ≤ p1 then (gd (inB (p1 - (20 : Int32)) 6) (f_X9_on_116 p0 p1  u6 (u6 8 (p1 - (20 : Int32)).toNatClampNeg))) else (gd (inB (p1 - (10 : Int32)) 6) (f_X9_on_116 p0 p1  u6 (u6 7 (p1 - (10 : Int32)).toNatClampNeg)))))))))
def f_X9_on_0 (p0 : Int32) (p1 : Int32)  (τ : Mm) : Option (Int32 × Mm) := bd (f_X9_in p1 (0 : Int32) (1 : Int32)) (fun u1 => if u1 = (0 : Int32) then (bd (f_X9_in p1 (10 : Int32) ((9 : Int32) + (τ 0 0))) (fun u13 => if u13 = (0 : Int32) then (bd (f_X9_in p1 (20 : Int32) ((19 : Int32) + (τ 0 0))) (fun u15 => if u15 = (0 : Int32) then (some ((-1 : Int32), τ)) else (f_X9_on_46 p0 p1  τ))) else (f_X9_on_46 p0 p1  τ))) else (f_X9_on_46 p0 p1  τ))
def f_X9_on (τ : Mm) (p0 : Int32) (p1 : Int32) : Option (Int32 × Mm) := f_X9_on_0 p0 p1 τ
def f_X9_whoIfRung_0 (p0 : Int32)  (τ : Mm) : Option (Int32 × Mm) := bd (f_X9_save τ) (fun u1 => lt (s_t u1 2 0 ((u1 2 0) ||| ((1 : Int32) <<< (p0 &&& 31)))) (fun τ2 => bd (f_X9_giveGoals τ2) (fun u3 => bd (f_X9_whoGoes u3 p0) (fun u4 => bd (f_X9_putBack u3) (fun u5 => some (u4, u5))))))
def f_X9_whoIfRung (τ : Mm) (p0 : Int32) : Option (Int32 × Mm) := f_X9_whoIfRung_0 p0 τ
def f_X9_soonIfRung_46 (p0 : Int32)  (τ : Mm) (v2 : Int32) : Option (Int32 × Mm) := bd (f_X9_putBack τ) (fun u4 => if (61 : Int32) ≤ v2 then (some ((-5 : Int32), u4)) else (some (v2, u4)))
def f_X9_soonIfRung_18 (p0 : Int32) (k18 : Mm → Int32 → Option (Int32 × Mm)) (τ : Mm) (v2 : Int32) : Option (Int32 × Mm) := if (61 : Int32) ≤ v2 then (f_X9_soonIfRung_46 p0  τ v2) else (bd (f_X9_has (τ 2 0) p0) (fun u6 => if u6 = (0 : Int32) then (f_X9_soonIfRung_46 p0  τ v2) else (bd (f_X9_goMinute τ) (fun u8 => lt ((v2 + (1 : Int32))) (fun x9 => k18 u8 x9)))))
def f_X9_soonIfRung_18L (p0 : Int32)  : Nat → Mm → Int32 → Option (Int32 × Mm)
  | 0 => fun _ _ => none
  | n + 1 => f_X9_soonIfRung_18 p0  (f_X9_soonIfRung_18L p0  n)
def f_X9_soonIfRung_0 (p0 : Int32)  (τ : Mm) : Option (Int32 × Mm) := bd (f_X9_save τ) (fun u1 => lt (s_t u1 2 0 ((u1 2 0) ||| ((1 : Int32) <<< (p0 &&& 31)))) (fun τ2 => f_X9_soonIfRung_18L p0  FU τ2 (0 : Int32)))
def f_X9_soonIfRung (τ : Mm) (p0 : Int32) : Option (Int32 × Mm) := f_X9_soonIfRung_0 p0 τ
def f_X9_bell_0 (p0 : Int32) (p1 : Int32)  (τ : Mm) : Option (Int32 × Mm) := bd (f_X9_isFloor p0) (fun u1 => if u1 = (0 : Int32) then (some ((-1 : Int32), τ)) else (bd (f_X9_in p1 (0 : Int32) (1 : Int32)) (fun u3 => if u3 = (0 : Int32) then (some ((-1 : Int32), τ)) else (if p1 = (0 : Int32) then (gd (inB p0 10) (bd (f_X9_soonIfRung τ (τ 12 p0.toNatClampNeg)) (fun u9 => some (u9.1, u9.2)))) else (gd (inB p0 10) (bd (f_X9_whoIfRung τ (τ 12 p0.toNatClampNeg)) (fun u7 => some (u7.1, u7.2))))))))
def f_X9_bell (τ : Mm) (p0 : Int32) (p1 : Int32) : Option (Int32 × Mm) := f_X9_bell_0 p0 p1 τ
def f_X9_layFloor_180 (p0 : Int32) (p1 : Int32) (k40 : Mm → Int32 → Int32 → Option (Mm)) (τ : Mm) (v3 : Int32) (v4 : Int32) : Option (Mm) := lt ((v4 + (1 : Int32))) (fun x13 => k40 τ v3 x13)
def f_X9_layFloor_164 (p0 : Int32) (p1 : Int32) (k40 : Mm → Int32 → Int32 → Option (Mm)) (τ : Mm) (v3 : Int32) (v4 : Int32) (v6 : Int32) (v7 : Int32) : Option (Mm) := gd (inB v3 704) (lt (s_t τ 41 v3.toNatClampNeg v6) (fun τ27 => gd (inB v3 704) (lt (s_t τ27 42 v3.toNatClampNeg v7) (fun τ29 => f_X9_layFloor_180 p0 p1 k40 τ29 v3 v4))))
def f_X9_layFloor_40 (p0 : Int32) (p1 : Int32) (k40 : Mm → Int32 → Int32 → Option (Mm)) (τ : Mm) (v3 : Int32) (v4 : Int32) : Option (Mm) := if (τ 0 0) ≤ v4 then (some τ) else (bd (f_X9_isOpen τ p0) (fun u9 => if u9 = (0 : Int32) then (some τ) else (bd (f_X9_has p1 v4) (fun u11 => if u11 = (0 : Int32) then (bd (f_X9_isFree τ v4) (fun u14 => if u14 = (0 : Int32) then (f_X9_layFloor_180 p0 p1 k40 τ v3 v4) else (lt (((((64 : Int32) * p0) + (64 : Int32)) + (p1 ||| ((1 : Int32) <<< (v4 &&& 31))))) (fun x16 => gd (inB x16 704) (lt (((τ 41 x16.toNatClampNeg) + (1 : Int32))) (fun x18 => gd (inB x16 704) (gd (inB (((6 : Int32) * p0) + v4) 60) (lt (((τ 42 x16.toNatClampNeg) + (τ 43 (((6 : Int32) * p0) + v4).toNatClampNeg))) (fun x21 => gd (inB v3 704) (if x18 < (τ 41 v3.toNatClampNeg) then (f_X9_layFloor_180 p0 p1 k40 τ v3 v4) else (gd (inB v3 704) (if x18 = (τ 41 v3.toNatClampNeg) then (gd (inB v3 704) (if x21 < (τ 42 v3.toNatClampNeg) then (f_X9_layFloor_164 p0 p1 k40 τ v3 v4 x18 x21) else (f_X9_layFloor_180 p0 p1 k40 τ v3 v4))) else (f_X9_layFloor_164 p0 p1 k40 τ v3 v4 x18 x21))))))))))))) else (f_X9_layFloor_180 p0 p1 k40 τ v3 v4)))))
def f_X9_layFloor_40L (p0 : Int32) (p1 : Int32)  : Nat → Mm → Int32 → Int32 → Option (Mm)
  | 0 => fun _ _ _ => none
  | n + 1 => f_X9_layFloor_40 p0 p1  (f_X9_layFloor_40L p0 p1  n)
def f_X9_layFloor_0 (p0 : Int32) (p1 : Int32)  (τ : Mm) : Option (Mm) := lt ((((64 : Int32) * p0) + p1)) (fun x1 => gd (inB (x1 + (64 : Int32)) 704) (gd (inB x1 704) (lt (s_t τ 41 x1.toNatClampNeg (τ 41 (x1 + (64 : Int32)).toNatClampNeg)) (fun τ4 => gd (inB (x1 + (64 : Int32)) 704) (gd (inB x1 704) (lt (s_t τ4 42 x1.toNatClampNeg (τ4 42 (x1 + (64 : Int32)).toNatClampNeg)) (fun τ7 => f_X9_layFloor_40L p0 p1  FU τ7 x1 (0 : Int32))))))))
def f_X9_layFloor (τ : Mm) (p0 : Int32) (p1 : Int32) : Option (Mm) := f_X9_layFloor_0 p0 p1 τ
def f_X9_layShared_92  (k86 : Mm → Int32 → Option (Mm)) (k92 : Mm → Int32 → Int32 → Option (Mm)) (τ : Mm) (v1 : Int32) (v2 : Int32) : Option (Mm) := if (64 : Int32) ≤ v2 then (lt ((v1 + (-1 : Int32))) (fun x5 => k86 τ x5)) else (bd (f_X9_layFloor τ v1 v2) (fun u6 => lt ((v2 + (1 : Int32))) (fun x7 => k92 u6 v1 x7)))
def f_X9_layShared_92L  (k86 : Mm → Int32 → Option (Mm)) : Nat → Mm → Int32 → Int32 → Option (Mm)
  | 0 => fun _ _ _ => none
  | n + 1 => f_X9_layShared_92  k86 (f_X9_layShared_92L  k86 n)
def f_X9_layShared_86  (k86 : Mm → Int32 → Option (Mm)) (τ : Mm) (v1 : Int32) : Option (Mm) := if v1 < (0 : Int32) then (some τ) else (f_X9_layShared_92L  k86 FU τ v1 (0 : Int32))
def f_X9_layShared_86L   : Nat → Mm → Int32 → Option (Mm)
  | 0 => fun _ _ => none
  | n + 1 => f_X9_layShared_86   (f_X9_layShared_86L   n)
def f_X9_layShared_49  (k49 : Mm → Int32 → Option (Mm)) (τ : Mm) (v1 : Int32) : Option (Mm) := if (64 : Int32) ≤ v1 then (f_X9_layShared_86L   FU τ (9 : Int32)) else (gd (inB ((640 : Int32) + v1) 704) (lt (s_t τ 41 ((640 : Int32) + v1).toNatClampNeg (0 : Int32)) (fun τ9 => gd (inB ((640 : Int32) + v1) 704) (lt (s_t τ9 42 ((640 : Int32) + v1).toNatClampNeg (0 : Int32)) (fun τ11 => lt ((v1 + (1 : Int32))) (fun x12 => k49 τ11 x12))))))
def f_X9_layShared_49L   : Nat → Mm → Int32 → Option (Mm)
  | 0 => fun _ _ => none
  | n + 1 => f_X9_layShared_49   (f_X9_layShared_49L   n)
def f_X9_layShared_10  (k2 : Mm → Int32 → Option (Mm)) (k10 : Mm → Int32 → Int32 → Option (Mm)) (τ : Mm) (v1 : Int32) (v2 : Int32) : Option (Mm) := if (τ 0 0) ≤ v2 then (lt ((v1 + (1 : Int32))) (fun x14 => k2 τ x14)) else (bd (f_X9_cost τ v2 v1) (fun u15 => gd (inB (((6 : Int32) * v1) + v2) 60) (lt (s_t u15.2 43 (((6 : Int32) * v1) + v2).toNatClampNeg u15.1) (fun τ17 => lt ((v2 + (1 : Int32))) (fun x18 => k10 τ17 v1 x18)))))
def f_X9_layShared_10L  (k2 : Mm → Int32 → Option (Mm)) : Nat → Mm → Int32 → Int32 → Option (Mm)
  | 0 => fun _ _ _ => none
  | n + 1 => f_X9_layShared_10  k2 (f_X9_layShared_10L  k2 n)
def f_X9_layShared_2  (k2 : Mm → Int32 → Option (Mm)) (τ : Mm) (v1 : Int32) : Option (Mm) := if (10 : Int32) ≤ v1 then (f_X9_layShared_49L   FU τ (0 : Int32)) else (f_X9_layShared_10L  k2 FU τ v1 (0 : Int32))
def f_X9_layShared_2L   : Nat → Mm → Int32 → Option (Mm)
  | 0 => fun _ _ => none
  | n + 1 => f_X9_layShared_2   (f_X9_layShared_2L   n)
def f_X9_layShared_0   (τ : Mm) : Option (Mm) := f_X9_layShared_2L   FU τ (0 : Int32)
def f_X9_layShared (τ : Mm) : Option (Mm) := f_X9_layShared_0  τ
def f_X9_whoShared_115 (τ : Mm) (p0 : Int32) (p1 : Int32) (k10 : Int32 → Int32 → Option (Int32)) (v3 : Int32) (v4 : Int32) : Option (Int32) := lt ((v4 + (1 : Int32))) (fun x7 => k10 v3 x7)
def f_X9_whoShared_10 (τ : Mm) (p0 : Int32) (p1 : Int32) (k10 : Int32 → Int32 → Option (Int32)) (v3 : Int32) (v4 : Int32) : Option (Int32) := if (τ 0 0) ≤ v4 then (some (-5 : Int32)) else (bd (f_X9_isOpen τ p0) (fun u3 => if u3 = (0 : Int32) then (some (-5 : Int32)) else (bd (f_X9_has p1 v4) (fun u5 => if u5 = (0 : Int32) then (bd (f_X9_isFree τ v4) (fun u8 => if u8 = (0 : Int32) then (f_X9_whoShared_115 τ p0 p1 k10 v3 v4) else (lt (((((64 : Int32) * p0) + (64 : Int32)) + (p1 ||| ((1 : Int32) <<< (v4 &&& 31))))) (fun x10 => gd (inB x10 704) (gd (inB v3 704) (if ((τ 41 x10.toNatClampNeg) + (1 : Int32)) = (τ 41 v3.toNatClampNeg) then (gd (inB x10 704) (gd (inB (((6 : Int32) * p0) + v4) 60) (gd (inB v3 704) (if ((τ 42 x10.toNatClampNeg) + (τ 43 (((6 : Int32) * p0) + v4).toNatClampNeg)) = (τ 42 v3.toNatClampNeg) then (some v4) else (f_X9_whoShared_115 τ p0 p1 k10 v3 v4))))) else (f_X9_whoShared_115 τ p0 p1 k10 v3 v4))))))) else (f_X9_whoShared_115 τ p0 p1 k10 v3 v4)))))
def f_X9_whoShared_10L (τ : Mm) (p0 : Int32) (p1 : Int32)  : Nat → Int32 → Int32 → Option (Int32)
  | 0 => fun _ _ => none
  | n + 1 => f_X9_whoShared_10 τ p0 p1  (f_X9_whoShared_10L τ p0 p1  n)
def f_X9_whoShared_0 (τ : Mm) (p0 : Int32) (p1 : Int32)   : Option (Int32) := lt ((((64 : Int32) * p0) + p1)) (fun x1 => f_X9_whoShared_10L τ p0 p1  FU x1 (0 : Int32))
def f_X9_whoShared (τ : Mm) (p0 : Int32) (p1 : Int32) : Option (Int32) := f_X9_whoShared_0 τ p0 p1 
def f_X9_shared_92 (p0 : Int32) (k63 : Mm → Int32 → Int32 → Int32 → Option (Int32 × Mm)) (τ : Mm) (v3 : Int32) (v4 : Int32) (w0 : Int32) (w1 : Int32) : Option (Int32 × Mm) := lt ((w0 ||| w1)) (fun x8 => lt ((v4 + (1 : Int32))) (fun x9 => k63 τ x8 v3 x9))
def f_X9_shared_63 (p0 : Int32) (k63 : Mm → Int32 → Int32 → Int32 → Option (Int32 × Mm)) (τ : Mm) (v2 : Int32) (v3 : Int32) (v4 : Int32) : Option (Int32 × Mm) := if (p0 - (10 : Int32)) < v4 then (some (v3, τ)) else (bd (f_X9_whoShared τ v4 v2) (fun u6 => if u6 < (0 : Int32) then (f_X9_shared_92 p0 k63 τ u6 v4 v2 (0 : Int32)) else (f_X9_shared_92 p0 k63 τ u6 v4 v2 ((1 : Int32) <<< (u6 &&& 31)))))
def f_X9_shared_63L (p0 : Int32)  : Nat → Mm → Int32 → Int32 → Int32 → Option (Int32 × Mm)
  | 0 => fun _ _ _ _ => none
  | n + 1 => f_X9_shared_63 p0  (f_X9_shared_63L p0  n)
def f_X9_shared_26 (p0 : Int32)  (τ : Mm) : Option (Int32 × Mm) := bd (f_X9_layShared τ) (fun u3 => if (2 : Int32) ≤ p0 then (f_X9_shared_63L p0  FU u3 (0 : Int32) (-5 : Int32) (0 : Int32)) else (if p0 = (0 : Int32) then (gd (inB (0 : Int32) 704) (some ((u3 41 (0 : Int32).toNatClampNeg), u3))) else (gd (inB (0 : Int32) 704) (some ((u3 42 (0 : Int32).toNatClampNeg), u3)))))
def f_X9_shared_0 (p0 : Int32)  (τ : Mm) : Option (Int32 × Mm) := bd (f_X9_in p0 (0 : Int32) (1 : Int32)) (fun u1 => if u1 = (0 : Int32) then (bd (f_X9_in p0 (10 : Int32) (19 : Int32)) (fun u13 => if u13 = (0 : Int32) then (some ((-10001 : Int32), τ)) else (f_X9_shared_26 p0  τ))) else (f_X9_shared_26 p0  τ))
def f_X9_shared (τ : Mm) (p0 : Int32) : Option (Int32 × Mm) := f_X9_shared_0 p0 τ
def f_X9_see_0 (p0 : Int32) (p1 : Int32) (p2 : Int32)  (τ : Mm) : Option (Int32 × Mm) := if p0 = (-1 : Int32) then (lt (s_t τ 44 0 (0 : Int32)) (fun τ16 => some ((0 : Int32), τ16))) else (bd (f_X9_isMaster τ p0) (fun u2 => if u2 = (0 : Int32) then (some ((-1 : Int32), τ)) else (bd (f_X9_isFloor p2) (fun u4 => if u4 = (0 : Int32) then (some ((-1 : Int32), τ)) else (bd (f_X9_in p1 (0 : Int32) (20 : Int32)) (fun u6 => if u6 = (0 : Int32) then (some ((-2 : Int32), τ)) else (if (τ 44 0) = (5 : Int32) then (some ((-4 : Int32), τ)) else (gd (inB (τ 44 0) 5) (lt (s_t τ 45 (τ 44 0).toNatClampNeg p0) (fun τ10 => gd (inB (τ10 44 0) 5) (lt (s_t τ10 46 (τ10 44 0).toNatClampNeg p1) (fun τ12 => gd (inB (τ12 44 0) 5) (lt (s_t τ12 47 (τ12 44 0).toNatClampNeg p2) (fun τ14 => lt (s_t τ14 44 0 ((τ14 44 0) + (1 : Int32))) (fun τ15 => some ((τ15 44 0), τ15))))))))))))))))
def f_X9_see (τ : Mm) (p0 : Int32) (p1 : Int32) (p2 : Int32) : Option (Int32 × Mm) := f_X9_see_0 p0 p1 p2 τ
def f_X9_isSeen_55  (k4 : Mm → Int32 → Int32 → Option (Int32 × Mm)) (τ : Mm) (v2 : Int32) (w0 : Int32) : Option (Int32 × Mm) := bd (f_X9_putBack τ) (fun u12 => lt ((v2 + (1 : Int32))) (fun x13 => k4 u12 w0 x13))
def f_X9_isSeen_4  (k4 : Mm → Int32 → Int32 → Option (Int32 × Mm)) (τ : Mm) (v1 : Int32) (v2 : Int32) : Option (Int32 × Mm) := if (τ 44 0) ≤ v2 then (gd (isB v1) (some (v1, τ))) else (if v1 = (0 : Int32) then (gd (isB v1) (some (v1, τ))) else (bd (f_X9_save τ) (fun u5 => gd (inB v2 5) (bd (f_X9_goMinutes u5 (u5 46 v2.toNatClampNeg)) (fun u7 => gd (inB v2 5) (gd (inB (u7 45 v2.toNatClampNeg) 6) (gd (inB v2 5) (if (u7 7 (u7 45 v2.toNatClampNeg).toNatClampNeg) = (u7 47 v2.toNatClampNeg) then (f_X9_isSeen_55  k4 u7 v2 (1 : Int32)) else (f_X9_isSeen_55  k4 u7 v2 (0 : Int32))))))))))
def f_X9_isSeen_4L   : Nat → Mm → Int32 → Int32 → Option (Int32 × Mm)
  | 0 => fun _ _ _ => none
  | n + 1 => f_X9_isSeen_4   (f_X9_isSeen_4L   n)
def f_X9_isSeen_0   (τ : Mm) : Option (Int32 × Mm) := f_X9_isSeen_4L   FU τ (1 : Int32) (0 : Int32)
def f_X9_isSeen (τ : Mm) : Option (Int32 × Mm) := f_X9_isSeen_0  τ
def f_X9_from_53 (p0 : Int32) (k22 : Mm → Int32 → Int32 → Int32 → Option (Int32 × Mm)) (τ : Mm) (v2 : Int32) (v4 : Int32) (w0 : Int32) (w1 : Int32) : Option (Int32 × Mm) := lt ((w0 ||| w1)) (fun x12 => lt ((v4 + (1 : Int32))) (fun x13 => k22 τ v2 x12 x13))
def f_X9_from_22 (p0 : Int32) (k22 : Mm → Int32 → Int32 → Int32 → Option (Int32 × Mm)) (τ : Mm) (v2 : Int32) (v3 : Int32) (v4 : Int32) : Option (Int32 × Mm) := if (10 : Int32) ≤ v4 then (gd (inB p0 6) (lt (s_t τ 7 p0.toNatClampNeg v2) (fun τ7 => some (v3, τ7)))) else (gd (inB p0 6) (lt (s_t τ 7 p0.toNatClampNeg v4) (fun τ9 => bd (f_X9_isSeen τ9) (fun u10 => if u10.1 = (0 : Int32) then (f_X9_from_53 p0 k22 u10.2 v2 v4 v3 (0 : Int32)) else (f_X9_from_53 p0 k22 u10.2 v2 v4 v3 ((1 : Int32) <<< (v4 &&& 31)))))))
def f_X9_from_22L (p0 : Int32)  : Nat → Mm → Int32 → Int32 → Int32 → Option (Int32 × Mm)
  | 0 => fun _ _ _ _ => none
  | n + 1 => f_X9_from_22 p0  (f_X9_from_22L p0  n)
def f_X9_from_0 (p0 : Int32)  (τ : Mm) : Option (Int32 × Mm) := bd (f_X9_isMaster τ p0) (fun u1 => if u1 = (0 : Int32) then (some ((-1 : Int32), τ)) else (gd (inB p0 6) (lt ((τ 7 p0.toNatClampNeg)) (fun x4 => f_X9_from_22L p0  FU τ x4 (0 : Int32) (0 : Int32)))))
def f_X9_from (τ : Mm) (p0 : Int32) : Option (Int32 × Mm) := f_X9_from_0 p0 τ
def f_X9_can_68 (p0 : Int32) (p1 : Int32) (k38 : Mm → Int32 → Int32 → Int32 → Int32 → Option (Int32 × Mm)) (τ : Mm) (v3 : Int32) (v4 : Int32) (v5 : Int32) (v6 : Int32) : Option (Int32 × Mm) := lt ((v6 + (-1 : Int32))) (fun x16 => k38 τ v3 v4 v5 x16)
def f_X9_can_38 (p0 : Int32) (p1 : Int32) (k38 : Mm → Int32 → Int32 → Int32 → Int32 → Option (Int32 × Mm)) (τ : Mm) (v3 : Int32) (v4 : Int32) (v5 : Int32) (v6 : Int32) : Option (Int32 × Mm) := if v6 < (0 : Int32) then (gd (inB p0 6) (lt (s_t τ 6 p0.toNatClampNeg v3) (fun τ9 => if p1 = (0 : Int32) then (some (v4, τ9)) else (some (v5, τ9))))) else (gd (inB p0 6) (lt (s_t τ 6 p0.toNatClampNeg v6) (fun τ12 => bd (f_X9_isSeen τ12) (fun u13 => if u13.1 = (0 : Int32) then (f_X9_can_68 p0 p1 k38 u13.2 v3 v4 v5 v6) else (lt ((v4 + (1 : Int32))) (fun x15 => f_X9_can_68 p0 p1 k38 u13.2 v3 x15 v6 v6))))))
def f_X9_can_38L (p0 : Int32) (p1 : Int32)  : Nat → Mm → Int32 → Int32 → Int32 → Int32 → Option (Int32 × Mm)
  | 0 => fun _ _ _ _ _ => none
  | n + 1 => f_X9_can_38 p0 p1  (f_X9_can_38L p0 p1  n)
def f_X9_can_0 (p0 : Int32) (p1 : Int32)  (τ : Mm) : Option (Int32 × Mm) := bd (f_X9_isMaster τ p0) (fun u1 => if u1 = (0 : Int32) then (some ((-1 : Int32), τ)) else (bd (f_X9_in p1 (0 : Int32) (1 : Int32)) (fun u3 => if u3 = (0 : Int32) then (some ((-1 : Int32), τ)) else (gd (inB p0 6) (lt ((τ 6 p0.toNatClampNeg)) (fun x6 => f_X9_can_38L p0 p1  FU τ x6 (0 : Int32) (-5 : Int32) (9 : Int32)))))))
def f_X9_can (τ : Mm) (p0 : Int32) (p1 : Int32) : Option (Int32 × Mm) := f_X9_can_0 p0 p1 τ
def f_X9_divisor_5 (p0 : Int32) (p1 : Int32) (k5 : Int32 → Int32 → Option (Int32)) (v3 : Int32) (v4 : Int32) : Option (Int32) := if v4 = (0 : Int32) then (some v3) else (gd (nz v4) (lt ((v3 - v3 / v4 * v4)) (fun x3 => k5 v4 x3)))
def f_X9_divisor_5L (p0 : Int32) (p1 : Int32)  : Nat → Int32 → Int32 → Option (Int32)
  | 0 => fun _ _ => none
  | n + 1 => f_X9_divisor_5 p0 p1  (f_X9_divisor_5L p0 p1  n)
def f_X9_divisor_0 (p0 : Int32) (p1 : Int32)   : Option (Int32) := f_X9_divisor_5L p0 p1  FU p0 p1
def f_X9_divisor (p0 : Int32) (p1 : Int32) : Option (Int32) := f_X9_divisor_0 p0 p1 
def f_X9_lowest_0 (p0 : Int32) (p1 : Int32) (p2 : Int32)   : Option (Int64) := bd (f_X9_divisor p0 p1) (fun u1 => if p2 = (0 : Int32) then (gd (nz u1) (some ((p0 / u1).toInt64))) else (gd (nz u1) (some ((p1 / u1).toInt64))))
def f_X9_lowest (p0 : Int32) (p1 : Int32) (p2 : Int32) : Option (Int64) := f_X9_lowest_0 p0 p1 p2 
def f_X9_odds_75 (p0 : Int32) (p1 : Int32) (k27 : Mm → Int32 → Int32 → Option (Int64 × Mm)) (τ : Mm) (v4 : Int32) (w0 : Int32) (w1 : Int32) : Option (Int64 × Mm) := lt ((w0 + w1)) (fun x13 => bd (f_X9_putBack τ) (fun u14 => lt ((v4 + (1 : Int32))) (fun x15 => k27 u14 x13 x15)))
def f_X9_odds_27 (p0 : Int32) (p1 : Int32) (k27 : Mm → Int32 → Int32 → Option (Int64 × Mm)) (τ : Mm) (v3 : Int32) (v4 : Int32) : Option (Int64 × Mm) := if (10 : Int32) ≤ v4 then (bd (f_X9_lowest v3 (10 : Int32) p1) (fun u6 => some (u6, τ))) else (bd (f_X9_save τ) (fun u7 => gd (inB v4 10) (lt (s_t u7 2 0 ((u7 2 0) ||| ((1 : Int32) <<< ((u7 12 v4.toNatClampNeg) &&& 31)))) (fun τ9 => bd (f_X9_giveGoals τ9) (fun u10 => gd (inB p0 6) (if (u10 8 p0.toNatClampNeg) < (0 : Int32) then (f_X9_odds_75 p0 p1 k27 u10 v4 v3 (0 : Int32)) else (f_X9_odds_75 p0 p1 k27 u10 v4 v3 (1 : Int32))))))))
def f_X9_odds_27L (p0 : Int32) (p1 : Int32)  : Nat → Mm → Int32 → Int32 → Option (Int64 × Mm)
  | 0 => fun _ _ _ => none
  | n + 1 => f_X9_odds_27 p0 p1  (f_X9_odds_27L p0 p1  n)
def f_X9_odds_0 (p0 : Int32) (p1 : Int32)  (τ : Mm) : Option (Int64 × Mm) := bd (f_X9_isMaster τ p0) (fun u1 => if u1 = (0 : Int32) then (some ((-9223372036854775808 : Int64), τ)) else (bd (f_X9_in p1 (0 : Int32) (1 : Int32)) (fun u3 => if u3 = (0 : Int32) then (some ((-9223372036854775808 : Int64), τ)) else (f_X9_odds_27L p0 p1  FU τ (0 : Int32) (0 : Int32)))))
def f_X9_odds (τ : Mm) (p0 : Int32) (p1 : Int32) : Option (Int64 × Mm) := f_X9_odds_0 p0 p1 τ
def f_X9_mean_43 (p0 : Int32) (p1 : Int32) (k43 : Mm → Int32 → Int32 → Option (Int64 × Mm)) (τ : Mm) (v3 : Int32) (v4 : Int32) : Option (Int64 × Mm) := if (τ 0 0) ≤ v4 then (bd (f_X9_putBack τ) (fun u9 => bd (f_X9_lowest v3 (u9 0 0) p1) (fun u10 => some (u10, u9)))) else (gd (inB v4 6) (lt ((v3 + (τ 10 v4.toNatClampNeg))) (fun x12 => lt ((v4 + (1 : Int32))) (fun x13 => k43 τ x12 x13))))
def f_X9_mean_43L (p0 : Int32) (p1 : Int32)  : Nat → Mm → Int32 → Int32 → Option (Int64 × Mm)
  | 0 => fun _ _ _ => none
  | n + 1 => f_X9_mean_43 p0 p1  (f_X9_mean_43L p0 p1  n)
def f_X9_mean_0 (p0 : Int32) (p1 : Int32)  (τ : Mm) : Option (Int64 × Mm) := bd (f_X9_isMinutes p0) (fun u1 => if u1 = (0 : Int32) then (some ((-9223372036854775808 : Int64), τ)) else (bd (f_X9_in p1 (0 : Int32) (1 : Int32)) (fun u3 => if u3 = (0 : Int32) then (some ((-9223372036854775808 : Int64), τ)) else (if (τ 0 0) = (0 : Int32) then (some ((-9223372036854775808 : Int64), τ)) else (bd (f_X9_save τ) (fun u6 => bd (f_X9_goMinutes u6 p0) (fun u7 => f_X9_mean_43L p0 p1  FU u7 (0 : Int32) (0 : Int32))))))))
def f_X9_mean (τ : Mm) (p0 : Int32) (p1 : Int32) : Option (Int64 × Mm) := f_X9_mean_0 p0 p1 τ
def f_X9_plan_89 (p0 : Int32) (p1 : Int32)  (τ : Mm) (w1 : Int32) (w2 : Int32) : Option (Int32 × Mm) := gd (inB w1 10) (lt (s_t τ 51 w1.toNatClampNeg w2) (fun τ11 => lt (s_t τ11 48 0 ((τ11 48 0) + (1 : Int32))) (fun τ12 => some ((τ12 48 0), τ12))))
def f_X9_plan_50 (p0 : Int32) (p1 : Int32)  (τ : Mm) : Option (Int32 × Mm) := if (τ 48 0) = (10 : Int32) then (some ((-4 : Int32), τ)) else (gd (inB (τ 48 0) 10) (lt (s_t τ 50 (τ 48 0).toNatClampNeg p0) (fun τ8 => if p0 ≤ (0 : Int32) then (f_X9_plan_89 p0 p1  τ8 (τ8 48 0) (0 : Int32)) else (f_X9_plan_89 p0 p1  τ8 (τ8 48 0) p1))))
def f_X9_plan_35 (p0 : Int32) (p1 : Int32)  (τ : Mm) : Option (Int32 × Mm) := if p0 ≤ (1 : Int32) then (f_X9_plan_50 p0 p1  τ) else (bd (f_X9_isMaster τ p1) (fun u13 => if u13 = (0 : Int32) then (some ((-1 : Int32), τ)) else (f_X9_plan_50 p0 p1  τ)))
def f_X9_plan_0 (p0 : Int32) (p1 : Int32)  (τ : Mm) : Option (Int32 × Mm) := if p0 = (-1 : Int32) then (lt (s_t τ 48 0 (0 : Int32)) (fun τ17 => some ((0 : Int32), τ17))) else (bd (f_X9_in p0 (0 : Int32) (3 : Int32)) (fun u2 => if u2 = (0 : Int32) then (some ((-1 : Int32), τ)) else (if p0 = (1 : Int32) then (bd (f_X9_isFloor p1) (fun u15 => if u15 = (0 : Int32) then (some ((-1 : Int32), τ)) else (f_X9_plan_35 p0 p1  τ))) else (f_X9_plan_35 p0 p1  τ))))
def f_X9_plan (τ : Mm) (p0 : Int32) (p1 : Int32) : Option (Int32 × Mm) := f_X9_plan_0 p0 p1 τ
def f_X9_goPlan_47 (p0 : Int32) (p1 : Int32)  (τ : Mm) (w1 : Int32) (w2 : Int32) : Option (Mm) := bd (f_X9_goes τ w1 w2) (fun u5 => some u5)
def f_X9_goPlan_30 (p0 : Int32) (p1 : Int32)  (τ : Mm) : Option (Mm) := if p0 ≤ (1 : Int32) then (some τ) else (if p0 = (2 : Int32) then (f_X9_goPlan_47 p0 p1  τ p1 (1 : Int32)) else (f_X9_goPlan_47 p0 p1  τ p1 (0 : Int32)))
def f_X9_goPlan_8 (p0 : Int32) (p1 : Int32)  (τ : Mm) : Option (Mm) := if p0 = (1 : Int32) then (gd (inB p1 10) (lt (s_t τ 2 0 ((τ 2 0) ||| ((1 : Int32) <<< ((τ 12 p1.toNatClampNeg) &&& 31)))) (fun τ7 => f_X9_goPlan_30 p0 p1  τ7))) else (f_X9_goPlan_30 p0 p1  τ)
def f_X9_goPlan_0 (p0 : Int32) (p1 : Int32)  (τ : Mm) : Option (Mm) := if p0 = (0 : Int32) then (bd (f_X9_goMinute τ) (fun u8 => f_X9_goPlan_8 p0 p1  u8)) else (f_X9_goPlan_8 p0 p1  τ)
def f_X9_goPlan (τ : Mm) (p0 : Int32) (p1 : Int32) : Option (Mm) := f_X9_goPlan_0 p0 p1 τ
def f_X9_ends_63 (p0 : Int32)  (τ : Mm) (w0 : Int32) : Option (Int32 × Mm) := bd (f_X9_putBack τ) (fun u6 => some (w0, u6))
def f_X9_ends_18 (p0 : Int32) (k18 : Mm → Int32 → Option (Int32 × Mm)) (τ : Mm) (v2 : Int32) : Option (Int32 × Mm) := if (τ 48 0) ≤ v2 then (if p0 = (0 : Int32) then (f_X9_ends_63 p0  τ (τ 3 0)) else (f_X9_ends_63 p0  τ (τ 2 0))) else (gd (inB v2 10) (gd (inB v2 10) (bd (f_X9_goPlan τ (τ 50 v2.toNatClampNeg) (τ 51 v2.toNatClampNeg)) (fun u9 => lt ((v2 + (1 : Int32))) (fun x10 => k18 u9 x10)))))
def f_X9_ends_18L (p0 : Int32)  : Nat → Mm → Int32 → Option (Int32 × Mm)
  | 0 => fun _ _ => none
  | n + 1 => f_X9_ends_18 p0  (f_X9_ends_18L p0  n)
def f_X9_ends_0 (p0 : Int32)  (τ : Mm) : Option (Int32 × Mm) := bd (f_X9_in p0 (0 : Int32) (1 : Int32)) (fun u1 => if u1 = (0 : Int32) then (some ((-1 : Int32), τ)) else (bd (f_X9_save τ) (fun u3 => f_X9_ends_18L p0  FU u3 (0 : Int32))))
def f_X9_ends (τ : Mm) (p0 : Int32) : Option (Int32 × Mm) := f_X9_ends_0 p0 τ
def f_X9_book_0 (p0 : Int32) (p1 : Int32)  (τ : Mm) : Option (Int32 × Mm) := if p0 = (-1 : Int32) then (lt (s_t τ 49 0 (0 : Int32)) (fun τ12 => some ((0 : Int32), τ12))) else (bd (f_X9_isMaster τ p0) (fun u2 => if u2 = (0 : Int32) then (some ((-1 : Int32), τ)) else (bd (f_X9_isFloor p1) (fun u4 => if u4 = (0 : Int32) then (some ((-1 : Int32), τ)) else (if (τ 49 0) = (8 : Int32) then (some ((-4 : Int32), τ)) else (gd (inB (τ 49 0) 8) (lt (s_t τ 52 (τ 49 0).toNatClampNeg p0) (fun τ8 => gd (inB (τ8 49 0) 8) (lt (s_t τ8 53 (τ8 49 0).toNatClampNeg p1) (fun τ10 => lt (s_t τ10 49 0 ((τ10 49 0) + (1 : Int32))) (fun τ11 => some ((τ11 49 0), τ11))))))))))))
def f_X9_book (τ : Mm) (p0 : Int32) (p1 : Int32) : Option (Int32 × Mm) := f_X9_book_0 p0 p1 τ
def f_X9_looked_2 (τ : Mm) (k2 : Int32 → Option (Int32)) (v1 : Int32) : Option (Int32) := if (τ 49 0) ≤ v1 then (some (-5 : Int32)) else (gd (inB v1 8) (gd (inB (τ 52 v1.toNatClampNeg) 6) (gd (inB v1 8) (if (τ 7 (τ 52 v1.toNatClampNeg).toNatClampNeg) = (τ 53 v1.toNatClampNeg) then (lt ((v1 + (1 : Int32))) (fun x6 => k2 x6)) else (some v1)))))
def f_X9_looked_2L (τ : Mm)  : Nat → Int32 → Option (Int32)
  | 0 => fun _ => none
  | n + 1 => f_X9_looked_2 τ  (f_X9_looked_2L τ  n)
def f_X9_looked_0 (τ : Mm)   : Option (Int32) := f_X9_looked_2L τ  FU (0 : Int32)
def f_X9_looked (τ : Mm) : Option (Int32) := f_X9_looked_0 τ 
def f_X9_isTape_0 (p0 : Int32)   : Option (Int32) := bd (f_X9_in p0 (0 : Int32) (5 : Int32)) (fun u1 => gd (isB u1) (some u1))
def f_X9_isTape (p0 : Int32) : Option (Int32) := f_X9_isTape_0 p0 
def f_X9_judge_57 (τ : Mm) (η : Mj) (p0 : Int32) (p1 : Int32)  (v3 : Int32) : Option (Int32) := some ((100 : Int32) + v3)
def f_X9_judge_24 (τ : Mm) (η : Mj) (p0 : Int32) (p1 : Int32) (k24 : Int32 → Option (Int32)) (v3 : Int32) : Option (Int32) := if (10 : Int32) ≤ v3 then (some (-5 : Int32)) else (gd (inB p0 6) (if (τ 81 p0.toNatClampNeg) < (0 : Int32) then (f_X9_judge_57 τ η p0 p1  v3) else (if p1 < (0 : Int32) then (f_X9_judge_57 τ η p0 p1  v3) else (gd (inB p0 6) (if p1 ≤ (((τ 82 p0.toNatClampNeg) - v3) - (1 : Int32)) then (gd (inB ((((60 : Int32) * p0) + p1) + v3) 360) (gd (inB v3 10) (if (lg_cmp (η 83 ((((60 : Int32) * p0) + p1) + v3).toNatClampNeg) ((τ 12 v3.toNatClampNeg).toInt64)) = (0 : Int32) then (lt ((v3 + (1 : Int32))) (fun x14 => k24 x14)) else (some v3)))) else (f_X9_judge_57 τ η p0 p1  v3))))))
def f_X9_judge_24L (τ : Mm) (η : Mj) (p0 : Int32) (p1 : Int32)  : Nat → Int32 → Option (Int32)
  | 0 => fun _ => none
  | n + 1 => f_X9_judge_24 τ η p0 p1  (f_X9_judge_24L τ η p0 p1  n)
def f_X9_judge_0 (τ : Mm) (η : Mj) (p0 : Int32) (p1 : Int32)   : Option (Int32) := bd (f_X9_isTape p0) (fun u1 => if u1 = (0 : Int32) then (some (-1 : Int32)) else (gd (inB p0 6) (if (τ 81 p0.toNatClampNeg) ≤ (0 : Int32) then (f_X9_judge_24L τ η p0 p1  FU (0 : Int32)) else (some (-12 : Int32)))))
def f_X9_judge (τ : Mm) (η : Mj) (p0 : Int32) (p1 : Int32) : Option (Int32) := f_X9_judge_0 τ η p0 p1 
def f_X9_image_290  (k290 : Mm → Int32 → Option (Int32 × Mm)) (τ : Mm) (v1 : Int32) : Option (Int32 × Mm) := if (8 : Int32) ≤ v1 then (some ((τ 0 0), τ)) else (gd (inB v1 8) (gd (inB v1 8) (lt (s_t τ 77 v1.toNatClampNeg (τ 52 v1.toNatClampNeg)) (fun τ18 => gd (inB v1 8) (gd (inB v1 8) (lt (s_t τ18 78 v1.toNatClampNeg (τ18 53 v1.toNatClampNeg)) (fun τ21 => lt ((v1 + (1 : Int32))) (fun x22 => k290 τ21 x22))))))))
def f_X9_image_290L   : Nat → Mm → Int32 → Option (Int32 × Mm)
  | 0 => fun _ _ => none
  | n + 1 => f_X9_image_290   (f_X9_image_290L   n)
def f_X9_image_240  (k240 : Mm → Int32 → Option (Int32 × Mm)) (τ : Mm) (v1 : Int32) : Option (Int32 × Mm) := if (10 : Int32) ≤ v1 then (f_X9_image_290L   FU τ (0 : Int32)) else (gd (inB v1 10) (gd (inB v1 10) (lt (s_t τ 71 v1.toNatClampNeg (τ 12 v1.toNatClampNeg)) (fun τ25 => gd (inB v1 10) (gd (inB v1 10) (lt (s_t τ25 75 v1.toNatClampNeg (τ25 50 v1.toNatClampNeg)) (fun τ28 => gd (inB v1 10) (gd (inB v1 10) (lt (s_t τ28 76 v1.toNatClampNeg (τ28 51 v1.toNatClampNeg)) (fun τ31 => lt ((v1 + (1 : Int32))) (fun x32 => k240 τ31 x32)))))))))))
def f_X9_image_240L   : Nat → Mm → Int32 → Option (Int32 × Mm)
  | 0 => fun _ _ => none
  | n + 1 => f_X9_image_240   (f_X9_image_240L   n)
def f_X9_image_191  (k191 : Mm → Int32 → Option (Int32 × Mm)) (τ : Mm) (v1 : Int32) : Option (Int32 × Mm) := if (5 : Int32) ≤ v1 then (f_X9_image_240L   FU τ (0 : Int32)) else (gd (inB v1 5) (gd (inB v1 5) (lt (s_t τ 72 v1.toNatClampNeg (τ 45 v1.toNatClampNeg)) (fun τ35 => gd (inB v1 5) (gd (inB v1 5) (lt (s_t τ35 73 v1.toNatClampNeg (τ35 46 v1.toNatClampNeg)) (fun τ38 => gd (inB v1 5) (gd (inB v1 5) (lt (s_t τ38 74 v1.toNatClampNeg (τ38 47 v1.toNatClampNeg)) (fun τ41 => lt ((v1 + (1 : Int32))) (fun x42 => k191 τ41 x42)))))))))))
def f_X9_image_191L   : Nat → Mm → Int32 → Option (Int32 × Mm)
  | 0 => fun _ _ => none
  | n + 1 => f_X9_image_191   (f_X9_image_191L   n)
def f_X9_image_165  (k165 : Mm → Int32 → Option (Int32 × Mm)) (τ : Mm) (v1 : Int32) : Option (Int32 × Mm) := if (24 : Int32) ≤ v1 then (f_X9_image_191L   FU τ (0 : Int32)) else (gd (inB v1 24) (gd (inB v1 24) (lt (s_t τ 70 v1.toNatClampNeg (τ 11 v1.toNatClampNeg)) (fun τ45 => lt ((v1 + (1 : Int32))) (fun x46 => k165 τ45 x46)))))
def f_X9_image_165L   : Nat → Mm → Int32 → Option (Int32 × Mm)
  | 0 => fun _ _ => none
  | n + 1 => f_X9_image_165   (f_X9_image_165L   n)
def f_X9_image_79  (k79 : Mm → Int32 → Option (Int32 × Mm)) (τ : Mm) (v1 : Int32) : Option (Int32 × Mm) := if (6 : Int32) ≤ v1 then (f_X9_image_165L   FU τ (0 : Int32)) else (gd (inB v1 6) (gd (inB v1 6) (lt (s_t τ 64 v1.toNatClampNeg (τ 5 v1.toNatClampNeg)) (fun τ49 => gd (inB v1 6) (gd (inB v1 6) (lt (s_t τ49 65 v1.toNatClampNeg (τ49 6 v1.toNatClampNeg)) (fun τ52 => gd (inB v1 6) (gd (inB v1 6) (lt (s_t τ52 66 v1.toNatClampNeg (τ52 7 v1.toNatClampNeg)) (fun τ55 => gd (inB v1 6) (gd (inB v1 6) (lt (s_t τ55 67 v1.toNatClampNeg (τ55 8 v1.toNatClampNeg)) (fun τ58 => gd (inB v1 6) (gd (inB v1 6) (lt (s_t τ58 68 v1.toNatClampNeg (τ58 9 v1.toNatClampNeg)) (fun τ61 => gd (inB v1 6) (gd (inB v1 6) (lt (s_t τ61 69 v1.toNatClampNeg (τ61 10 v1.toNatClampNeg)) (fun τ64 => lt ((v1 + (1 : Int32))) (fun x65 => k79 τ64 x65))))))))))))))))))))
def f_X9_image_79L   : Nat → Mm → Int32 → Option (Int32 × Mm)
  | 0 => fun _ _ => none
  | n + 1 => f_X9_image_79   (f_X9_image_79L   n)
def f_X9_image_0   (τ : Mm) : Option (Int32 × Mm) := lt (s_t τ 54 0 (1 : Int32)) (fun τ1 => lt (s_t τ1 55 0 (τ1 14 0)) (fun τ2 => lt (s_t τ2 56 0 (τ2 0 0)) (fun τ3 => lt (s_t τ3 57 0 (τ3 1 0)) (fun τ4 => lt (s_t τ4 58 0 (τ4 2 0)) (fun τ5 => lt (s_t τ5 59 0 (τ5 3 0)) (fun τ6 => lt (s_t τ6 60 0 (τ6 4 0)) (fun τ7 => lt (s_t τ7 61 0 (τ7 44 0)) (fun τ8 => lt (s_t τ8 62 0 (τ8 48 0)) (fun τ9 => lt (s_t τ9 63 0 (τ9 49 0)) (fun τ10 => f_X9_image_79L   FU τ10 (0 : Int32)))))))))))
def f_X9_image (τ : Mm) : Option (Int32 × Mm) := f_X9_image_0  τ
def f_X9_undo_295  (k295 : Mm → Int32 → Option (Int32 × Mm)) (τ : Mm) (v1 : Int32) : Option (Int32 × Mm) := if (8 : Int32) ≤ v1 then (some ((τ 0 0), τ)) else (gd (inB v1 8) (gd (inB v1 8) (lt (s_t τ 52 v1.toNatClampNeg (τ 77 v1.toNatClampNeg)) (fun τ18 => gd (inB v1 8) (gd (inB v1 8) (lt (s_t τ18 53 v1.toNatClampNeg (τ18 78 v1.toNatClampNeg)) (fun τ21 => lt ((v1 + (1 : Int32))) (fun x22 => k295 τ21 x22))))))))
def f_X9_undo_295L   : Nat → Mm → Int32 → Option (Int32 × Mm)
  | 0 => fun _ _ => none
  | n + 1 => f_X9_undo_295   (f_X9_undo_295L   n)
def f_X9_undo_245  (k245 : Mm → Int32 → Option (Int32 × Mm)) (τ : Mm) (v1 : Int32) : Option (Int32 × Mm) := if (10 : Int32) ≤ v1 then (f_X9_undo_295L   FU τ (0 : Int32)) else (gd (inB v1 10) (gd (inB v1 10) (lt (s_t τ 12 v1.toNatClampNeg (τ 71 v1.toNatClampNeg)) (fun τ25 => gd (inB v1 10) (gd (inB v1 10) (lt (s_t τ25 50 v1.toNatClampNeg (τ25 75 v1.toNatClampNeg)) (fun τ28 => gd (inB v1 10) (gd (inB v1 10) (lt (s_t τ28 51 v1.toNatClampNeg (τ28 76 v1.toNatClampNeg)) (fun τ31 => lt ((v1 + (1 : Int32))) (fun x32 => k245 τ31 x32)))))))))))
def f_X9_undo_245L   : Nat → Mm → Int32 → Option (Int32 × Mm)
  | 0 => fun _ _ => none
  | n + 1 => f_X9_undo_245   (f_X9_undo_245L   n)
def f_X9_undo_196  (k196 : Mm → Int32 → Option (Int32 × Mm)) (τ : Mm) (v1 : Int32) : Option (Int32 × Mm) := if (5 : Int32) ≤ v1 then (f_X9_undo_245L   FU τ (0 : Int32)) else (gd (inB v1 5) (gd (inB v1 5) (lt (s_t τ 45 v1.toNatClampNeg (τ 72 v1.toNatClampNeg)) (fun τ35 => gd (inB v1 5) (gd (inB v1 5) (lt (s_t τ35 46 v1.toNatClampNeg (τ35 73 v1.toNatClampNeg)) (fun τ38 => gd (inB v1 5) (gd (inB v1 5) (lt (s_t τ38 47 v1.toNatClampNeg (τ38 74 v1.toNatClampNeg)) (fun τ41 => lt ((v1 + (1 : Int32))) (fun x42 => k196 τ41 x42)))))))))))
def f_X9_undo_196L   : Nat → Mm → Int32 → Option (Int32 × Mm)
  | 0 => fun _ _ => none
  | n + 1 => f_X9_undo_196   (f_X9_undo_196L   n)
def f_X9_undo_170  (k170 : Mm → Int32 → Option (Int32 × Mm)) (τ : Mm) (v1 : Int32) : Option (Int32 × Mm) := if (24 : Int32) ≤ v1 then (f_X9_undo_196L   FU τ (0 : Int32)) else (gd (inB v1 24) (gd (inB v1 24) (lt (s_t τ 11 v1.toNatClampNeg (τ 70 v1.toNatClampNeg)) (fun τ45 => lt ((v1 + (1 : Int32))) (fun x46 => k170 τ45 x46)))))
def f_X9_undo_170L   : Nat → Mm → Int32 → Option (Int32 × Mm)
  | 0 => fun _ _ => none
  | n + 1 => f_X9_undo_170   (f_X9_undo_170L   n)
def f_X9_undo_84  (k84 : Mm → Int32 → Option (Int32 × Mm)) (τ : Mm) (v1 : Int32) : Option (Int32 × Mm) := if (6 : Int32) ≤ v1 then (f_X9_undo_170L   FU τ (0 : Int32)) else (gd (inB v1 6) (gd (inB v1 6) (lt (s_t τ 5 v1.toNatClampNeg (τ 64 v1.toNatClampNeg)) (fun τ49 => gd (inB v1 6) (gd (inB v1 6) (lt (s_t τ49 6 v1.toNatClampNeg (τ49 65 v1.toNatClampNeg)) (fun τ52 => gd (inB v1 6) (gd (inB v1 6) (lt (s_t τ52 7 v1.toNatClampNeg (τ52 66 v1.toNatClampNeg)) (fun τ55 => gd (inB v1 6) (gd (inB v1 6) (lt (s_t τ55 8 v1.toNatClampNeg (τ55 67 v1.toNatClampNeg)) (fun τ58 => gd (inB v1 6) (gd (inB v1 6) (lt (s_t τ58 9 v1.toNatClampNeg (τ58 68 v1.toNatClampNeg)) (fun τ61 => gd (inB v1 6) (gd (inB v1 6) (lt (s_t τ61 10 v1.toNatClampNeg (τ61 69 v1.toNatClampNeg)) (fun τ64 => lt ((v1 + (1 : Int32))) (fun x65 => k84 τ64 x65))))))))))))))))))))
def f_X9_undo_84L   : Nat → Mm → Int32 → Option (Int32 × Mm)
  | 0 => fun _ _ => none
  | n + 1 => f_X9_undo_84   (f_X9_undo_84L   n)
def f_X9_undo_0   (τ : Mm) : Option (Int32 × Mm) := if (τ 54 0) = (0 : Int32) then (some ((-3 : Int32), τ)) else (lt (s_t τ 14 0 (τ 55 0)) (fun τ2 => lt (s_t τ2 0 0 (τ2 56 0)) (fun τ3 => lt (s_t τ3 1 0 (τ3 57 0)) (fun τ4 => lt (s_t τ4 2 0 (τ4 58 0)) (fun τ5 => lt (s_t τ5 3 0 (τ5 59 0)) (fun τ6 => lt (s_t τ6 4 0 (τ6 60 0)) (fun τ7 => lt (s_t τ7 44 0 (τ7 61 0)) (fun τ8 => lt (s_t τ8 48 0 (τ8 62 0)) (fun τ9 => lt (s_t τ9 49 0 (τ9 63 0)) (fun τ10 => f_X9_undo_84L   FU τ10 (0 : Int32)))))))))))
def f_X9_undo (τ : Mm) : Option (Int32 × Mm) := f_X9_undo_0  τ
def f_X9_body_19 (p0 : Int32)  (τ : Mm) : Option (Mm) := lt (s_t τ 79 0 ((τ 79 0) + (1 : Int32))) (fun τ2 => some τ2)
def f_X9_body_0 (p0 : Int32)  (τ : Mm) : Option (Mm) := if (20 : Int32) ≤ (τ 79 0) then (f_X9_body_19 p0  τ) else (gd (inB (τ 79 0) 20) (lt (s_t τ 80 (τ 79 0).toNatClampNeg p0) (fun τ4 => f_X9_body_19 p0  τ4)))
def f_X9_body (τ : Mm) (p0 : Int32) : Option (Mm) := f_X9_body_0 p0 τ
def f_X9_masterClimbs_0 (p0 : Int32) (p1 : Int32)  (τ : Mm) : Option (Int32 × Mm) := bd (f_X9_body τ (10 : Int32)) (fun u1 => some ((p1 + p0), u1))
def f_X9_masterClimbs (τ : Mm) (p0 : Int32) (p1 : Int32) : Option (Int32 × Mm) := f_X9_masterClimbs_0 p0 p1 τ
def f_X9_climbsAct_40 (p0 : Int32) (p1 : Int32)  (τ : Mm) : Option (Int32 × Mm) := bd (f_X9_body τ (30 : Int32)) (fun u3 => bd (f_X9_masterClimbs u3 p0 (p1 * (3 : Int32))) (fun u4 => some (u4.1, u4.2)))
def f_X9_climbsAct_89 (p0 : Int32) (p1 : Int32)  (τ : Mm) : Option (Int32 × Mm) := bd (f_X9_masterClimbs τ p0 p1) (fun u6 => some (u6.1, u6.2))
def f_X9_climbsAct_0 (p0 : Int32) (p1 : Int32)  (τ : Mm) : Option (Int32 × Mm) := gd (inB p0 6) (if (τ 5 p0.toNatClampNeg) = (2 : Int32) then (f_X9_climbsAct_40 p0 p1  τ) else (if (τ 5 p0.toNatClampNeg) = (3 : Int32) then (f_X9_climbsAct_89 p0 p1  τ) else (if (τ 5 p0.toNatClampNeg) = (4 : Int32) then (bd (f_X9_body τ (50 : Int32)) (fun u8 => bd (f_X9_masterClimbs u8 p0 p1) (fun u9 => some ((-u9.1), u9.2)))) else (if (τ 5 p0.toNatClampNeg) = (5 : Int32) then (f_X9_climbsAct_40 p0 p1  τ) else (if (τ 5 p0.toNatClampNeg) = (6 : Int32) then (bd (f_X9_body τ (71 : Int32)) (fun u12 => bd (f_X9_masterClimbs u12 p0 p1) (fun u13 => gd (inB p0 6) (some ((u13.1 ^^^ (u13.2 6 p0.toNatClampNeg)), u13.2))))) else (f_X9_climbsAct_89 p0 p1  τ))))))
def f_X9_climbsAct (τ : Mm) (p0 : Int32) (p1 : Int32) : Option (Int32 × Mm) := f_X9_climbsAct_0 p0 p1 τ
def f_X9_masterYawns_0 (p0 : Int32) (p1 : Int32)  (τ : Mm) : Option (Int32 × Mm) := bd (f_X9_body τ (11 : Int32)) (fun u1 => bd (f_X9_climbsAct u1 p0 p1) (fun u2 => gd (inB p0 6) (some ((u2.1 - (u2.2 6 p0.toNatClampNeg)), u2.2))))
def f_X9_masterYawns (τ : Mm) (p0 : Int32) (p1 : Int32) : Option (Int32 × Mm) := f_X9_masterYawns_0 p0 p1 τ
def f_X9_dukeYawns_0 (p0 : Int32) (p1 : Int32)  (τ : Mm) : Option (Int32 × Mm) := bd (f_X9_body τ (20 : Int32)) (fun u1 => bd (f_X9_masterYawns u1 p0 p1) (fun u2 => some ((u2.1 ^^^ (6 : Int32)), u2.2)))
def f_X9_dukeYawns (τ : Mm) (p0 : Int32) (p1 : Int32) : Option (Int32 × Mm) := f_X9_dukeYawns_0 p0 p1 τ
def f_X9_yawnsAct_0 (p0 : Int32) (p1 : Int32)  (τ : Mm) : Option (Int32 × Mm) := gd (inB p0 6) (if (τ 5 p0.toNatClampNeg) = (1 : Int32) then (bd (f_X9_dukeYawns τ p0 p1) (fun u3 => some (u3.1, u3.2))) else (if (τ 5 p0.toNatClampNeg) = (4 : Int32) then (bd (f_X9_body τ (51 : Int32)) (fun u5 => bd (f_X9_dukeYawns u5 p0 (p1 + (1 : Int32))) (fun u6 => some (u6.1, u6.2)))) else (if (τ 5 p0.toNatClampNeg) = (6 : Int32) then (bd (f_X9_body τ (70 : Int32)) (fun u8 => bd (f_X9_masterYawns u8 p0 p1) (fun u9 => bd (f_X9_masterClimbs u9.2 p0 (2 : Int32)) (fun u10 => some ((u9.1 + u10.1), u10.2))))) else (bd (f_X9_masterYawns τ p0 p1) (fun u11 => some (u11.1, u11.2))))))
def f_X9_yawnsAct (τ : Mm) (p0 : Int32) (p1 : Int32) : Option (Int32 × Mm) := f_X9_yawnsAct_0 p0 p1 τ
def f_X9_masterTells_0 (p0 : Int32) (p1 : Int32)  (τ : Mm) : Option (Int32 × Mm) := bd (f_X9_body τ (12 : Int32)) (fun u1 => bd (f_X9_yawnsAct u1 p0 p1) (fun u2 => some ((u2.1 * (2 : Int32)), u2.2)))
def f_X9_masterTells (τ : Mm) (p0 : Int32) (p1 : Int32) : Option (Int32 × Mm) := f_X9_masterTells_0 p0 p1 τ
def f_X9_tellsAct_36 (p0 : Int32) (p1 : Int32)  (τ : Mm) : Option (Int32 × Mm) := bd (f_X9_body τ (40 : Int32)) (fun u3 => bd (f_X9_masterTells u3 p0 p1) (fun u4 => bd (f_X9_yawnsAct u4.2 p0 (1 : Int32)) (fun u5 => some ((u4.1 + u5.1), u5.2))))
def f_X9_tellsAct_73 (p0 : Int32) (p1 : Int32)  (τ : Mm) : Option (Int32 × Mm) := bd (f_X9_masterTells τ p0 p1) (fun u7 => some (u7.1, u7.2))
def f_X9_tellsAct_0 (p0 : Int32) (p1 : Int32)  (τ : Mm) : Option (Int32 × Mm) := gd (inB p0 6) (if (τ 5 p0.toNatClampNeg) = (3 : Int32) then (f_X9_tellsAct_36 p0 p1  τ) else (if (τ 5 p0.toNatClampNeg) = (4 : Int32) then (f_X9_tellsAct_73 p0 p1  τ) else (if (τ 5 p0.toNatClampNeg) = (5 : Int32) then (bd (f_X9_body τ (60 : Int32)) (fun u9 => bd (f_X9_masterTells u9 p0 (p1 - p0)) (fun u10 => some (u10.1, u10.2)))) else (if (τ 5 p0.toNatClampNeg) = (6 : Int32) then (f_X9_tellsAct_36 p0 p1  τ) else (f_X9_tellsAct_73 p0 p1  τ)))))
def f_X9_tellsAct (τ : Mm) (p0 : Int32) (p1 : Int32) : Option (Int32 × Mm) := f_X9_tellsAct_0 p0 p1 τ
def f_X9_act_0 (p0 : Int32) (p1 : Int32) (p2 : Int32)  (τ : Mm) : Option (Int32 × Mm) := lt (s_t τ 79 0 (0 : Int32)) (fun τ1 => bd (f_X9_isMaster τ1 p0) (fun u2 => if u2 = (0 : Int32) then (some ((0 : Int32), τ1)) else (bd (f_X9_in p1 (0 : Int32) (2 : Int32)) (fun u4 => if u4 = (0 : Int32) then (some ((0 : Int32), τ1)) else (if p1 = (0 : Int32) then (bd (f_X9_climbsAct τ1 p0 p2) (fun u10 => some (u10.1, u10.2))) else (if p1 = (1 : Int32) then (bd (f_X9_yawnsAct τ1 p0 p2) (fun u9 => some (u9.1, u9.2))) else (bd (f_X9_tellsAct τ1 p0 p2) (fun u8 => some (u8.1, u8.2)))))))))
def f_X9_act (τ : Mm) (p0 : Int32) (p1 : Int32) (p2 : Int32) : Option (Int32 × Mm) := f_X9_act_0 p0 p1 p2 τ
def f_X9_trace_0 (τ : Mm) (p0 : Int32)   : Option (Int32) := bd (f_X9_in p0 (0 : Int32) (19 : Int32)) (fun u1 => if u1 = (0 : Int32) then (some (-1 : Int32)) else (if (τ 79 0) ≤ p0 then (some (-1 : Int32)) else (gd (inB p0 20) (some (τ 80 p0.toNatClampNeg)))))
def f_X9_trace (τ : Mm) (p0 : Int32) : Option (Int32) := f_X9_trace_0 τ p0 
def f_X9_taken_72 (τ : Mm) (p0 : Int32) (p1 : Int32)  (v3 : Int32) : Option (Int32) := some v3
def f_X9_taken_61 (τ : Mm) (p0 : Int32) (p1 : Int32)  (v3 : Int32) : Option (Int32) := if p1 = (3 : Int32) then (if v3 = (6 : Int32) then (f_X9_taken_72 τ p0 p1  v3) else (some (-12 : Int32))) else (some (-12 : Int32))
def f_X9_taken_51 (τ : Mm) (p0 : Int32) (p1 : Int32)  (v3 : Int32) : Option (Int32) := if p1 = (2 : Int32) then (if v3 = (5 : Int32) then (f_X9_taken_72 τ p0 p1  v3) else (f_X9_taken_61 τ p0 p1  v3)) else (f_X9_taken_61 τ p0 p1  v3)
def f_X9_taken_0 (τ : Mm) (p0 : Int32) (p1 : Int32)   : Option (Int32) := bd (f_X9_in p1 (0 : Int32) (6 : Int32)) (fun u1 => if u1 = (0 : Int32) then (some (-2 : Int32)) else (bd (f_X9_isMaster τ p0) (fun u3 => if u3 = (0 : Int32) then (some (-11 : Int32)) else (gd (inB p0 6) (lt ((τ 5 p0.toNatClampNeg)) (fun x6 => if p1 = (0 : Int32) then (f_X9_taken_72 τ p0 p1  x6) else (if x6 = p1 then (f_X9_taken_72 τ p0 p1  x6) else (if p1 = (1 : Int32) then (if x6 = (4 : Int32) then (f_X9_taken_72 τ p0 p1  x6) else (f_X9_taken_51 τ p0 p1  x6)) else (f_X9_taken_51 τ p0 p1  x6)))))))))
def f_X9_taken (τ : Mm) (p0 : Int32) (p1 : Int32) : Option (Int32) := f_X9_taken_0 τ p0 p1 
def f_X9_count_0 (τ : Mm) (p0 : Int32)   : Option (Int32) := if p0 = (0 : Int32) then (some (τ 0 0)) else (if p0 = (1 : Int32) then (some (τ 13 0)) else (if p0 = (2 : Int32) then (some (τ 44 0)) else (if p0 = (3 : Int32) then (some (τ 48 0)) else (if p0 = (4 : Int32) then (some (τ 49 0)) else (if p0 = (5 : Int32) then (some (τ 15 0)) else (if p0 = (6 : Int32) then (some (τ 79 0)) else (some (-2 : Int32))))))))
def f_X9_count (τ : Mm) (p0 : Int32) : Option (Int32) := f_X9_count_0 τ p0 
def f_X9_tape_69 (p0 : Int32) (p1 : Int32) (p2 : Int32) (k69 : Mm → Mj → Int32 → Option (Int32 × Mm × Mj)) (τ : Mm) (η : Mj) (v4 : Int32) : Option (Int32 × Mm × Mj) := if (60 : Int32) ≤ v4 then (some ((1 : Int32), τ, η)) else (gd (inB (((60 : Int32) * p0) + v4) 360) (lt (s_l η 83 (((60 : Int32) * p0) + v4).toNatClampNeg (0 : Int64)) (fun η14 => lt ((v4 + (1 : Int32))) (fun x15 => k69 τ η14 x15))))
def f_X9_tape_69L (p0 : Int32) (p1 : Int32) (p2 : Int32)  : Nat → Mm → Mj → Int32 → Option (Int32 × Mm × Mj)
  | 0 => fun _ _ _ => none
  | n + 1 => f_X9_tape_69 p0 p1 p2  (f_X9_tape_69L p0 p1 p2  n)
def f_X9_tape_65 (p0 : Int32) (p1 : Int32) (p2 : Int32)  (τ : Mm) (η : Mj) (w1 : Int32) (w2 : Int32) : Option (Int32 × Mm × Mj) := gd (inB w1 6) (lt (s_t τ 82 w1.toNatClampNeg w2) (fun τ11 => f_X9_tape_69L p0 p1 p2  FU τ11 η (0 : Int32)))
def f_X9_tape_44 (p0 : Int32) (p1 : Int32) (p2 : Int32)  (τ : Mm) (η : Mj) : Option (Int32 × Mm × Mj) := gd (inB p0 6) (lt (s_t τ 81 p0.toNatClampNeg p1) (fun τ8 => if (0 : Int32) ≤ p1 then (f_X9_tape_65 p0 p1 p2  τ8 η p0 p2) else (f_X9_tape_65 p0 p1 p2  τ8 η p0 (0 : Int32))))
def f_X9_tape_33 (p0 : Int32) (p1 : Int32) (p2 : Int32)  (τ : Mm) (η : Mj) : Option (Int32 × Mm × Mj) := if p1 < (0 : Int32) then (f_X9_tape_44 p0 p1 p2  τ η) else (if (0 : Int32) ≤ p2 then (f_X9_tape_44 p0 p1 p2  τ η) else (some ((-14 : Int32), τ, η)))
def f_X9_tape_0 (p0 : Int32) (p1 : Int32) (p2 : Int32)  (τ : Mm) (η : Mj) : Option (Int32 × Mm × Mj) := bd (f_X9_isTape p0) (fun u1 => if u1 = (0 : Int32) then (some ((-1 : Int32), τ, η)) else (bd (f_X9_in p1 (-1 : Int32) (4 : Int32)) (fun u3 => if u3 = (0 : Int32) then (some ((-2 : Int32), τ, η)) else (if p1 < (0 : Int32) then (f_X9_tape_33 p0 p1 p2  τ η) else (if p2 ≤ (60 : Int32) then (f_X9_tape_33 p0 p1 p2  τ η) else (some ((-2 : Int32), τ, η)))))))
def f_X9_tape (τ : Mm) (η : Mj) (p0 : Int32) (p1 : Int32) (p2 : Int32) : Option (Int32 × Mm × Mj) := f_X9_tape_0 p0 p1 p2 τ η
def f_X9_narrow_0 (p0 : Int32) (p1 : Int64)   : Option (Int64) := if p0 = (0 : Int32) then (some p1.toInt32.toInt8.toInt32.toInt64) else (if p0 = (1 : Int32) then (some p1.toInt32.toInt16.toInt32.toInt64) else (if p0 = (2 : Int32) then (some p1.toInt32.toInt64) else (if p0 = (4 : Int32) then (if (lg_cmp p1 (0 : Int64)) = (0 : Int32) then (some (0 : Int64)) else (some (1 : Int64))) else (some p1))))
def f_X9_narrow (p0 : Int32) (p1 : Int64) : Option (Int64) := f_X9_narrow_0 p0 p1 
def f_X9_item_0 (τ : Mm) (p0 : Int32) (p1 : Int32) (p2 : Int64)  (η : Mj) : Option (Int32 × Mj) := bd (f_X9_isTape p0) (fun u1 => if u1 = (0 : Int32) then (some ((-1 : Int32), η)) else (gd (inB p0 6) (if (0 : Int32) ≤ (τ 81 p0.toNatClampNeg) then (gd (inB p0 6) (bd (f_X9_in p1 (0 : Int32) ((τ 82 p0.toNatClampNeg) - (1 : Int32))) (fun u6 => if u6 = (0 : Int32) then (some ((-13 : Int32), η)) else (gd (inB p0 6) (bd (f_X9_narrow (τ 81 p0.toNatClampNeg) p2) (fun u9 => gd (inB (((60 : Int32) * p0) + p1) 360) (lt (s_l η 83 (((60 : Int32) * p0) + p1).toNatClampNeg u9) (fun η11 => some ((1 : Int32), η11))))))))) else (some ((-11 : Int32), η)))))
def f_X9_item (τ : Mm) (η : Mj) (p0 : Int32) (p1 : Int32) (p2 : Int64) : Option (Int32 × Mj) := f_X9_item_0 τ p0 p1 p2 η
def f_X9_read_34 (τ : Mm) (η : Mj) (p0 : Int32) (p1 : Int32)   : Option (Int64) := some (-9223372036854775808 : Int64)
def f_X9_read_0 (τ : Mm) (η : Mj) (p0 : Int32) (p1 : Int32)   : Option (Int64) := bd (f_X9_isTape p0) (fun u1 => if u1 = (0 : Int32) then (f_X9_read_34 τ η p0 p1  ) else (gd (inB p0 6) (if (τ 81 p0.toNatClampNeg) < (0 : Int32) then (f_X9_read_34 τ η p0 p1  ) else (gd (inB p0 6) (bd (f_X9_in p1 (0 : Int32) ((τ 82 p0.toNatClampNeg) - (1 : Int32))) (fun u6 => if u6 = (0 : Int32) then (f_X9_read_34 τ η p0 p1  ) else (gd (inB (((60 : Int32) * p0) + p1) 360) (some (η 83 (((60 : Int32) * p0) + p1).toNatClampNeg)))))))))
def f_X9_read (τ : Mm) (η : Mj) (p0 : Int32) (p1 : Int32) : Option (Int64) := f_X9_read_0 τ η p0 p1 
def f_X9_shift_141 (τ : Mm) (p0 : Int32) (p1 : Int32) (p2 : Int32) (p3 : Int32) (p4 : Int32) (k141 : Mj → Int32 → Option (Int32 × Mj)) (η : Mj) (v6 : Int32) : Option (Int32 × Mj) := if p4 ≤ v6 then (some (p4, η)) else (gd (inB v6 60) (gd (inB ((((60 : Int32) * p2) + p3) + v6) 360) (lt (s_l η 83 ((((60 : Int32) * p2) + p3) + v6).toNatClampNeg (η 84 v6.toNatClampNeg)) (fun η23 => lt ((v6 + (1 : Int32))) (fun x24 => k141 η23 x24)))))
def f_X9_shift_141L (τ : Mm) (p0 : Int32) (p1 : Int32) (p2 : Int32) (p3 : Int32) (p4 : Int32)  : Nat → Mj → Int32 → Option (Int32 × Mj)
  | 0 => fun _ _ => none
  | n + 1 => f_X9_shift_141 τ p0 p1 p2 p3 p4  (f_X9_shift_141L τ p0 p1 p2 p3 p4  n)
def f_X9_shift_104 (τ : Mm) (p0 : Int32) (p1 : Int32) (p2 : Int32) (p3 : Int32) (p4 : Int32) (k104 : Mj → Int32 → Option (Int32 × Mj)) (η : Mj) (v6 : Int32) : Option (Int32 × Mj) := if p4 ≤ v6 then (f_X9_shift_141L τ p0 p1 p2 p3 p4  FU η (0 : Int32)) else (gd (inB ((((60 : Int32) * p0) + p1) + v6) 360) (gd (inB v6 60) (lt (s_l η 84 v6.toNatClampNeg (η 83 ((((60 : Int32) * p0) + p1) + v6).toNatClampNeg)) (fun η27 => lt ((v6 + (1 : Int32))) (fun x28 => k104 η27 x28)))))
def f_X9_shift_104L (τ : Mm) (p0 : Int32) (p1 : Int32) (p2 : Int32) (p3 : Int32) (p4 : Int32)  : Nat → Mj → Int32 → Option (Int32 × Mj)
  | 0 => fun _ _ => none
  | n + 1 => f_X9_shift_104 τ p0 p1 p2 p3 p4  (f_X9_shift_104L τ p0 p1 p2 p3 p4  n)
def f_X9_shift_0 (τ : Mm) (p0 : Int32) (p1 : Int32) (p2 : Int32) (p3 : Int32) (p4 : Int32)  (η : Mj) : Option (Int32 × Mj) := bd (f_X9_isTape p0) (fun u1 => if u1 = (0 : Int32) then (some ((-1 : Int32), η)) else (bd (f_X9_isTape p2) (fun u3 => if u3 = (0 : Int32) then (some ((-1 : Int32), η)) else (gd (inB p0 6) (if (τ 81 p0.toNatClampNeg) < (0 : Int32) then (some ((-11 : Int32), η)) else (gd (inB p2 6) (if (0 : Int32) ≤ (τ 81 p2.toNatClampNeg) then (gd (inB p0 6) (gd (inB p2 6) (if (τ 81 p0.toNatClampNeg) = (τ 81 p2.toNatClampNeg) then (if p4 < (0 : Int32) then (some ((-13 : Int32), η)) else (if p1 < (0 : Int32) then (some ((-13 : Int32), η)) else (if p3 < (0 : Int32) then (some ((-13 : Int32), η)) else (gd (inB p0 6) (if ((τ 82 p0.toNatClampNeg) - p4) < p1 then (some ((-13 : Int32), η)) else (gd (inB p2 6) (if p3 ≤ ((τ 82 p2.toNatClampNeg) - p4) then (f_X9_shift_104L τ p0 p1 p2 p3 p4  FU η (0 : Int32)) else (some ((-13 : Int32), η))))))))) else (some ((-12 : Int32), η))))) else (some ((-11 : Int32), η)))))))))
def f_X9_shift (τ : Mm) (η : Mj) (p0 : Int32) (p1 : Int32) (p2 : Int32) (p3 : Int32) (p4 : Int32) : Option (Int32 × Mj) := f_X9_shift_0 τ p0 p1 p2 p3 p4 η
