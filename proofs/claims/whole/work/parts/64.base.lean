/-! PURE: numbers (the first rows began as kit/laws/BITS.to-paste) -/
/-! rows on bits, shifts and unsigned numbers, to paste: each family out of a closed proof of our own, whole with what it rests on; each by itself clean at Lean in its own claim (generation 39, form 5). Take a family whole -/
/-! ===== Int32 by its bits: bt x i ===== -/
def bt (x : Int32) (i : Nat) : Bool := x.toBitVec.getLsbD i
theorem b_ext {x y : Int32} (h : ∀ i, i < 32 → bt x i = bt y i) : x = y := Int32.toBitVec_inj.mp (BitVec.eq_of_getLsbD_eq (fun i hi => h i hi))
theorem b_or (x y : Int32) (i : Nat) : bt (x ||| y) i = (bt x i || bt y i) := by unfold bt; rw [Int32.toBitVec_or, BitVec.getLsbD_or]
theorem b_and (x y : Int32) (i : Nat) : bt (x &&& y) i = (bt x i && bt y i) := by unfold bt; rw [Int32.toBitVec_and, BitVec.getLsbD_and]
theorem b_xor (x y : Int32) (i : Nat) : bt (x ^^^ y) i = (bt x i ^^ bt y i) := by unfold bt; rw [Int32.toBitVec_xor, BitVec.getLsbD_xor]
theorem b_big {x : Int32} {i : Nat} (h : 32 ≤ i) : bt x i = false := BitVec.getLsbD_of_ge _ _ h
theorem b_255 (i : Nat) : bt 255 i = decide (i < 8) := by
  rcases Nat.lt_or_ge i 32 with h | h
  · exact (by decide +kernel : ∀ i, i < 32 → bt 255 i = decide (i < 8)) i h
  · rw [b_big h, decide_eq_false (by omega)]
theorem b_65535 (i : Nat) : bt 65535 i = decide (i < 16) := by
  rcases Nat.lt_or_ge i 32 with h | h
  · exact (by decide +kernel : ∀ i, i < 32 → bt 65535 i = decide (i < 16)) i h
  · rw [b_big h, decide_eq_false (by omega)]
theorem b_m1 : ∀ i, i < 32 → bt (-1) i = true := by decide +kernel
theorem b_0 (i : Nat) : bt 0 i = false := BitVec.getLsbD_zero
theorem bsl_n : ∀ n, n < 32 → ((nI n &&& 31).toBitVec.smod 32).toNat = n := by decide +kernel
theorem s_u : ∀ n, n < 32 → (((nI n).toUInt32 &&& Int32.toUInt32 31).toBitVec % 32).toNat = n := by decide +kernel
theorem b_shl (n : Nat) (hn : n < 32) (x : Int32) {i : Nat} (hi : i < 32) : bt (x <<< (nI n &&& 31)) i = (decide (n ≤ i) && bt x (i - n)) := by
  unfold bt
  rw [Int32.toBitVec_shiftLeft]
  show (x.toBitVec <<< ((nI n &&& 31).toBitVec.smod 32).toNat).getLsbD i = _
  rw [bsl_n n hn, BitVec.getLsbD_shiftLeft]
  rcases Nat.lt_or_ge i n with h | h
  · simp [h, Nat.not_le.mpr h]
  · simp [hi, h, Nat.not_lt.mpr h]
theorem b_ushr (n : Nat) (hn : n < 32) (x : Int32) (i : Nat) : bt ((x.toUInt32 >>> ((nI n).toUInt32 &&& Int32.toUInt32 31)).toInt32) i = bt x (n + i) := by
  show (x.toUInt32 >>> ((nI n).toUInt32 &&& Int32.toUInt32 31)).toBitVec.getLsbD i = x.toUInt32.toBitVec.getLsbD (n + i)
  rw [UInt32.toBitVec_shiftRight]
  show (x.toUInt32.toBitVec >>> (((nI n).toUInt32 &&& Int32.toUInt32 31).toBitVec % 32).toNat).getLsbD i = _
  rw [s_u n hn, BitVec.getLsbD_ushiftRight]
theorem b_sshr (n : Nat) (hn : n < 32) (x : Int32) {i : Nat} (hi : i < 32) : bt (x >>> (nI n &&& 31)) i = if n + i < 32 then bt x (n + i) else bt x 31 := by
  unfold bt
  rw [Int32.toBitVec_shiftRight]
  show (x.toBitVec.sshiftRight ((nI n &&& 31).toBitVec.smod 32).toNat).getLsbD i = _
  rw [bsl_n n hn, BitVec.getLsbD_sshiftRight, BitVec.msb_eq_getLsbD_last]
  simp [hi]
theorem b_shl8 (x : Int32) {i : Nat} (hi : i < 32) : bt (x <<< ((8 : Int32) &&& 31)) i = (decide (8 ≤ i) && bt x (i - 8)) := b_shl 8 (by omega) x hi
theorem b_shl16 (x : Int32) {i : Nat} (hi : i < 32) : bt (x <<< ((16 : Int32) &&& 31)) i = (decide (16 ≤ i) && bt x (i - 16)) := b_shl 16 (by omega) x hi
theorem b_shl24 (x : Int32) {i : Nat} (hi : i < 32) : bt (x <<< ((24 : Int32) &&& 31)) i = (decide (24 ≤ i) && bt x (i - 24)) := b_shl 24 (by omega) x hi
theorem b_sshr8 (x : Int32) {i : Nat} (hi : i < 32) : bt (x >>> ((8 : Int32) &&& 31)) i = if 8 + i < 32 then bt x (8 + i) else bt x 31 := b_sshr 8 (by omega) x hi
/-! ===== nI under and, xor, >>>, one bit, 65535 ===== -/
theorem p_lt {a b : Int32} : a < b ↔ a.toInt < b.toInt := Int32.lt_iff_toInt_lt
theorem p_le {a b : Int32} : a ≤ b ↔ a.toInt ≤ b.toInt := Int32.le_iff_toInt_le
theorem p_eq {a b : Int32} : a = b ↔ a.toInt = b.toInt := Int32.toInt_inj.symm
theorem p_bm {x : Int} (h1 : -2147483648 ≤ x) (h2 : x < 2147483648) : x.bmod (2 ^ 32) = x := by
  rw [Int.bmod_eq_of_le] <;> omega
theorem p_bml {x : Int} (h1 : -9223372036854775808 ≤ x) (h2 : x < 9223372036854775808) : x.bmod (2 ^ 64) = x := by
  rw [Int.bmod_eq_of_le] <;> omega
theorem p_add {a b : Int32} (h1 : -2147483648 ≤ a.toInt + b.toInt) (h2 : a.toInt + b.toInt < 2147483648) : (a + b).toInt = a.toInt + b.toInt := by
  rw [Int32.toInt_add, p_bm h1 h2]
theorem p_sub {a b : Int32} (h1 : -2147483648 ≤ a.toInt - b.toInt) (h2 : a.toInt - b.toInt < 2147483648) : (a - b).toInt = a.toInt - b.toInt := by
  rw [Int32.toInt_sub, p_bm h1 h2]
theorem p_mul {a b : Int32} (h1 : -2147483648 ≤ a.toInt * b.toInt) (h2 : a.toInt * b.toInt < 2147483648) : (a * b).toInt = a.toInt * b.toInt := by
  rw [Int32.toInt_mul, p_bm h1 h2]
theorem p_rng (a : Int32) : -2147483648 ≤ a.toInt ∧ a.toInt < 2147483648 := ⟨Int32.le_toInt a, Int32.toInt_lt a⟩
theorem p_nat {x : Int32} (h : 0 ≤ x.toInt) : x = nI x.toInt.toNat := by
  rw [p_eq, nI_toInt (by have := (p_rng x).2; omega)]
  omega
theorem p_cl (x : Int32) : x.toNatClampNeg = x.toInt.toNat := rfl
theorem p_inB {i : Int32} {n : Nat} : inB i n = decide (0 ≤ i.toInt ∧ i.toInt < (n : Int)) := rfl
theorem p_inT {i : Int32} {n : Nat} (h1 : 0 ≤ i.toInt) (h2 : i.toInt < (n : Int)) : inB i n = true := decide_eq_true ⟨h1, h2⟩
theorem p_inN {i n : Nat} (h : i < n) (hn : n < 2 ^ 31) : inB (nI i) n = true := p_inT (by rw [nI_toInt (by omega)]; omega) (by rw [nI_toInt (by omega)]; omega)
theorem gd_t {β : Type} {x : Option β} : gd true x = x := rfl
theorem gd_of {β : Type} {b : Bool} {x : Option β} (h : b = true) : gd b x = x := by subst h; rfl
theorem lt_d {α β : Type} {v : α} {k : α → β} : lt v k = k v := rfl
theorem bd_s {α β : Type} {a : α} {k : α → Option β} : bd (some a) k = k a := rfl
theorem bd_of {α β : Type} {x : Option α} {a : α} {k : α → Option β} (h : x = some a) : bd x k = k a := by subst h; rfl
theorem st_eq {τ : Mm} {k i : Nat} {x : Int32} : s_t τ k i x k i = x := by simp [s_t, upd]
theorem st_ne {τ : Mm} {k i j : Nat} {x : Int32} (h : j ≠ k) : s_t τ k i x j = τ j := by simp [s_t, h]
theorem st_k {τ : Mm} {k i q : Nat} {x : Int32} : s_t τ k i x k q = if q = i then x else τ k q := by simp [s_t, upd]
theorem st_v {τ : Mm} {k i j q : Nat} {x : Int32} : s_t τ k i x j q = if j = k ∧ q = i then x else τ j q := by
  by_cases h : j = k
  · subst h
    by_cases h2 : q = i <;> simp [s_t, upd, h2]
  · simp [s_t, h]
def b2 (p : Prop) [Decidable p] : Int32 := if p then 1 else 0
theorem b2_0 {p : Prop} [Decidable p] : b2 p = 0 ↔ ¬ p := by
  unfold b2
  by_cases h : p <;> simp [h]
theorem b2_t {p : Prop} [Decidable p] (h : p) : b2 p = 1 := if_pos h
theorem b2_f {p : Prop} [Decidable p] (h : ¬ p) : b2 p = 0 := if_neg h
theorem b2_c {p q : Prop} [Decidable p] [Decidable q] (h : p ↔ q) : b2 p = b2 q := by
  by_cases hp : p
  · rw [b2_t hp, b2_t (h.mp hp)]
  · rw [b2_f hp, b2_f (fun z => hp (h.mpr z))]
theorem ite_some {α : Type} {c : Prop} [Decidable c] {a b : α} : (if c then some a else some b) = some (if c then a else b) := by by_cases h : c <;> simp [h]
theorem b_1 {i : Nat} : bt 1 i = decide (i = 0) := by
  by_cases h : i < 32
  · exact (by decide +kernel : ∀ i, i < 32 → bt 1 i = decide (i = 0)) i h
  · rw [b_big (by omega)]
    simp
    omega
/-- the one bit that is asked for -/
theorem p_bit {x : Int32} {k : Nat} (hk : k < 32) : (x >>> (nI k &&& 31)) &&& 1 = if bt x k = true then 1 else 0 := by
  refine b_ext (fun i hi => ?_)
  rw [b_and, b_sshr k hk x hi, b_1]
  by_cases h0 : i = 0
  · subst h0
    by_cases hb : bt x k = true
    · simp [hb, hk, b_1]
    · simp [hb, hk, b_0]
  · by_cases hb : bt x k = true
    · simp [hb, h0, b_1]
    · simp [hb, h0, b_0]
theorem p_sbit {k : Nat} (hk : k < 32) {i : Nat} (hi : i < 32) : bt ((1 : Int32) <<< (nI k &&& 31)) i = decide (i = k) := by
  rw [b_shl k hk 1 hi, b_1]
  by_cases h : i = k
  · subst h; simp
  · by_cases h2 : k ≤ i
    · simp [h, h2]; omega
    · simp [h, h2]
/-- a bit set, a bit put out -/
theorem p_on {x : Int32} {k : Nat} (hk : k < 32) {i : Nat} (hi : i < 32) : bt (x ||| ((1 : Int32) <<< (nI k &&& 31))) i = (bt x i || decide (i = k)) := by rw [b_or, p_sbit hk hi]
theorem p_off {x : Int32} {k : Nat} (hk : k < 32) {i : Nat} (hi : i < 32) : bt (x &&& (((1 : Int32) <<< (nI k &&& 31)) ^^^ (-1))) i = (bt x i && !decide (i = k)) := by
  rw [b_and, b_xor, p_sbit hk hi, b_m1 i hi]
  cases bt x i <;> simp
/-- within -/
theorem p_isB {p : Prop} [Decidable p] : isB (b2 p) = true := by
  unfold b2
  by_cases h : p
  · rw [if_pos h]; rfl
  · rw [if_neg h]; rfl
theorem p_within (n : Int64) (k : Int32) : f_X8_within n k = some (b2 (0 ≤ n.toInt ∧ n.toInt < k.toInt)) := by
  unfold f_X8_within f_X8_within_0
  simp only [lg_cmp_lt, lg_cmp_ge, Int64.lt_iff_toInt_lt, Int64.le_iff_toInt_le, Int32.toInt_toInt64]
  rw [show (0 : Int64).toInt = 0 from rfl]
  by_cases h1 : n.toInt < 0
  · rw [if_pos h1, b2_f (by omega)]
  · rw [if_neg h1]
    by_cases h2 : k.toInt ≤ n.toInt
    · rw [if_pos h2, b2_f (by omega)]
    · rw [if_neg h2, b2_t (by omega)]
theorem p_in (v a b : Int32) : f_X9_in v a b = some (b2 (a.toInt ≤ v.toInt ∧ v.toInt ≤ b.toInt)) := by
  unfold f_X9_in f_X9_in_0
  by_cases h1 : v.toInt < a.toInt
  · rw [if_pos (p_lt.mpr h1), b2_f (by omega)]
  · rw [if_neg (fun q => h1 (p_lt.mp q))]
    by_cases h2 : b.toInt < v.toInt
    · rw [if_pos (p_lt.mpr h2), b2_f (by omega)]
    · rw [if_neg (fun q => h2 (p_lt.mp q)), b2_t (by omega)]
theorem p_isM8 {σ : Ms} {M : Nat} (hM : M < 2 ^ 31) (h : σ 1 12 0 = nI M) (n : Int64) : f_X8_isMaster σ n = some (b2 (0 ≤ n.toInt ∧ n.toInt < (M : Int))) := by
  unfold f_X8_isMaster f_X8_isMaster_0
  rw [p_within, bd_s, gd_of p_isB, h, nI_toInt hM]
theorem p_isM9 {ρ : Mm} {M : Nat} (hM : M < 2 ^ 30) (h : ρ 0 0 = nI M) (p : Int32) : f_X9_isMaster ρ p = some (b2 (0 ≤ p.toInt ∧ p.toInt < (M : Int))) := by
  unfold f_X9_isMaster f_X9_isMaster_0
  have e : (ρ 0 0 - 1 : Int32).toInt = (M : Int) - 1 := by
    rw [h, p_sub] <;> rw [nI_toInt (by omega)] <;> simp <;> omega
  rw [p_in, bd_s, gd_of p_isB, e]
  refine congrArg some (b2_c ?_)
  rw [show (0 : Int32).toInt = 0 from rfl]
  omega
theorem p_isF (p : Int32) : f_X9_isFloor p = some (b2 (0 ≤ p.toInt ∧ p.toInt < 10)) := by
  unfold f_X9_isFloor f_X9_isFloor_0
  rw [p_in, bd_s, gd_of p_isB]
  refine congrArg some (b2_c ?_)
  rw [show (0 : Int32).toInt = 0 from rfl, show (9 : Int32).toInt = 9 from rfl]
  omega
theorem p_isMi (p : Int32) : f_X9_isMinutes p = some (b2 (0 ≤ p.toInt ∧ p.toInt < 61)) := by
  unfold f_X9_isMinutes f_X9_isMinutes_0
  rw [p_in, bd_s, gd_of p_isB]
  refine congrArg some (b2_c ?_)
  rw [show (0 : Int32).toInt = 0 from rfl, show (60 : Int32).toInt = 60 from rfl]
  omega
theorem p_has {x : Int32} {k : Nat} (hk : k < 32) : f_X9_has x (nI k) = some (b2 (bt x k = true)) := by
  unfold f_X9_has f_X9_has_0
  rw [p_bit hk]
  by_cases h : bt x k = true
  · rw [if_pos h, if_pos rfl, b2_t h]
  · rw [if_neg h, if_neg (by decide), b2_f h]
theorem p_rung {τ : Mm} {k : Nat} (hk : k < 32) : f_X1_isRung τ (nI k) = some (b2 (bt (τ 13 0) k = true)) := by
  unfold f_X1_isRung f_X1_isRung_0
  rw [p_bit hk]
  by_cases h : bt (τ 13 0) k = true
  · rw [if_pos h, if_neg (by decide), b2_t h]
  · rw [if_neg h, if_pos rfl, b2_f h]
/-- the first place with a property, from i on, k places; -5: none -/
def ff (b : Nat → Bool) : Nat → Nat → Int32
  | _, 0 => -5
  | i, k + 1 => if b i = true then nI i else ff b (i + 1) k
theorem ff_c {b c : Nat → Bool} : ∀ (k i : Nat), (∀ p, i ≤ p → p < i + k → b p = c p) → ff b i k = ff c i k := by
  intro k
  induction k with
  | zero => intro i _; rfl
  | succ k ih =>
    intro i h
    unfold ff
    rw [h i (Nat.le_refl _) (by omega), ih (i + 1) (fun p h1 h2 => h p (by omega) (by omega))]
theorem ff_r {b : Nat → Bool} : ∀ (k i : Nat), ff b i k = -5 ∨ ∃ p, i ≤ p ∧ p < i + k ∧ ff b i k = nI p ∧ b p = true := by
  intro k
  induction k with
  | zero => intro i; exact Or.inl rfl
  | succ k ih =>
    intro i
    unfold ff
    by_cases h : b i = true
    · rw [if_pos h]; exact Or.inr ⟨i, Nat.le_refl _, by omega, rfl, h⟩
    · rw [if_neg h]
      rcases ih (i + 1) with h1 | ⟨p, h1, h2, h3, h4⟩
      · exact Or.inl h1
      · exact Or.inr ⟨p, by omega, by omega, h3, h4⟩
theorem FU_e : FU = 4000 := rfl
theorem p_nle {M i : Nat} (hM : M < 2 ^ 31) (h : i < M) : ¬ nI M ≤ nI i := nI_ge h hM
theorem p_whoG {τ : Mm} {x : Int32} {M : Nat} (hM : M ≤ 6) (h : τ 12 0 = nI M) : ∀ (k i n : Nat), i + k = M → k < n → f_X1_whoseGoal_2L τ x n (nI i) = some (ff (fun p => decide (τ 5 p = x)) i k) := by
  intro k
  induction k with
  | zero =>
    intro i n hi hn
    obtain ⟨n, rfl⟩ : ∃ j, n = j + 1 := ⟨n - 1, by omega⟩
    show f_X1_whoseGoal_2 τ x _ _ = _
    unfold f_X1_whoseGoal_2
    rw [h, show i = M by omega, if_pos (nI_le (Nat.le_refl _) (by omega))]
    rfl
  | succ k ih =>
    intro i n hi hn
    obtain ⟨n, rfl⟩ : ∃ j, n = j + 1 := ⟨n - 1, by omega⟩
    show f_X1_whoseGoal_2 τ x _ _ = _
    unfold f_X1_whoseGoal_2 ff
    rw [h, if_neg (p_nle (by omega) (by omega)), gd_of (p_inN (by omega) (by decide)), nI_clamp (by omega)]
    by_cases he : τ 5 i = x
    · rw [if_pos he, if_pos (by simp [he])]
    · rw [if_neg he, if_neg (by simp [he]), lt_d, nI_1, ih (i + 1) n (by omega) (by omega)]
theorem p_whoseGoal {τ : Mm} {x : Int32} {M : Nat} (hM : M ≤ 6) (h : τ 12 0 = nI M) : f_X1_whoseGoal τ x = some (ff (fun p => decide (τ 5 p = x)) 0 M) := by
  show f_X1_whoseGoal_2L τ x FU (nI 0) = _
  exact p_whoG hM h M 0 FU (by omega) (by rw [FU_e]; omega)
