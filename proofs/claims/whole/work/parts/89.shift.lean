/-! PURE: items moved, in both -/
section CK
variable {nh : Nat} {σ : Ms} {ρ : Mm} {ℓ : Mz} {η : Mj}
theorem p_run8 {τ : Mm} {len : Nat} (hl : len ≤ 60) (h : τ 2 0 = nI len) (p0 p1 : Int32) : f_X6_hasRun τ p0 p1 = some (b2 (0 ≤ p1.toInt ∧ 0 ≤ p0.toInt ∧ p0.toInt + p1.toInt ≤ (len : Int))) := by
  have r1 := p_rng p1
  unfold f_X6_hasRun f_X6_hasRun_0
  rw [h]
  by_cases h1 : p1.toInt < 0
  · rw [if_pos (p_lt.mpr h1), b2_f (by omega)]
  · rw [if_neg (fun q => h1 (p_lt.mp q))]
    by_cases h2 : p0.toInt < 0
    · rw [if_pos (p_lt.mpr h2), b2_f (by omega)]
    · rw [if_neg (fun q => h2 (p_lt.mp q))]
      have e : (nI len - p1).toInt = (len : Int) - p1.toInt := by
        rw [p_sub] <;> rw [nI_toInt (by omega)] <;> omega
      by_cases h3 : (len : Int) - p1.toInt < p0.toInt
      · rw [if_pos (p_lt.mpr (by rw [e]; exact h3)), b2_f (by omega)]
      · rw [if_neg (fun q => h3 (by have := p_lt.mp q; rw [e] at this; exact this)), b2_t (by omega)]
theorem m_sh2 {ρ : Mm} {t i o j n : Nat} (ho : o < 6) (hj : j + n ≤ 60) : ∀ (k q fu : Nat) (η : Mj), q + k = n → k < fu → ∃ η2 : Mj, f_X9_shift_141L ρ (nI t) (nI i) (nI o) (nI j) (nI n) fu η (nI q) = some (nI n, η2) ∧ ∀ x, η2 83 x = if 60 * o + j + q ≤ x ∧ x < 60 * o + j + n then η 84 (x - (60 * o + j)) else η 83 x := by
  intro k
  induction k with
  | zero =>
    intro q fu η hq hf
    obtain ⟨fu, rfl⟩ : ∃ j, fu = j + 1 := ⟨fu - 1, by omega⟩
    refine ⟨η, ?_, fun x => (if_neg (by omega)).symm⟩
    show f_X9_shift_141 _ _ _ _ _ _ _ _ _ = _
    unfold f_X9_shift_141
    rw [if_pos (nI_le (by omega) (by omega))]
  | succ k ih =>
    intro q fu η hq hf
    obtain ⟨fu, rfl⟩ : ∃ j, fu = j + 1 := ⟨fu - 1, by omega⟩
    obtain ⟨η2, b1, b2⟩ := ih (q + 1) fu (s_l η 83 (60 * o + j + q) (η 84 q)) (by omega) (by omega)
    refine ⟨η2, ?_, fun x => ?_⟩
    · show f_X9_shift_141 _ _ _ _ _ _ _ _ _ = _
      unfold f_X9_shift_141
      rw [if_neg (nI_ge (by omega) (by omega)), z_in (by omega) (by decide), show (60 : Int32) = nI 60 from rfl, pk_mul, nI_add, nI_add, z_in (by omega) (by decide), nI_clamp (by omega), nI_clamp (by omega), lt_d, lt_d, nI_1]
      exact b1
    · rw [b2 x, sl_v, sl_v]
      by_cases h : 60 * o + j + (q + 1) ≤ x ∧ x < 60 * o + j + n
      · rw [if_pos h, if_neg (by omega), if_pos (by omega)]
      · rw [if_neg h]
        by_cases h2 : x = 60 * o + j + q
        · rw [if_pos ⟨rfl, h2⟩, if_pos (by omega)]
          congr 1
          omega
        · rw [if_neg (fun z => h2 z.2), if_neg (by omega)]
theorem m_sh1 {ρ : Mm} {t i o j n : Nat} (ht : t < 6) (hi : i + n ≤ 60) : ∀ (k q fu : Nat) (η : Mj), q + k = n → k < fu → ∃ η1 : Mj, f_X9_shift_104L ρ (nI t) (nI i) (nI o) (nI j) (nI n) fu η (nI q) = f_X9_shift_141L ρ (nI t) (nI i) (nI o) (nI j) (nI n) FU η1 0 ∧ η1 83 = η 83 ∧ ∀ x, x < n → η1 84 x = if q ≤ x then η 83 (60 * t + i + x) else η 84 x := by
  intro k
  induction k with
  | zero =>
    intro q fu η hq hf
    obtain ⟨fu, rfl⟩ : ∃ j, fu = j + 1 := ⟨fu - 1, by omega⟩
    refine ⟨η, ?_, rfl, fun x hx => (if_neg (by omega)).symm⟩
    show f_X9_shift_104 _ _ _ _ _ _ _ _ _ = _
    unfold f_X9_shift_104
    rw [if_pos (nI_le (by omega) (by omega))]
  | succ k ih =>
    intro q fu η hq hf
    obtain ⟨fu, rfl⟩ : ∃ j, fu = j + 1 := ⟨fu - 1, by omega⟩
    obtain ⟨η1, b1, b2, b3⟩ := ih (q + 1) fu (s_l η 84 q (η 83 (60 * t + i + q))) (by omega) (by omega)
    refine ⟨η1, ?_, ?_, fun x hx => ?_⟩
    · show f_X9_shift_104 _ _ _ _ _ _ _ _ _ = _
      unfold f_X9_shift_104
      rw [if_neg (nI_ge (by omega) (by omega)), show (60 : Int32) = nI 60 from rfl, pk_mul, nI_add, nI_add, z_in (by omega) (by decide), z_in (by omega) (by decide), nI_clamp (by omega), nI_clamp (by omega), lt_d, lt_d, nI_1]
      exact b1
    · rw [b2]
      funext x
      rw [sl_v, if_neg (by omega)]
    · rw [b3 x hx, sl_v, sl_v]
      by_cases h : q + 1 ≤ x
      · rw [if_pos h, if_neg (by omega), if_pos (by omega)]
      · rw [if_neg h]
        by_cases h2 : x = q
        · rw [if_pos ⟨rfl, h2⟩, if_pos (by omega), h2]
        · rw [if_neg (fun z => h2 z.2), if_neg (by omega)]
theorem S_shift (R : RX nh σ ρ ℓ η) (a b c d e : Int32) : SMl nh σ ρ ℓ (f_X8_shift σ ℓ a b c d e) (f_X9_shift ρ η a b c d e) := by
  have same : ∀ r : Int32, SMl nh σ ρ ℓ (some (r, ℓ)) (some (r, η)) := fun r => ⟨r, ℓ, η, rfl, rfl, R, rfl⟩
  unfold f_X8_shift f_X8_shift_0 f_X9_shift f_X9_shift_0
  rw [q_w a 6 6 rfl, q_T, bd_s, bd_s]
  rcases bB_c a (n := 6) (by omega) with ⟨h, -⟩ | ⟨t, ht, rfl, h⟩
  · rw [h]; simp only [i00]; exact same _
  rw [h]; simp only [i10]
  rw [q_w c 6 6 rfl, q_T, bd_s, bd_s]
  rcases bB_c c (n := 6) (by omega) with ⟨h, -⟩ | ⟨o, ho, rfl, h⟩
  · rw [h]; simp only [i00]; exact same _
  rw [h]; simp only [i10]
  have gt : ∀ {β : Type} {x : Option β}, gd (inB (nI t) 6) x = x := z_in (by omega) (by decide)
  have ct : (nI t).toNatClampNeg = t := nI_clamp (by omega)
  have go : ∀ {β : Type} {x : Option β}, gd (inB (nI o) 6) x = x := z_in (by omega) (by decide)
  have co : (nI o).toNatClampNeg = o := nI_clamp (by omega)
  obtain ⟨⟨lt', l1, l2, l3, l4, l5⟩, l6⟩ := R.2.2.2.2.2.2 t ht
  obtain ⟨⟨lo, m1, m2, m3, m4, m5⟩, m6⟩ := R.2.2.2.2.2.2 o ho
  simp only [gt, ct, go, co]
  rw [l4, m4]
  have s1 := sm_m1 (x := ρ 81 t) (l5.imp (fun z => z.1) id)
  have s2 := sm_m1 (x := ρ 81 o) (m5.imp (fun z => z.1) id)
  by_cases ht1 : ρ 81 t = -1
  · rw [if_pos ht1, if_pos (s1.1.mp ht1)]; exact same _
  rw [if_neg ht1, if_neg (fun q => ht1 (s1.1.mpr q))]
  by_cases ho1 : ρ 81 o = -1
  · rw [if_pos ho1, if_neg (fun q => s2.2.mp q ho1)]; exact same _
  rw [if_neg ho1, if_pos (s2.2.mpr ho1)]
  by_cases hto : ρ 81 t = ρ 81 o
  · rw [if_pos hto, if_pos hto, p_run8 l1 l2, p_run8 m1 m2, bd_s, l3, m3]
    have re := p_rng e
    by_cases he : e < 0
    · rw [if_pos he, b2_f (fun q => by have := p_lt.mp he; rw [show (0 : Int32).toInt = 0 from rfl] at this; omega), i00]; exact same _
    rw [if_neg he]
    have he' : 0 ≤ e.toInt := by
      rcases Int.lt_or_le e.toInt 0 with z | z
      · exact absurd (p_lt.mpr z) he
      · exact z
    by_cases hb : b < 0
    · rw [if_pos hb, b2_f (fun q => by have := p_lt.mp hb; rw [show (0 : Int32).toInt = 0 from rfl] at this; omega), i00]; exact same _
    rw [if_neg hb]
    have hb' : 0 ≤ b.toInt := by
      rcases Int.lt_or_le b.toInt 0 with z | z
      · exact absurd (p_lt.mpr z) hb
      · exact z
    have ee : ∀ len : Nat, len ≤ 60 → (nI len - e).toInt = (len : Int) - e.toInt := fun len hl => by
      rw [p_sub] <;> rw [nI_toInt (by omega)] <;> omega
    by_cases h1 : b.toInt + e.toInt ≤ (lt' : Int)
    · rw [b2_t ⟨he', hb', h1⟩, i10, bd_s]
      by_cases hd : d < 0
      · rw [if_pos hd, b2_f (fun q => by have := p_lt.mp hd; rw [show (0 : Int32).toInt = 0 from rfl] at this; omega), i00]; exact same _
      rw [if_neg hd]
      have hd' : 0 ≤ d.toInt := by
        rcases Int.lt_or_le d.toInt 0 with z | z
        · exact absurd (p_lt.mpr z) hd
        · exact z
      have hnl : ¬ nI lt' - e < b := fun q => by
        have := p_lt.mp q
        rw [ee lt' l1] at this
        omega
      rw [if_neg hnl]
      by_cases h2 : d.toInt + e.toInt ≤ (lo : Int)
      · rw [b2_t ⟨he', hd', h2⟩, i10, if_pos (p_le.mpr (by rw [ee lo m1]; omega))]
        obtain ⟨n, hn, en⟩ : ∃ n : Nat, e = nI n ∧ e.toInt = (n : Int) := ⟨e.toInt.toNat, p_nat he', by omega⟩
        obtain ⟨i, hi, ei⟩ : ∃ n : Nat, b = nI n ∧ b.toInt = (n : Int) := ⟨b.toInt.toNat, p_nat hb', by omega⟩
        obtain ⟨j, hj, ej⟩ : ∃ n : Nat, d = nI n ∧ d.toInt = (n : Int) := ⟨d.toInt.toNat, p_nat hd', by omega⟩
        rw [en, ei] at h1
        rw [en, ej] at h2
        subst hn hi hj
        have hcp : cpB (nI i) (nI j) (nI n) 60 60 = true := decide_eq_true (by
          rw [nI_toInt (by omega), nI_toInt (by omega), nI_toInt (by omega), nI_clamp (by omega), nI_clamp (by omega), nI_clamp (by omega)]
          omega)
        obtain ⟨η1, b1, b2', b3⟩ := m_sh1 (ρ := ρ) (t := t) (i := i) (o := o) (j := j) (n := n) ht (by omega) n 0 FU η (by omega) (by rw [FU_e]; omega)
        obtain ⟨η2, c1, c2⟩ := m_sh2 (ρ := ρ) (t := t) (i := i) (o := o) (j := j) (n := n) ho (by omega) n 0 FU η1 (by omega) (by rw [FU_e]; omega)
        have b1 : f_X9_shift_104L ρ (nI t) (nI i) (nI o) (nI j) (nI n) FU η 0 = some (nI n, η2) := b1.trans c1
        rw [gd_of hcp, lt_d, lt_d, b1, nI_clamp (show i < 2 ^ 31 by omega), nI_clamp (show j < 2 ^ 31 by omega), nI_clamp (show n < 2 ^ 31 by omega)]
        refine ⟨nI n, _, _, rfl, rfl, R.tp (fun _ _ => rfl) (fun _ _ _ => rfl) (fun u hu => ?_), up_ne (by omega)⟩
        obtain ⟨k1, k2⟩ := R.2.2.2.2.2.2 u hu
        refine ⟨k1, fun q hq => ?_⟩
        rw [c2]
        by_cases huo : u = o
        · subst huo
          rw [up_eq]
          show va_cpy _ _ _ _ _ q = _
          by_cases hr : j ≤ q ∧ q < j + n
          · rw [pk_cpy_in hr.1 hr.2, if_pos (by omega), b3 _ (by omega), if_pos (Nat.zero_le _), l6 _ (by omega)]
            congr 1
            omega
          · rw [pk_cpy_out (by omega), if_neg (by omega), b2']
            exact k2 q hq
        · rw [up_ne (by omega), if_neg (by omega), b2']
          exact k2 q hq
      · rw [b2_f (fun q => h2 q.2.2), i00, if_neg (fun q => h2 (by have := p_le.mp q; rw [ee lo m1] at this; omega))]; exact same _
    · rw [b2_f (fun q => h1 q.2.2), i00]
      by_cases hd : d < 0
      · rw [if_pos hd]; exact same _
      rw [if_neg hd, if_pos (p_lt.mpr (by rw [ee lt' l1]; omega))]; exact same _
  · rw [if_neg hto, if_neg hto]; exact same _
end CK
