/-! PURE: acts, in both (made by wip/whole/gen/gen86.py) -/
def own (a t : Nat) : Nat := [0, 0, 0, 0, 1, 0, 2, 0, 0, 0, 0, 3, 4, 4, 0, 2, 0, 5, 6, 6, 3].getD (3 * a + t) 0
theorem up_own {rec : Mm → Int32 → Int32 → Int32 → Int32 → Option (Int32 × Mm)} {p0 p2 p3 : Int32} {τ : Mm} : ∀ a t, a < 7 → t < 3 → f_X0_body_19L rec p0 (nI t) p2 p3 FU τ (nI a) 0 = f_X0_body_62 rec p0 (nI t) p2 p3 τ (nI (own a t)) := by
  intro a t ha ht
  rcases (by omega : a = 0 ∨ a = 1 ∨ a = 2 ∨ a = 3 ∨ a = 4 ∨ a = 5 ∨ a = 6) with rfl | rfl | rfl | rfl | rfl | rfl | rfl <;> rcases (by omega : t = 0 ∨ t = 1 ∨ t = 2) with rfl | rfl | rfl <;> rfl
theorem body_at {N a t d : Nat} {x : Int32} {τ : Mm} (ha : a < 7) (ht : t < 3) (hd : d ≤ 40) : f_X0_body (N + 1) τ (nI a) (nI t) x (nI d) = f_X0_body_62 (f_X0_body N) (nI a) (nI t) x (nI d) τ (nI (own a t)) := by
  show f_X0_body_0 (f_X0_body N) (nI a) (nI t) x (nI d) τ = _
  unfold f_X0_body_0
  rw [if_neg (nI_pos (by omega)), if_pos (show nI d ≤ 40 from nI_le (b := 40) hd (by omega))]
  exact up_own a t ha ht
theorem b62_10 {rec : Mm → Int32 → Int32 → Int32 → Int32 → Option (Int32 × Mm)} {p0 x d : Int32} {τ : Mm} : f_X0_body_62 rec p0 (nI 0) x d τ (nI 0) = bd (f_X0_begins τ 10) (fun u => some ((x + (u 2 0)), u)) := rfl
theorem b62_11 {rec : Mm → Int32 → Int32 → Int32 → Int32 → Option (Int32 × Mm)} {p0 x d : Int32} {τ : Mm} : f_X0_body_62 rec p0 (nI 1) x d τ (nI 0) = bd (f_X0_begins τ 11) (fun u => bd (rec u (u 4 0) (nI 0) x (d + 1)) (fun u15 => some ((u15.1 - (u15.2 3 0)), u15.2))) := rfl
theorem b62_12 {rec : Mm → Int32 → Int32 → Int32 → Int32 → Option (Int32 × Mm)} {p0 x d : Int32} {τ : Mm} : f_X0_body_62 rec p0 (nI 2) x d τ (nI 0) = bd (f_X0_begins τ 12) (fun u => bd (rec u (u 4 0) (nI 1) x (d + 1)) (fun u17 => some ((u17.1 * (2 : Int32)), u17.2))) := rfl
theorem b62_20 {rec : Mm → Int32 → Int32 → Int32 → Int32 → Option (Int32 × Mm)} {p0 x d : Int32} {τ : Mm} : f_X0_body_62 rec p0 (nI 1) x d τ (nI 1) = bd (f_X0_begins τ 20) (fun u => bd (rec u (nI 0) (nI 1) x (d + 1)) (fun u19 => some ((u19.1 ^^^ (6 : Int32)), u19.2))) := rfl
theorem b62_30 {rec : Mm → Int32 → Int32 → Int32 → Int32 → Option (Int32 × Mm)} {p0 x d : Int32} {τ : Mm} : f_X0_body_62 rec p0 (nI 0) x d τ (nI 2) = bd (f_X0_begins τ 30) (fun u => bd (rec u (nI 0) (nI 0) (x * (3 : Int32)) (d + 1)) (fun u21 => some (u21.1, u21.2))) := rfl
theorem b62_40 {rec : Mm → Int32 → Int32 → Int32 → Int32 → Option (Int32 × Mm)} {p0 x d : Int32} {τ : Mm} : f_X0_body_62 rec p0 (nI 2) x d τ (nI 3) = bd (f_X0_begins τ 40) (fun u => bd (rec u (nI 0) (nI 2) x (d + 1)) (fun u23 => bd (rec u23.2 (u23.2 4 0) (nI 1) (1 : Int32) (d + 1)) (fun u24 => some ((u23.1 + u24.1), u24.2)))) := rfl
theorem b62_50 {rec : Mm → Int32 → Int32 → Int32 → Int32 → Option (Int32 × Mm)} {p0 x d : Int32} {τ : Mm} : f_X0_body_62 rec p0 (nI 0) x d τ (nI 4) = bd (f_X0_begins τ 50) (fun u => bd (rec u (nI 1) (nI 0) x (d + 1)) (fun u26 => some ((-u26.1), u26.2))) := rfl
theorem b62_51 {rec : Mm → Int32 → Int32 → Int32 → Int32 → Option (Int32 × Mm)} {p0 x d : Int32} {τ : Mm} : f_X0_body_62 rec p0 (nI 1) x d τ (nI 4) = bd (f_X0_begins τ 51) (fun u => bd (rec u (nI 1) (nI 1) (x + (1 : Int32)) (d + 1)) (fun u28 => some (u28.1, u28.2))) := rfl
theorem b62_60 {rec : Mm → Int32 → Int32 → Int32 → Int32 → Option (Int32 × Mm)} {p0 x d : Int32} {τ : Mm} : f_X0_body_62 rec p0 (nI 2) x d τ (nI 5) = bd (f_X0_begins τ 60) (fun u => bd (rec u (nI 2) (nI 2) (x - (u 2 0)) (d + 1)) (fun u30 => some (u30.1, u30.2))) := rfl
theorem b62_71 {rec : Mm → Int32 → Int32 → Int32 → Int32 → Option (Int32 × Mm)} {p0 x d : Int32} {τ : Mm} : f_X0_body_62 rec p0 (nI 0) x d τ (nI 6) = bd (f_X0_begins τ 71) (fun u => bd (rec u (nI 3) (nI 0) x (d + 1)) (fun u35 => some ((u35.1 ^^^ (u35.2 3 0)), u35.2))) := rfl
theorem b62_70 {rec : Mm → Int32 → Int32 → Int32 → Int32 → Option (Int32 × Mm)} {p0 x d : Int32} {τ : Mm} : f_X0_body_62 rec p0 (nI 1) x d τ (nI 6) = bd (f_X0_begins τ 70) (fun u => bd (rec u (nI 3) (nI 1) x (d + 1)) (fun u32 => bd (rec u32.2 (nI 3) (nI 0) (2 : Int32) (d + 1)) (fun u33 => some ((u32.1 + u33.1), u33.2)))) := rfl
def AX (n : Nat) (i v kd : Int32) (ρ0 τ ρ : Mm) : Prop := τ 1 0 = nI n ∧ ρ 79 0 = nI n ∧ (∀ j, j < n → j < 20 → τ 0 j = ρ 80 j) ∧ (τ 2 0 = i ∧ τ 3 0 = v ∧ τ 4 0 = kd) ∧ ∀ k, k ≠ 79 → k ≠ 80 → ρ k = ρ0 k
theorem ax_b {n : Nat} {i v kd : Int32} {ρ0 τ ρ : Mm} (A : AX n i v kd ρ0 τ ρ) (hn : n ≤ 900) (b : Int32) : ∃ τ' ρ' : Mm, f_X0_begins τ b = some τ' ∧ f_X9_body ρ b = some ρ' ∧ AX (n + 1) i v kd ρ0 τ' ρ' := by
  obtain ⟨a1, a2, a3, a4, a5⟩ := A
  unfold f_X0_begins f_X0_begins_0 f_X0_begins_22 f_X9_body f_X9_body_0 f_X9_body_19
  rw [a1, a2]
  by_cases h : 20 ≤ n
  · rw [if_pos (nI_le h (by omega)), if_pos (show (20 : Int32) ≤ nI n from nI_le (a := 20) h (by omega)), lt_d, lt_d, nI_1]
    refine ⟨_, _, rfl, rfl, st_eq, st_eq, fun j h1 h2 => ?_, a4, fun k h1 h2 => (st_ne h1).trans (a5 k h1 h2)⟩
    rw [st_ne (by omega), st_ne (by omega)]
    exact a3 j (by omega) h2
  · rw [if_neg (nI_ge (by omega) (by omega)), if_neg (show ¬ (20 : Int32) ≤ nI n from nI_ge (b := 20) (by omega) (by omega)), z_in (by omega) (by decide), z_in (by omega) (by decide), nI_clamp (by omega), lt_d, lt_d, lt_d, lt_d, st_ne (show (1 : Nat) ≠ 0 by omega), st_ne (show (79 : Nat) ≠ 80 by omega), a1, a2, nI_1]
    refine ⟨_, _, rfl, rfl, st_eq, st_eq, fun j h1 h2 => ?_, a4, fun k h1 h2 => ((st_ne h1).trans (st_ne h2)).trans (a5 k h1 h2)⟩
    rw [st_ne (show (0 : Nat) ≠ 1 by omega), st_ne (show (80 : Nat) ≠ 79 by omega), st_k, st_k]
    by_cases hj : j = n
    · rw [if_pos hj, if_pos hj]
    · rw [if_neg hj, if_neg hj]
      exact a3 j (by omega) h2
def AZ (c n : Nat) (i v kd : Int32) (ρ0 : Mm) (x y : Option (Int32 × Mm)) : Prop := ∃ (r : Int32) (τ' ρ' : Mm) (n' : Nat), n' ≤ n + c ∧ x = some (r, τ') ∧ y = some (r, ρ') ∧ AX n' i v kd ρ0 τ' ρ'
section AA
variable {p k n d N : Nat} {v x : Int32} {ρ0 τ ρ : Mm}
theorem a_mc {a : Nat} (A : AX n (nI p) v (nI k) ρ0 τ ρ) (hn : n ≤ 900) (hd : d ≤ 40) (ha : a = 0 ∨ a = 1 ∨ a = 3) : AZ 1 n (nI p) v (nI k) ρ0 (f_X0_body (N + 1) τ (nI a) (nI 0) x (nI d)) (f_X9_masterClimbs ρ (nI p) x) := by
  rw [body_at (by omega) (by omega) hd, show own a 0 = 0 by rcases ha with rfl | rfl | rfl <;> rfl, b62_10]
  obtain ⟨τ1, ρ1, e1, e2, A1⟩ := ax_b A hn 10
  unfold f_X9_masterClimbs f_X9_masterClimbs_0
  rw [e1, e2, bd_s, bd_s, A1.2.2.2.1.1]
  exact ⟨_, τ1, ρ1, n + 1, Nat.le_refl _, rfl, rfl, A1⟩
theorem a_cl (hp : p < 6) (hv : ρ0 6 p = v) (hk : ρ0 5 p = nI k) (hk7 : k < 7) (A : AX n (nI p) v (nI k) ρ0 τ ρ) (hn : n ≤ 800) (hd : d ≤ 38) : AZ 2 n (nI p) v (nI k) ρ0 (f_X0_body (N + 2) τ (nI k) (nI 0) x (nI d)) (f_X9_climbsAct ρ (nI p) x) := by
  have e5 : ρ 5 p = nI k := by rw [A.2.2.2.2 5 (by omega) (by omega)]; exact hk
  have gp : ∀ {β : Type} {x : Option β}, gd (inB (nI p) 6) x = x := z_in hp (by decide)
  have cp : (nI p).toNatClampNeg = p := nI_clamp (by omega)
  unfold f_X9_climbsAct f_X9_climbsAct_0 f_X9_climbsAct_40 f_X9_climbsAct_89
  rw [gp, cp, e5]
  rcases (by omega : k = 0 ∨ k = 1 ∨ k = 2 ∨ k = 3 ∨ k = 4 ∨ k = 5 ∨ k = 6) with rfl | rfl | rfl | rfl | rfl | rfl | rfl
  · rw [if_neg (show ¬ nI 0 = 2 by decide), if_neg (show ¬ nI 0 = 3 by decide), if_neg (show ¬ nI 0 = 4 by decide), if_neg (show ¬ nI 0 = 5 by decide), if_neg (show ¬ nI 0 = 6 by decide), bd_eta]
    obtain ⟨r, τ', ρ', n', h1, h2, h3, h4⟩ := a_mc (N := N + 1) (x := x) (d := d) A (by omega) (by omega) (a := 0) (by omega)
    exact ⟨r, τ', ρ', n', by omega, h2, h3, h4⟩
  · rw [if_neg (show ¬ nI 1 = 2 by decide), if_neg (show ¬ nI 1 = 3 by decide), if_neg (show ¬ nI 1 = 4 by decide), if_neg (show ¬ nI 1 = 5 by decide), if_neg (show ¬ nI 1 = 6 by decide), bd_eta]
    obtain ⟨r, τ', ρ', n', h1, h2, h3, h4⟩ := a_mc (N := N + 1) (x := x) (d := d) A (by omega) (by omega) (a := 1) (by omega)
    exact ⟨r, τ', ρ', n', by omega, h2, h3, h4⟩
  · rw [if_pos (show nI 2 = 2 from rfl)]
    rw [body_at (by omega) (by omega) (by omega), show own 2 0 = 2 from rfl, b62_30]
    obtain ⟨τ1, ρ1, e1, e2, A1⟩ := ax_b A (by omega) 30
    obtain ⟨r, τ', ρ', n', h1, h2, h3, h4⟩ := a_mc (N := N) (x := x * 3) (d := d + 1) A1 (by omega) (by omega) (a := 0) (by omega)
    rw [e1, e2, bd_s, bd_s, nI_1, h2, h3, bd_s, bd_s]
    exact ⟨r, τ', ρ', n', by omega, rfl, rfl, h4⟩
  · rw [if_neg (show ¬ nI 3 = 2 by decide), if_pos (show nI 3 = 3 from rfl), bd_eta]
    obtain ⟨r, τ', ρ', n', h1, h2, h3, h4⟩ := a_mc (N := N + 1) (x := x) (d := d) A (by omega) (by omega) (a := 3) (by omega)
    exact ⟨r, τ', ρ', n', by omega, h2, h3, h4⟩
  · rw [if_neg (show ¬ nI 4 = 2 by decide), if_neg (show ¬ nI 4 = 3 by decide), if_pos (show nI 4 = 4 from rfl)]
    rw [body_at (by omega) (by omega) (by omega), show own 4 0 = 4 from rfl, b62_50]
    obtain ⟨τ1, ρ1, e1, e2, A1⟩ := ax_b A (by omega) 50
    obtain ⟨r, τ', ρ', n', h1, h2, h3, h4⟩ := a_mc (N := N) (x := x) (d := d + 1) A1 (by omega) (by omega) (a := 1) (by omega)
    rw [e1, e2, bd_s, bd_s, nI_1, h2, h3, bd_s, bd_s]
    exact ⟨-r, τ', ρ', n', by omega, rfl, rfl, h4⟩
  · rw [if_neg (show ¬ nI 5 = 2 by decide), if_neg (show ¬ nI 5 = 3 by decide), if_neg (show ¬ nI 5 = 4 by decide), if_pos (show nI 5 = 5 from rfl)]
    rw [body_at (by omega) (by omega) (by omega), show own 5 0 = 2 from rfl, b62_30]
    obtain ⟨τ1, ρ1, e1, e2, A1⟩ := ax_b A (by omega) 30
    obtain ⟨r, τ', ρ', n', h1, h2, h3, h4⟩ := a_mc (N := N) (x := x * 3) (d := d + 1) A1 (by omega) (by omega) (a := 0) (by omega)
    rw [e1, e2, bd_s, bd_s, nI_1, h2, h3, bd_s, bd_s]
    exact ⟨r, τ', ρ', n', by omega, rfl, rfl, h4⟩
  · rw [if_neg (show ¬ nI 6 = 2 by decide), if_neg (show ¬ nI 6 = 3 by decide), if_neg (show ¬ nI 6 = 4 by decide), if_neg (show ¬ nI 6 = 5 by decide), if_pos (show nI 6 = 6 from rfl)]
    rw [body_at (by omega) (by omega) (by omega), show own 6 0 = 6 from rfl, b62_71]
    obtain ⟨τ1, ρ1, e1, e2, A1⟩ := ax_b A (by omega) 71
    obtain ⟨r, τ', ρ', n', h1, h2, h3, h4⟩ := a_mc (N := N) (x := x) (d := d + 1) A1 (by omega) (by omega) (a := 3) (by omega)
    rw [e1, e2, bd_s, bd_s, nI_1, h2, h3, bd_s, bd_s]
    rw [gp]
    simp only [cp]
    rw [h4.2.2.2.1.2.1, h4.2.2.2.2 6 (by omega) (by omega), hv]
    exact ⟨r ^^^ v, τ', ρ', n', by omega, rfl, rfl, h4⟩
theorem a_my {a : Nat} (hp : p < 6) (hv : ρ0 6 p = v) (hk : ρ0 5 p = nI k) (hk7 : k < 7) (A : AX n (nI p) v (nI k) ρ0 τ ρ) (hn : n ≤ 700) (hd : d ≤ 37) (ha : a < 7) (ho : own a 1 = 0) : AZ 3 n (nI p) v (nI k) ρ0 (f_X0_body (N + 3) τ (nI a) (nI 1) x (nI d)) (f_X9_masterYawns ρ (nI p) x) := by
  have gp : ∀ {β : Type} {x : Option β}, gd (inB (nI p) 6) x = x := z_in hp (by decide)
  have cp : (nI p).toNatClampNeg = p := nI_clamp (by omega)
  rw [body_at ha (by omega) (by omega), ho, b62_11]
  obtain ⟨τ1, ρ1, e1, e2, A1⟩ := ax_b A (by omega) 11
  obtain ⟨r, τ', ρ', n', h1, h2, h3, h4⟩ := a_cl (N := N) (x := x) (d := d + 1) hp hv hk hk7 A1 (by omega) (by omega)
  unfold f_X9_masterYawns f_X9_masterYawns_0
  rw [e1, e2, bd_s, bd_s, A1.2.2.2.1.2.2, nI_1, h2, h3, bd_s, bd_s, gp, cp]
  simp only []
  rw [h4.2.2.2.1.2.1, h4.2.2.2.2 6 (by omega) (by omega), hv]
  exact ⟨r - v, τ', ρ', n', by omega, rfl, rfl, h4⟩
theorem a_dy (hp : p < 6) (hv : ρ0 6 p = v) (hk : ρ0 5 p = nI k) (hk7 : k < 7) (A : AX n (nI p) v (nI k) ρ0 τ ρ) (hn : n ≤ 600) (hd : d ≤ 36) : AZ 4 n (nI p) v (nI k) ρ0 (f_X0_body (N + 4) τ (nI 1) (nI 1) x (nI d)) (f_X9_dukeYawns ρ (nI p) x) := by
  rw [body_at (by omega) (by omega) (by omega), show own 1 1 = 1 from rfl, b62_20]
  obtain ⟨τ1, ρ1, e1, e2, A1⟩ := ax_b A (by omega) 20
  obtain ⟨r, τ', ρ', n', h1, h2, h3, h4⟩ := a_my (N := N) (x := x) (d := d + 1) (a := 0) hp hv hk hk7 A1 (by omega) (by omega) (by omega) rfl
  unfold f_X9_dukeYawns f_X9_dukeYawns_0
  rw [e1, e2, bd_s, bd_s, nI_1, h2, h3, bd_s, bd_s]
  exact ⟨r ^^^ 6, τ', ρ', n', by omega, rfl, rfl, h4⟩
theorem a_ya (hp : p < 6) (hv : ρ0 6 p = v) (hk : ρ0 5 p = nI k) (hk7 : k < 7) (A : AX n (nI p) v (nI k) ρ0 τ ρ) (hn : n ≤ 500) (hd : d ≤ 35) : AZ 6 n (nI p) v (nI k) ρ0 (f_X0_body (N + 5) τ (nI k) (nI 1) x (nI d)) (f_X9_yawnsAct ρ (nI p) x) := by
  have e5 : ρ 5 p = nI k := by rw [A.2.2.2.2 5 (by omega) (by omega)]; exact hk
  unfold f_X9_yawnsAct f_X9_yawnsAct_0
  rw [z_in hp (by decide), nI_clamp (show p < 2 ^ 31 by omega), e5]
  have hk' := hk
  rcases (by omega : k = 0 ∨ k = 1 ∨ k = 2 ∨ k = 3 ∨ k = 4 ∨ k = 5 ∨ k = 6) with rfl | rfl | rfl | rfl | rfl | rfl | rfl
  · rw [if_neg (show ¬ nI 0 = 1 by decide), if_neg (show ¬ nI 0 = 4 by decide), if_neg (show ¬ nI 0 = 6 by decide), bd_eta]
    obtain ⟨r, τ', ρ', n', h1, h2, h3, h4⟩ := a_my (N := N + 2) (x := x) (d := d) (a := 0) hp hv hk hk7 A (by omega) (by omega) (by omega) rfl
    exact ⟨r, τ', ρ', n', by omega, h2, h3, h4⟩
  · rw [if_pos (show nI 1 = 1 from rfl), bd_eta]
    obtain ⟨r, τ', ρ', n', h1, h2, h3, h4⟩ := a_dy (N := N + 1) (x := x) (d := d) hp hv hk hk7 A (by omega) (by omega)
    exact ⟨r, τ', ρ', n', by omega, h2, h3, h4⟩
  · rw [if_neg (show ¬ nI 2 = 1 by decide), if_neg (show ¬ nI 2 = 4 by decide), if_neg (show ¬ nI 2 = 6 by decide), bd_eta]
    obtain ⟨r, τ', ρ', n', h1, h2, h3, h4⟩ := a_my (N := N + 2) (x := x) (d := d) (a := 2) hp hv hk hk7 A (by omega) (by omega) (by omega) rfl
    exact ⟨r, τ', ρ', n', by omega, h2, h3, h4⟩
  · rw [if_neg (show ¬ nI 3 = 1 by decide), if_neg (show ¬ nI 3 = 4 by decide), if_neg (show ¬ nI 3 = 6 by decide), bd_eta]
    obtain ⟨r, τ', ρ', n', h1, h2, h3, h4⟩ := a_my (N := N + 2) (x := x) (d := d) (a := 3) hp hv hk hk7 A (by omega) (by omega) (by omega) rfl
    exact ⟨r, τ', ρ', n', by omega, h2, h3, h4⟩
  · rw [if_neg (show ¬ nI 4 = 1 by decide), if_pos (show nI 4 = 4 from rfl)]
    rw [body_at (by omega) (by omega) (by omega), show own 4 1 = 4 from rfl, b62_51]
    obtain ⟨τ1, ρ1, e1, e2, A1⟩ := ax_b A (by omega) 51
    obtain ⟨r, τ', ρ', n', h1, h2, h3, h4⟩ := a_dy (N := N) (x := x + 1) (d := d + 1) hp hv hk hk7 A1 (by omega) (by omega)
    rw [e1, e2, bd_s, bd_s, nI_1, h2, h3, bd_s, bd_s]
    exact ⟨r, τ', ρ', n', by omega, rfl, rfl, h4⟩
  · rw [if_neg (show ¬ nI 5 = 1 by decide), if_neg (show ¬ nI 5 = 4 by decide), if_neg (show ¬ nI 5 = 6 by decide), bd_eta]
    obtain ⟨r, τ', ρ', n', h1, h2, h3, h4⟩ := a_my (N := N + 2) (x := x) (d := d) (a := 5) hp hv hk hk7 A (by omega) (by omega) (by omega) rfl
    exact ⟨r, τ', ρ', n', by omega, h2, h3, h4⟩
  · rw [if_neg (show ¬ nI 6 = 1 by decide), if_neg (show ¬ nI 6 = 4 by decide), if_pos (show nI 6 = 6 from rfl)]
    rw [body_at (by omega) (by omega) (by omega), show own 6 1 = 6 from rfl, b62_70]
    obtain ⟨τ1, ρ1, e1, e2, A1⟩ := ax_b A (by omega) 70
    obtain ⟨r, τ', ρ', n', h1, h2, h3, h4⟩ := a_my (N := N + 1) (x := x) (d := d + 1) (a := 3) hp hv hk hk7 A1 (by omega) (by omega) (by omega) rfl
    obtain ⟨r2, τ2, ρ2, n2, g1, g2, g3, g4⟩ := a_mc (N := N + 3) (x := 2) (d := d + 1) h4 (by omega) (by omega) (a := 3) (by omega)
    rw [e1, e2, bd_s, bd_s, nI_1, h2, h3, bd_s, bd_s]
    simp only []
    rw [g2, g3, bd_s, bd_s]
    exact ⟨r + r2, τ2, ρ2, n2, by omega, rfl, rfl, g4⟩
theorem a_mt {a : Nat} (hp : p < 6) (hv : ρ0 6 p = v) (hk : ρ0 5 p = nI k) (hk7 : k < 7) (A : AX n (nI p) v (nI k) ρ0 τ ρ) (hn : n ≤ 400) (hd : d ≤ 34) (ha : a < 7) (ho : own a 2 = 0) : AZ 7 n (nI p) v (nI k) ρ0 (f_X0_body (N + 6) τ (nI a) (nI 2) x (nI d)) (f_X9_masterTells ρ (nI p) x) := by
  rw [body_at ha (by omega) (by omega), ho, b62_12]
  obtain ⟨τ1, ρ1, e1, e2, A1⟩ := ax_b A (by omega) 12
  obtain ⟨r, τ', ρ', n', h1, h2, h3, h4⟩ := a_ya (N := N) (x := x) (d := d + 1) hp hv hk hk7 A1 (by omega) (by omega)
  unfold f_X9_masterTells f_X9_masterTells_0
  rw [e1, e2, bd_s, bd_s, A1.2.2.2.1.2.2, nI_1, h2, h3, bd_s, bd_s]
  exact ⟨r * 2, τ', ρ', n', by omega, rfl, rfl, h4⟩
theorem a_te (hp : p < 6) (hv : ρ0 6 p = v) (hk : ρ0 5 p = nI k) (hk7 : k < 7) (A : AX n (nI p) v (nI k) ρ0 τ ρ) (hn : n ≤ 300) (hd : d ≤ 33) : AZ 20 n (nI p) v (nI k) ρ0 (f_X0_body (N + 7) τ (nI k) (nI 2) x (nI d)) (f_X9_tellsAct ρ (nI p) x) := by
  have e5 : ρ 5 p = nI k := by rw [A.2.2.2.2 5 (by omega) (by omega)]; exact hk
  unfold f_X9_tellsAct f_X9_tellsAct_0 f_X9_tellsAct_36 f_X9_tellsAct_73
  rw [z_in hp (by decide), nI_clamp (show p < 2 ^ 31 by omega), e5]
  rcases (by omega : k = 0 ∨ k = 1 ∨ k = 2 ∨ k = 3 ∨ k = 4 ∨ k = 5 ∨ k = 6) with rfl | rfl | rfl | rfl | rfl | rfl | rfl
  · rw [if_neg (show ¬ nI 0 = 3 by decide), if_neg (show ¬ nI 0 = 4 by decide), if_neg (show ¬ nI 0 = 5 by decide), if_neg (show ¬ nI 0 = 6 by decide), bd_eta]
    obtain ⟨r, τ', ρ', n', h1, h2, h3, h4⟩ := a_mt (N := N + 1) (x := x) (d := d) (a := 0) hp hv hk hk7 A (by omega) (by omega) (by omega) rfl
    exact ⟨r, τ', ρ', n', by omega, h2, h3, h4⟩
  · rw [if_neg (show ¬ nI 1 = 3 by decide), if_neg (show ¬ nI 1 = 4 by decide), if_neg (show ¬ nI 1 = 5 by decide), if_neg (show ¬ nI 1 = 6 by decide), bd_eta]
    obtain ⟨r, τ', ρ', n', h1, h2, h3, h4⟩ := a_mt (N := N + 1) (x := x) (d := d) (a := 1) hp hv hk hk7 A (by omega) (by omega) (by omega) rfl
    exact ⟨r, τ', ρ', n', by omega, h2, h3, h4⟩
  · rw [if_neg (show ¬ nI 2 = 3 by decide), if_neg (show ¬ nI 2 = 4 by decide), if_neg (show ¬ nI 2 = 5 by decide), if_neg (show ¬ nI 2 = 6 by decide), bd_eta]
    obtain ⟨r, τ', ρ', n', h1, h2, h3, h4⟩ := a_mt (N := N + 1) (x := x) (d := d) (a := 2) hp hv hk hk7 A (by omega) (by omega) (by omega) rfl
    exact ⟨r, τ', ρ', n', by omega, h2, h3, h4⟩
  · rw [if_pos (show nI 3 = 3 from rfl)]
    rw [body_at (by omega) (by omega) (by omega), show own 3 2 = 3 from rfl, b62_40]
    obtain ⟨τ1, ρ1, e1, e2, A1⟩ := ax_b A (by omega) 40
    obtain ⟨r, τ', ρ', n', h1, h2, h3, h4⟩ := a_mt (N := N) (x := x) (d := d + 1) (a := 0) hp hv hk hk7 A1 (by omega) (by omega) (by omega) rfl
    obtain ⟨r2, τ2, ρ2, n2, g1, g2, g3, g4⟩ := a_ya (N := N + 1) (x := 1) (d := d + 1) hp hv hk hk7 h4 (by omega) (by omega)
    rw [e1, e2, bd_s, bd_s, nI_1, h2, h3, bd_s, bd_s]
    simp only []
    rw [h4.2.2.2.1.2.2, g2, g3, bd_s, bd_s]
    exact ⟨r + r2, τ2, ρ2, n2, by omega, rfl, rfl, g4⟩
  · rw [if_neg (show ¬ nI 4 = 3 by decide), if_pos (show nI 4 = 4 from rfl), bd_eta]
    obtain ⟨r, τ', ρ', n', h1, h2, h3, h4⟩ := a_mt (N := N + 1) (x := x) (d := d) (a := 4) hp hv hk hk7 A (by omega) (by omega) (by omega) rfl
    exact ⟨r, τ', ρ', n', by omega, h2, h3, h4⟩
  · rw [if_neg (show ¬ nI 5 = 3 by decide), if_neg (show ¬ nI 5 = 4 by decide), if_pos (show nI 5 = 5 from rfl)]
    rw [body_at (by omega) (by omega) (by omega), show own 5 2 = 5 from rfl, b62_60]
    obtain ⟨τ1, ρ1, e1, e2, A1⟩ := ax_b A (by omega) 60
    obtain ⟨r, τ', ρ', n', h1, h2, h3, h4⟩ := a_mt (N := N) (x := x - nI p) (d := d + 1) (a := 2) hp hv hk hk7 A1 (by omega) (by omega) (by omega) rfl
    rw [e1, e2, bd_s, bd_s, A1.2.2.2.1.1, nI_1, h2, h3, bd_s, bd_s]
    exact ⟨r, τ', ρ', n', by omega, rfl, rfl, h4⟩
  · rw [if_neg (show ¬ nI 6 = 3 by decide), if_neg (show ¬ nI 6 = 4 by decide), if_neg (show ¬ nI 6 = 5 by decide), if_pos (show nI 6 = 6 from rfl)]
    rw [body_at (by omega) (by omega) (by omega), show own 6 2 = 3 from rfl, b62_40]
    obtain ⟨τ1, ρ1, e1, e2, A1⟩ := ax_b A (by omega) 40
    obtain ⟨r, τ', ρ', n', h1, h2, h3, h4⟩ := a_mt (N := N) (x := x) (d := d + 1) (a := 0) hp hv hk hk7 A1 (by omega) (by omega) (by omega) rfl
    obtain ⟨r2, τ2, ρ2, n2, g1, g2, g3, g4⟩ := a_ya (N := N + 1) (x := 1) (d := d + 1) hp hv hk hk7 h4 (by omega) (by omega)
    rw [e1, e2, bd_s, bd_s, nI_1, h2, h3, bd_s, bd_s]
    simp only []
    rw [h4.2.2.2.1.2.2, g2, g3, bd_s, bd_s]
    exact ⟨r + r2, τ2, ρ2, n2, by omega, rfl, rfl, g4⟩
end AA
section CH
variable {nh : Nat} {σ : Ms} {ρ : Mm} {ℓ : Mz} {η : Mj}
theorem RX.act {σ' : Ms} {ρ' : Mm} (R : RX nh σ ρ ℓ η) (hσ : ∀ o, o ≠ 21 → σ' o = σ o) (hρ : ∀ k, k ≠ 79 → k ≠ 80 → ρ' k = ρ k) (ha : AcR (σ' 21) ρ') : RX nh σ' ρ' ℓ η :=
  R.gen (fun o _ _ _ h => hσ o h) (fun k hk => hρ k (by omega) (by omega)) (by rw [hσ 12 (by omega)]; exact TxR_e R.2.2.2.1 ⟨hρ 15 (by omega) (by omega), hρ 18 (by omega) (by omega), hρ 29 (by omega) (by omega)⟩) ha
theorem S_act (R : RX nh σ ρ ℓ η) (a b x : Int32) : SM nh σ ℓ η (f_X8_act σ a b x) (f_X9_act ρ a b x) := by
  obtain ⟨M, m, w, H, hm, hw, hz, -⟩ := R.1
  have hM := H.1.1
  unfold f_X8_act f_X8_act_0 f_X9_act f_X9_act_0
  rw [lt_d, lt_d, lt_d, q_M8 hM (by rw [up_ne (by omega)]; exact H.1.2.1), q_M9 hM (by rw [st_ne (by omega)]; exact H.1.2.2), bd_s, bd_s]
  have z : SM nh σ ℓ η (some ((0 : Int32), va_up σ 21 (s_t (σ 21) 1 0 0))) (some (0, s_t ρ 79 0 0)) := by
    refine ⟨0, _, _, rfl, rfl, R.act (fun o h => up_ne h) (fun k h _ => st_ne h) ?_, KP.up (by omega)⟩
    rw [up_eq]
    exact ⟨0, by omega, st_eq, st_eq, fun i hi => absurd hi (Nat.not_lt_zero _)⟩
  rcases bB_c a (n := M) (by omega) with ⟨h, -⟩ | ⟨p, hp, rfl, h⟩
  · rw [h]; simp only [i00]; exact z
  rw [h]; simp only [i10]
  rw [q_w b 3 3 rfl, q_i b 0 2 3 rfl rfl, bd_s, bd_s]
  rcases bB_c b (n := 3) (by omega) with ⟨h, -⟩ | ⟨t, ht, rfl, h⟩
  · rw [h]; simp only [i00]; exact z
  rw [h]; simp only [i10]
  obtain ⟨a2, a3, -⟩ := H.2.2.2.2.1 p hp
  obtain ⟨⟨k, hk7, ek⟩, -⟩ := hz.2 p hp (by omega)
  rw [z_in (by omega) (by decide), z_in (by omega) (by decide), nI_clamp (by omega), up_eq, up_ne (show (1 : Nat) ≠ 21 by omega)]
  unfold f_X0_does f_X0_does_0
  rw [lt_d, lt_d, lt_d, bd_eta, st_eq]
  have A : AX 0 (nI p) (σ 1 3 p) (nI k) (s_t ρ 79 0 0) (s_t (s_t (s_t (s_t (σ 21) 1 0 0) 2 0 (nI p)) 3 0 (σ 1 3 p)) 4 0 (σ 1 2 p)) (s_t ρ 79 0 0) := by
    refine ⟨by simp [st_v, nI_0], by simp [st_v, nI_0], fun j hj => absurd hj (Nat.not_lt_zero _), ⟨by simp [st_v], by simp [st_v], by simp [st_v, ek]⟩, fun _ _ _ => rfl⟩
  have hv : (s_t ρ 79 0 0) 6 p = σ 1 3 p := by rw [st_ne (by omega), a3]
  have hk : (s_t ρ 79 0 0) 5 p = nI k := by rw [st_ne (by omega), ← a2, ek]
  have key : ∀ (c : Nat) (X : Option (Int32 × Mm)) (Y : Option (Int32 × Mm)), c ≤ 20 → AZ c 0 (nI p) (σ 1 3 p) (nI k) (s_t ρ 79 0 0) X Y → SM nh σ ℓ η (bd X (fun u9 => lt (va_up (va_up σ 21 (s_t (σ 21) 1 0 0)) 21 u9.2) (fun σ10 => some (u9.1, σ10)))) Y := by
    rintro c X Y hc ⟨r, τ', ρ', n', h1, h2, h3, h4⟩
    rw [h2, h3, bd_s, lt_d, up_up]
    refine ⟨r, _, _, rfl, rfl, R.act (fun o h => up_ne h) (fun k q1 q2 => (h4.2.2.2.2 k q1 q2).trans (st_ne q1)) ?_, KP.up (by omega)⟩
    rw [up_eq]
    exact ⟨n', by omega, h4.1, h4.2.1, h4.2.2.1⟩
  have ek' : s_t (s_t (s_t (s_t (σ 21) 1 0 0) 2 0 (nI p)) 3 0 (σ 1 3 p)) 4 0 (σ 1 2 p) = s_t (s_t (s_t (s_t (σ 21) 1 0 0) 2 0 (nI p)) 3 0 (σ 1 3 p)) 4 0 (nI k) := by rw [ek]
  rw [ek', ek]
  rw [ek'] at A
  rcases (by omega : t = 0 ∨ t = 1 ∨ t = 2) with rfl | rfl | rfl
  · rw [if_pos (show nI 0 = 0 from rfl), bd_eta]
    exact key 2 _ _ (by omega) (a_cl (N := 43) (d := 0) (by omega) hv hk hk7 A (by omega) (by omega))
  · rw [if_neg (show ¬ nI 1 = 0 by decide), if_pos (show nI 1 = 1 from rfl), bd_eta]
    exact key 6 _ _ (by omega) (a_ya (N := 40) (d := 0) (by omega) hv hk hk7 A (by omega) (by omega))
  · rw [if_neg (show ¬ nI 2 = 0 by decide), if_neg (show ¬ nI 2 = 1 by decide), bd_eta]
    exact key 20 _ _ (by omega) (a_te (N := 38) (d := 0) (by omega) hv hk hk7 A (by omega) (by omega))
end CH
