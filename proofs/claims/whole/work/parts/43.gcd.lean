def inR (z : Int) : Prop := -9223372036854775808 ≤ z ∧ z < 9223372036854775808
theorem inR_i (x : Int64) : inR x.toInt := ⟨Int64.le_toInt x, Int64.toInt_lt x⟩
theorem bm {z : Int} (h : inR z) : z.bmod (2 ^ 64) = z := by
  have h1 := h.1
  have h2 := h.2
  exact Int.bmod_eq_of_le (by omega) (by omega)
theorem bm_mod (z : Int) : ∃ k : Int, z.bmod (2 ^ 64) = z + k * 18446744073709551616 := by
  refine ⟨- ((z - z.bmod (2 ^ 64)) / 18446744073709551616), ?_⟩
  have h := Int.emod_emod_of_dvd
  have h2 : (z.bmod (2 ^ 64)) % (18446744073709551616 : Int) = z % 18446744073709551616 := Int.bmod_emod
  omega
theorem toInt_m1 : (-1 : Int64).toInt = -1 := rfl
theorem toInt_lst : (-9223372036854775808 : Int64).toInt = -9223372036854775808 := rfl
theorem i_div {a b : Int64} (h : ¬ (a = -9223372036854775808 ∧ b = -1)) : (a / b).toInt = a.toInt.tdiv b.toInt := by
  rw [Int64.toInt_div]
  apply bm
  have ha := inR_i a
  have hb := inR_i b
  by_cases hb0 : b.toInt = 0
  · rw [hb0]; simp [inR]
  · by_cases hb1 : b.toInt = -1
    · rw [hb1, Int.tdiv_neg, Int.tdiv_one]
      have : a.toInt ≠ -9223372036854775808 := fun z => h ⟨Int64.toInt_inj.mp z, Int64.toInt_inj.mp hb1⟩
      exact ⟨by have := ha.2; omega, by have := ha.1; omega⟩
    · by_cases hb2 : b.toInt = 1
      · rw [hb2, Int.tdiv_one]; exact ha
      · have h1 : (a.toInt.tdiv b.toInt).natAbs = a.toInt.natAbs / b.toInt.natAbs := Int.natAbs_tdiv ..
        have h2 : a.toInt.natAbs / b.toInt.natAbs ≤ a.toInt.natAbs / 2 := Nat.div_le_div_left (by omega) (by decide)
        have := ha.1
        have := ha.2
        exact ⟨by omega, by omega⟩
theorem i_rem {v m : Int64} (hm : 0 < m.toInt) : (jrem v m).toInt = v.toInt.tmod m.toInt := by
  have hd := i_div (a := v) (b := m) (fun h => by rw [h.2, toInt_m1] at hm; omega)
  unfold jrem
  rw [Int64.toInt_sub, Int64.toInt_mul, hd]
  have h1 : v.toInt.tmod m.toInt = v.toInt - v.toInt.tdiv m.toInt * m.toInt := by
    have := Int.mul_tdiv_add_tmod v.toInt m.toInt
    rw [Int.mul_comm] at this
    omega
  rw [Int.sub_bmod_bmod, ← h1]
  apply bm
  have h2 := Int.tmod_lt_of_pos v.toInt hm
  have h3 := (inR_i m).2
  have h4 : (v.toInt.tmod m.toInt).natAbs = v.toInt.natAbs % m.toInt.natAbs := Int.natAbs_tmod ..
  have h5 := Nat.mod_lt v.toInt.natAbs (y := m.toInt.natAbs) (by omega)
  exact ⟨by omega, by omega⟩
theorem pos_i {m : Int64} (h : 1 ≤ m) : 0 < m.toInt := by
  rw [Int64.le_iff_toInt_le] at h
  have : (1 : Int64).toInt = 1 := rfl
  omega
/-- the rest by a number above 0 -/
theorem i_rm {v m : Int64} (hm : 1 ≤ m) : (f_X7_rem v m).toInt = v.toInt % m.toInt := by
  have hp := pos_i hm
  have hr := i_rem (v := v) hp
  unfold f_X7_rem f_X7_rem_21
  have h0 : (0 : Int64).toInt = 0 := rfl
  have key : v.toInt % m.toInt = if 0 ≤ v.toInt.tmod m.toInt then v.toInt.tmod m.toInt else v.toInt.tmod m.toInt + m.toInt := by
    have h1 := Int.mul_tdiv_add_tmod v.toInt m.toInt
    have h2 := Int.tmod_lt_of_pos v.toInt hp
    have h4 : (v.toInt.tmod m.toInt).natAbs = v.toInt.natAbs % m.toInt.natAbs := Int.natAbs_tmod ..
    have h5 := Nat.mod_lt v.toInt.natAbs (y := m.toInt.natAbs) (by omega)
    generalize v.toInt.tmod m.toInt = r at *
    generalize v.toInt.tdiv m.toInt = q at *
    rw [← h1]
    split
    · rw [Int.add_comm, Int.add_mul_emod_self_left, Int.emod_eq_of_lt (by omega) (by omega)]
    · rw [show m.toInt * q + r = (r + m.toInt) + m.toInt * (q - 1) by rw [Int.mul_sub]; omega, Int.add_mul_emod_self_left, Int.emod_eq_of_lt (by omega) (by omega)]
  rw [key]
  by_cases h : 0 ≤ jrem v m
  · rw [if_pos h]
    rw [Int64.le_iff_toInt_le, hr, h0] at h
    rw [if_pos h, hr]
  · rw [if_neg h]
    rw [Int64.le_iff_toInt_le, hr, h0] at h
    rw [if_neg h, Int64.toInt_add, hr]
    apply bm
    have h3 := (inR_i m).2
    have h2 := Int.tmod_lt_of_pos v.toInt hp
    have h4 : (v.toInt.tmod m.toInt).natAbs = v.toInt.natAbs % m.toInt.natAbs := Int.natAbs_tmod ..
    have h5 := Nat.mod_lt v.toInt.natAbs (y := m.toInt.natAbs) (by omega)
    exact ⟨by omega, by omega⟩
theorem rest_rem {v m : Int64} (hm : 1 ≤ m) : f_X6_restBy v m = f_X7_rem v m := by
  unfold f_X6_restBy
  by_cases h : 1 < m
  · rw [if_pos h]; rfl
  · rw [if_neg h]
    have e : m.toInt = 1 := by
      rw [Int64.le_iff_toInt_le] at hm
      rw [Int64.lt_iff_toInt_lt] at h
      have : (1 : Int64).toInt = 1 := rfl
      omega
    apply Int64.toInt_inj.mp
    rw [i_rm hm, e]
    show (0 : Int) = _
    omega
/-- numbers of at least 0 -/
theorem uN_i {x : Int64} (h : 0 ≤ x) : x.toInt = (uN x : Int) := by
  have h1 := uN_neg.mp h
  rw [uN_int]
  split <;> omega
theorem uN_rem {x y : Int64} (hx : 0 ≤ x) (hy : 0 ≤ y) (h0 : ¬ y = 0) : uN (jrem x y) = uN x % uN y ∧ 0 ≤ jrem x y := by
  have hp : 0 < y.toInt := by
    rw [Int64.le_iff_toInt_le] at hy
    have h2 : (0 : Int64).toInt = 0 := rfl
    have : y.toInt ≠ 0 := fun z => h0 (Int64.toInt_inj.mp z)
    omega
  have hr := i_rem (v := x) hp
  have e1 := uN_i hx
  have e2 := uN_i hy
  have e3 : x.toInt.tmod y.toInt = ((uN x % uN y : Nat) : Int) := by
    rw [e1, e2]; rfl
  have h4 : 0 ≤ jrem x y := by
    rw [Int64.le_iff_toInt_le, hr, e3]
    have h2 : (0 : Int64).toInt = 0 := rfl
    omega
  have h5 := uN_i h4
  rw [hr, e3] at h5
  exact ⟨by omega, h4⟩
theorem gcd_half {x y : Nat} {k : Nat} (hy : y < 2 ^ (k + 1)) (h1 : y ≠ 0) (h2 : x % y ≠ 0) : y % (x % y) < 2 ^ k := by
  have h3 := Nat.mod_lt x (y := y) (by omega)
  have h4 := Nat.mod_lt y (y := x % y) (by omega)
  rw [Nat.pow_succ] at hy
  by_cases h : 2 * (x % y) ≤ y
  · omega
  · have : y % (x % y) = y - x % y := by
      rw [Nat.mod_eq_sub_mod (by omega), Nat.mod_eq_of_lt (by omega)]
    omega
theorem cd_loop : ∀ (k : Nat) (x y : Int64) (n j : Nat), 0 ≤ x → 0 ≤ y → uN y < 2 ^ k → j + 2 * k + 1 ≤ 200 → 200 - j < n → uN (f_X6_commonDivisor_9 n x y j) = Nat.gcd (uN x) (uN y) ∧ 0 ≤ f_X6_commonDivisor_9 n x y j := by
  intro k
  induction k with
  | zero =>
    intro x y n j hx hy hk hj hn
    have h0 : y = 0 := uN_inj (by have : uN 0 = 0 := rfl; omega)
    obtain ⟨n, rfl⟩ : ∃ q, n = q + 1 := ⟨n - 1, by omega⟩
    rw [f_X6_commonDivisor_9, if_neg (show ¬ (200 : Int32) ≤ nI j from nI_ge (b := 200) (by omega) (by decide)), if_pos h0, h0]
    exact ⟨by rw [show uN 0 = 0 from rfl, Nat.gcd_zero_right]; rfl, hx⟩
  | succ k ih =>
    intro x y n j hx hy hk hj hn
    obtain ⟨n, rfl⟩ : ∃ q, n = q + 1 := ⟨n - 1, by omega⟩
    rw [f_X6_commonDivisor_9, if_neg (show ¬ (200 : Int32) ≤ nI j from nI_ge (b := 200) (by omega) (by decide))]
    by_cases h0 : y = 0
    · rw [if_pos h0, h0]
      exact ⟨by rw [show uN 0 = 0 from rfl, Nat.gcd_zero_right]; rfl, hx⟩
    · rw [if_neg h0]
      obtain ⟨r1, r2⟩ := uN_rem hx hy h0
      obtain ⟨n, rfl⟩ : ∃ q, n = q + 1 := ⟨n - 1, by omega⟩
      have hg : Nat.gcd (uN x) (uN y) = Nat.gcd (uN y) (uN (jrem x y)) := by
        rw [r1, Nat.gcd_comm (uN x), Nat.gcd_rec, Nat.gcd_comm]
      rw [hg, f_X6_commonDivisor_9, if_neg (show ¬ (200 : Int32) ≤ nI (j + 1) from nI_ge (b := 200) (by omega) (by decide))]
      by_cases h1 : jrem x y = 0
      · rw [if_pos h1, h1]
        exact ⟨by rw [show uN 0 = 0 from rfl, Nat.gcd_zero_right]; rfl, hy⟩
      · rw [if_neg h1]
        obtain ⟨s1, s2⟩ := uN_rem hy r2 h1
        have hy0 : uN y ≠ 0 := fun z => h0 (uN_inj (z.trans rfl))
        have hr0 : uN x % uN y ≠ 0 := fun z => h1 (uN_inj ((r1.trans z).trans rfl))
        have hlt : uN (jrem y (jrem x y)) < 2 ^ k := by
          rw [s1, r1]
          exact gcd_half hk hy0 hr0
        obtain ⟨t1, t2⟩ := ih (jrem x y) (jrem y (jrem x y)) n (j + 1 + 1) r2 s2 hlt (by omega) (by omega)
        refine ⟨?_, t2⟩
        rw [t1, s1, Nat.gcd_comm (uN y), Nat.gcd_comm (uN (jrem x y)), ← Nat.gcd_rec]
theorem cd_gcd {x y : Int64} (hx : 0 ≤ x) (hy : 0 ≤ y) : uN (f_X6_commonDivisor x y) = Nat.gcd (uN x) (uN y) ∧ 0 ≤ f_X6_commonDivisor x y :=
  cd_loop 63 x y 201 0 hx hy (by have := uN_neg.mp hy; omega) (by omega) (by omega)
theorem cm_loop : ∀ (n : Nat) (x y : Int64), uN y < n → uN (f_X7_common_6 n x y) = Nat.gcd (uN x) (uN y) := by
  intro n
  induction n with
  | zero => intro x y h; omega
  | succ n ih =>
    intro x y h
    rw [f_X7_common_6]
    by_cases h0 : y = 0
    · rw [if_pos h0, h0, show uN 0 = 0 from rfl, Nat.gcd_zero_right]
    · rw [if_neg h0, ih _ _ (left_lt h0 h), left_mod h0, Nat.gcd_comm (uN x) (uN y), Nat.gcd_rec (uN y) (uN x), Nat.gcd_comm (uN x % uN y)]
theorem cm_gcd (x y : Int64) : uN (f_X7_common x y) = Nat.gcd (uN x) (uN y) := cm_loop _ x y (uN_lt y)
theorem cd_cm {x y : Int64} (hx : 0 ≤ x) (hy : 0 ≤ y) : f_X6_commonDivisor x y = f_X7_common x y := uN_inj ((cd_gcd hx hy).1.trans (cm_gcd x y).symm)
/-! the odd part -/
def oddF (w : Int64) : Int64 := if w ≤ 0 then 1 else if w ≤ 2147483647 then w else 1
theorem uN_sh1 (x : Int64) : uN (jushr x 1) = uN x / 2 := uN_js (k := 1) x (by decide)
theorem odd_loop : ∀ (n n' j : Nat) (y : Int64), ¬ y = 0 → j ≤ 64 → uN y < 2 ^ (64 - j) → 64 - j ≤ n → 64 - j < n' → f_X7_odd_10 n y = oddF (f_X6_withoutTwos_5 n' y j) ∧ uN (f_X6_withoutTwos_5 n' y j) % 2 = 1 := by
  intro n
  induction n with
  | zero =>
    intro n' j y h0 hj hy h1 h2
    exfalso
    have : 64 - j = 0 := by omega
    rw [this] at hy
    exact h0 (uN_inj (by have : uN 0 = 0 := rfl; omega))
  | succ n ih =>
    intro n' j y h0 hj hy h1 h2
    obtain ⟨n', rfl⟩ : ∃ q, n' = q + 1 := ⟨n' - 1, by omega⟩
    have hj64 : j < 64 := by
      by_cases e : j < 64
      · exact e
      · exfalso
        rw [show 64 - j = 0 by omega] at hy
        exact h0 (uN_inj (by have : uN 0 = 0 := rfl; omega))
    rw [f_X7_odd_10, f_X6_withoutTwos_5, if_neg (show ¬ (64 : Int32) ≤ nI j from nI_ge (b := 64) hj64 (by decide)), if_neg h0]
    by_cases e : (y &&& 1) = 0
    · rw [if_pos e, if_pos e]
      have e2 := (uN_bit y).mp e
      have hu := uN_sh1 y
      have hne : uN y ≠ 0 := fun z => h0 (uN_inj (z.trans rfl))
      have hp : 2 ^ (64 - j) = 2 * 2 ^ (64 - (j + 1)) := by rw [← Nat.pow_succ', show 64 - j = (64 - (j + 1)) + 1 by omega]
      exact ih n' (j + 1) (jushr y 1) (fun z => by rw [z] at hu; have : uN 0 = 0 := rfl; omega) (by omega) (by rw [hu]; omega) (by omega) (by omega)
    · rw [if_neg e, if_neg e]
      have e2 : uN y % 2 = 1 := by
        have := mt (uN_bit y).mpr e
        omega
      refine ⟨?_, e2⟩
      unfold oddF f_X6_withoutTwos_36 f_X7_odd_39 f_X7_odd_44
      by_cases c : y < 0
      · rw [if_pos c, if_pos (Int64.le_of_lt c)]
      · have : ¬ y ≤ 0 := fun h => by
          have h3 := Int64.not_lt.mp c
          exact h0 (Int64.le_antisymm h h3)
        rw [if_neg c, if_neg this]
theorem odd_eq (g : Int64) : f_X6_oddPart g = f_X7_odd g := by
  have e : f_X6_oddPart g = oddF (f_X6_withoutTwos g) := rfl
  unfold f_X7_odd
  by_cases h : g = 0
  · rw [if_pos h, h]; rfl
  · rw [if_neg h, e]
    exact (odd_loop 64 65 0 g h (by omega) (uN_lt g) (by omega) (by omega)).1.symm
theorem wt_odd {g : Int64} (h : ¬ g = 0) : uN (f_X6_withoutTwos g) % 2 = 1 := (odd_loop 64 65 0 g h (by omega) (uN_lt g) (by omega) (by omega)).2
