theorem mul_nn {a b : Int64} (ha : 0 ≤ a) (ha2 : a ≤ 2147483647) (hb : 0 ≤ b) (hb2 : b ≤ 2147483647) : (a * b).toInt = a.toInt * b.toInt ∧ 0 ≤ a * b ∧ uN (a * b) = uN a * uN b := by
  rw [Int64.le_iff_toInt_le] at ha ha2 hb hb2
  have e0 : (0 : Int64).toInt = 0 := rfl
  have e1 : (2147483647 : Int64).toInt = 2147483647 := rfl
  rw [e0] at ha hb
  rw [e1] at ha2 hb2
  have h1 : 0 ≤ a.toInt * b.toInt := Int.mul_nonneg ha hb
  have h2 : a.toInt * b.toInt ≤ 2147483647 * 2147483647 := Int.mul_le_mul ha2 hb2 hb (by decide)
  have hm := mul_in a b ⟨by omega, by omega⟩
  have h3 : 0 ≤ a * b := by rw [Int64.le_iff_toInt_le, hm, e0]; exact h1
  refine ⟨hm, h3, ?_⟩
  have i1 := uN_i (x := a) (by rw [Int64.le_iff_toInt_le, e0]; exact ha)
  have i2 := uN_i (x := b) (by rw [Int64.le_iff_toInt_le, e0]; exact hb)
  have i3 := uN_i h3
  rw [hm, i1, i2] at i3
  exact_mod_cast i3.symm
theorem wt_le : ∀ (n j : Nat) (y : Int64), j ≤ 64 → 64 - j < n → uN (f_X6_withoutTwos_5 n y j) = uN y ∨ uN (f_X6_withoutTwos_5 n y j) ≤ uN y / 2 := by
  intro n
  induction n with
  | zero => intro j y _ h; omega
  | succ n ih =>
    intro j y hj hn
    rw [f_X6_withoutTwos_5]
    by_cases e0 : 64 ≤ j
    · rw [if_pos (show (64 : Int32) ≤ nI j from nI_le (a := 64) e0 (by omega))]; exact Or.inl rfl
    · rw [if_neg (show ¬ (64 : Int32) ≤ nI j from nI_ge (b := 64) (by omega) (by decide))]
      by_cases e1 : y = 0
      · rw [if_pos e1]; exact Or.inl rfl
      · rw [if_neg e1]
        by_cases e2 : (y &&& 1) = 0
        · rw [if_pos e2]
          have := uN_sh1 y
          rcases ih (j + 1) (jushr y 1) (by omega) (by omega) with h | h
          · right; rw [h, this]; exact Nat.le_refl _
          · right; omega
        · rw [if_neg e2]; exact Or.inl rfl
theorem abs_u (c : Int64) : uN (jabs c) = c.toInt.natAbs := by
  by_cases h : c = -9223372036854775808
  · subst h; rfl
  · exact (uN_abs h).1
/-- the odd part of a number's size: above 0 -/
theorem wt_pos {c : Int64} (hc : ¬ c = 0) : uN (f_X6_withoutTwos (jabs c)) % 2 = 1 ∧ uN (f_X6_withoutTwos (jabs c)) < 9223372036854775808 := by
  have hi := inR_i c
  have h1 := hi.1
  have h2 := hi.2
  have hu := abs_u c
  have hne : ¬ jabs c = 0 := fun z => by
    rw [z] at hu
    have h0 : uN (0 : Int64) = 0 := rfl
    exact hc (Int64.toInt_inj.mp (by have : (0 : Int64).toInt = 0 := rfl; omega))
  have ho := wt_odd hne
  refine ⟨ho, ?_⟩
  rcases wt_le 65 0 (jabs c) (by omega) (by omega) with h | h
  · have h' : uN (f_X6_withoutTwos (jabs c)) = uN (jabs c) := h
    omega
  · have h' : uN (f_X6_withoutTwos (jabs c)) ≤ uN (jabs c) / 2 := h
    omega
theorem op_loop (m : Int64) : ∀ (n n' j : Nat) (y : Int64), ¬ y = 0 → j ≤ 64 → uN y < 2 ^ (64 - j) → 64 - j ≤ n → 64 - j < n' → f_X7_oddProduct_94 m n y = if f_X6_withoutTwos_5 n' y j ≤ 2147483647 / m then f_X6_withoutTwos_5 n' y j * m else 1 := by
  intro n
  induction n with
  | zero =>
    intro n' j y h0 hj hy h1 h2
    exfalso
    have : 64 - j = 0 := by omega
    rw [this] at hy
    exact h0 (uN_inj (by have : uN 0 = 0 := rfl; omega))
  | succ n ih =>
    intro n' j y h0 hj hy h1 h2
    obtain ⟨n', rfl⟩ : ∃ q, n' = q + 1 := ⟨n' - 1, by omega⟩
    have hj64 : j < 64 := by
      by_cases e : j < 64
      · exact e
      · exfalso
        rw [show 64 - j = 0 by omega] at hy
        exact h0 (uN_inj (by have : uN 0 = 0 := rfl; omega))
    rw [f_X7_oddProduct_94, f_X6_withoutTwos_5, if_neg (show ¬ (64 : Int32) ≤ nI j from nI_ge (b := 64) hj64 (by decide)), if_neg h0]
    by_cases e : (y &&& 1) = 0
    · rw [if_pos e, if_pos e]
      have e2 := (uN_bit y).mp e
      have hu := uN_sh1 y
      have hne : uN y ≠ 0 := fun z => h0 (uN_inj (z.trans rfl))
      have hp : 2 ^ (64 - j) = 2 * 2 ^ (64 - (j + 1)) := by rw [← Nat.pow_succ', show 64 - j = (64 - (j + 1)) + 1 by omega]
      exact ih n' (j + 1) (jushr y 1) (fun z => by rw [z] at hu; have : uN 0 = 0 := rfl; omega) (by omega) (by rw [hu]; omega) (by omega) (by omega)
    · rw [if_neg e, if_neg e]
      rfl
theorem odd_id {w : Int64} (h : uN w % 2 = 1) : f_X6_withoutTwos w = w := by
  have e : ¬ (w &&& 1) = 0 := fun z => by have := (uN_bit w).mp z; omega
  have e0 : ¬ w = 0 := fun z => by rw [z] at h; exact absurd h (by decide)
  show f_X6_withoutTwos_5 (64 + 1) w 0 = w
  rw [f_X6_withoutTwos_5, if_neg (by decide), if_neg e0, if_neg e]
  rfl
theorem i_of {w : Int64} (h : uN w < 9223372036854775808) : w.toInt = (uN w : Int) ∧ 0 ≤ w := by
  have := uN_neg.mpr h
  exact ⟨uN_i this, this⟩
theorem mm_eq {m c : Int64} (hm : mOK m) : f_X0_multipliedModulus m c = f_X7_oddProduct_71 c m := by
  unfold f_X0_multipliedModulus f_X0_multipliedModulus_29 f_X7_oddProduct_71 f_X7_oddProduct_92
  by_cases hc : c = 0
  · rw [if_pos hc, hc]
    have e : f_X6_withoutTwos (jabs 0) = 0 := by decide
    rw [e, if_pos (by decide), show m * 0 = 0 from Int64.mul_zero]
    decide
  · rw [if_neg hc]
    obtain ⟨w1, w2⟩ := wt_pos hc
    have hab : (if 0 ≤ c then f_X7_oddProduct_94 m 64 c else f_X7_oddProduct_94 m 64 (-c)) = f_X7_oddProduct_94 m 64 (jabs c) := by
      unfold jabs
      by_cases q : 0 < c
      · rw [if_pos q, if_pos (Int64.le_of_lt q)]
      · rw [if_neg q]
        by_cases q2 : 0 ≤ c
        · exact absurd (Int64.le_antisymm (Int64.not_lt.mp q) q2) hc
        · rw [if_neg q2]
    have hne : ¬ jabs c = 0 := fun z => by rw [z] at w1; exact absurd w1 (by decide)
    rw [hab, op_loop m 64 65 0 (jabs c) hne (by omega) (uN_lt _) (by omega) (by omega)]
    show _ = if f_X6_withoutTwos (jabs c) ≤ 2147483647 / m then f_X6_withoutTwos (jabs c) * m else 1
    generalize f_X6_withoutTwos (jabs c) = w at w1 w2
    obtain ⟨wi, w0⟩ := i_of w2
    have m0 : 0 ≤ m := Int64.le_trans (by decide) hm.1
    have mi := uN_i m0
    have mp := pos_i hm.1
    have e1 : (2147483647 : Int64).toInt = 2147483647 := rfl
    have m2 := hm.2.1
    rw [Int64.le_iff_toInt_le, e1] at m2
    have hd : ((2147483647 : Int64) / m).toInt = ((2147483647 / uN m : Nat) : Int) := by
      rw [i_div (fun z => absurd z.1 (by decide)), e1, mi]; rfl
    have hlt : w ≤ 2147483647 / m ↔ uN w * uN m ≤ 2147483647 := by
      rw [Int64.le_iff_toInt_le, hd, wi, ← Nat.le_div_iff_mul_le (by omega)]
      omega
    by_cases hw : w ≤ 2147483647
    · rw [if_pos hw]
      obtain ⟨p1, p2, p3⟩ := mul_nn w0 hw m0 hm.2.1
      have hc1 : m * w = w * m := Int64.mul_comm _ _
      rw [hc1]
      have mo : uN m % 2 = 1 := by
        have := hm.2.2
        rw [tb_uN, Nat.testBit_zero] at this
        simpa using this
      have po : uN (w * m) % 2 = 1 := by rw [p3, Nat.mul_mod, w1, mo]
      show oddF (f_X6_withoutTwos (w * m)) = _
      rw [odd_id po]
      unfold oddF
      have np : ¬ w * m ≤ 0 := fun z => by
        have := Int64.le_antisymm z p2
        rw [this] at po
        exact absurd po (by decide)
      rw [if_neg np]
      have i3 := uN_i p2
      by_cases q : uN w * uN m ≤ 2147483647
      · rw [if_pos (hlt.mpr q), if_pos (by rw [Int64.le_iff_toInt_le, e1, i3, p3]; omega)]
      · rw [if_neg (fun z => q (hlt.mp z)), if_neg (by rw [Int64.le_iff_toInt_le, e1, i3, p3]; omega)]
    · rw [if_neg hw]
      rw [Int64.le_iff_toInt_le, wi, e1] at hw
      have : ¬ uN w * uN m ≤ 2147483647 := by
        have h1 : 1 ≤ uN m := by omega
        have h2 : uN w * 1 ≤ uN w * uN m := Nat.mul_le_mul_left _ h1
        omega
      rw [if_neg (fun z => this (hlt.mp z))]
/-- the modulus of a product -/
def prM (x y : Fk) : Int64 := if x.2.1 = x.2.2.1 then f_X0_multipliedModulus y.2.2.2.2.2.1 x.2.1 else if y.2.1 = y.2.2.1 then f_X0_multipliedModulus x.2.2.2.2.2.1 y.2.1 else f_X6_oddPart (f_X6_commonDivisor (x.2.2.2.2.2.1 * y.2.2.2.2.2.1) (f_X6_commonDivisor (x.2.2.2.2.2.1 * y.2.2.2.2.2.2) (y.2.2.2.2.2.1 * x.2.2.2.2.2.2)))
theorem pr_C {M : Mem} {a b : Nat} (ha : (gC M a).1 = 0) (hb : (gC M b).1 = 0) : f_X0_productModulus M a b = prM (gC M a) (gC M b) := by
  unfold f_X0_productModulus prM f_X0_productModulus_c60
  by_cases h1 : (gC M a).2.1 = (gC M a).2.2.1
  · rw [if_neg (fun z => ic_0.mp z ⟨ha, h1⟩), if_pos h1]; rfl
  · rw [if_pos (ic_0.mpr (fun z => h1 z.2)), if_neg h1]
    by_cases h2 : (gC M b).2.1 = (gC M b).2.2.1
    · rw [if_neg (fun z => ic_0.mp z ⟨hb, h2⟩), if_pos h2]; rfl
    · rw [if_pos (ic_0.mpr (fun z => h2 z.2)), if_neg h2]; rfl
theorem pd_rest {k v m r : Int64} (h : Pd k v m r) : 0 ≤ m ∧ m ≤ 2147483647 ∧ 0 ≤ r ∧ r ≤ 2147483647 := ⟨Int64.le_trans (by decide) h.2.1.1, h.2.1.2.1, h.2.2.1, Int64.le_trans (Int64.le_of_lt h.2.2.2) h.2.1.2.1⟩
theorem pr_R {N : Mem} {x y : Fk} (hx : Gd x) (hy : Gd y) (x0 : x.1 = 0) (y0 : y.1 = 0) (hxy : ¬ (x.2.1 = x.2.2.1 ∧ y.2.1 = y.2.2.1)) (h16 : gR N 16 = x) (h17 : gR N 17 = y) : f_X7_oddProduct N = prM x y := by
  have px := (gd_P hx x0).1
  have py := (gd_P hy y0).1
  have a1 : mL N 54 (ix 16) = x.2.1 := by rw [← h16]; rfl
  have a2 : mL N 54 (ix 17) = y.2.1 := by rw [← h17]; rfl
  have a3 : mL N 58 (ix 16) = x.2.2.2.2.2.1 := by rw [← h16]; rfl
  have a4 : mL N 58 (ix 17) = y.2.2.2.2.2.1 := by rw [← h17]; rfl
  have a5 : mL N 59 (ix 16) = x.2.2.2.2.2.2 := by rw [← h16]; rfl
  have a6 : mL N 59 (ix 17) = y.2.2.2.2.2.2 := by rw [← h17]; rfl
  unfold f_X7_oddProduct f_X7_oddProduct_18 f_X7_oddProduct_44 f_X7_oddProduct_c166 prM
  rw [a1, a2, a3, a4, a5, a6]
  by_cases h1 : x.2.1 = x.2.2.1
  · have n1 : ¬ f_X7_isNumber N 16 = 0 := fun z => in_0.mp z (by rw [show gR N (ix 16) = x from h16]; exact ⟨x0, h1⟩)
    rw [if_neg n1, if_neg n1, if_neg n1, if_pos h1, mm_eq py.2.1]
  · have n1 : f_X7_isNumber N 16 = 0 := in_0.mpr (fun z => h1 (by rw [show gR N (ix 16) = x from h16] at z; exact z.2))
    rw [if_pos n1, if_pos n1, if_pos n1, if_neg h1]
    by_cases h2 : y.2.1 = y.2.2.1
    · rw [if_neg (fun z => in_0.mp z (by rw [show gR N (ix 17) = y from h17]; exact ⟨y0, h2⟩)), if_pos h2, mm_eq px.2.1]
    · rw [if_pos (in_0.mpr (fun z => h2 (by rw [show gR N (ix 17) = y from h17] at z; exact z.2))), if_neg h2, odd_eq]
      congr 1
      have rx := pd_rest px
      have ry := pd_rest py
      have p1 := mul_nn rx.1 rx.2.1 ry.1 ry.2.1
      have p2 := mul_nn rx.1 rx.2.1 ry.2.2.1 ry.2.2.2
      have p3 := mul_nn ry.1 ry.2.1 rx.2.2.1 rx.2.2.2
      have c1 := cd_gcd p2.2.1 p3.2.1
      rw [cd_cm p1.2.1 c1.2]
      apply uN_inj
      rw [cm_gcd, cm_gcd, cm_gcd, c1.1, Nat.gcd_assoc]
theorem mm_OK (m c : Int64) : mOK (f_X0_multipliedModulus m c) := by
  unfold f_X0_multipliedModulus f_X0_multipliedModulus_29
  split
  · exact odd_OK _
  · exact mOK_1
theorem prM_OK {x y : Fk} (hx : Gd x) (hy : Gd y) (x0 : x.1 = 0) (y0 : y.1 = 0) : mOK (prM x y) := by
  unfold prM
  split
  · exact mm_OK _ _
  · split
    · exact mm_OK _ _
    · exact odd_OK _
/-- a product, ahead of sharpening -/
def tmB (x y : Fk) : Int64 × Int64 := pbS x.2.2.2.1 x.2.2.2.2.1 y.2.2.2.1 y.2.2.2.2.1 64 0 (-1) 0
def tmW (x y : Fk) : Bool := decide (f_X6_productWraps x.2.1 y.2.1 = 0) && decide (f_X6_productWraps x.2.1 y.2.2.1 = 0) && decide (f_X6_productWraps x.2.2.1 y.2.1 = 0) && decide (f_X6_productWraps x.2.2.1 y.2.2.1 = 0)
def tmP (x y : Fk) : Fk := if tmW x y = true then (0, jmin (jmin (x.2.1 * y.2.1) (x.2.1 * y.2.2.1)) (jmin (x.2.2.1 * y.2.1) (x.2.2.1 * y.2.2.1)), jmax (jmax (x.2.1 * y.2.1) (x.2.1 * y.2.2.1)) (jmax (x.2.2.1 * y.2.1) (x.2.2.1 * y.2.2.1)), (tmB x y).1, (tmB x y).2, prM x y, f_X6_restBy (f_X6_restBy (cre x) (prM x y) * f_X6_restBy (cre y) (prM x y)) (prM x y)) else (0, -9223372036854775808, 9223372036854775807, (tmB x y).1, (tmB x y).2, 1, 0)
theorem tm_C {M : Mem} {a b t : Nat} (ha : a ≠ t) (hb : b ≠ t) (a0 : (gC M a).1 = 0) (b0 : (gC M b).1 = 0) : f_X0_times (pC M t AL) a b t = pC M t (tmP (gC M a) (gC M b)) := by
  have h1 : f_X0_productBits (pC M t AL) a b t = pC M t (0, -9223372036854775808, 9223372036854775807, (tmB (gC M a) (gC M b)).1, (tmB (gC M a) (gC M b)).2, 1, 0) := by
    unfold f_X0_productBits AL
    rw [wc3, wc4]
    exact pb_C ha hb 64 65 0 (-1) 0 rfl (by omega)
  unfold f_X0_times
  rw [h1]
  unfold f_X0_times_c6 f_X0_times_c134 f_X0_times_c179 f_X0_times_62 f_X1_limit tmP tmW
  rw [pr_C (by rw [gC_n ha]; exact a0) (by rw [gC_n hb]; exact b0), cr_C, cr_C, gC_n ha, gC_n hb]
  simp only [qcnL ha, qcnL hb, wc1, wc2, wc5, wc6]
  show (if f_X6_productWraps (gC M a).2.1 (gC M b).2.1 = 0 then if f_X6_productWraps (gC M a).2.1 (gC M b).2.2.1 = 0 then if f_X6_productWraps (gC M a).2.2.1 (gC M b).2.1 = 0 then if f_X6_productWraps (gC M a).2.2.1 (gC M b).2.2.1 = 0 then _ else _ else _ else _ else _) = _
  by_cases e1 : f_X6_productWraps (gC M a).2.1 (gC M b).2.1 = 0
  · by_cases e2 : f_X6_productWraps (gC M a).2.1 (gC M b).2.2.1 = 0
    · by_cases e3 : f_X6_productWraps (gC M a).2.2.1 (gC M b).2.1 = 0
      · by_cases e4 : f_X6_productWraps (gC M a).2.2.1 (gC M b).2.2.1 = 0
        · rw [if_pos e1, if_pos e2, if_pos e3, if_pos e4, if_pos (by simp [e1, e2, e3, e4])]; rfl
        · rw [if_pos e1, if_pos e2, if_pos e3, if_neg e4, if_neg (by simp [e4])]
      · rw [if_pos e1, if_pos e2, if_neg e3, if_neg (by simp [e3])]
    · rw [if_pos e1, if_neg e2, if_neg (by simp [e2])]
  · rw [if_neg e1, if_neg (by simp [e1])]
theorem pb_VK {ak av bk bv : Int64} : ∀ (n j : Nat) (K V : Int64), V &&& K = V → (pbS ak av bk bv n j K V).2 &&& (pbS ak av bk bv n j K V).1 = (pbS ak av bk bv n j K V).2 := by
  intro n
  induction n with
  | zero => intro j K V h; exact h
  | succ n ih =>
    intro j K V h
    unfold pbS
    split
    · exact ih _ _ _ (bsV_K _ _ _ _ _)
    · split
      · exact ih _ _ _ h
      · exact ih _ _ _ (bsV_K _ _ _ _ _)
theorem Pf_tm {x y : Fk} (hx : Gd x) (hy : Gd y) (x0 : x.1 = 0) (y0 : y.1 = 0) : Pf (tmP x y) := by
  have hm := prM_OK hx hy x0 y0
  have hb : (tmB x y).2 &&& (tmB x y).1 = (tmB x y).2 := pb_VK 64 0 (-1) 0 (by decide)
  unfold tmP
  split
  · exact Pf_mk ⟨hb, hm, rest_rng hm.1⟩
  · exact Pf_mk (Pd_1 hb)
/-- the reference's product -/
theorem mul_R {N : Mem} {x y : Fk} (hx : Gd x) (hy : Gd y) (x0 : x.1 = 0) (y0 : y.1 = 0) (hxy : ¬ (x.2.1 = x.2.2.1 ∧ y.2.1 = y.2.2.1)) (h16 : gR N 16 = x) (h17 : gR N 17 = y) (h18 : gR N 18 = AL) : gR (f_X7_multiply N) 18 = tmP x y ∧ Sd N (f_X7_multiply N) := by
  have px := (gd_P hx x0).1
  have py := (gd_P hy y0).1
  have hN : N = pR N 18 AL := by rw [← h18, pR_g]
  have e : ∀ z : Fk, gR (pR N 18 z) 16 = x ∧ gR (pR N 18 z) 17 = y := fun z => ⟨by rw [gR_n (by decide), h16], by rw [gR_n (by decide), h17]⟩
  have a1 : mL N 54 (ix 16) = x.2.1 := by rw [← h16]; rfl
  have a2 : mL N 54 (ix 17) = y.2.1 := by rw [← h17]; rfl
  have a3 : mL N 55 (ix 16) = x.2.2.1 := by rw [← h16]; rfl
  have a4 : mL N 55 (ix 17) = y.2.2.1 := by rw [← h17]; rfl
  have fin : ∀ l h m r : Int64, gR (f_X7_multiply_204 (pR N 18 (0, l, h, 0, 0, m, r))) 18 = (0, l, h, (tmB x y).1, (tmB x y).2, m, r) ∧ Sd N (f_X7_multiply_204 (pR N 18 (0, l, h, 0, 0, m, r))) := by
    intro l h m r
    unfold f_X7_multiply_204 f_X7_multiply_c216
    have ep : f_X7_put (pR N 18 (0, l, h, 0, 0, m, r)) 22 0 0 (-1) 0 = pR (pR N 18 (0, l, h, 0, 0, m, r)) 22 (0, 0, 0, -1, 0, 1, 0) := rfl
    rw [ep]
    have g1 : gR (pR (pR N 18 (0, l, h, 0, 0, m, r)) 22 (0, 0, 0, -1, 0, 1, 0)) 16 = x := by rw [gR_n (by decide), (e _).1]
    have g2 : gR (pR (pR N 18 (0, l, h, 0, 0, m, r)) 22 (0, 0, 0, -1, 0, 1, 0)) 17 = y := by rw [gR_n (by decide), (e _).2]
    have g3 : gR (pR (pR N 18 (0, l, h, 0, 0, m, r)) 22 (0, 0, 0, -1, 0, 1, 0)) 18 = (0, l, h, 0, 0, m, r) := by rw [gR_n (by decide), gR_p]
    have g4 : mL (pR (pR N 18 (0, l, h, 0, 0, m, r)) 22 (0, 0, 0, -1, 0, 1, 0)) 56 22 = -1 := by rw [rr3]
    have g5 : mL (pR (pR N 18 (0, l, h, 0, 0, m, r)) 22 (0, 0, 0, -1, 0, 1, 0)) 57 22 = 0 := by rw [rr4]
    have s1 : Sd N (pR (pR N 18 (0, l, h, 0, 0, m, r)) 22 (0, 0, 0, -1, 0, 1, 0)) := (Sd.rf.pR (by decide) (by decide)).pR (by decide) (by decide)
    generalize pR (pR N 18 (0, l, h, 0, 0, m, r)) 22 (0, 0, 0, -1, 0, 1, 0) = Q at g1 g2 g3 g4 g5 s1
    obtain ⟨r1, r2⟩ := pb_R px.1 py.1 64 65 0 Q rfl (by omega) g1 g2 (by rw [g4, g5]; decide)
    refine ⟨?_, s1.tr r1⟩
    rw [r2, g4, g5]
    have c0 : mI Q 53 18 = 0 := congrArg (fun z : Fk => z.1) g3
    have c1 : mL Q 54 18 = l := congrArg (fun z : Fk => z.2.1) g3
    have c2 : mL Q 55 18 = h := congrArg (fun z : Fk => z.2.2.1) g3
    have c5 : mL Q 58 18 = m := congrArg (fun z : Fk => z.2.2.2.2.2.1) g3
    have c6 : mL Q 59 18 = r := congrArg (fun z : Fk => z.2.2.2.2.2.2) g3
    rw [c0, c1, c2, c5, c6]
    rfl
  have unr : f_X7_multiply N = f_X7_multiply_14 1 (if (if (if (if (0 : Int32) = 0 then f_X6_productWraps x.2.1 y.2.1 else 1) = 0 then f_X6_productWraps x.2.1 y.2.2.1 else 1) = 0 then f_X6_productWraps x.2.2.1 y.2.1 else 1) = 0 then f_X6_productWraps x.2.2.1 y.2.2.1 else 1) (jmin (jmin (jmin (jmin 9223372036854775807 (x.2.1 * y.2.1)) (x.2.1 * y.2.2.1)) (x.2.2.1 * y.2.1)) (x.2.2.1 * y.2.2.1)) (jmax (jmax (jmax (jmax (-9223372036854775808) (x.2.1 * y.2.1)) (x.2.1 * y.2.2.1)) (x.2.2.1 * y.2.1)) (x.2.2.1 * y.2.2.1)) 4 N := by
    show f_X7_multiply_14 (4 + 1) 0 9223372036854775807 (-9223372036854775808) 0 N = _
    rw [f_X7_multiply_14, if_neg (by decide), if_neg (by decide)]
    unfold f_X7_multiply_43
    rw [if_pos (by decide), a1, a2, m69]
    show f_X7_multiply_14 (3 + 1) _ _ _ 1 N = _
    rw [f_X7_multiply_14, if_neg (by decide), if_neg (by decide)]
    unfold f_X7_multiply_43
    rw [if_neg (by decide), a1, a4, m69]
    show f_X7_multiply_14 (2 + 1) _ _ _ 2 N = _
    rw [f_X7_multiply_14, if_neg (by decide), if_pos (by decide)]
    unfold f_X7_multiply_43
    rw [if_pos (by decide), a2, a3, m69]
    show f_X7_multiply_14 (1 + 1) _ _ _ 3 N = _
    rw [f_X7_multiply_14, if_neg (by decide), if_pos (by decide)]
    unfold f_X7_multiply_43
    rw [if_neg (by decide), a3, a4, m69]
  rw [unr, mn4, mx4]
  have hw : (if (if (if (if (0 : Int32) = 0 then f_X6_productWraps x.2.1 y.2.1 else 1) = 0 then f_X6_productWraps x.2.1 y.2.2.1 else 1) = 0 then f_X6_productWraps x.2.2.1 y.2.1 else 1) = 0 then f_X6_productWraps x.2.2.1 y.2.2.1 else 1) = 0 ↔ tmW x y = true := by
    unfold tmW
    rw [if_pos rfl]
    have n1 : ¬ (1 : Int32) = 0 := by decide
    by_cases e1 : f_X6_productWraps x.2.1 y.2.1 = 0
    · by_cases e2 : f_X6_productWraps x.2.1 y.2.2.1 = 0
      · by_cases e3 : f_X6_productWraps x.2.2.1 y.2.1 = 0
        · rw [if_pos e1, if_pos e2, if_pos e3]; simp [e1, e2, e3]
        · rw [if_pos e1, if_pos e2, if_neg e3]; simp [e3]
      · rw [if_pos e1, if_neg e2, if_neg n1]; simp [e2]
    · rw [if_neg e1, if_neg n1, if_neg n1]; simp [e1]
  show gR (f_X7_multiply_14 (0 + 1) _ _ _ 4 N) 18 = _ ∧ Sd N (f_X7_multiply_14 (0 + 1) _ _ _ 4 N)
  rw [f_X7_multiply_14, if_pos (by decide)]
  unfold tmP
  by_cases q : tmW x y = true
  · rw [if_pos (hw.mpr q), if_pos q]
    generalize jmin (jmin (x.2.1 * y.2.1) (x.2.1 * y.2.2.1)) (jmin (x.2.2.1 * y.2.1) (x.2.2.1 * y.2.2.1)) = l
    generalize jmax (jmax (x.2.1 * y.2.1) (x.2.1 * y.2.2.1)) (jmax (x.2.2.1 * y.2.1) (x.2.2.1 * y.2.2.1)) = h
    have hQ : uL (uL N 54 (ix 18) l) 55 (ix 18) h = pR N 18 (0, l, h, 0, 0, 1, 0) := by
      rw [ix18]
      conv => lhs; rw [hN]
      unfold AL
      rw [wr1, wr2]
    unfold f_X7_multiply_c173 f_X7_multiply_c204
    have hm := prM_OK hx hy x0 y0
    rw [hQ, pr_R hx hy x0 y0 hxy (e _).1 (e _).2, ro_R, ro_R, ix16, ix17, (e _).1, (e _).2]
    have hs : ∀ z w : Int64, f_X7_setRest (pR N 18 (0, l, h, 0, 0, 1, 0)) 18 z w = pR N 18 (0, l, h, 0, 0, z, f_X7_rem w z) := fun z w => by
      unfold f_X7_setRest
      rw [ix18, wr5, wr6]
    rw [hs, ← rest_rem hm.1, ← rest_rem hm.1, ← rest_rem hm.1]
    exact fin _ _ _ _
  · rw [if_neg (fun z => q (hw.mp z)), if_neg q]
    have h := fin (-9223372036854775808) 9223372036854775807 1 0
    rw [show pR N 18 (0, -9223372036854775808, 9223372036854775807, 0, 0, 1, 0) = N from hN.symm] at h
    exact h
