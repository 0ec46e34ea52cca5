/-! products: over the end -/
theorem mul_in (a b : Int64) (h : inR (a.toInt * b.toInt)) : (a * b).toInt = a.toInt * b.toInt := by
  rw [Int64.toInt_mul]; exact bm h
/-- a product fits just when dividing gives the number back -/
theorem div_back {a b : Int64} (hb : ¬ b = 0) : ((a * b) / b = a ∧ ¬ (a = -9223372036854775808 ∧ b = -1)) ↔ inR (a.toInt * b.toInt) := by
  have hb0 : b.toInt ≠ 0 := fun z => hb (Int64.toInt_inj.mp z)
  constructor
  · rintro ⟨h1, h2⟩
    have hspec : ¬ (a * b = -9223372036854775808 ∧ b = -1) := fun z => h2 ⟨by
      have e1 : (a * b).toInt = -9223372036854775808 := by rw [z.1]; rfl
      rw [Int64.toInt_mul, z.2, toInt_m1] at e1
      apply Int64.toInt_inj.mp
      rw [toInt_lst]
      obtain ⟨k, hk⟩ := bm_mod (a.toInt * -1)
      rw [hk] at e1
      have := inR_i a
      have h3 := this.1
      have h4 := this.2
      omega, z.2⟩
    have h3 := i_div hspec
    rw [h1] at h3
    obtain ⟨k, hk⟩ := bm_mod (a.toInt * b.toInt)
    rw [← Int64.toInt_mul] at hk
    have h4 := Int.mul_tdiv_add_tmod (a * b).toInt b.toInt
    rw [← h3] at h4
    have h5 : ((a * b).toInt.tmod b.toInt).natAbs = (a * b).toInt.natAbs % b.toInt.natAbs := Int.natAbs_tmod ..
    have h6 := Nat.mod_lt (a * b).toInt.natAbs (y := b.toInt.natAbs) (by omega)
    have h7 := inR_i b
    have h8 := h7.1
    have h9 := h7.2
    rw [Int.mul_comm] at h4
    have hp := inR_i (a * b)
    have hk0 : k = 0 := by omega
    rw [hk0] at hk
    have : a.toInt * b.toInt = (a * b).toInt := by omega
    rw [this]
    exact hp
  · intro h
    have h2 : ¬ (a = -9223372036854775808 ∧ b = -1) := fun z => by
      rw [z.1, z.2, toInt_lst, toInt_m1] at h
      have := h.2
      omega
    refine ⟨?_, h2⟩
    have hm := mul_in a b h
    have hspec : ¬ (a * b = -9223372036854775808 ∧ b = -1) := fun z => by
      have e1 : (a * b).toInt = -9223372036854775808 := by rw [z.1]; rfl
      rw [hm, z.2, toInt_m1] at e1
      have := inR_i a
      have h4 := this.2
      omega
    apply Int64.toInt_inj.mp
    rw [i_div hspec, hm, Int.mul_tdiv_cancel _ hb0]
theorem pw_or (a b : Int64) : f_X6_productWraps a b = 0 ∨ f_X6_productWraps a b = 1 := by
  unfold f_X6_productWraps f_X6_productWraps_30 f_X6_productWraps_40 f_X6_productWraps_45 f_X6_productWraps_12
  repeat' split
  all_goals first | exact Or.inl rfl | exact Or.inr rfl
theorem pw_iff (a b : Int64) : f_X6_productWraps a b = 0 ↔ inR (a.toInt * b.toInt) := by
  have h0 : (0 : Int64).toInt = 0 := rfl
  unfold f_X6_productWraps f_X6_productWraps_30 f_X6_productWraps_40 f_X6_productWraps_45 f_X6_productWraps_12
  by_cases e1 : a = 0
  · rw [if_pos e1, e1, h0]; simp [inR]
  · rw [if_neg e1]
    by_cases e2 : b = 0
    · rw [if_pos e2, e2, h0]; simp [inR]
    · rw [if_neg e2, ← div_back e2]
      by_cases e3 : a = -9223372036854775808
      · rw [if_pos e3]
        by_cases e4 : b = -1
        · rw [if_pos e4]
          exact ⟨fun z => absurd z (by decide), fun z => absurd ⟨e3, e4⟩ z.2⟩
        · rw [if_neg e4]
          by_cases e5 : a * b / b = a
          · rw [if_pos e5]; exact ⟨fun _ => ⟨e5, fun z => e4 z.2⟩, fun _ => rfl⟩
          · rw [if_neg e5]; exact ⟨fun z => absurd z (by decide), fun z => absurd z.1 e5⟩
      · rw [if_neg e3]
        by_cases e5 : a * b / b = a
        · rw [if_pos e5]; exact ⟨fun _ => ⟨e5, fun z => e3 z.1⟩, fun _ => rfl⟩
        · rw [if_neg e5]; exact ⟨fun z => absurd z (by decide), fun z => absurd z.1 e5⟩
theorem m69 (w : Int32) (l h : Int64) (j : Nat) (R : Int32 → Int64 → Int64 → Nat → Mem → Mem) (x y : Int64) (N : Mem) : f_X7_multiply_69 w l h j R x y N = R (if w = 0 then f_X6_productWraps x y else 1) (jmin l (x * y)) (jmax h (x * y)) (j + 1) N := by
  unfold f_X7_multiply_69 f_X7_multiply_118 f_X7_multiply_122 f_X7_multiply_123
  rw [less_eq, more_eq]
  by_cases e0 : w = 0
  · rw [if_pos e0, if_pos e0]
    have hp := pw_iff x y
    by_cases e1 : x = 0
    · rw [if_pos e1]
      have : f_X6_productWraps x y = 0 := by unfold f_X6_productWraps; rw [if_pos e1]; rfl
      rw [this]
    · rw [if_neg e1]
      have hd := div_back (a := y) (b := x) e1
      rw [Int64.mul_comm y x, Int.mul_comm, ← hp] at hd
      by_cases e2 : x * y / x = y
      · rw [if_pos e2]
        by_cases e3 : x = -1
        · rw [if_pos e3]
          by_cases e4 : y = -9223372036854775808
          · rw [if_pos e4]
            have : f_X6_productWraps x y = 1 := (pw_or x y).resolve_left (fun z => (hd.mpr z).2 ⟨e4, e3⟩)
            rw [this]
          · rw [if_neg e4, hd.mp ⟨e2, fun z => e4 z.1⟩]
        · rw [if_neg e3, hd.mp ⟨e2, fun z => e3 z.2⟩]
      · rw [if_neg e2]
        have : f_X6_productWraps x y = 1 := (pw_or x y).resolve_left (fun z => e2 (hd.mpr z).1)
        rw [this]
  · rw [if_neg e0, if_neg e0]
theorem mn_i (a b : Int64) : (jmin a b).toInt = if b.toInt < a.toInt then b.toInt else a.toInt := by
  unfold jmin
  simp only [Int64.lt_iff_toInt_lt]
  split <;> rfl
theorem mx_i (a b : Int64) : (jmax a b).toInt = if b.toInt < a.toInt then a.toInt else b.toInt := by
  unfold jmax
  simp only [Int64.lt_iff_toInt_lt]
  split <;> rfl
theorem mn4 (p q r s : Int64) : jmin (jmin (jmin (jmin 9223372036854775807 p) q) r) s = jmin (jmin p q) (jmin r s) := by
  apply Int64.toInt_inj.mp
  simp only [mn_i]
  have h : (9223372036854775807 : Int64).toInt = 9223372036854775807 := rfl
  have := (inR_i p).2
  rw [h]
  repeat' split
  all_goals omega
theorem mx4 (p q r s : Int64) : jmax (jmax (jmax (jmax (-9223372036854775808) p) q) r) s = jmax (jmax p q) (jmax r s) := by
  apply Int64.toInt_inj.mp
  simp only [mx_i, toInt_lst]
  have := (inR_i p).1
  repeat' split
  all_goals omega
/-! the product's bits -/
def pbK (ak : Int64) (j : Nat) : Int64 := (jshl ak (nI j)) ||| ((jshl 1 (nI j)) - 1)
def pbV (av : Int64) (j : Nat) : Int64 := jshl av (nI j)
def pbS (ak av bk bv : Int64) : Nat → Nat → Int64 → Int64 → Int64 × Int64
  | 0, _, K, V => (K, V)
  | n + 1, j, K, V => if tb bk j = false then pbS ak av bk bv n (j + 1) (bsK K V (pbK ak j &&& (pbV av j ^^^ (-1))) 0 0) (bsV K V (pbK ak j &&& (pbV av j ^^^ (-1))) 0 0) else if tb bv j = false then pbS ak av bk bv n (j + 1) K V else pbS ak av bk bv n (j + 1) (bsK K V (pbK ak j) (pbV av j) 0) (bsV K V (pbK ak j) (pbV av j) 0)
theorem and_b (x : Int64) {j : Nat} (hj : j < 64) : (x &&& jshl 1 (nI j)) = 0 ↔ tb x j = false := by
  rw [eq0_iff]
  constructor
  · intro h
    have := h j hj
    rw [tb_and, tb_b hj hj] at this
    simpa using this
  · intro h p hp
    rw [tb_and, tb_b hj hp]
    by_cases e : p = j
    · rw [e, h]; rfl
    · simp [e]
theorem pb_C {M : Mem} {a b t : Nat} {m r l h : Int64} (ha : a ≠ t) (hb : b ≠ t) : ∀ (q n j : Nat) (K V : Int64), j + q = 64 → q < n → f_X0_productBits_14 a b t n j (pC M t (0, l, h, K, V, m, r)) = pC M t (0, l, h, (pbS (gC M a).2.2.2.1 (gC M a).2.2.2.2.1 (gC M b).2.2.2.1 (gC M b).2.2.2.2.1 q j K V).1, (pbS (gC M a).2.2.2.1 (gC M a).2.2.2.2.1 (gC M b).2.2.2.1 (gC M b).2.2.2.2.1 q j K V).2, m, r) := by
  intro q
  induction q with
  | zero =>
    intro n j K V hj hn
    obtain ⟨n, rfl⟩ : ∃ z, n = z + 1 := ⟨n - 1, by omega⟩
    rw [f_X0_productBits_14, if_pos (show (64 : Int32) ≤ nI j from nI_le (a := 64) (by omega) (by omega))]
    rfl
  | succ q ih =>
    intro n j K V hj hn
    obtain ⟨n, rfl⟩ : ∃ z, n = z + 1 := ⟨n - 1, by omega⟩
    have hj' : j < 64 := by omega
    rw [f_X0_productBits_14, if_neg (show ¬ (64 : Int32) ≤ nI j from nI_ge (b := 64) hj' (by decide)), qcnL hb, qcnL hb, qcnL ha, qcnL ha, rc3, rc4]
    unfold pbS f_X0_productBits_c81 f_X0_productBits_c113 f_X0_productBits_113
    show (if ((gC M b).2.2.2.1 &&& jshl 1 (nI j)) = 0 then f_X0_productBits_14 a b t n (j + 1) (f_X1_becomeBitSum (pC M t (0, l, h, K, V, m, r)) t K V (pbK (gC M a).2.2.2.1 j &&& (pbV (gC M a).2.2.2.2.1 j ^^^ (-1))) 0 0) else if ((gC M b).2.2.2.2.1 &&& jshl 1 (nI j)) = 0 then f_X0_productBits_14 a b t n (j + 1) (pC M t (0, l, h, K, V, m, r)) else f_X0_productBits_14 a b t n (j + 1) (f_X1_becomeBitSum (pC M t (0, l, h, K, V, m, r)) t K V (pbK (gC M a).2.2.2.1 j) (pbV (gC M a).2.2.2.2.1 j) 0)) = _
    rw [bs_eq, bs_eq, wc3, wc4, wc3, wc4]
    by_cases e1 : tb (gC M b).2.2.2.1 j = false
    · rw [if_pos ((and_b _ hj').mpr e1), if_pos e1]
      exact ih n (j + 1) _ _ (by omega) (by omega)
    · rw [if_neg (fun z => e1 ((and_b _ hj').mp z)), if_neg e1]
      by_cases e2 : tb (gC M b).2.2.2.2.1 j = false
      · rw [if_pos ((and_b _ hj').mpr e2), if_pos e2]
        exact ih n (j + 1) _ _ (by omega) (by omega)
      · rw [if_neg (fun z => e2 ((and_b _ hj').mp z)), if_neg e2]
        exact ih n (j + 1) _ _ (by omega) (by omega)
theorem pbV_K {ak av : Int64} {j : Nat} (hj : j < 64) (h : av &&& ak = av) : pbV av j &&& pbK ak j = pbV av j := tb_ext fun p hp => by
  unfold pbV pbK
  rw [tb_and, tb_or, tb_shl _ hj hp, tb_shl _ hj hp, tb_mask hj]
  have h1 : ∀ q, tb av q = (tb av q && tb ak q) := fun q => by rw [← tb_and, h]
  have h2 := h1 (p - j)
  by_cases e : p < j
  · simp [e]
  · cases e1 : tb av (p - j) <;> cases e2 : tb ak (p - j) <;> simp [e, e1, e2] at h2 ⊢
/-- the reference's loop; SUM is cell 22, PART cell 23 -/
theorem pb_R {x y : Fk} (vx : x.2.2.2.2.1 &&& x.2.2.2.1 = x.2.2.2.2.1) (vy : y.2.2.2.2.1 &&& y.2.2.2.1 = y.2.2.2.2.1) : ∀ (q n j : Nat) (N : Mem), j + q = 64 → q < n → gR N 16 = x → gR N 17 = y → mL N 57 22 &&& mL N 56 22 = mL N 57 22 →
    Sd N (f_X7_multiply_219 n j N) ∧ gR (f_X7_multiply_219 n j N) 18 = (mI N 53 18, mL N 54 18, mL N 55 18, (pbS x.2.2.2.1 x.2.2.2.2.1 y.2.2.2.1 y.2.2.2.2.1 q j (mL N 56 22) (mL N 57 22)).1, (pbS x.2.2.2.1 x.2.2.2.2.1 y.2.2.2.1 y.2.2.2.2.1 q j (mL N 56 22) (mL N 57 22)).2, mL N 58 18, mL N 59 18) := by
  intro q
  induction q with
  | zero =>
    intro n j N hj hn h16 h17 hs
    obtain ⟨n, rfl⟩ : ∃ z, n = z + 1 := ⟨n - 1, by omega⟩
    rw [f_X7_multiply_219, if_pos (show (64 : Int32) ≤ nI j from nI_le (a := 64) (by omega) (by omega)), ix18, show ix 22 = 22 from rfl, mL_uL_ne (by decide)]
    refine ⟨(Sd.rf.uL (scr_f (by decide) (by decide) (by decide) (by decide))).uL (scr_f (by decide) (by decide) (by decide) (by decide)), ?_⟩
    unfold gR pbS
    simp only [r_IL, r_L]
    simp
  | succ q ih =>
    intro n j N hj hn h16 h17 hs
    obtain ⟨n, rfl⟩ : ∃ z, n = z + 1 := ⟨n - 1, by omega⟩
    have hj' : j < 64 := by omega
    have k1 : mL N 56 16 = x.2.2.2.1 := by rw [← h16]; rfl
    have v1 : mL N 57 16 = x.2.2.2.2.1 := by rw [← h16]; rfl
    have k2 : mL N 56 17 = y.2.2.2.1 := by rw [← h17]; rfl
    have v2 : mL N 57 17 = y.2.2.2.2.1 := by rw [← h17]; rfl
    have hbt := bit_trt N 17 hj' (by rw [ix17, k2, v2]; exact vy)
    rw [ix17, k2, v2] at hbt
    have hk := vk_eq vy hj'
    have hm : tb y.2.2.2.2.1 j = true → tb (y.2.2.2.2.1 ||| (y.2.2.2.1 ^^^ (-1))) j = true := vk_mono
    have stp : ∀ (Q : Mem) (pk pv : Int64), pv &&& pk = pv → Q = uL (uL N 56 23 pk) 57 23 pv →
        Sd N (f_X7_multiply_219 n (j + 1) (f_X7_ripple Q 22 23 0 22)) ∧ gR (f_X7_multiply_219 n (j + 1) (f_X7_ripple Q 22 23 0 22)) 18 = (mI N 53 18, mL N 54 18, mL N 55 18, (pbS x.2.2.2.1 x.2.2.2.2.1 y.2.2.2.1 y.2.2.2.2.1 q (j + 1) (bsK (mL N 56 22) (mL N 57 22) pk pv 0) (bsV (mL N 56 22) (mL N 57 22) pk pv 0)).1, (pbS x.2.2.2.1 x.2.2.2.2.1 y.2.2.2.1 y.2.2.2.2.1 q (j + 1) (bsK (mL N 56 22) (mL N 57 22) pk pv 0) (bsV (mL N 56 22) (mL N 57 22) pk pv 0)).2, mL N 58 18, mL N 59 18) := by
      intro Q pk pv hpv hQ
      have a1 : mL Q 56 22 = mL N 56 22 := by rw [hQ, mL_uL_ne (by decide), mL_uL_nk (by decide)]
      have a2 : mL Q 57 22 = mL N 57 22 := by rw [hQ, mL_uL_nk (by decide), mL_uL_ne (by decide)]
      have a3 : mL Q 56 23 = pk := by rw [hQ, mL_uL_ne (by decide), mL_uL]
      have a4 : mL Q 57 23 = pv := by rw [hQ, mL_uL]
      have er := rip_eq Q 22 23 22 0 (Or.inl rfl) (by rw [show ix 22 = 22 from rfl, a1, a2]; exact hs) (by rw [show ix 23 = 23 from rfl, a3, a4]; exact hpv)
      rw [show ix 22 = 22 from rfl, show ix 23 = 23 from rfl, a1, a2, a3, a4, if_pos rfl] at er
      rw [er]
      have sQ : Sd N Q := by rw [hQ]; exact (Sd.rf.uL (scr_f (by decide) (by decide) (by decide) (by decide))).uL (scr_f (by decide) (by decide) (by decide) (by decide))
      have sP : Sd N (uL (uL Q 56 22 (bsK (mL N 56 22) (mL N 57 22) pk pv 0)) 57 22 (bsV (mL N 56 22) (mL N 57 22) pk pv 0)) := (sQ.uL (scr_f (by decide) (by decide) (by decide) (by decide))).uL (scr_f (by decide) (by decide) (by decide) (by decide))
      generalize hP : uL (uL Q 56 22 (bsK (mL N 56 22) (mL N 57 22) pk pv 0)) 57 22 (bsV (mL N 56 22) (mL N 57 22) pk pv 0) = P at sP
      have gg : ∀ f, f ≠ 22 → f ≠ 23 → gR P f = gR N f := fun f h1 h2 => by
        rw [← hP, hQ]
        unfold gR
        simp only [r_IL, r_L]
        simp [h1, h2]
      have b1 : mL P 56 22 = bsK (mL N 56 22) (mL N 57 22) pk pv 0 := by rw [← hP, mL_uL_ne (by decide), mL_uL]
      have b2 : mL P 57 22 = bsV (mL N 56 22) (mL N 57 22) pk pv 0 := by rw [← hP, mL_uL]
      obtain ⟨r1, r2⟩ := ih n (j + 1) P (by omega) (by omega) (by rw [gg 16 (by decide) (by decide), h16]) (by rw [gg 17 (by decide) (by decide), h17]) (by rw [b1, b2]; exact bsV_K _ _ _ _ _)
      refine ⟨sP.tr r1, ?_⟩
      rw [r2, b1, b2]
      have g18 := gg 18 (by decide) (by decide)
      have c0 : mI P 53 18 = mI N 53 18 := congrArg (fun z : Fk => z.1) g18
      have c1 : mL P 54 18 = mL N 54 18 := congrArg (fun z : Fk => z.2.1) g18
      have c2 : mL P 55 18 = mL N 55 18 := congrArg (fun z : Fk => z.2.2.1) g18
      have c5 : mL P 58 18 = mL N 58 18 := congrArg (fun z : Fk => z.2.2.2.2.2.1) g18
      have c6 : mL P 59 18 = mL N 59 18 := congrArg (fun z : Fk => z.2.2.2.2.2.2) g18
      rw [c0, c1, c2, c5, c6]
    rw [f_X7_multiply_219, if_neg (show ¬ (64 : Int32) ≤ nI j from nI_ge (b := 64) hj' (by decide)), hbt, ix16, show ix 23 = 23 from rfl, mL_uL_ne (show (57 : Nat) ≠ 56 by decide), k1, v1]
    unfold pbS f_X7_multiply_c282 f_X7_multiply_317 f_X7_multiply_c328 f_X7_multiply_328
    rw [hbt]
    by_cases e1 : tb y.2.2.2.1 j = false
    · rw [if_pos e1]
      have hx : tb y.2.2.2.2.1 j = false ∧ tb (y.2.2.2.2.1 ||| (y.2.2.2.1 ^^^ (-1))) j = true := by
        rw [e1] at hk
        revert hk hm
        generalize tb (y.2.2.2.2.1 ||| (y.2.2.2.1 ^^^ (-1))) j = A
        generalize tb y.2.2.2.2.1 j = B
        intro hk hm
        cases A <;> cases B <;> simp at hk hm ⊢
      rw [hx.1, hx.2, if_neg (by decide), if_pos (by decide), show ix 23 = 23 from rfl, mL_uL, mL_uL_ne (show (56 : Nat) ≠ 57 by decide), mL_uL]
      refine stp _ _ _ (by exact tb_ext fun p hp => by rw [tb_and, tb_0]; rfl) ?_
      refine mem_ext rfl rfl (fun b i => rfl) (fun b i => ?_)
      simp only [r_L]
      by_cases c1 : b = 57 ∧ i = 23
      · simp [c1]
      · by_cases c2 : b = 56 ∧ i = 23
        · simp [c2]; rfl
        · simp [c1, c2]
    · rw [if_neg e1]
      have hx : tb y.2.2.2.2.1 j = tb (y.2.2.2.2.1 ||| (y.2.2.2.1 ^^^ (-1))) j := by
        have : tb y.2.2.2.1 j = true := by simpa using e1
        rw [this] at hk
        simpa using hk.symm
      by_cases e2 : tb y.2.2.2.2.1 j = false
      · rw [if_pos e2, ← hx, e2, if_pos (by decide)]
        exact ih n (j + 1) N (by omega) (by omega) h16 h17 hs
      · have e3 : tb y.2.2.2.2.1 j = true := by simpa using e2
        rw [if_neg e2, ← hx, e3, if_neg (by decide), if_neg (by decide)]
        exact stp _ _ _ (pbV_K hj' vx) rfl
