theorem tb_63 (p : Nat) : tb 63 p = decide (p < 6) := by
  by_cases h : p < 64
  · have : ∀ p, p < 64 → tb 63 p = decide (p < 6) := by decide +kernel
    exact this p h
  · rw [tb_ge (by omega)]; simp; omega
theorem tb_i32 (x : Int64) {p : Nat} (h : p < 31) : tb (Int32.toInt64 (Int64.toInt32 x)) p = tb x p := by
  unfold tb
  rw [Int32.toBitVec_toInt64, Int64.toBitVec_toInt32, BitVec.getLsbD_signExtend, BitVec.getLsbD_signExtend]
  have h1 : p < 64 := by omega
  have h2 : p < 32 := by omega
  simp [h1, h2]
theorem and63 (x : Int64) : Int32.toInt64 (Int64.toInt32 x) &&& 63 = x &&& 63 := tb_ext fun p hp => by
  rw [tb_and, tb_and, tb_63]
  by_cases h : p < 6
  · rw [tb_i32 x (by omega)]
  · simp [h]
theorem and63_2 (x : Int64) : (x &&& 63) &&& 63 = x &&& 63 := tb_ext fun p hp => by
  rw [tb_and, tb_and, Bool.and_assoc, Bool.and_self]
theorem shl_63 (a b : Int64) : jshl a (Int64.toInt32 (b &&& 63)) = jshl a (Int64.toInt32 b) := by
  unfold jshl; rw [and63, and63, and63_2]
theorem shr_63 (a b : Int64) : jshr a (Int64.toInt32 (b &&& 63)) = jshr a (Int64.toInt32 b) := by
  unfold jshr; rw [and63, and63, and63_2]
theorem ushr_63 (a b : Int64) : jushr a (Int64.toInt32 (b &&& 63)) = jushr a (Int64.toInt32 b) := by
  have e : ∀ x : Int64, (Int32.toInt64 (Int64.toInt32 x)).toUInt64 &&& Int64.toUInt64 63 = (Int32.toInt64 (Int64.toInt32 x) &&& 63).toUInt64 := fun x => rfl
  unfold jushr; rw [e, e, and63, and63, and63_2]
/-- numbers: the class's and the reference's -/
theorem op_bad {op : Int32} (h1 : 0 ≤ op) (h2 : op ≤ 19) (h : ∀ k : Nat, k < 20 → ¬ op = nI k) : False := by
  rw [Int32.le_iff_toInt_le] at h1 h2
  have e0 : (0 : Int32).toInt = 0 := rfl
  have e1 : (19 : Int32).toInt = 19 := rfl
  refine h op.toInt.toNat (by omega) (Int32.toInt_inj.mp ?_)
  rw [nI_toInt (by omega)]
  omega
theorem num_eq {op : Int32} {a b : Int64} (h1 : 0 ≤ op) (h2 : op ≤ 19) (hb : (op = 9 ∨ op = 10) → ¬ b = 0) : f_X0_number op a b = f_X7_reckon op a b := by
  unfold f_X0_number f_X7_reckon f_X7_alone f_X0_number_160 f_X0_number_174
  by_cases e0 : op = 0
  · rw [if_pos e0, if_pos e0]
  · rw [if_neg e0, if_neg e0]
    by_cases e1 : op = 1
    · rw [if_pos e1, if_pos e1]
    · rw [if_neg e1, if_neg e1]
      by_cases e2 : op = 2
      · rw [if_pos e2, if_pos e2]
      · rw [if_neg e2, if_neg e2]
        by_cases e3 : op = 3
        · rw [if_pos e3, if_pos e3]
        · rw [if_neg e3, if_neg e3]
          by_cases e4 : op = 4
          · rw [if_pos e4, if_pos e4]
          · rw [if_neg e4, if_neg e4]
            by_cases e5 : op = 5
            · rw [if_pos e5, if_pos e5]
            · rw [if_neg e5, if_neg e5]
              by_cases e6 : op = 6
              · rw [if_pos e6, if_pos e6, shl_63]
              · rw [if_neg e6, if_neg e6]
                by_cases e7 : op = 7
                · rw [if_pos e7, if_pos e7, shr_63]
                · rw [if_neg e7, if_neg e7]
                  by_cases e8 : op = 8
                  · rw [if_pos e8, if_pos e8, ushr_63]
                  · rw [if_neg e8, if_neg e8]
                    by_cases e9 : op = 9
                    · rw [if_pos e9, if_pos e9, if_neg (hb (Or.inl e9))]
                    · rw [if_neg e9, if_neg e9]
                      by_cases e10 : op = 10
                      · rw [if_pos e10, if_pos e10, if_neg (hb (Or.inr e10))]
                      · rw [if_neg e10, if_neg e10]
                        by_cases e11 : op = 11
                        · rw [if_pos e11, if_pos e11]
                        · rw [if_neg e11, if_neg e11]
                          by_cases e12 : op = 12
                          · rw [if_pos e12, if_pos e12]
                          · rw [if_neg e12, if_neg e12]
                            by_cases e13 : op = 13
                            · rw [if_pos e13, if_pos e13]
                            · rw [if_neg e13, if_neg e13]
                              by_cases e14 : op = 14
                              · rw [if_pos e14, if_pos e14]
                              · rw [if_neg e14, if_neg e14]
                                by_cases e15 : op = 15
                                · rw [if_pos e15, if_pos e15]
                                · rw [if_neg e15, if_neg e15]
                                  by_cases e16 : op = 16
                                  · rw [if_pos e16, if_pos e16]
                                  · rw [if_neg e16, if_neg e16]
                                    by_cases e17 : op = 17
                                    · rw [if_pos e17, if_pos e17]
                                    · rw [if_neg e17, if_neg e17]
                                      by_cases e18 : op = 18
                                      · rw [if_pos e18, if_pos e18]
                                      · rw [if_neg e18, if_neg e18]
                                        by_cases e19 : op = 19
                                        · rw [if_pos e19]
                                        · exact (op_bad h1 h2 fun k hk => match k, hk with | 0, _ => e0 | 1, _ => e1 | 2, _ => e2 | 3, _ => e3 | 4, _ => e4 | 5, _ => e5 | 6, _ => e6 | 7, _ => e7 | 8, _ => e8 | 9, _ => e9 | 10, _ => e10 | 11, _ => e11 | 12, _ => e12 | 13, _ => e13 | 14, _ => e14 | 15, _ => e15 | 16, _ => e16 | 17, _ => e17 | 18, _ => e18 | 19, _ => e19 | k + 20, hk => absurd hk (by omega)).elim
theorem num_1 {op : Int32} {a b c : Int64} (h : 12 ≤ op) : f_X7_reckon op a b = f_X7_reckon op a c := by
  have ne : ∀ k : Int32, k < 12 → ¬ op = k := fun k hk z => by
    rw [z] at h
    have q := Int32.lt_of_lt_of_le hk h
    rw [Int32.lt_iff_toInt_lt] at q
    omega
  unfold f_X7_reckon
  rw [if_neg (ne 0 (by decide)), if_neg (ne 1 (by decide)), if_neg (ne 2 (by decide)), if_neg (ne 3 (by decide)), if_neg (ne 4 (by decide)), if_neg (ne 5 (by decide)), if_neg (ne 6 (by decide)), if_neg (ne 7 (by decide)), if_neg (ne 8 (by decide)), if_neg (ne 9 (by decide)), if_neg (ne 10 (by decide)), if_neg (ne 11 (by decide)), if_neg (ne 0 (by decide)), if_neg (ne 1 (by decide)), if_neg (ne 2 (by decide)), if_neg (ne 3 (by decide)), if_neg (ne 4 (by decide)), if_neg (ne 5 (by decide)), if_neg (ne 6 (by decide)), if_neg (ne 7 (by decide)), if_neg (ne 8 (by decide)), if_neg (ne 9 (by decide)), if_neg (ne 10 (by decide)), if_neg (ne 11 (by decide))]
/-! and, or, xor -/
def bwO (op : Int32) (x y : Fk) : Int64 := if op = 3 then x.2.2.2.2.1 &&& y.2.2.2.2.1 else if op = 4 then x.2.2.2.2.1 ||| y.2.2.2.2.1 else (x.2.2.2.2.1 &&& (y.2.2.2.1 &&& (y.2.2.2.2.1 ^^^ (-1)))) ||| ((x.2.2.2.1 &&& (x.2.2.2.2.1 ^^^ (-1))) &&& y.2.2.2.2.1)
def bwZ (op : Int32) (x y : Fk) : Int64 := if op = 3 then (x.2.2.2.1 &&& (x.2.2.2.2.1 ^^^ (-1))) ||| (y.2.2.2.1 &&& (y.2.2.2.2.1 ^^^ (-1))) else if op = 4 then (x.2.2.2.1 &&& (x.2.2.2.2.1 ^^^ (-1))) &&& (y.2.2.2.1 &&& (y.2.2.2.2.1 ^^^ (-1))) else (x.2.2.2.2.1 &&& y.2.2.2.2.1) ||| ((x.2.2.2.1 &&& (x.2.2.2.2.1 ^^^ (-1))) &&& (y.2.2.2.1 &&& (y.2.2.2.2.1 ^^^ (-1))))
def bwH (op : Int32) (x y : Fk) : Int64 := if op = 3 then jmin (if x.2.1 < 0 then 9223372036854775807 else x.2.2.1) (if y.2.1 < 0 then 9223372036854775807 else y.2.2.1) else 9223372036854775807
def bwP (op : Int32) (x y : Fk) : Fk := (0, -9223372036854775808, bwH op x y, bwO op x y ||| bwZ op x y, bwO op x y, 1, 0)
theorem Pf_bw (op : Int32) (x y : Fk) : Pf (bwP op x y) := by
  unfold bwP
  refine Pf_mk (Pd_1 (tb_ext fun p hp => ?_))
  rw [tb_and, tb_or]
  cases tb (bwO op x y) p <;> simp
theorem bw_C {M : Mem} {op : Int32} {a b t : Nat} (ha : a ≠ t) (hb : b ≠ t) : f_X0_bitwise (pC M t AL) op a b t = pC M t (bwP op (gC M a) (gC M b)) := by
  unfold f_X0_bitwise f_X0_bitwise_c53 f_X0_bitwise_c126 f_X0_bitwise_c146 f_X0_bitwise_74 f_X0_bitwise_94 f_X0_bitwise_163 bwP bwH bwO bwZ
  unfold AL
  simp only [qcnL ha, qcnL hb, rc2, wc2, wc3, wc4]
  by_cases e3 : op = 3
  · rw [if_pos e3, if_pos e3, if_pos e3, if_pos e3]
    show (if (gC M a).2.1 < 0 then (if (gC M b).2.1 < 0 then _ else _) else (if (gC M b).2.1 < 0 then _ else _)) = _
    by_cases q1 : (gC M a).2.1 < 0
    · rw [if_pos q1, if_pos q1]
      by_cases q2 : (gC M b).2.1 < 0
      · rw [if_pos q2, if_pos q2]; rfl
      · rw [if_neg q2, if_neg q2]; rfl
    · rw [if_neg q1, if_neg q1]
      by_cases q2 : (gC M b).2.1 < 0
      · rw [if_pos q2, if_pos q2]; rfl
      · rw [if_neg q2, if_neg q2]; rfl
  · rw [if_neg e3, if_neg e3, if_neg e3, if_neg e3]
    by_cases e4 : op = 4
    · rw [if_pos e4, if_pos e4, if_pos e4]; rfl
    · rw [if_neg e4, if_neg e4, if_neg e4]; rfl
theorem bw_R {N : Mem} {op : Int32} {x y : Fk} (h16 : gR N 16 = x) (h17 : gR N 17 = y) (h18 : gR N 18 = AL) : f_X7_bitwise N op = pR N 18 (bwP op x y) := by
  have hN : N = pR N 18 AL := by rw [← h18, pR_g]
  have k1 : mL N 56 (ix 16) = x.2.2.2.1 := by rw [← h16]; rfl
  have v1 : mL N 57 (ix 16) = x.2.2.2.2.1 := by rw [← h16]; rfl
  have k2 : mL N 56 (ix 17) = y.2.2.2.1 := by rw [← h17]; rfl
  have v2 : mL N 57 (ix 17) = y.2.2.2.2.1 := by rw [← h17]; rfl
  have e : ∀ z : Fk, (mL (pR N 18 z) 54 (ix 16) = x.2.1 ∧ mL (pR N 18 z) 55 (ix 16) = x.2.2.1) ∧ mL (pR N 18 z) 54 (ix 17) = y.2.1 ∧ mL (pR N 18 z) 55 (ix 17) = y.2.2.1 := fun z => by
    rw [ix16, ix17, qdnL (by decide), qdnL (by decide), qdnL (by decide), qdnL (by decide), ← h16, ← h17]
    exact ⟨⟨rfl, rfl⟩, rfl, rfl⟩
  have hQ : ∀ o z : Int64, uL (uL N 56 (ix 18) z) 57 (ix 18) o = pR N 18 (0, -9223372036854775808, 9223372036854775807, z, o, 1, 0) := fun o z => by
    rw [ix18]
    conv => lhs; rw [hN]
    unfold AL
    rw [wr3, wr4]
  have fin : ∀ o z : Int64, f_X7_bitwise_131 op o z N = pR N 18 (0, -9223372036854775808, bwH op x y, o ||| z, o, 1, 0) := fun o z => by
    unfold f_X7_bitwise_131 f_X7_bitwise_195 f_X7_bitwise_236 bwH
    rw [hQ, (e _).1.1, (e _).1.2]
    by_cases e3 : op = 3
    · simp only [if_pos e3]
      simp only [ix18, rr2, wr2, (e _).2.1, (e _).2.2, less_eq]
      have j1 : ∀ a : Int64, jmin 9223372036854775807 a = a := fun a => by
        apply Int64.toInt_inj.mp
        rw [mn_i]
        have h : (9223372036854775807 : Int64).toInt = 9223372036854775807 := rfl
        have := (inR_i a).2
        split <;> omega
      have j2 : ∀ a : Int64, jmin a 9223372036854775807 = a := fun a => by
        apply Int64.toInt_inj.mp
        rw [mn_i]
        have h : (9223372036854775807 : Int64).toInt = 9223372036854775807 := rfl
        have := (inR_i a).2
        split <;> omega
      by_cases q1 : x.2.1 < 0
      · rw [if_pos q1, if_pos q1]
        by_cases q2 : y.2.1 < 0
        · rw [if_pos q2, if_pos q2]; rfl
        · rw [if_neg q2, if_neg q2]
      · rw [if_neg q1, if_neg q1, j1]
        by_cases q2 : y.2.1 < 0
        · rw [if_pos q2, if_pos q2, j2]
        · rw [if_neg q2, if_neg q2]
    · simp only [if_neg e3]
  unfold f_X7_bitwise f_X7_bitwise_95 bwP bwO bwZ
  rw [k1, k2, v1, v2]
  simp only [fin]
  by_cases e3 : op = 3
  · simp only [e3, if_pos]
  · simp only [e3, if_false]
    by_cases e4 : op = 4
    · simp only [e4, if_pos]
    · simp only [e4, if_false]
/-! quotient, remainder -/
def quP (x : Fk) (b : Int64) : Fk := (0, x.2.1 / b, x.2.2.1 / b, 0, 0, 1, 0)
theorem qu_C {M : Mem} {a t : Nat} {b : Int64} (ha : a ≠ t) (hb : 0 < b) : f_X0_quotient (pC M t AL) a b t = pC M t (quP (gC M a) b) := by
  unfold f_X0_quotient f_X0_quotient_26 AL
  rw [if_neg (fun z => by rw [Int64.le_iff_toInt_le] at z; rw [Int64.lt_iff_toInt_lt] at hb; omega)]
  simp only [qcnL ha, wc1, wc2]
  rfl
theorem Pf_qu (x : Fk) (b : Int64) : Pf (quP x b) := Pf_mk (Pd_1 (by decide))
def rmM (x : Fk) (b : Int64) : Int64 := f_X6_oddPart (f_X6_commonDivisor x.2.2.2.2.2.1 b)
def rmP (x : Fk) (b : Int64) : Fk :=
  if x.2.1 ≤ -b ∨ b ≤ x.2.2.1 then (0, if x.2.1 < 0 then jmax x.2.1 (1 - b) else 0, if 0 < x.2.2.1 then jmin x.2.2.1 (b - 1) else 0, if (b &&& (b - 1)) = 0 then (if x.2.1 < 0 then 0 else x.2.2.2.1 ||| ((b - 1) ^^^ (-1))) else 0, if (b &&& (b - 1)) = 0 then (if x.2.1 < 0 then 0 else x.2.2.2.2.1 &&& (b - 1)) else 0, rmM x b, f_X6_restBy x.2.2.2.2.2.2 (rmM x b)) else x
theorem rm_C {M : Mem} {a t : Nat} {b : Int64} (ha : a ≠ t) : f_X0_remainder (pC M t AL) a b t = pC M t (rmP (gC M a) b) := by
  have key : f_X0_remainder_25 a b t (pC M t AL) = pC M t (0, if (gC M a).2.1 < 0 then jmax (gC M a).2.1 (1 - b) else 0, if 0 < (gC M a).2.2.1 then jmin (gC M a).2.2.1 (b - 1) else 0, if (b &&& (b - 1)) = 0 then (if (gC M a).2.1 < 0 then 0 else (gC M a).2.2.2.1 ||| ((b - 1) ^^^ (-1))) else 0, if (b &&& (b - 1)) = 0 then (if (gC M a).2.1 < 0 then 0 else (gC M a).2.2.2.2.1 &&& (b - 1)) else 0, rmM (gC M a) b, f_X6_restBy (gC M a).2.2.2.2.2.2 (rmM (gC M a) b)) := by
    have fin : ∀ l h : Int64, f_X0_remainder_85 a b t (pC M t AL) l h (pC M t AL) = pC M t (0, l, h, if (b &&& (b - 1)) = 0 then (if (gC M a).2.1 < 0 then 0 else (gC M a).2.2.2.1 ||| ((b - 1) ^^^ (-1))) else 0, if (b &&& (b - 1)) = 0 then (if (gC M a).2.1 < 0 then 0 else (gC M a).2.2.2.2.1 &&& (b - 1)) else 0, rmM (gC M a) b, f_X6_restBy (gC M a).2.2.2.2.2.2 (rmM (gC M a) b)) := fun l h => by
      unfold f_X0_remainder_85 f_X0_remainder_c99 f_X0_remainder_148 f_X1_limit AL
      simp only [qcnL ha, wc1, wc2, wc3, wc4, wc5, wc6]
      show (if (b &&& (b - 1)) = 0 then (if (gC M a).2.1 < 0 then _ else _) else _) = _
      by_cases q1 : (b &&& (b - 1)) = 0
      · rw [if_pos q1, if_pos q1, if_pos q1]
        by_cases q2 : (gC M a).2.1 < 0
        · rw [if_pos q2, if_pos q2, if_pos q2]; rfl
        · rw [if_neg q2, if_neg q2, if_neg q2]; rfl
      · rw [if_neg q1, if_neg q1, if_neg q1]; rfl
    unfold f_X0_remainder_25 f_X0_remainder_62
    simp only [qcnL ha, fin]
    show (if (gC M a).2.1 < 0 then (if 0 < (gC M a).2.2.1 then _ else _) else (if 0 < (gC M a).2.2.1 then _ else _)) = _
    by_cases q1 : (gC M a).2.1 < 0
    · by_cases q2 : 0 < (gC M a).2.2.1
      · simp only [if_pos q1, if_pos q2]; rfl
      · simp only [if_pos q1, if_neg q2]; rfl
    · by_cases q2 : 0 < (gC M a).2.2.1
      · simp only [if_neg q1, if_pos q2]; rfl
      · simp only [if_neg q1, if_neg q2]
  unfold f_X0_remainder rmP f_X0_remainder_c24
  rw [key, cp_C, gC_n ha, pC_p, qcnL ha, qcnL ha]
  show (if (gC M a).2.1 ≤ -b then _ else if b ≤ (gC M a).2.2.1 then _ else _) = _
  by_cases q1 : (gC M a).2.1 ≤ -b
  · rw [if_pos q1, if_pos (Or.inl q1)]
  · rw [if_neg q1]
    by_cases q2 : b ≤ (gC M a).2.2.1
    · rw [if_pos q2, if_pos (Or.inr q2)]
    · rw [if_neg q2, if_neg (fun z => z.elim q1 q2)]
theorem Pf_rm {x : Fk} {b : Int64} (hx : Gd x) (x0 : x.1 = 0) : Pf (rmP x b) := by
  have px := (gd_P hx x0).1
  unfold rmP
  split
  · refine Pf_mk ⟨?_, odd_OK _, rest_rng (odd_OK _).1⟩
    split
    · split
      · decide
      · exact tb_ext fun p hp => by
          have h2 : tb x.2.2.2.2.1 p = (tb x.2.2.2.2.1 p && tb x.2.2.2.1 p) := by rw [← tb_and, px.1]
          rw [tb_and, tb_or, tb_and, tb_not _ hp, h2]
          cases tb x.2.2.2.2.1 p <;> cases tb x.2.2.2.1 p <;> cases tb (b - 1) p <;> rfl
    · decide
  · exact ⟨x0, px⟩
theorem div_R {N : Mem} {op : Int32} {x y : Fk} (hop : op = 9 ∨ op = 10) (hx : Gd x) (x0 : x.1 = 0) (y0 : y.1 = 0) (yc : y.2.1 = y.2.2.1) (yp : 0 < y.2.1) (h16 : gR N 16 = x) (h17 : gR N 17 = y) (h18 : gR N 18 = AL) : f_X7_divide N op = pR N 18 (if op = 9 then quP x y.2.1 else rmP x y.2.1) := by
  have hN : N = pR N 18 AL := by rw [← h18, pR_g]
  have px := (gd_P hx x0).1
  have a1 : mL N 54 (ix 16) = x.2.1 := by rw [← h16]; rfl
  have a2 : mL N 54 (ix 17) = y.2.1 := by rw [← h17]; rfl
  have a3 : mL N 55 (ix 16) = x.2.2.1 := by rw [← h16]; rfl
  have hn : ¬ f_X7_isNumber N 17 = 0 := fun z => in_0.mp z (by rw [show gR N (ix 17) = y from h17]; exact ⟨y0, yc⟩)
  have e : ∀ (z : Fk), mL (pR N 18 z) 54 (ix 16) = x.2.1 ∧ mL (pR N 18 z) 55 (ix 16) = x.2.2.1 ∧ mL (pR N 18 z) 56 (ix 16) = x.2.2.2.1 ∧ mL (pR N 18 z) 57 (ix 16) = x.2.2.2.2.1 ∧ mL (pR N 18 z) 58 (ix 16) = x.2.2.2.2.2.1 ∧ mL (pR N 18 z) 59 (ix 16) = x.2.2.2.2.2.2 := fun z => by
    rw [ix16, qdnL (by decide), qdnL (by decide), qdnL (by decide), qdnL (by decide), qdnL (by decide), qdnL (by decide), ← h16]
    exact ⟨rfl, rfl, rfl, rfl, rfl, rfl⟩
  have hop11 : ¬ op = 11 := by rcases hop with rfl | rfl <;> decide
  unfold f_X7_divide
  rw [if_neg hop11, if_neg hn, a2, if_pos yp]
  by_cases e9 : op = 9
  · rw [if_pos e9, if_pos e9, a1]
    unfold f_X7_divide_c73
    rw [mL_uL_ne (by decide), a3, ix18]
    conv => lhs; rw [hN]
    unfold AL
    rw [wr1, wr2]
    rfl
  · rw [if_neg e9, if_neg e9, a1, a3]
    have key : f_X7_divide_108 N N = pR N 18 (0, if x.2.1 < 0 then jmax x.2.1 (1 - y.2.1) else 0, if 0 < x.2.2.1 then jmin x.2.2.1 (y.2.1 - 1) else 0, if (y.2.1 &&& (y.2.1 - 1)) = 0 then (if x.2.1 < 0 then 0 else x.2.2.2.1 ||| ((y.2.1 - 1) ^^^ (-1))) else 0, if (y.2.1 &&& (y.2.1 - 1)) = 0 then (if x.2.1 < 0 then 0 else x.2.2.2.2.1 &&& (y.2.1 - 1)) else 0, rmM x y.2.1, f_X6_restBy x.2.2.2.2.2.2 (rmM x y.2.1)) := by
      have hm : f_X7_odd (f_X7_common x.2.2.2.2.2.1 y.2.1) = rmM x y.2.1 := by
        unfold rmM
        rw [cd_cm (Int64.le_trans (by decide) px.2.1.1) (Int64.le_of_lt yp), odd_eq]
      have fin : ∀ l h : Int64, f_X7_divide_179 N h (uL N 54 (ix 18) l) = pR N 18 (0, l, h, if (y.2.1 &&& (y.2.1 - 1)) = 0 then (if x.2.1 < 0 then 0 else x.2.2.2.1 ||| ((y.2.1 - 1) ^^^ (-1))) else 0, if (y.2.1 &&& (y.2.1 - 1)) = 0 then (if x.2.1 < 0 then 0 else x.2.2.2.2.1 &&& (y.2.1 - 1)) else 0, rmM x y.2.1, f_X6_restBy x.2.2.2.2.2.2 (rmM x y.2.1)) := fun l h => by
        have hQ : uL (uL N 54 (ix 18) l) 55 (ix 18) h = pR N 18 (0, l, h, 0, 0, 1, 0) := by
          rw [ix18]
          conv => lhs; rw [hN]
          unfold AL
          rw [wr1, wr2]
        unfold f_X7_divide_179 f_X7_divide_c207 f_X7_divide_269
        rw [hQ, a2, (e _).2.2.2.2.1, (e _).2.2.2.2.2, hm]
        have hs : ∀ z w : Int64, f_X7_setRest (pR N 18 (0, l, h, 0, 0, 1, 0)) 18 z w = pR N 18 (0, l, h, 0, 0, z, f_X7_rem w z) := fun z w => by
          unfold f_X7_setRest
          rw [ix18, wr5, wr6]
        have hmo : mOK (rmM x y.2.1) := odd_OK _
        rw [hs, ← rest_rem hmo.1, (e _).1, (e _).2.2.1, ix18, wr3, (e _).2.2.2.1, wr4]
        by_cases q1 : (y.2.1 &&& (y.2.1 - 1)) = 0
        · rw [if_pos q1, if_pos q1, if_pos q1]
          by_cases q2 : x.2.1 < 0
          · rw [if_pos q2, if_pos q2, if_pos q2]
          · rw [if_neg q2, if_neg q2, if_neg q2]
        · rw [if_neg q1, if_neg q1, if_neg q1]
      have b3 : ∀ l : Int64, mL (uL N 54 (ix 18) l) 55 (ix 16) = x.2.2.1 := fun l => by rw [mL_uL_ne (by decide), a3]
      unfold f_X7_divide_108 f_X7_divide_143
      rw [a1, a2, b3, b3, fin, fin, fin, fin, more_eq, less_eq]
      by_cases q1 : x.2.1 < 0
      · by_cases q2 : 0 < x.2.2.1
        · simp only [if_pos q1, if_pos q2]
        · simp only [if_pos q1, if_neg q2]
      · by_cases q2 : 0 < x.2.2.1
        · simp only [if_neg q1, if_pos q2]
        · simp only [if_neg q1, if_neg q2]
    unfold f_X7_divide_c107 rmP
    rw [key, cp_R, ix18, ix16, h16]
    by_cases q1 : x.2.1 ≤ -y.2.1
    · rw [if_pos q1, if_pos (Or.inl q1)]
    · rw [if_neg q1]
      by_cases q2 : y.2.1 ≤ x.2.2.1
      · rw [if_pos q2, if_pos (Or.inr q2)]
      · rw [if_neg q2, if_neg (fun z => z.elim q1 q2)]
/-! turned -/
def tuP (x : Fk) : Fk := (0, x.2.2.1 ^^^ (-1), x.2.1 ^^^ (-1), x.2.2.2.1, tn x, x.2.2.2.2.2.1, f_X6_restBy (-1 - x.2.2.2.2.2.2) x.2.2.2.2.2.1)
theorem tu_C {M : Mem} {a t : Nat} (ha : a ≠ t) : f_X0_turned (pC M t AL) a t = pC M t (tuP (gC M a)) := by
  unfold f_X0_turned f_X0_turned_c56
  simp only [qcnL ha]
  show pC (pC M t AL) t (tuP (gC M a)) = _
  rw [pC_p]
theorem Pf_tu {x : Fk} (hx : Gd x) (x0 : x.1 = 0) : Pf (tuP x) := by
  have px := (gd_P hx x0).1
  unfold tuP tn
  exact Pf_mk ⟨tb_ext fun p hp => by rw [tb_and, tb_and, Bool.and_assoc, Bool.and_self], px.2.1, rest_rng px.2.1.1⟩
