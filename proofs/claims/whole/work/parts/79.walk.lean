/-! a RUN: looking, and one LINE -/
def eA (b _j : Nat) : Bool := decide (b = 31) || decide (b = 32)
def eB (b j : Nat) : Bool := decide (b = 73) || (decide (b = 52) && decide (24 ≤ j) && decide (j ≤ 26))
theorem eA_n {b j : Nat} (h : b < 31 ∨ 32 < b) : eA b j = false := by
  cases e : eA b j with
  | false => rfl
  | true => simp only [eA, Bool.or_eq_true, decide_eq_true_eq] at e; omega
theorem eB_n {b j : Nat} (h : b ≠ 73) (h2 : b ≠ 52 ∨ j < 24 ∨ 26 < j) : eB b j = false := by
  cases e : eB b j with
  | false => rfl
  | true => simp only [eB, Bool.or_eq_true, Bool.and_eq_true, decide_eq_true_eq] at e; omega
/-- at the same LINE, with the same numbers -/
def Wl (l : Nat) (Q P : Mem) : Prop := mI Q 31 2 = nI l ∧ mI P 52 25 = nI l ∧ (∀ p, p < 8 → mL Q 32 p = mL P 73 p) ∧ mI Q 31 3 = mI P 52 26 ∧ mI P 52 24 = 0
theorem x_9 {l p : Nat} : nI l * 8 + nI p = 8 * nI l + nI p := by rw [Int32.mul_comm]
theorem lk_eq {i n l : Nat} {A B : Mem} (hi : i < 6) (hn : n ≤ 32) (hl : l < n) (hF : Fi i n A B) : ∀ (q k k' j : Nat) (Q P : Mem), j + q = 8 → q < k → q < k' → Wl l Q P → ER eA A Q → ER eB B P →
    Wl l (f_X4_look_2 (rT i) k j Q) (f_X7_check_2 (nI i) k' j P) ∧ ER eA A (f_X4_look_2 (rT i) k j Q) ∧ ER eB B (f_X7_check_2 (nI i) k' j P) := by
  have er : rT i = 74 + 271 * i := rfl
  intro q
  induction q with
  | zero =>
    intro k k' j Q P hj hk hk' hW ha hb
    obtain ⟨k, rfl⟩ : ∃ z, k = z + 1 := ⟨k - 1, by omega⟩
    obtain ⟨k', rfl⟩ : ∃ z, k' = z + 1 := ⟨k' - 1, by omega⟩
    rw [f_X4_look_2, f_X7_check_2, if_pos (show (8 : Int32) ≤ nI j from nI_le (a := 8) (by omega) (by omega)), if_pos (show (8 : Int32) ≤ nI j from nI_le (a := 8) (by omega) (by omega))]
    exact ⟨hW, ha, hb⟩
  | succ q ih =>
    intro k k' j Q P hj hk hk' hW ha hb
    obtain ⟨k, rfl⟩ : ∃ z, k = z + 1 := ⟨k - 1, by omega⟩
    obtain ⟨k', rfl⟩ : ∃ z, k' = z + 1 := ⟨k' - 1, by omega⟩
    have hj8 : j < 8 := by omega
    have hW' := hW
    obtain ⟨w1, w2, w3, w4, w5⟩ := hW'
    rw [f_X4_look_2, f_X7_check_2, if_neg (show ¬ (8 : Int32) ≤ nI j from nI_ge (b := 8) hj8 (by decide)), if_neg (show ¬ (8 : Int32) ≤ nI j from nI_ge (b := 8) hj8 (by decide)), w1, w2, w4, ix_n (show l < 2 ^ 31 by omega), x_ml hi (by omega), x_lp (by omega) hj8, ix_n (show j < 2 ^ 31 by omega), w3 j hj8]
    unfold f_X4_look_67 f_X4_look_56 f_X4_look_61 f_X7_check_75 f_X7_check_56 f_X7_check_69
    rw [w1, w2, x_9]
    have nx : Wl l (uI Q 31 3 (8 * nI l + nI j)) (uI P 52 26 (8 * nI l + nI j)) := ⟨by rw [mI_uI_nk (by decide)]; exact w1, by rw [mI_uI_nk (by decide)]; exact w2, w3, by rw [mI_uI, mI_uI], by rw [mI_uI_nk (by decide)]; exact w5⟩
    have nx2 := ih k k' (j + 1) _ _ (by omega) (by omega) (by omega) nx (ha.uI rfl) (hb.uI rfl)
    by_cases m1 : mI P 52 26 = -1
    · rw [if_pos m1, if_pos m1]
      have e67 : mI Q (rT i + 6) l = mI B 67 (32 * i + l) := by rw [(ha.2.2 (rT i + 6) l (eA_n (by omega))).1]; exact hF.1 l hl
      have f67 : mI P 67 (32 * i + l) = mI B 67 (32 * i + l) := (hb.2.2 67 _ (eB_n (by omega) (by omega))).1
      rw [e67, f67]
      by_cases r0 : mI B 67 (32 * i + l) = 0
      · rw [if_pos r0, if_pos r0]; exact nx2
      · rw [if_neg r0, if_neg r0]
        obtain ⟨p1, p2, p3⟩ := hF.2.1 l hl r0 j hj8
        have hh : f_X1_holds Q (rT i + 5 + 10 + (8 * l + j)) (mL P 73 j) = f_X7_isIn P (f_X7_cell (nI i) (nI l) (nI j)) (mL P 73 j) := by
          refine hold_eq (x := gC A (rT i + 15 + (8 * l + j))) p1 ?_ ?_
          · rw [show rT i + 5 + 10 + (8 * l + j) = rT i + 15 + (8 * l + j) by omega]
            exact ha.cg (fun _ => eA_n (by omega))
          · rw [x_cell hi (by omega) hj8, toR_eq p2, ← p3]
            exact hb.g (fun b z1 z2 => eB_n (by omega) (by omega))
        rw [hh]
        by_cases z : f_X7_isIn P (f_X7_cell (nI i) (nI l) (nI j)) (mL P 73 j) = 0
        · rw [if_pos z, if_pos z]; exact nx2
        · rw [if_neg z, if_neg z]
          exact ih k k' (j + 1) Q P (by omega) (by omega) (by omega) hW ha hb
    · rw [if_neg m1, if_neg m1]; exact ⟨hW, ha, hb⟩
/-! one LINE of the reference -/
theorem ln_20 {P : Mem} {i l : Nat} {a b : Int32} (hi : i < 6) (hl : l < 32) (e25 : mI P 52 25 = nI l) (e1 : mI P 61 (32 * i + l) = 20) (e2 : mI P 62 (32 * i + l) = a) (e3 : mI P 63 (32 * i + l) = b) : f_X7_line P (nI i) = (1, uI (uL P 73 (ix a) (Int32.toInt64 b)) 52 25 (nI l + 1)) := by
  unfold f_X7_line f_X7_line_57 f_X7_line_81 f_X7_line_104 f_X7_line_108 f_X7_line_109 f_X7_line_123 f_X7_line_135 f_X7_line_172 f_X7_line_c203 f_X7_line_c231 f_X7_line_308 f_X7_line_349 f_X7_line_350 f_X7_line_165
  rw [e25, x_ml hi (by omega), e1, e2, e3]
  simp (decide := true) only [↓reduceIte, mI_uL, e25]
theorem ln_21 {P : Mem} {i l : Nat} {a b : Int32} (hi : i < 6) (hl : l < 32) (e25 : mI P 52 25 = nI l) (e1 : mI P 61 (32 * i + l) = 21) (e2 : mI P 62 (32 * i + l) = a) (e3 : mI P 63 (32 * i + l) = b) : f_X7_line P (nI i) = (1, uI (uL P 73 (ix a) (mL P 73 (ix b))) 52 25 (nI l + 1)) := by
  unfold f_X7_line f_X7_line_57 f_X7_line_81 f_X7_line_104 f_X7_line_108 f_X7_line_109 f_X7_line_123 f_X7_line_135 f_X7_line_172 f_X7_line_c203 f_X7_line_c231 f_X7_line_308 f_X7_line_349 f_X7_line_350 f_X7_line_165
  rw [e25, x_ml hi (by omega), e1, e2, e3]
  simp (decide := true) only [↓reduceIte, mI_uL, e25]
theorem ln_22 {P : Mem} {i l : Nat} {a b : Int32} (hi : i < 6) (hl : l < 32) (e25 : mI P 52 25 = nI l) (e1 : mI P 61 (32 * i + l) = 22) (e2 : mI P 62 (32 * i + l) = a) (e3 : mI P 63 (32 * i + l) = b) : f_X7_line P (nI i) = if f_X7_in (mL P 73 (ix a)) 0 (Int32.toInt64 (mI P 64 (ix b)) - 1) = 0 then (0, uI P 52 24 2) else (1, uI (uL P 73 (ix a) (mL P 65 (ix (16 * b + Int64.toInt32 (mL P 73 (ix a)))))) 52 25 (nI l + 1)) := by
  unfold f_X7_line f_X7_line_57 f_X7_line_81 f_X7_line_104 f_X7_line_108 f_X7_line_109 f_X7_line_123 f_X7_line_135 f_X7_line_172 f_X7_line_c203 f_X7_line_c231 f_X7_line_308 f_X7_line_349 f_X7_line_350 f_X7_line_165
  rw [e25, x_ml hi (by omega), e1, e2, e3]
  simp (decide := true) only [↓reduceIte, mI_uL, e25]
theorem ln_23 {P : Mem} {i l : Nat} {a b : Int32} (hi : i < 6) (hl : l < 32) (e25 : mI P 52 25 = nI l) (e1 : mI P 61 (32 * i + l) = 23) (e2 : mI P 62 (32 * i + l) = a) (e3 : mI P 63 (32 * i + l) = b) : f_X7_line P (nI i) = (1, uI P 52 25 (nI l + (if mL P 73 (ix a) = mL P 73 (ix b) then 2 else 1))) := by
  unfold f_X7_line f_X7_line_57 f_X7_line_81 f_X7_line_104 f_X7_line_108 f_X7_line_109 f_X7_line_123 f_X7_line_135 f_X7_line_172 f_X7_line_c203 f_X7_line_c231 f_X7_line_308 f_X7_line_349 f_X7_line_350 f_X7_line_165
  rw [e25, x_ml hi (by omega), e1, e2, e3]
  by_cases z : mL P 73 (ix a) = mL P 73 (ix b)
  · rw [if_pos z]
    simp (decide := true) only [↓reduceIte, mI_uL, e25, z]
  · rw [if_neg z]
    simp (decide := true) only [↓reduceIte, mI_uL, e25, z]
theorem ln_24 {P : Mem} {i l : Nat} {a b : Int32} (hi : i < 6) (hl : l < 32) (e25 : mI P 52 25 = nI l) (e1 : mI P 61 (32 * i + l) = 24) (e2 : mI P 62 (32 * i + l) = a) (e3 : mI P 63 (32 * i + l) = b) : f_X7_line P (nI i) = (1, uI P 52 25 (nI l + (if mL P 73 (ix a) < mL P 73 (ix b) then 2 else 1))) := by
  unfold f_X7_line f_X7_line_57 f_X7_line_81 f_X7_line_104 f_X7_line_108 f_X7_line_109 f_X7_line_123 f_X7_line_135 f_X7_line_172 f_X7_line_c203 f_X7_line_c231 f_X7_line_308 f_X7_line_349 f_X7_line_350 f_X7_line_165
  rw [e25, x_ml hi (by omega), e1, e2, e3]
  by_cases z : mL P 73 (ix a) < mL P 73 (ix b)
  · rw [if_pos z]
    simp (decide := true) only [↓reduceIte, mI_uL, e25, z]
  · rw [if_neg z]
    simp (decide := true) only [↓reduceIte, mI_uL, e25, z]
theorem ln_25 {P : Mem} {i l : Nat} {a b : Int32} (hi : i < 6) (hl : l < 32) (e25 : mI P 52 25 = nI l) (e1 : mI P 61 (32 * i + l) = 25) (e2 : mI P 62 (32 * i + l) = a) (e3 : mI P 63 (32 * i + l) = b) : f_X7_line P (nI i) = (1, uI P 52 25 (nI l + (if (jushr (mL P 73 (ix a)) b &&& 1) = 1 then 2 else 1))) := by
  unfold f_X7_line f_X7_line_57 f_X7_line_81 f_X7_line_104 f_X7_line_108 f_X7_line_109 f_X7_line_123 f_X7_line_135 f_X7_line_172 f_X7_line_c203 f_X7_line_c231 f_X7_line_308 f_X7_line_349 f_X7_line_350 f_X7_line_165
  rw [e25, x_ml hi (by omega), e1, e2, e3]
  by_cases z : (jushr (mL P 73 (ix a)) b &&& 1) = 1
  · rw [if_pos z]
    simp (decide := true) only [↓reduceIte, mI_uL, e25, z]
  · rw [if_neg z]
    simp (decide := true) only [↓reduceIte, mI_uL, e25, z]
theorem ln_26 {P : Mem} {i l : Nat} {a b : Int32} (hi : i < 6) (hl : l < 32) (e25 : mI P 52 25 = nI l) (e1 : mI P 61 (32 * i + l) = 26) (e2 : mI P 62 (32 * i + l) = a) (e3 : mI P 63 (32 * i + l) = b) : f_X7_line P (nI i) = (1, uI P 52 25 b) := by
  unfold f_X7_line f_X7_line_57 f_X7_line_81 f_X7_line_104 f_X7_line_108 f_X7_line_109 f_X7_line_123 f_X7_line_135 f_X7_line_172 f_X7_line_c203 f_X7_line_c231 f_X7_line_308 f_X7_line_349 f_X7_line_350 f_X7_line_165
  rw [e25, x_ml hi (by omega), e1, e2, e3]
  simp (decide := true) only [↓reduceIte, mI_uL, e25]
theorem ln_27 {P : Mem} {i l : Nat} (hi : i < 6) (hl : l < 32) (e25 : mI P 52 25 = nI l) (e1 : mI P 61 (32 * i + l) = 27) : f_X7_line P (nI i) = (1, uI P 52 25 (mI P 60 i)) := by
  unfold f_X7_line f_X7_line_57 f_X7_line_81 f_X7_line_104 f_X7_line_108 f_X7_line_109 f_X7_line_123 f_X7_line_135 f_X7_line_172 f_X7_line_c203 f_X7_line_c231 f_X7_line_308 f_X7_line_349 f_X7_line_350 f_X7_line_165
  rw [e25, x_ml hi (by omega), e1, ix_n (show i < 2 ^ 31 by omega)]
  simp (decide := true) only [↓reduceIte, mI_uL, e25]
theorem ln_op {P : Mem} {i l : Nat} {op a b : Int32} (hi : i < 6) (hl : l < 32) (ho : ¬ 20 ≤ op) (e25 : mI P 52 25 = nI l) (e1 : mI P 61 (32 * i + l) = op) (e2 : mI P 62 (32 * i + l) = a) (e3 : mI P 63 (32 * i + l) = b) : f_X7_line P (nI i) = if (op = 9 ∨ op = 10) ∧ mL P 73 (ix b) = 0 then (0, uI P 52 24 2) else (1, uI (uL P 73 (ix a) (if 12 ≤ op then f_X7_reckon op (mL P 73 (ix b)) 0 else f_X7_reckon op (mL P 73 (ix a)) (mL P 73 (ix b)))) 52 25 (nI l + 1)) := by
  have n22 : ¬ op = 22 := fun z => ho (by rw [z]; decide)
  have n23 : ¬ op = 23 := fun z => ho (by rw [z]; decide)
  have n24 : ¬ op = 24 := fun z => ho (by rw [z]; decide)
  have n25 : ¬ op = 25 := fun z => ho (by rw [z]; decide)
  have n26 : ¬ op = 26 := fun z => ho (by rw [z]; decide)
  have n27 : ¬ op = 27 := fun z => ho (by rw [z]; decide)
  unfold f_X7_line f_X7_line_57 f_X7_line_81 f_X7_line_104 f_X7_line_108 f_X7_line_109 f_X7_line_123 f_X7_line_135 f_X7_line_172 f_X7_line_c203 f_X7_line_c231 f_X7_line_308 f_X7_line_349 f_X7_line_350 f_X7_line_165
  rw [e25, x_ml hi (by omega), e1, e2, e3]
  simp only [n22, n23, n24, n25, n26, n27, ho, ↓reduceIte, mI_uL, e25]
  by_cases n9 : op = 9
  · subst n9
    by_cases z : mL P 73 (ix b) = 0
    · simp (decide := true) only [z, ↓reduceIte, and_true, true_or]
    · simp (decide := true) only [z, ↓reduceIte, and_false]
  · by_cases n10 : op = 10
    · subst n10
      by_cases z : mL P 73 (ix b) = 0
      · simp (decide := true) only [z, ↓reduceIte, and_true, or_true]
      · simp (decide := true) only [z, ↓reduceIte, and_false]
    · simp only [n9, n10, ↓reduceIte, or_self, false_and]
      by_cases n12 : 12 ≤ op
      · simp only [n12, ↓reduceIte]
      · simp only [n12, ↓reduceIte]
/-! one LINE of the class -/
theorem sp_20 {Q : Mem} {r l : Nat} {a b : Int32} (hl : l < 32) (e25 : mI Q 31 2 = nI l) (e1 : mI Q (r + 1) l = 20) (e2 : mI Q (r + 2) l = a) (e3 : mI Q (r + 3) l = b) : f_X4_step Q r = (nI l + 1, uL Q 32 (ix a) (Int32.toInt64 b)) := by
  unfold f_X4_step
  rw [e25, ix_n (show l < 2 ^ 31 by omega), e1, e2, e3]
  simp (decide := true) only [↓reduceIte, mI_uL, e25]
theorem sp_21 {Q : Mem} {r l : Nat} {a b : Int32} (hl : l < 32) (e25 : mI Q 31 2 = nI l) (e1 : mI Q (r + 1) l = 21) (e2 : mI Q (r + 2) l = a) (e3 : mI Q (r + 3) l = b) : f_X4_step Q r = (nI l + 1, uL Q 32 (ix a) (mL Q 32 (ix b))) := by
  unfold f_X4_step
  rw [e25, ix_n (show l < 2 ^ 31 by omega), e1, e2, e3]
  simp (decide := true) only [↓reduceIte, mI_uL, e25]
theorem sp_22 {Q : Mem} {r l : Nat} {a b : Int32} (hl : l < 32) (e25 : mI Q 31 2 = nI l) (e1 : mI Q (r + 1) l = 22) (e2 : mI Q (r + 2) l = a) (e3 : mI Q (r + 3) l = b) : f_X4_step Q r = if f_X5_has Q b (mL Q 32 (ix a)) = 0 then (-1, Q) else (nI l + 1, uL Q 32 (ix a) (mL Q (5 + 1 + ix b) (ix (Int64.toInt32 (mL Q 32 (ix a)))))) := by
  unfold f_X4_step f_X4_step_c127 f_X4_step_140 f_X4_lookUp
  rw [e25, ix_n (show l < 2 ^ 31 by omega), e1, e2, e3]
  by_cases z : f_X5_has Q b (mL Q 32 (ix a)) = 0
  · simp (decide := true) only [↓reduceIte, mI_uL, e25, z]
  · simp (decide := true) only [↓reduceIte, mI_uL, e25, z]
theorem sp_23 {Q : Mem} {r l : Nat} {a b : Int32} (hl : l < 32) (e25 : mI Q 31 2 = nI l) (e1 : mI Q (r + 1) l = 23) (e2 : mI Q (r + 2) l = a) (e3 : mI Q (r + 3) l = b) : f_X4_step Q r = (nI l + (if mL Q 32 (ix a) = mL Q 32 (ix b) then 2 else 1), Q) := by
  unfold f_X4_step f_X4_step_174
  rw [e25, ix_n (show l < 2 ^ 31 by omega), e1, e2, e3]
  by_cases z : mL Q 32 (ix a) = mL Q 32 (ix b)
  · simp (decide := true) only [↓reduceIte, z]
  · simp (decide := true) only [↓reduceIte, z]
theorem sp_24 {Q : Mem} {r l : Nat} {a b : Int32} (hl : l < 32) (e25 : mI Q 31 2 = nI l) (e1 : mI Q (r + 1) l = 24) (e2 : mI Q (r + 2) l = a) (e3 : mI Q (r + 3) l = b) : f_X4_step Q r = (nI l + (if mL Q 32 (ix a) < mL Q 32 (ix b) then 2 else 1), Q) := by
  unfold f_X4_step f_X4_step_208
  rw [e25, ix_n (show l < 2 ^ 31 by omega), e1, e2, e3]
  by_cases z : mL Q 32 (ix b) ≤ mL Q 32 (ix a)
  · have z' : ¬ mL Q 32 (ix a) < mL Q 32 (ix b) := Int64.not_lt.mpr z
    simp (decide := true) only [↓reduceIte, z, z']
  · have z' : mL Q 32 (ix a) < mL Q 32 (ix b) := Int64.not_le.mp z
    simp (decide := true) only [↓reduceIte, z, z']
theorem sp_25 {Q : Mem} {r l : Nat} {a b : Int32} (hl : l < 32) (e25 : mI Q 31 2 = nI l) (e1 : mI Q (r + 1) l = 25) (e2 : mI Q (r + 2) l = a) (e3 : mI Q (r + 3) l = b) : f_X4_step Q r = (nI l + (if (jushr (mL Q 32 (ix a)) b &&& 1) = 1 then 2 else 1), Q) := by
  unfold f_X4_step f_X4_step_241
  rw [e25, ix_n (show l < 2 ^ 31 by omega), e1, e2, e3]
  by_cases z : (jushr (mL Q 32 (ix a)) b &&& 1) = 1
  · simp (decide := true) only [↓reduceIte, z]
  · simp (decide := true) only [↓reduceIte, z]
theorem sp_26 {Q : Mem} {r l : Nat} {b : Int32} (hl : l < 32) (e25 : mI Q 31 2 = nI l) (e1 : mI Q (r + 1) l = 26) (e3 : mI Q (r + 3) l = b) : f_X4_step Q r = (b, Q) := by
  unfold f_X4_step
  rw [e25, ix_n (show l < 2 ^ 31 by omega), e1, e3]
  simp (decide := true) only [↓reduceIte]
theorem sp_27 {Q : Mem} {r l : Nat} (hl : l < 32) (e25 : mI Q 31 2 = nI l) (e1 : mI Q (r + 1) l = 27) : f_X4_step Q r = (32, Q) := by
  unfold f_X4_step
  rw [e25, ix_n (show l < 2 ^ 31 by omega), e1]
  simp (decide := true) only [↓reduceIte]
theorem sp_op {Q : Mem} {r l : Nat} {op a b : Int32} (hl : l < 32) (ho : ¬ 20 ≤ op) (e25 : mI Q 31 2 = nI l) (e1 : mI Q (r + 1) l = op) (e2 : mI Q (r + 2) l = a) (e3 : mI Q (r + 3) l = b) : f_X4_step Q r = if (op = 9 ∨ op = 10) ∧ mL Q 32 (ix b) = 0 then (-1, Q) else (nI l + 1, uL Q 32 (ix a) (if 12 ≤ op then f_X0_number op (mL Q 32 (ix b)) (mL Q 32 (ix b)) else f_X0_number op (mL Q 32 (ix a)) (mL Q 32 (ix b)))) := by
  have n20 : ¬ op = 20 := fun z => ho (by rw [z]; decide)
  have n21 : ¬ op = 21 := fun z => ho (by rw [z]; decide)
  have n22 : ¬ op = 22 := fun z => ho (by rw [z]; decide)
  have n23 : ¬ op = 23 := fun z => ho (by rw [z]; decide)
  have n24 : ¬ op = 24 := fun z => ho (by rw [z]; decide)
  have n25 : ¬ op = 25 := fun z => ho (by rw [z]; decide)
  have n26 : ¬ op = 26 := fun z => ho (by rw [z]; decide)
  have n27 : ¬ op = 27 := fun z => ho (by rw [z]; decide)
  unfold f_X4_step f_X4_step_c257 f_X4_step_270 f_X4_compute f_X4_compute_36
  rw [e25, ix_n (show l < 2 ^ 31 by omega), e1, e2, e3]
  simp only [n20, n21, n22, n23, n24, n25, n26, n27, ↓reduceIte]
  have hs : f_X0_stops op (mL Q 32 (ix b)) = 0 ↔ ¬ ((op = 9 ∨ op = 10) ∧ mL Q 32 (ix b) = 0) := by
    unfold f_X0_stops f_X0_stops_12 f_X0_stops_22 f_X0_stops_23
    by_cases n9 : op = 9
    · rw [if_pos n9]
      by_cases z : mL Q 32 (ix b) = 0
      · rw [if_pos z]; exact ⟨fun h => absurd h (by decide), fun h => absurd ⟨Or.inl n9, z⟩ h⟩
      · rw [if_neg z]; exact ⟨fun _ h => z h.2, fun _ => rfl⟩
    · rw [if_neg n9]
      by_cases n10 : op = 10
      · rw [if_pos n10]
        by_cases z : mL Q 32 (ix b) = 0
        · rw [if_pos z]; exact ⟨fun h => absurd h (by decide), fun h => absurd ⟨Or.inr n10, z⟩ h⟩
        · rw [if_neg z]; exact ⟨fun _ h => z h.2, fun _ => rfl⟩
      · rw [if_neg n10]
        exact ⟨fun _ h => by rcases h.1 with z | z; exact n9 z; exact n10 z, fun _ => rfl⟩
  by_cases z : (op = 9 ∨ op = 10) ∧ mL Q 32 (ix b) = 0
  · have z' : ¬ f_X0_stops op (mL Q 32 (ix b)) = 0 := fun h => hs.mp h z
    rw [if_pos z]
    simp (decide := true) only [z', ↓reduceIte]
  · have z' : f_X0_stops op (mL Q 32 (ix b)) = 0 := hs.mpr z
    rw [if_neg z]
    by_cases n12 : 12 ≤ op
    · simp (decide := true) only [z', n12, ↓reduceIte, mI_uL, e25]
    · simp (decide := true) only [z', n12, ↓reduceIte, mI_uL, e25]
