/-! sums -/
theorem nI_d8 {k : Nat} (hk : k < 512) : nI k / 8 = nI (k / 8) := by
  apply Int32.toInt_inj.mp
  rw [Int32.toInt_div, nI_toInt (by omega), nI_toInt (by omega)]
  have : (8 : Int32).toInt = 8 := rfl
  rw [this, show ((k : Int).tdiv 8) = ((k / 8 : Nat) : Int) from (Int.ofNat_tdiv k 8).symm]
  apply Int.bmod_eq_of_le <;> omega
theorem Sc.f {M N : Mem} (h : Sc M N) {b j : Nat} (h1 : b < 53 ∨ 59 < b ∨ 26 < j ∨ j < 16) (h2 : b ≠ 52 ∨ (j ≠ 7 ∧ j ≠ 8)) : sm M N b j := h.2.2 b j (scr_n h1 h2)
theorem Sc.tr2 {M N O : Mem} (h : Sc M N) (h2 : Sc N O) : Sc M O := ⟨h2.1.trans h.1, h2.2.1.trans h.2.1, fun b k q => ⟨(h2.2.2 b k q).1.trans (h.2.2 b k q).1, (h2.2.2 b k q).2.trans (h.2.2 b k q).2⟩⟩
theorem su0 {i n : Nat} {A B : Mem} (hi : i < 6) (hS : St i n A B) (hF : Fi i n A B) : ∀ (q k k' j : Nat) (y : Int32), j + q = n → q < k → q < k' → f_X7_sum_39 (nI i) 0 k y j B = (f_X3_reachedLines_4 (rT i) A k' y j, B) := by
  have hn := hS.1
  have xi : ix (nI i) = i := ix_n (by omega)
  intro q
  induction q with
  | zero =>
    intro k k' j y hj hk hk'
    obtain ⟨k, rfl⟩ : ∃ z, k = z + 1 := ⟨k - 1, by omega⟩
    obtain ⟨k', rfl⟩ : ∃ z, k' = z + 1 := ⟨k' - 1, by omega⟩
    rw [f_X7_sum_39, f_X3_reachedLines_4, xi, hS.2.1, hS.2.2.1, if_pos (nI_le (by omega) (by omega)), if_pos (nI_le (by omega) (by omega))]
    unfold f_X7_sum_109 f_X7_sum_124
    rw [if_neg (by decide)]
  | succ q ih =>
    intro k k' j y hj hk hk'
    obtain ⟨k, rfl⟩ : ∃ z, k = z + 1 := ⟨k - 1, by omega⟩
    obtain ⟨k', rfl⟩ : ∃ z, k' = z + 1 := ⟨k' - 1, by omega⟩
    rw [f_X7_sum_39, f_X3_reachedLines_4, xi, hS.2.1, hS.2.2.1, if_neg (nI_ge (by omega) (by omega)), if_neg (nI_ge (by omega) (by omega)), if_neg (show ¬ (3 : Int32) ≤ 0 by decide), x_ml hi (by omega), ix_n (by omega), hF.1 j (by omega)]
    unfold f_X7_sum_103 f_X7_sum_101 f_X3_reachedLines_27 f_X7_sum_103
    by_cases r0 : mI B 67 (32 * i + j) = 0
    · rw [if_pos r0, if_pos r0, Int32.add_zero]
      exact ih k k' (j + 1) y (by omega) (by omega) (by omega)
    · rw [if_neg r0, if_neg r0, if_pos rfl]
      exact ih k k' (j + 1) _ (by omega) (by omega) (by omega)
theorem su1 {i n : Nat} {A B : Mem} (hi : i < 6) (hS : St i n A B) (hF : Fi i n A B) : ∀ (q k k' j : Nat) (y : Int32) (Q : Mem), j + q = n → q < k → q < k' → Sc B Q → ∃ Q', f_X7_sum_39 (nI i) 1 k y j Q = (f_X3_givenUpLines_4 (rT i) A k' y j, Q') ∧ Sc B Q' := by
  have hn := hS.1
  have xi : ix (nI i) = i := ix_n (by omega)
  intro q
  induction q with
  | zero =>
    intro k k' j y Q hj hk hk' hQ
    obtain ⟨k, rfl⟩ : ∃ z, k = z + 1 := ⟨k - 1, by omega⟩
    obtain ⟨k', rfl⟩ : ∃ z, k' = z + 1 := ⟨k' - 1, by omega⟩
    rw [f_X7_sum_39, f_X3_givenUpLines_4, xi, hS.2.1, (hQ.f (b := 60) (j := i) (by omega) (by omega)).1, hS.2.2.1, if_pos (nI_le (by omega) (by omega)), if_pos (nI_le (by omega) (by omega))]
    unfold f_X7_sum_109 f_X7_sum_124
    rw [if_neg (by decide)]
    exact ⟨Q, rfl, hQ⟩
  | succ q ih =>
    intro k k' j y Q hj hk hk' hQ
    obtain ⟨k, rfl⟩ : ∃ z, k = z + 1 := ⟨k - 1, by omega⟩
    obtain ⟨k', rfl⟩ : ∃ z, k' = z + 1 := ⟨k' - 1, by omega⟩
    have hjn : j < n := by omega
    obtain ⟨l1, l2, l3, lg⟩ := hS.2.2.2.2.1 j hjn
    rw [f_X7_sum_39, f_X3_givenUpLines_4, xi, hS.2.1, (hQ.f (b := 60) (j := i) (by omega) (by omega)).1, hS.2.2.1, if_neg (nI_ge (by omega) (by omega)), if_neg (nI_ge (by omega) (by omega)), if_neg (show ¬ (3 : Int32) ≤ 1 by decide), x_ml hi (by omega), (hQ.f (b := 67) (j := 32 * i + j) (by omega) (by omega)).1, ix_n (by omega), hF.1 j hjn, l1, l2, l3]
    unfold f_X3_givenUpLines_90 f_X3_givenUpLines_88 f_X3_givenUpLines_90 f_X7_sum_103 f_X7_sum_c91 f_X7_sum_101 f_X7_sum_103
    by_cases r0 : mI B 67 (32 * i + j) = 0
    · rw [if_pos r0, if_pos r0]
      exact ih k k' (j + 1) y Q (by omega) (by omega) (by omega) hQ
    · rw [if_neg r0, if_neg r0, if_neg (show ¬ (1 : Int32) = 0 by decide), if_pos rfl]
      have q61 := (hQ.f (b := 61) (j := 32 * i + j) (by omega) (by omega)).1
      have q62 := (hQ.f (b := 62) (j := 32 * i + j) (by omega) (by omega)).1
      have q63 := (hQ.f (b := 63) (j := 32 * i + j) (by omega) (by omega)).1
      obtain ⟨g0, g27, ⟨ia, ha, ea⟩, gb, -⟩ := lg
      by_cases o12 : 12 ≤ mI B 61 (32 * i + j)
      · have eg : f_X7_gives Q (nI i) (nI j) = (0, Q) := by
          unfold f_X7_gives
          rw [x_ml hi (by omega), q61, if_neg]
          intro z
          rw [Int32.le_iff_toInt_le] at o12 z
          have e1 : (12 : Int32).toInt = 12 := rfl
          have e2 : (11 : Int32).toInt = 11 := rfl
          omega
        rw [if_pos o12, eg, Int32.add_zero]
        exact ih k k' (j + 1) y Q (by omega) (by omega) (by omega) hQ
      · have o11 : mI B 61 (32 * i + j) ≤ 11 := by
          rw [Int32.le_iff_toInt_le] at o12 ⊢
          have e1 : (12 : Int32).toInt = 12 := rfl
          have e2 : (11 : Int32).toInt = 11 := rfl
          omega
        have o20 : mI B 61 (32 * i + j) < 20 := by
          rw [Int32.lt_iff_toInt_lt]
          rw [Int32.le_iff_toInt_le] at o11
          have e1 : (20 : Int32).toInt = 20 := rfl
          have e2 : (11 : Int32).toInt = 11 := rfl
          omega
        have o19 : mI B 61 (32 * i + j) ≤ 19 := by
          rw [Int32.le_iff_toInt_le] at o11 ⊢
          have e1 : (19 : Int32).toInt = 19 := rfl
          have e2 : (11 : Int32).toInt = 11 := rfl
          omega
        obtain ⟨ib, hb, eb⟩ := gb (Or.inl o20)
        obtain ⟨p1, p2, p3⟩ := hF.2.1 j hjn r0 ia ha
        obtain ⟨w1, w2, w3⟩ := hF.2.1 j hjn r0 ib hb
        have xa := x_cell (m := i) (l := j) (j := ia) hi (by omega) ha
        have xb := x_cell (m := i) (l := j) (j := ib) hi (by omega) hb
        have cl : ∀ f, 112 ≤ f → gR Q f = gR B f := fun f hf => gR_sm (fun b z1 z2 => hQ.f (by omega) (by omega))
        obtain ⟨d1, d2, d3⟩ := does_R (M := Q) (op := mI B 61 (32 * i + j)) (f := f_X7_cell (nI i) (nI j) (nI ia)) (g := f_X7_cell (nI i) (nI j) (nI ib)) (x := gC A (rT i + 15 + (8 * j + ia))) (y := gC A (rT i + 15 + (8 * j + ib))) g0 o19 p1 w1 (by rw [xa, cl _ (by omega), p3, toR_eq p2]) (by rw [xb, cl _ (by omega), w3, toR_eq w2]) (by rw [xa]; omega) (by rw [xb]; omega)
        have eg : f_X7_gives Q (nI i) (nI j) = ((if guF (mI B 61 (32 * i + j)) (gC A (rT i + 15 + (8 * j + ia))) (gC A (rT i + 15 + (8 * j + ib))) = 0 then 0 else 1), f_X7_does Q (mI B 61 (32 * i + j)) (f_X7_cell (nI i) (nI j) (nI ia)) (f_X7_cell (nI i) (nI j) (nI ib)) 26) := by
          unfold f_X7_gives f_X7_gives_c65 f_X7_gives_77
          rw [x_ml hi (by omega), q61, q62, q63, if_pos o11, ea, eb, d3 o11 p2 w2]
          by_cases z : guF (mI B 61 (32 * i + j)) (gC A (rT i + 15 + (8 * j + ia))) (gC A (rT i + 15 + (8 * j + ib))) = 0
          · rw [if_pos z, if_pos z]
          · rw [if_neg z, if_neg z]
        have eC : f_X0_givesUp A (mI B 61 (32 * i + j)) (rT i + 5 + 10 + ix ((nI j * 8) + nI ia)) (rT i + 5 + 10 + ix ((nI j * 8) + nI ib)) = guF (mI B 61 (32 * i + j)) (gC A (rT i + 15 + (8 * j + ia))) (gC A (rT i + 15 + (8 * j + ib))) := by
          rw [x_lp (by omega) ha, x_lp (by omega) hb]
          exact gu_C p2 w2
        rw [if_neg o12, eg, ea, eb, eC]
        obtain ⟨Q', i1, i2⟩ := ih k k' (j + 1) (y + (if guF (mI B 61 (32 * i + j)) (gC A (rT i + 15 + (8 * j + ia))) (gC A (rT i + 15 + (8 * j + ib))) = 0 then 0 else 1)) _ (by omega) (by omega) (by omega) (hQ.tr2 d2)
        refine ⟨Q', ?_, i2⟩
        rw [i1]
        by_cases z : guF (mI B 61 (32 * i + j)) (gC A (rT i + 15 + (8 * j + ia))) (gC A (rT i + 15 + (8 * j + ib))) = 0
        · rw [if_pos z, if_pos z]
        · rw [if_neg z, if_neg z]
theorem cn8 {i n j : Nat} {A B : Mem} (hi : i < 6) (hS : St i n A B) (hF : Fi i n A B) (hj : j < n) : ∀ (q k' p : Nat) (y : Int32), p + q = 8 → f_X3_constants_4 (rT i) A (k' + q) y (8 * j + p) = f_X3_constants_4 (rT i) A k' (if mI B 67 (32 * i + j) = 0 then y else f_X7_numbers_5 (nI i) (nI j) B (q + 1) y p) (8 * (j + 1)) := by
  have hn := hS.1
  intro q
  induction q with
  | zero =>
    intro k' p y hp
    have : p = 8 := by omega
    subst this
    rw [f_X7_numbers_5, if_pos (show (8 : Int32) ≤ nI 8 from nI_le (a := 8) (by omega) (by omega))]
    have : (if mI B 67 (32 * i + j) = 0 then y else y) = y := by split <;> rfl
    rw [this, Nat.add_zero, show 8 * j + 8 = 8 * (j + 1) by omega]
  | succ q ih =>
    intro k' p y hp
    have hp8 : p < 8 := by omega
    rw [show k' + (q + 1) = (k' + q) + 1 from rfl, f_X3_constants_4, hS.2.1, show (8 : Int32) = nI 8 from rfl, nI_mul, if_neg (nI_ge (by omega) (by omega)), show nI (8 * j + p) / nI 8 = nI ((8 * j + p) / 8) from nI_d8 (by omega), show (8 * j + p) / 8 = j by omega, ix_n (show j < 2 ^ 31 by omega), hF.1 j hj]
    unfold f_X3_constants_44 f_X3_constants_45
    rw [ix_n (show 8 * j + p < 2 ^ 31 by omega), f_X7_numbers_5, if_neg (show ¬ (8 : Int32) ≤ nI p from nI_ge (b := 8) hp8 (by decide))]
    unfold f_X7_numbers_33
    by_cases r0 : mI B 67 (32 * i + j) = 0
    · rw [if_pos r0, if_pos r0, Int32.add_zero]
      have := ih k' (p + 1) y (by omega)
      rw [if_pos r0] at this
      exact this
    · rw [if_neg r0, if_neg r0]
      obtain ⟨p1, p2, p3⟩ := hF.2.1 j hj r0 p hp8
      have ec : f_X1_isConstant A (rT i + 5 + 10 + (8 * j + p)) = f_X7_isNumber B (f_X7_cell (nI i) (nI j) (nI p)) := by
        unfold f_X7_isNumber f_X7_isNumber_29 f_X7_isNumber_30 f_X1_isConstant f_X1_isConstant_23 f_X1_isConstant_24
        rw [x_cell hi (by omega) hp8]
        have e1 : mI B 53 (112 + 8 * (32 * i + j) + p) = (gC A (rT i + 15 + (8 * j + p))).1 := by rw [← p3]; rfl
        have e2 : mL B 54 (112 + 8 * (32 * i + j) + p) = (gC A (rT i + 15 + (8 * j + p))).2.1 := by rw [← p3]; rfl
        have e3 : mL B 55 (112 + 8 * (32 * i + j) + p) = (gC A (rT i + 15 + (8 * j + p))).2.2.1 := by rw [← p3]; rfl
        rw [e1, e2, e3]
        rfl
      rw [ec]
      have i0 := ih k' (p + 1) (y + 0) (by omega)
      have i1 := ih k' (p + 1) (y + 1) (by omega)
      rw [if_neg r0] at i0 i1
      by_cases z : f_X7_isNumber B (f_X7_cell (nI i) (nI j) (nI p)) = 0
      · rw [if_pos z, if_pos z]; exact i0
      · rw [if_neg z, if_neg z]; exact i1
/-- counting from y -/
theorem nm_s {i j : Int32} {B : Mem} : ∀ (q k p : Nat) (y z : Int32), p + q = 8 → q < k → f_X7_numbers_5 i j B k (y + z) p = y + f_X7_numbers_5 i j B k z p := by
  intro q
  induction q with
  | zero =>
    intro k p y z hp hk
    obtain ⟨k, rfl⟩ : ∃ z, k = z + 1 := ⟨k - 1, by omega⟩
    rw [f_X7_numbers_5, f_X7_numbers_5, if_pos (show (8 : Int32) ≤ nI p from nI_le (a := 8) (by omega) (by omega)), if_pos (show (8 : Int32) ≤ nI p from nI_le (a := 8) (by omega) (by omega))]
  | succ q ih =>
    intro k p y z hp hk
    obtain ⟨k, rfl⟩ : ∃ z, k = z + 1 := ⟨k - 1, by omega⟩
    rw [f_X7_numbers_5, f_X7_numbers_5, if_neg (show ¬ (8 : Int32) ≤ nI p from nI_ge (b := 8) (by omega) (by decide)), if_neg (show ¬ (8 : Int32) ≤ nI p from nI_ge (b := 8) (by omega) (by decide))]
    unfold f_X7_numbers_33
    split
    · rw [Int32.add_assoc]; exact ih k (p + 1) y _ (by omega) (by omega)
    · rw [Int32.add_assoc]; exact ih k (p + 1) y _ (by omega) (by omega)
theorem su2 {i n : Nat} {A B : Mem} (hi : i < 6) (hS : St i n A B) (hF : Fi i n A B) : ∀ (q k k' j : Nat) (y : Int32), j + q = n → q < k → f_X7_sum_39 (nI i) 2 k y j B = (f_X3_constants_4 (rT i) A (k' + 1 + 8 * q) y (8 * j), B) := by
  have hn := hS.1
  have xi : ix (nI i) = i := ix_n (by omega)
  intro q
  induction q with
  | zero =>
    intro k k' j y hj hk
    obtain ⟨k, rfl⟩ : ∃ z, k = z + 1 := ⟨k - 1, by omega⟩
    rw [f_X7_sum_39, show k' + 1 + 8 * 0 = k' + 1 from rfl, f_X3_constants_4, xi, hS.2.1, hS.2.2.1, if_pos (nI_le (by omega) (by omega)), show (8 : Int32) = nI 8 from rfl, nI_mul, if_pos (nI_le (by omega) (by omega))]
    unfold f_X7_sum_109 f_X7_sum_124
    rw [if_neg (by decide)]
  | succ q ih =>
    intro k k' j y hj hk
    obtain ⟨k, rfl⟩ : ∃ z, k = z + 1 := ⟨k - 1, by omega⟩
    have c8 := cn8 hi hS hF (show j < n by omega) 8 (k' + 1 + 8 * q) 0 y rfl
    rw [show k' + 1 + 8 * (q + 1) = k' + 1 + 8 * q + 8 by omega, show 8 * j = 8 * j + 0 from rfl, c8]
    rw [f_X7_sum_39, xi, hS.2.2.1, if_neg (nI_ge (by omega) (by omega)), if_neg (show ¬ (3 : Int32) ≤ 2 by decide), x_ml hi (by omega)]
    unfold f_X7_sum_101 f_X7_sum_103
    by_cases r0 : mI B 67 (32 * i + j) = 0
    · rw [if_pos r0, if_pos r0]
      exact ih k k' (j + 1) y (by omega) (by omega)
    · rw [if_neg r0, if_neg r0, if_neg (by decide), if_neg (by decide)]
      have ey : f_X7_numbers_5 (nI i) (nI j) B (8 + 1) y 0 = y + f_X7_numbers B (nI i) (nI j) := by
        have := nm_s (i := nI i) (j := nI j) (B := B) 8 9 0 y 0 rfl (by omega)
        rw [Int32.add_zero] at this
        exact this
      rw [ey]
      exact ih k k' (j + 1) _ (by omega) (by omega)
theorem ag_sum {c : Nat} {A B : Mem} {m w : Int32} (hR : Rl c A B) : Tk c A B (f_X6_sum A m w, A) (f_X7_sum B m w) := by
  have hR' := hR
  obtain ⟨h1, h2, h3, h4⟩ := hR'
  have hc := h2.1
  have same : ∀ v : Int32, Tk c A B (v, A) (v, B) := fun v => ⟨rfl, hR, CK.rf, RK.rf⟩
  have sc : ∀ (v : Int32) (Q : Mem), Sc B Q → Tk c A B (v, A) (v, Q) := fun v Q h => ⟨rfl, hR.facts (h1.fr (fun _ _ _ _ => ⟨rfl, rfl⟩) (fun b j z1 z2 z3 => h.f (by omega) (by omega))) EC.rf (Sc.ER h scr_ro)⟩
  unfold f_X6_sum f_X7_sum
  rcases meth_cases m h2 with ⟨i, hi, hi6, em, ex, e1, e2⟩ | ⟨e1, e2⟩
  · rw [e1, if_neg e2, Option.elim_some]
    rcases iB w 4 3 4 (by decide) rfl rfl with ⟨k, k1, k2, k3, k4, k5⟩ | ⟨k4, k5⟩
    · have k4' : w ≤ 3 := by
        rw [Int32.le_iff_toInt_le] at k4 ⊢
        have a1 : (4 : Int32).toInt = 4 := rfl
        have a2 : (3 : Int32).toInt = 3 := rfl
        omega
      rw [if_neg k3, if_pos k4', if_neg k5]
      obtain ⟨n, hS, hG, h7, hFi⟩ := (h3 i hi).st h2
      have hn := hS.1
      rw [ex, h7, hS.2.2.1, ix_n (show n < 2 ^ 31 by omega), em]
      by_cases q7 : mI B 66 i = 0
      · rw [if_pos q7, if_pos q7]; exact same _
      · rw [if_neg q7, if_neg q7]
        have hF := hFi q7
        have xn : ix (mI A (rT i) 3) = n := by rw [hS.2.1, ix_n (by omega)]
        have hk : k = 0 ∨ k = 1 ∨ k = 2 ∨ k = 3 := by omega
        rcases hk with rfl | rfl | rfl | rfl
        · have ew : w = 0 := k2
          subst ew
          rw [if_pos rfl, su0 hi6 hS hF n (n + 1) (n + 1) 0 0 (by omega) (by omega) (by omega)]
          unfold f_X3_reachedLines
          rw [xn]
          exact same _
        · have ew : w = 1 := k2
          subst ew
          rw [if_neg (by decide), if_pos rfl]
          obtain ⟨Q', q1, q2⟩ := su1 hi6 hS hF n (n + 1) (n + 1) 0 0 B (by omega) (by omega) (by omega) Sc.rf
          rw [q1]
          unfold f_X3_givenUpLines
          rw [xn]
          exact sc _ _ q2
        · have ew : w = 2 := k2
          subst ew
          rw [if_neg (by decide), if_neg (by decide), if_pos rfl, su2 hi6 hS hF n (n + 1) 0 0 0 (by omega) (by omega)]
          unfold f_X3_constants
          rw [xn, show n * 8 + 1 = 0 + 1 + 8 * n by omega]
          exact same _
        · have ew : w = 3 := k2
          subst ew
          rw [if_neg (by decide), if_neg (by decide), if_neg (by decide), f_X7_sum_39]
          unfold f_X7_sum_109 f_X7_sum_124
          rw [if_pos (show (3 : Int32) = 3 from rfl), if_pos (show (3 : Int32) ≤ 3 by decide), ix_n (show i < 2 ^ 31 by omega), hF.2.2]
          have : (if mI B 60 i ≤ nI 0 then (mI B 68 i, B) else (mI B 68 i, B)) = (mI B 68 i, B) := by split <;> rfl
          rw [this]
          exact same _
    · rw [if_pos k5]
      have : ∀ X : Int32, (if w < 0 then f_X6_sum_19y1 else if w ≤ 3 then X else f_X6_sum_19y1) = -1 := fun X => by
        rcases k4 with k4 | k4
        · rw [if_pos k4]; rfl
        · by_cases z : w < 0
          · rw [if_pos z]; rfl
          · rw [if_neg z, if_neg]
            · rfl
            · intro z2
              rw [Int32.le_iff_toInt_le] at k4 z2
              have a1 : (4 : Int32).toInt = 4 := rfl
              have a2 : (3 : Int32).toInt = 3 := rfl
              omega
      rw [this]
      exact same _
  · rw [e1, if_pos e2, Option.elim_none]
    exact same _
