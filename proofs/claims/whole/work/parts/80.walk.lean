theorem nw_set {Q P : Mem} {v : Int64} {k : Nat} (h : ∀ p, p < 8 → mL Q 32 p = mL P 73 p) : ∀ p, p < 8 → mL (uL Q 32 k v) 32 p = mL (uL P 73 k v) 73 p := fun p hp => by
  by_cases e : p = k
  · rw [e, mL_uL, mL_uL]
  · rw [mL_uL_nk e, mL_uL_nk e]; exact h p hp
/-- one LINE, of both -/
theorem st_eq {i n l : Nat} {A B Q P : Mem} (hi : i < 6) (hl : l < n) (hS : St i n A B) (hW : Wl l Q P) (ha : ER eA A Q) (hb : ER eB B P) :
    (f_X4_step Q (rT i) = (-1, Q) ∧ f_X7_line P (nI i) = (0, uI P 52 24 2)) ∨ (∃ x x' Q' P', x ≤ 34 ∧ x' ≤ 34 ∧ min x n = min x' n ∧ f_X4_step Q (rT i) = (nI x, Q') ∧ f_X7_line P (nI i) = (1, uI P' 52 25 (nI x')) ∧ (∀ p, p < 8 → mL Q' 32 p = mL P' 73 p) ∧ mI Q' 31 3 = mI P' 52 26 ∧ mI P' 52 24 = 0 ∧ ER eA A Q' ∧ ER eB B P') := by
  have er : rT i = 74 + 271 * i := rfl
  obtain ⟨hn, s2, s3, s4, s5, s6⟩ := hS
  obtain ⟨w1, w2, w3, w4, w5⟩ := hW
  obtain ⟨l1, l2, l3, lg⟩ := s5 l hl
  have q1 : mI Q (rT i + 1) l = mI B 61 (32 * i + l) := by rw [(ha.2.2 (rT i + 1) l (eA_n (by omega))).1]; exact l1
  have q2 : mI Q (rT i + 2) l = mI B 62 (32 * i + l) := by rw [(ha.2.2 (rT i + 2) l (eA_n (by omega))).1]; exact l2
  have q3 : mI Q (rT i + 3) l = mI B 63 (32 * i + l) := by rw [(ha.2.2 (rT i + 3) l (eA_n (by omega))).1]; exact l3
  have p1 : mI P 61 (32 * i + l) = mI B 61 (32 * i + l) := (hb.2.2 61 _ (eB_n (by omega) (by omega))).1
  have p2 : mI P 62 (32 * i + l) = mI B 62 (32 * i + l) := (hb.2.2 62 _ (eB_n (by omega) (by omega))).1
  have p3 : mI P 63 (32 * i + l) = mI B 63 (32 * i + l) := (hb.2.2 63 _ (eB_n (by omega) (by omega))).1
  have hl32 : l < 32 := by omega
  obtain ⟨g0, g27, ⟨ia, hia, ea⟩, gb, gb22, gb25, gb26⟩ := lg
  have xa : ix (mI B 62 (32 * i + l)) = ia := by rw [ea, ix_n (by omega)]
  have s1 : nI l + 1 = nI (l + 1) := nI_s1
  have s22 : nI l + 2 = nI (l + 2) := nI_add l 2
  have sL : ∀ v : Int64, ER eA A (uL Q 32 ia v) ∧ ER eB B (uL P 73 ia v) := fun v => ⟨ha.uL rfl, hb.uL rfl⟩
  generalize hop : mI B 61 (32 * i + l) = op at *
  by_cases o20 : op = 20
  · right
    rw [o20] at q1 p1
    refine ⟨l + 1, l + 1, _, _, by omega, by omega, rfl, ?_, ?_, nw_set (k := ia) (v := Int32.toInt64 (mI B 63 (32 * i + l))) w3, w4, w5, (sL _).1, (sL _).2⟩
    · rw [sp_20 hl32 w1 q1 q2 q3, xa, s1]
    · rw [ln_20 hi hl32 w2 p1 p2 p3, xa, s1]
  by_cases o21 : op = 21
  · right
    obtain ⟨ib, hib, eb⟩ := gb (Or.inr (Or.inl o21))
    have xb : ix (mI B 63 (32 * i + l)) = ib := by rw [eb, ix_n (by omega)]
    rw [o21] at q1 p1
    refine ⟨l + 1, l + 1, _, _, by omega, by omega, rfl, ?_, ?_, nw_set (k := ia) (v := mL P 73 ib) w3, w4, w5, (sL _).1, (sL _).2⟩
    · rw [sp_21 hl32 w1 q1 q2 q3, xa, xb, w3 ib hib, s1]
    · rw [ln_21 hi hl32 w2 p1 p2 p3, xa, xb, s1]
  by_cases o22 : op = 22
  · obtain ⟨ib, hib, eb⟩ := gb22 o22
    have xb : ix (mI B 63 (32 * i + l)) = ib := by rw [eb, ix_n (by omega)]
    rw [o22] at q1 p1
    obtain ⟨z, z1, z2, z3, z4⟩ := s6 ib hib
    have e10 : mI Q 10 ib = nI z := by rw [(ha.2.2 10 ib (eA_n (by omega))).1]; exact z2
    have e64 : mI P 64 ib = nI z := by rw [(hb.2.2 64 ib (eB_n (by omega) (by omega))).1]; exact z3
    have hh := sp_22 hl32 w1 q1 q2 q3
    have hr := ln_22 hi hl32 w2 p1 p2 p3
    rw [xa, xb, w3 ia hia] at hh
    rw [xa, xb, e64] at hr
    generalize hv : mL P 73 ia = v at *
    have a0 : (0 : Int64).toInt = 0 := rfl
    have zt : (Int32.toInt64 (nI z)).toInt = z := by rw [Int32.toInt_toInt64, nI_toInt (by omega)]
    have hI : f_X7_in v 0 (Int32.toInt64 (nI z) - 1) = 0 ↔ ¬ (0 ≤ v.toInt ∧ v.toInt ≤ (z : Int) - 1) := by
      have h := in_iff (v := v) (a := 0) (b := Int32.toInt64 (nI z) - 1)
      rw [Int64.le_iff_toInt_le, Int64.le_iff_toInt_le, i64s (by omega), a0] at h
      exact ⟨fun y q => h.mpr q y, fun y => Classical.byContradiction (fun q => y (h.mp q))⟩
    have hC : f_X5_has Q (mI B 63 (32 * i + l)) v = 0 ↔ ¬ (0 ≤ v.toInt ∧ v.toInt ≤ (z : Int) - 1) := by
      unfold f_X5_has f_X5_has_22 f_X5_has_23
      rw [xb, e10]
      by_cases y1 : v < 0
      · rw [if_pos y1]
        rw [Int64.lt_iff_toInt_lt, a0] at y1
        exact ⟨fun _ => by omega, fun _ => rfl⟩
      · rw [if_neg y1]
        rw [Int64.lt_iff_toInt_lt, a0] at y1
        by_cases y2 : Int32.toInt64 (nI z) ≤ v
        · rw [if_pos y2]
          rw [Int64.le_iff_toInt_le, zt] at y2
          exact ⟨fun _ => by omega, fun _ => rfl⟩
        · rw [if_neg y2]
          rw [Int64.le_iff_toInt_le, zt] at y2
          exact ⟨fun y => absurd y (by decide), fun y => absurd (by omega) y⟩
    by_cases y : 0 ≤ v.toInt ∧ v.toInt ≤ (z : Int) - 1
    · right
      rw [if_neg (fun w => hC.mp w y)] at hh
      rw [if_neg (fun w => hI.mp w y)] at hr
      have ev : Int64.toInt32 v = nI v.toInt.toNat := by
        apply Int32.toInt_inj.mp
        rw [Int64.toInt_toInt32, nI_toInt (by omega)]
        rw [Int.bmod_eq_of_le (by omega) (by omega)]
        omega
      have hz : v.toInt.toNat < z := by omega
      rw [ev, ix_n (by omega)] at hh
      rw [ev, eb, show (16 : Int32) * nI ib + nI v.toInt.toNat = nI (16 * ib + v.toInt.toNat) from by rw [show (16 : Int32) = nI 16 from rfl, nI_mul, nI_add], ix_n (by omega)] at hr
      have et : mL Q (5 + 1 + ib) v.toInt.toNat = mL P 65 (16 * ib + v.toInt.toNat) := by
        rw [show 5 + 1 + ib = 6 + ib by omega, (ha.2.2 (6 + ib) _ (eA_n (by omega))).2, (hb.2.2 65 _ (eB_n (by omega) (by omega))).2]
        exact z4 _ hz
      refine ⟨l + 1, l + 1, _, _, by omega, by omega, rfl, ?_, ?_, nw_set (k := ia) (v := mL P 65 (16 * ib + v.toInt.toNat)) w3, w4, w5, (sL _).1, (sL _).2⟩
      · rw [hh, et, s1]
      · rw [hr, s1]
    · left
      rw [if_pos (hC.mpr y)] at hh
      rw [if_pos (hI.mpr y)] at hr
      exact ⟨hh, hr⟩
  by_cases o23 : op = 23
  · right
    obtain ⟨ib, hib, eb⟩ := gb (Or.inr (Or.inr (Or.inl o23)))
    have xb : ix (mI B 63 (32 * i + l)) = ib := by rw [eb, ix_n (by omega)]
    rw [o23] at q1 p1
    have hh := sp_23 hl32 w1 q1 q2 q3
    have hr := ln_23 hi hl32 w2 p1 p2 p3
    rw [xa, xb, w3 ia hia, w3 ib hib] at hh
    rw [xa, xb] at hr
    by_cases y : mL P 73 ia = mL P 73 ib
    · rw [if_pos y, s22] at hh hr
      exact ⟨l + 2, l + 2, Q, P, by omega, by omega, rfl, hh, hr, w3, w4, w5, ha, hb⟩
    · rw [if_neg y, s1] at hh hr
      exact ⟨l + 1, l + 1, Q, P, by omega, by omega, rfl, hh, hr, w3, w4, w5, ha, hb⟩
  by_cases o24 : op = 24
  · right
    obtain ⟨ib, hib, eb⟩ := gb (Or.inr (Or.inr (Or.inr o24)))
    have xb : ix (mI B 63 (32 * i + l)) = ib := by rw [eb, ix_n (by omega)]
    rw [o24] at q1 p1
    have hh := sp_24 hl32 w1 q1 q2 q3
    have hr := ln_24 hi hl32 w2 p1 p2 p3
    rw [xa, xb, w3 ia hia, w3 ib hib] at hh
    rw [xa, xb] at hr
    by_cases y : mL P 73 ia < mL P 73 ib
    · rw [if_pos y, s22] at hh hr
      exact ⟨l + 2, l + 2, Q, P, by omega, by omega, rfl, hh, hr, w3, w4, w5, ha, hb⟩
    · rw [if_neg y, s1] at hh hr
      exact ⟨l + 1, l + 1, Q, P, by omega, by omega, rfl, hh, hr, w3, w4, w5, ha, hb⟩
  by_cases o25 : op = 25
  · right
    rw [o25] at q1 p1
    have hh := sp_25 hl32 w1 q1 q2 q3
    have hr := ln_25 hi hl32 w2 p1 p2 p3
    rw [xa, w3 ia hia] at hh
    rw [xa] at hr
    by_cases y : (jushr (mL P 73 ia) (mI B 63 (32 * i + l)) &&& 1) = 1
    · rw [if_pos y, s22] at hh hr
      exact ⟨l + 2, l + 2, Q, P, by omega, by omega, rfl, hh, hr, w3, w4, w5, ha, hb⟩
    · rw [if_neg y, s1] at hh hr
      exact ⟨l + 1, l + 1, Q, P, by omega, by omega, rfl, hh, hr, w3, w4, w5, ha, hb⟩
  by_cases o26 : op = 26
  · right
    obtain ⟨ib, hib, eb⟩ := gb26 o26
    rw [o26] at q1 p1
    have hh := sp_26 hl32 w1 q1 q3
    have hr := ln_26 hi hl32 w2 p1 p2 p3
    rw [eb] at hh hr
    exact ⟨ib, ib, Q, P, by omega, by omega, rfl, hh, hr, w3, w4, w5, ha, hb⟩
  by_cases o27 : op = 27
  · right
    rw [o27] at q1 p1
    have hh := sp_27 hl32 w1 q1
    have hr := ln_27 hi hl32 w2 p1
    have e60 : mI P 60 i = nI n := by rw [(hb.2.2 60 i (eB_n (by omega) (by omega))).1]; exact s3
    rw [e60] at hr
    exact ⟨32, n, Q, P, by omega, by omega, by omega, hh, hr, w3, w4, w5, ha, hb⟩
  have ho : ¬ 20 ≤ op := by
    intro y
    rw [Int32.le_iff_toInt_le] at y g27
    have c20 : (20 : Int32).toInt = 20 := rfl
    have c27 : (27 : Int32).toInt = 27 := rfl
    rw [c20] at y
    rw [c27] at g27
    have h20 : op.toInt ≠ 20 := fun e => o20 (Int32.toInt_inj.mp (e.trans c20.symm))
    have h21 : op.toInt ≠ 21 := fun e => o21 (Int32.toInt_inj.mp (e.trans (show (21 : Int) = (21 : Int32).toInt from rfl)))
    have h22 : op.toInt ≠ 22 := fun e => o22 (Int32.toInt_inj.mp (e.trans (show (22 : Int) = (22 : Int32).toInt from rfl)))
    have h23 : op.toInt ≠ 23 := fun e => o23 (Int32.toInt_inj.mp (e.trans (show (23 : Int) = (23 : Int32).toInt from rfl)))
    have h24 : op.toInt ≠ 24 := fun e => o24 (Int32.toInt_inj.mp (e.trans (show (24 : Int) = (24 : Int32).toInt from rfl)))
    have h25 : op.toInt ≠ 25 := fun e => o25 (Int32.toInt_inj.mp (e.trans (show (25 : Int) = (25 : Int32).toInt from rfl)))
    have h26 : op.toInt ≠ 26 := fun e => o26 (Int32.toInt_inj.mp (e.trans (show (26 : Int) = (26 : Int32).toInt from rfl)))
    have h27 : op.toInt ≠ 27 := fun e => o27 (Int32.toInt_inj.mp (e.trans c27.symm))
    omega
  have ho2 : op < 20 := Int32.not_le.mp ho
  have ho3 : op ≤ 19 := by
    rw [Int32.le_iff_toInt_le]
    rw [Int32.lt_iff_toInt_lt] at ho2
    have c20 : (20 : Int32).toInt = 20 := rfl
    have c19 : (19 : Int32).toInt = 19 := rfl
    omega
  obtain ⟨ib, hib, eb⟩ := gb (Or.inl ho2)
  have xb : ix (mI B 63 (32 * i + l)) = ib := by rw [eb, ix_n (by omega)]
  have hh := sp_op hl32 ho w1 q1 q2 q3
  have hr := ln_op hi hl32 ho w2 p1 p2 p3
  rw [xa, xb, w3 ia hia, w3 ib hib] at hh
  rw [xa, xb] at hr
  by_cases y : (op = 9 ∨ op = 10) ∧ mL P 73 ib = 0
  · left
    rw [if_pos y] at hh hr
    exact ⟨hh, hr⟩
  · right
    rw [if_neg y] at hh hr
    have hv : (if 12 ≤ op then f_X0_number op (mL P 73 ib) (mL P 73 ib) else f_X0_number op (mL P 73 ia) (mL P 73 ib)) = (if 12 ≤ op then f_X7_reckon op (mL P 73 ib) 0 else f_X7_reckon op (mL P 73 ia) (mL P 73 ib)) := by
      by_cases n12 : 12 ≤ op
      · rw [if_pos n12, if_pos n12, num_eq g0 ho3 (fun z1 z2 => y ⟨z1, z2⟩)]
        exact num_1 n12
      · rw [if_neg n12, if_neg n12, num_eq g0 ho3 (fun z1 z2 => y ⟨z1, z2⟩)]
    rw [hv] at hh
    refine ⟨l + 1, l + 1, _, _, by omega, by omega, rfl, ?_, ?_, nw_set (k := ia) (v := if 12 ≤ op then f_X7_reckon op (mL P 73 ib) 0 else f_X7_reckon op (mL P 73 ia) (mL P 73 ib)) w3, w4, w5, (sL _).1, (sL _).2⟩
    · rw [hh, s1]
    · rw [hr, s1]
/-! the RUN -/
theorem imin_n {x n : Nat} (hx : x < 2 ^ 31) (hn : n < 2 ^ 31) : imin (nI x) (nI n) = nI (min x n) := by
  unfold imin
  by_cases h : n < x
  · rw [if_pos ((nI_ltI hn hx).mpr h), Nat.min_eq_right (by omega)]
  · rw [if_neg (fun z => h ((nI_ltI hn hx).mp z)), Nat.min_eq_left (by omega)]
theorem nI_nm {x : Nat} (hx : x < 2 ^ 31) : ¬ nI x = -1 := by
  intro h
  have := congrArg Int32.toInt h
  rw [nI_toInt hx] at this
  have e : (-1 : Int32).toInt = -1 := rfl
  omega
/-- where both stand in a RUN -/
def Wz (x n : Nat) (Q P : Mem) : Prop := mI Q 31 2 = nI (min x n) ∧ mI P 52 25 = nI x ∧ (∀ p, p < 8 → mL Q 32 p = mL P 73 p) ∧ mI Q 31 3 = mI P 52 26 ∧ mI P 52 24 = 0
/-- where both end -/
def We (Q P : Mem) : Prop := (∀ p, p < 8 → mL Q 32 p = mL P 73 p) ∧ mI Q 31 1 = mI P 52 24 ∧ mI Q 31 2 = mI P 52 25 ∧ mI Q 31 3 = mI P 52 26
theorem rn_eq {i n K : Nat} {A B : Mem} (hi : i < 6) (hK : K ≤ 1000) (hS : St i n A B) (hF : Fi i n A B) : ∀ (q s x f g : Nat) (Q P : Mem), s + q = K → q + 2 ≤ f → q + 2 ≤ g → x ≤ 34 → Wz x n Q P → ER eA A Q → ER eB B P →
    ∃ v Q' P', f_X4_begin_43 (rT i) (nI K) f (nI s) 1 Q = (v, Q') ∧ f_X7_walk_134 (nI i) (nI K) g (nI s) P = (v, P') ∧ We Q' P' ∧ ER eA A Q' ∧ ER eB B P' := by
  have er : rT i = 74 + 271 * i := rfl
  have hn := hS.1
  have xi : ix (nI i) = i := ix_n (by omega)
  intro q
  induction q with
  | zero =>
    intro s x f g Q P hs hf hg hx hW ha hb
    obtain ⟨f, rfl⟩ : ∃ z, f = z + 1 := ⟨f - 1, by omega⟩
    obtain ⟨g, rfl⟩ : ∃ z, g = z + 1 + 1 := ⟨g - 2, by omega⟩
    obtain ⟨w1, w2, w3, w4, w5⟩ := hW
    have e3 : mI Q (rT i) 3 = nI n := by rw [(ha.2.2 (rT i) 3 (eA_n (by omega))).1]; exact hS.2.1
    have e60 : mI P 60 i = nI n := by rw [(hb.2.2 60 i (eB_n (by omega) (by omega))).1]; exact hS.2.2.1
    have sK : s = K := by omega
    subst sK
    rw [f_X4_begin_43, if_neg (show ¬ (1 : Int32) = 0 by decide), if_pos (nI_le (Nat.le_refl s) (by omega))]
    unfold f_X4_begin_116 f_X4_begin_146 f_X4_begin_149
    rw [if_neg (show ¬ (1 : Int32) = 0 by decide), e3, w1]
    rw [f_X7_walk_134, xi, w5, if_pos rfl, w2, e60]
    by_cases hxn : x < n
    · rw [Nat.min_eq_left (by omega), if_neg (nI_ge hxn (by omega)), if_pos ((nI_ltI (by omega) (by omega)).mpr hxn), if_pos rfl, f_X7_walk_134, mI_uI, if_neg (by decide)]
      refine ⟨_, _, _, rfl, rfl, ⟨w3, by rw [mI_uI, mI_uI], ?_, ?_⟩, ha.uI rfl, hb.uI rfl⟩
      · rw [mI_uI_nk (by decide), mI_uI_nk (by decide), w1, w2, Nat.min_eq_left (by omega)]
      · rw [mI_uI_nk (by decide), mI_uI_nk (by decide)]; exact w4
    · rw [Nat.min_eq_right (by omega), if_pos (nI_le (Nat.le_refl n) (by omega)), if_neg (fun z => hxn ((nI_ltI (by omega) (by omega)).mp z)), f_X7_walk_134, mI_uI_nk (by decide), mI_uI, if_neg (by decide)]
      refine ⟨_, _, _, rfl, rfl, ⟨w3, ?_, ?_, ?_⟩, ha.uI rfl, (hb.uI rfl).uI rfl⟩
      · rw [mI_uI, mI_uI_nk (by decide), mI_uI]
      · rw [mI_uI_nk (by decide), mI_uI, mI_uI_ne (by decide), e60, w1, Nat.min_eq_right (by omega)]
      · rw [mI_uI_nk (by decide), mI_uI_nk (by decide), mI_uI_nk (by decide)]; exact w4
  | succ q ih =>
    intro s x f g Q P hs hf hg hx hW ha hb
    obtain ⟨f, rfl⟩ : ∃ z, f = z + 1 + 1 := ⟨f - 2, by omega⟩
    obtain ⟨g, rfl⟩ : ∃ z, g = z + 1 + 1 := ⟨g - 2, by omega⟩
    obtain ⟨w1, w2, w3, w4, w5⟩ := hW
    have e3 : mI Q (rT i) 3 = nI n := by rw [(ha.2.2 (rT i) 3 (eA_n (by omega))).1]; exact hS.2.1
    have e60 : mI P 60 i = nI n := by rw [(hb.2.2 60 i (eB_n (by omega) (by omega))).1]; exact hS.2.2.1
    rw [f_X4_begin_43, if_neg (show ¬ (1 : Int32) = 0 by decide), if_neg (nI_ge (show s < K by omega) (by omega)), e3, w1]
    rw [f_X7_walk_134, xi, w5, if_pos rfl, w2, e60]
    by_cases hxn : x < n
    · rw [Nat.min_eq_left (by omega), if_neg (nI_ge hxn (by omega)), if_pos ((nI_ltI (by omega) (by omega)).mpr hxn), if_neg (show ¬ nI s = nI K by rw [nI_inj (by omega) (by omega)]; omega)]
      have hWl : Wl x Q P := ⟨by rw [w1, Nat.min_eq_left (by omega)], w2, w3, w4, w5⟩
      obtain ⟨l1, l2, l3⟩ := lk_eq hi hn hxn hF 8 9 9 0 Q P rfl (by omega) (by omega) hWl ha hb
      unfold f_X4_begin_c71 f_X7_walk_c191 f_X4_begin_c77 f_X7_walk_c198 f_X4_begin_90 f_X4_begin_113 f_X7_walk_206
      have eq1 : f_X4_look Q (rT i) = f_X4_look_2 (rT i) 9 0 Q := rfl
      have eq2 : f_X7_check P (nI i) = f_X7_check_2 (nI i) 9 0 P := rfl
      rw [eq1, eq2]
      generalize f_X4_look_2 (rT i) 9 0 Q = Q1 at *
      generalize f_X7_check_2 (nI i) 9 0 P = P1 at *
      rcases st_eq hi hxn hS l1 l2 l3 with ⟨c1, c2⟩ | ⟨x1, x2, Q2, P2, y1, y2, y3, y4, y5, y6, y7, y8, y9, y10⟩
      · rw [c1, c2]
        show ∃ v Q' P', (if (-1 : Int32) = -1 then (if (0 : Int32) = 0 then f_X4_begin_43 (rT i) (nI K) (f + 1) (nI s) 0 Q1 else _) else _) = (v, Q') ∧ (if (0 : Int32) = 0 then f_X7_walk_134 (nI i) (nI K) (g + 1) (nI s + 0) (uI P1 52 24 2) else _) = (v, P') ∧ _
        rw [if_pos rfl, if_pos rfl, if_pos rfl, Int32.add_zero, f_X4_begin_43, if_pos rfl]
        unfold f_X4_begin_116 f_X4_begin_149
        rw [if_pos rfl, f_X7_walk_134, mI_uI, if_neg (by decide)]
        obtain ⟨v1, v2, v3, v4, v5⟩ := l1
        refine ⟨_, _, _, rfl, rfl, ⟨v3, by rw [mI_uI, mI_uI], ?_, ?_⟩, l2.uI rfl, l3.uI rfl⟩
        · rw [mI_uI_nk (by decide), mI_uI_nk (by decide), v1, v2]
        · rw [mI_uI_nk (by decide), mI_uI_nk (by decide)]; exact v4
      · rw [y4, y5]
        have e3' : mI Q2 (rT i) 3 = nI n := by rw [(y9.2.2 (rT i) 3 (eA_n (by omega))).1]; exact hS.2.1
        show ∃ v Q' P', (if nI x1 = -1 then _ else (if (1 : Int32) = 0 then _ else f_X4_begin_43 (rT i) (nI K) (f + 1) (nI s + 1) 1 (uI Q2 31 2 (imin (nI x1) (mI Q2 (rT i) 3))))) = (v, Q') ∧ (if (1 : Int32) = 0 then _ else f_X7_walk_134 (nI i) (nI K) (g + 1) (nI s + 1) (uI P2 52 25 (nI x2))) = (v, P') ∧ _
        rw [if_neg (nI_nm (by omega)), if_neg (by decide), if_neg (by decide), e3', imin_n (by omega) (by omega), nI_s1]
        refine ih (s + 1) x2 (f + 1) (g + 1) _ _ (by omega) (by omega) (by omega) y2 ⟨?_, mI_uI, y6, ?_, ?_⟩ (y9.uI rfl) (y10.uI rfl)
        · rw [mI_uI, y3]
        · rw [mI_uI_nk (by decide), mI_uI_nk (by decide)]; exact y7
        · rw [mI_uI_nk (by decide)]; exact y8
    · rw [Nat.min_eq_right (by omega), if_pos (nI_le (Nat.le_refl n) (by omega)), if_neg (fun z => hxn ((nI_ltI (by omega) (by omega)).mp z)), f_X7_walk_134, mI_uI_nk (by decide), mI_uI, if_neg (by decide)]
      unfold f_X4_begin_116 f_X4_begin_146 f_X4_begin_149
      rw [if_neg (show ¬ (1 : Int32) = 0 by decide), e3, w1, Nat.min_eq_right (by omega), if_pos (nI_le (Nat.le_refl n) (by omega))]
      refine ⟨_, _, _, rfl, rfl, ⟨w3, ?_, ?_, ?_⟩, ha.uI rfl, (hb.uI rfl).uI rfl⟩
      · rw [mI_uI, mI_uI_nk (by decide), mI_uI]
      · rw [mI_uI_nk (by decide), mI_uI, mI_uI_ne (by decide), e60, w1, Nat.min_eq_right (by omega)]
      · rw [mI_uI_nk (by decide), mI_uI_nk (by decide), mI_uI_nk (by decide)]; exact w4
