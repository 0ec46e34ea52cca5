def lfR (m r : Int64) (c : Int32) : Int64 := f_X6_restBy (f_X6_restBy (r * f_X6_restBy (jshl 1 (c / 2)) m) m * f_X6_restBy (jshl 1 (c - c / 2)) m) m
def mvL (x : Fk) (c : Int32) : Fk := if jshr (jshl x.2.1 c) c = x.2.1 then (if jshr (jshl x.2.2.1 c) c = x.2.2.1 then (0, jshl x.2.1 c, jshl x.2.2.1 c, jshl x.2.2.2.1 c ||| (jshl 1 c - 1), jshl x.2.2.2.2.1 c, x.2.2.2.2.2.1, lfR x.2.2.2.2.2.1 x.2.2.2.2.2.2 c) else (0, -9223372036854775808, 9223372036854775807, jshl x.2.2.2.1 c ||| (jshl 1 c - 1), jshl x.2.2.2.2.1 c, 1, 0)) else (0, -9223372036854775808, 9223372036854775807, jshl x.2.2.2.1 c ||| (jshl 1 c - 1), jshl x.2.2.2.2.1 c, 1, 0)
def mvR (x : Fk) (c : Int32) : Fk := (0, jshr x.2.1 c, jshr x.2.2.1 c, jshr x.2.2.2.1 c, jshr x.2.2.2.2.1 c, 1, 0)
def mvZ (x : Fk) (c : Int32) : Fk := if 0 ≤ x.2.1 then (0, jushr x.2.1 c, jushr x.2.2.1 c, jushr x.2.2.2.1 c ||| (jushr (-1) c ^^^ (-1)), jushr x.2.2.2.2.1 c, 1, 0) else if 0 ≤ x.2.2.1 then (0, 0, jushr (-1) c, jushr x.2.2.2.1 c ||| (jushr (-1) c ^^^ (-1)), jushr x.2.2.2.2.1 c, 1, 0) else (0, jushr x.2.1 c, jushr x.2.2.1 c, jushr x.2.2.2.1 c ||| (jushr (-1) c ^^^ (-1)), jushr x.2.2.2.2.1 c, 1, 0)
def mvQ (op : Int32) (x : Fk) (c : Int32) : Fk := if op = 6 then mvL x c else if op = 7 then mvR x c else mvZ x c
def mvP (op : Int32) (x : Fk) (c : Int32) : Fk := if c = 0 then x else if x.2.1 = x.2.2.1 then cst (f_X0_number op x.2.1 (Int32.toInt64 c)) else shF (mvQ op x c)
theorem Pf_mv {op : Int32} {x : Fk} {j : Nat} (hj : j < 64) (hx : Gd x) (x0 : x.1 = 0) : Pf (mvQ op x (nI j)) := by
  have px := (gd_P hx x0).1
  have hl : jshl x.2.2.2.2.1 (nI j) &&& (jshl x.2.2.2.1 (nI j) ||| (jshl 1 (nI j) - 1)) = jshl x.2.2.2.2.1 (nI j) := pbV_K hj px.1
  have hz : jushr x.2.2.2.2.1 (nI j) &&& (jushr x.2.2.2.1 (nI j) ||| (jushr (-1) (nI j) ^^^ (-1))) = jushr x.2.2.2.2.1 (nI j) := tb_ext fun p hp => by
    rw [tb_and, tb_or, tb_shr _ hj, tb_shr _ hj]
    have h2 : tb x.2.2.2.2.1 (p + j) = (tb x.2.2.2.2.1 (p + j) && tb x.2.2.2.1 (p + j)) := by rw [← tb_and, px.1]
    cases e1 : tb x.2.2.2.2.1 (p + j) <;> cases e2 : tb x.2.2.2.1 (p + j) <;> simp [e1, e2] at h2 ⊢
  unfold mvQ
  split
  · unfold mvL
    split
    · split
      · exact Pf_mk ⟨hl, px.2.1, rest_rng px.2.1.1⟩
      · exact Pf_mk (Pd_1 hl)
    · exact Pf_mk (Pd_1 hl)
  · split
    · exact Pf_mk (Pd_1 (vk_sar hj px.1))
    · unfold mvZ
      split
      · exact Pf_mk (Pd_1 hz)
      · split
        · exact Pf_mk (Pd_1 hz)
        · exact Pf_mk (Pd_1 hz)
theorem Gd_mv {op : Int32} {x : Fk} {j : Nat} (hj : j < 64) (hx : Gd x) (x0 : x.1 = 0) : Gd (mvP op x (nI j)) := by
  unfold mvP
  split
  · exact hx
  · split
    · exact Gd_cst _
    · exact Gd_shF (Pf_mv hj hx x0)
theorem ml_C {M : Mem} {a0 a : Nat} {c : Int32} (ha : a ≠ a0 + 2) : f_X0_moveLeft (pC M (a0 + 2) AL) a0 a c = pC M (a0 + 2) (mvL (gC M a) c) := by
  unfold f_X0_moveLeft f_X0_moveLeft_c39 f_X0_moveLeft_c100 f_X0_moveLeft_c125 f_X0_moveLeft_c141 f_X0_moveLeft_141 f_X1_limit AL mvL lfR
  simp only [qcnL ha, wc1, wc2, wc3, wc4, wc5, wc6]
  show (if jshr (jshl (gC M a).2.1 c) c = (gC M a).2.1 then (if jshr (jshl (gC M a).2.2.1 c) c = (gC M a).2.2.1 then _ else _) else _) = _
  by_cases q1 : jshr (jshl (gC M a).2.1 c) c = (gC M a).2.1
  · rw [if_pos q1, if_pos q1]
    by_cases q2 : jshr (jshl (gC M a).2.2.1 c) c = (gC M a).2.2.1
    · rw [if_pos q2, if_pos q2]; rfl
    · rw [if_neg q2, if_neg q2]; rfl
  · rw [if_neg q1, if_neg q1]; rfl
theorem mz_C {M : Mem} {a0 a : Nat} {c : Int32} (ha : a ≠ a0 + 2) : f_X0_moveRightZeros (pC M (a0 + 2) AL) a0 a c = pC M (a0 + 2) (mvZ (gC M a) c) := by
  unfold f_X0_moveRightZeros f_X0_moveRightZeros_18 f_X0_moveRightZeros_23 f_X0_moveRightZeros_42 f_X0_moveRightZeros_63 f_X0_moveRightZeros_c104 AL mvZ
  simp only [qcnL ha, wc1, wc2, wc3, wc4, if_neg (show ¬ (1 : Int32) = 0 by decide), if_true]
  show (if 0 ≤ (gC M a).2.1 then _ else if 0 ≤ (gC M a).2.2.1 then _ else _) = _
  by_cases q1 : 0 ≤ (gC M a).2.1
  · rw [if_pos q1, if_pos q1]; rfl
  · rw [if_neg q1, if_neg q1]
    by_cases q2 : 0 ≤ (gC M a).2.2.1
    · rw [if_pos q2, if_pos q2]; rfl
    · rw [if_neg q2, if_neg q2]; rfl
theorem mv_C {M : Mem} {a0 a : Nat} {op : Int32} {j : Nat} (hj : j < 64) (ha : a ≠ a0 + 2) (hx : Gd (gC M a)) (x0 : (gC M a).1 = 0) : f_X0_move M a0 op a (nI j) = pC M (a0 + 2) (mvP op (gC M a) (nI j)) := by
  have hp := Pf_mv (op := op) hj hx x0
  unfold f_X0_move mvP f_X0_move_c12 f_X0_move_c37
  by_cases e : nI j = 0
  · rw [if_pos e, if_pos e, cp_C]
  · rw [if_neg e, if_neg e]
    by_cases q : (gC M a).2.1 = (gC M a).2.2.1
    · rw [if_neg (fun z => ic_0.mp z ⟨x0, q⟩), if_pos q]; rfl
    · rw [if_pos (ic_0.mpr (fun z => q z.2)), if_neg q, ma_C']
      unfold f_X0_move_c45 f_X0_move_c57 f_X0_move_c99 f_X0_move_c108 f_X0_move_108 f_X0_move_c115
      have key : ∀ Q : Mem, Q = pC M (a0 + 2) (mvQ op (gC M a) (nI j)) → f_X1_sharpen Q (a0 + 2) = pC M (a0 + 2) (shF (mvQ op (gC M a) (nI j))) := fun Q h => by rw [h]; exact shF_C hp
      unfold mvQ at key ⊢
      by_cases e6 : op = 6
      · rw [if_pos e6]
        exact key _ (by rw [if_pos e6]; exact ml_C ha)
      · rw [if_neg e6]
        by_cases e7 : op = 7
        · rw [if_pos e7]
          refine key _ ?_
          rw [if_neg e6, if_pos e7, qcnL ha, qcnL ha, qcnL ha, qcnL ha]
          show pC (pC M (a0 + 2) AL) (a0 + 2) (mvR (gC M a) (nI j)) = _
          rw [pC_p]
        · rw [if_neg e7]
          exact key _ (by rw [if_neg e6, if_neg e7]; exact mz_C ha)
/-! the reference's -/
theorem mm_em (a b m : Int) : (a * (b % m)) % m = (a * b) % m := by rw [Int.mul_emod, Int.emod_emod, ← Int.mul_emod]
theorem pw_i {k : Nat} (hk : k < 63) : (jshl 1 (nI k)).toInt = (2 : Int) ^ k := by
  have h := uN_b (k := k) (by omega)
  have h2 : (2 : Nat) ^ k < 2 ^ 63 := Nat.pow_lt_pow_right (by decide) hk
  have := i_of (w := jshl 1 (nI k)) (by omega)
  rw [this.1, h]
  exact_mod_cast rfl
theorem half {j : Nat} (hj : j < 64) : nI j / 2 = nI (j / 2) ∧ nI j - nI j / 2 = nI (j - j / 2) := by
  have : ∀ j, j < 64 → nI j / 2 = nI (j / 2) ∧ nI j - nI j / 2 = nI (j - j / 2) := by decide +kernel
  exact this j hj
theorem lf_i {m r : Int64} {j : Nat} (hj : j < 64) (hm : mOK m) (r0 : 0 ≤ r) (r1 : r < m) : (lfR m r (nI j)).toInt = (r.toInt * 2 ^ j) % m.toInt := by
  unfold lfR
  rw [(half hj).2, (half hj).1]
  have mp := pos_i hm.1
  have m2 := hm.2.1
  have e0 : (0 : Int64).toInt = 0 := rfl
  have e1 : (2147483647 : Int64).toInt = 2147483647 := rfl
  have rr2 : r ≤ 2147483647 := Int64.le_trans (Int64.le_of_lt r1) m2
  have x1 := rest_rng (v := jshl 1 (nI (j / 2))) hm.1
  have i1 := i_rm (v := jshl 1 (nI (j / 2))) hm.1
  rw [← rest_rem hm.1, pw_i (by omega)] at i1
  have p1 := mul_nn r0 rr2 x1.1 (Int64.le_trans (Int64.le_of_lt x1.2) m2)
  have x2 := rest_rng (v := r * f_X6_restBy (jshl 1 (nI (j / 2))) m) hm.1
  have i2 := i_rm (v := r * f_X6_restBy (jshl 1 (nI (j / 2))) m) hm.1
  rw [← rest_rem hm.1, p1.1, i1, mm_em] at i2
  have x3 := rest_rng (v := jshl 1 (nI (j - j / 2))) hm.1
  have i3 := i_rm (v := jshl 1 (nI (j - j / 2))) hm.1
  rw [← rest_rem hm.1, pw_i (by omega)] at i3
  have p2 := mul_nn x2.1 (Int64.le_trans (Int64.le_of_lt x2.2) m2) x3.1 (Int64.le_trans (Int64.le_of_lt x3.2) m2)
  rw [rest_rem hm.1, i_rm hm.1, p2.1, i2, i3, mm_em, Int.mul_comm, mm_em, Int.mul_comm, Int.mul_assoc, ← Int.pow_add, show j / 2 + (j - j / 2) = j by omega]
theorem mv_loop {N : Mem} {x : Fk} {c : Nat} (hc : c < 64) (h16 : gR N 16 = x) (hm : mOK x.2.2.2.2.2.1) : ∀ (q n j : Nat) (r : Int64), j + q = c → q < n → 0 ≤ r → r < x.2.2.2.2.2.1 → ∃ r', f_X7_move_171 c n r j N = f_X7_move_c214 (f_X7_setRest N 20 x.2.2.2.2.2.1 r') ∧ r'.toInt = (r.toInt * 2 ^ q) % x.2.2.2.2.2.1.toInt := by
  have a5 : mL N 58 (ix 16) = x.2.2.2.2.2.1 := by rw [← h16]; rfl
  have mp := pos_i hm.1
  have e0 : (0 : Int64).toInt = 0 := rfl
  have e2 : (2 : Int64).toInt = 2 := rfl
  intro q
  induction q with
  | zero =>
    intro n j r hj hn r0 r1
    obtain ⟨n, rfl⟩ : ∃ z, n = z + 1 := ⟨n - 1, by omega⟩
    rw [f_X7_move_171, if_pos (nI_le (by omega) (by omega)), a5]
    refine ⟨r, rfl, ?_⟩
    rw [Int64.le_iff_toInt_le, e0] at r0
    rw [Int64.lt_iff_toInt_lt] at r1
    rw [Int.pow_zero, Int.mul_one, Int.emod_eq_of_lt r0 r1]
  | succ q ih =>
    intro n j r hj hn r0 r1
    obtain ⟨n, rfl⟩ : ∃ z, n = z + 1 := ⟨n - 1, by omega⟩
    rw [f_X7_move_171, if_neg (nI_ge (by omega) (by omega)), a5]
    have p := mul_nn (a := 2) (b := r) (by decide) (by decide) r0 (Int64.le_trans (Int64.le_of_lt r1) hm.2.1)
    have hr : (jrem (2 * r) x.2.2.2.2.2.1).toInt = (2 * r.toInt) % x.2.2.2.2.2.1.toInt := by
      rw [i_rem mp, p.1, e2]
      have h1 : 0 ≤ 2 * r.toInt := by rw [Int64.le_iff_toInt_le, e0] at r0; omega
      exact Int.tmod_eq_emod_of_nonneg h1
    obtain ⟨r', h1, h2⟩ := ih n (j + 1) (jrem (2 * r) x.2.2.2.2.2.1) (by omega) (by omega) (by rw [Int64.le_iff_toInt_le, e0, hr]; exact Int.emod_nonneg _ (by omega)) (by rw [Int64.lt_iff_toInt_lt, hr]; exact Int.emod_lt_of_pos _ mp)
    refine ⟨r', h1, ?_⟩
    rw [h2, hr, Int.mul_comm, mm_em]
    congr 1
    rw [Int.pow_succ]
    rw [show (2 : Int) ^ q * (2 * r.toInt) = r.toInt * (2 ^ q * 2) by rw [Int.mul_comm 2 r.toInt, Int.mul_comm, Int.mul_assoc, Int.mul_comm 2]]
theorem mv_R {N : Mem} {op : Int32} {x : Fk} {j : Nat} (hop : op = 6 ∨ op = 7 ∨ op = 8) (hj : j < 64) (hx : Gd x) (x0 : x.1 = 0) (h16 : gR N 16 = x) : ∃ i, f_X7_move N op j = uI (pR N 20 (toR (mvP op x (nI j)))) 52 7 i := by
  have same : ∀ N : Mem, ∃ i, N = uI N 52 7 i := fun N => ⟨_, u_self.symm⟩
  have px := gd_P hx x0
  have hp := Pf_mv (op := op) hj hx x0
  have a1 : mL N 54 (ix 16) = x.2.1 := by rw [← h16]; rfl
  have tx : toR x = x := if_pos x0
  have e : ∀ (z : Fk), mL (pR N 20 z) 54 (ix 16) = x.2.1 ∧ mL (pR N 20 z) 55 (ix 16) = x.2.2.1 ∧ mL (pR N 20 z) 56 (ix 16) = x.2.2.2.1 ∧ mL (pR N 20 z) 57 (ix 16) = x.2.2.2.2.1 ∧ mL (pR N 20 z) 58 (ix 16) = x.2.2.2.2.2.1 ∧ mL (pR N 20 z) 59 (ix 16) = x.2.2.2.2.2.2 := fun z => by
    rw [ix16, qdnL (by decide), qdnL (by decide), qdnL (by decide), qdnL (by decide), qdnL (by decide), qdnL (by decide), ← h16]
    exact ⟨rfl, rfl, rfl, rfl, rfl, rfl⟩
  unfold f_X7_move mvP f_X7_move_c12 f_X7_move_c41
  by_cases e0 : nI j = 0
  · rw [if_pos e0, if_pos e0, cp_R, ix16, h16, tx]; exact same _
  · rw [if_neg e0, if_neg e0]
    by_cases q : x.2.1 = x.2.2.1
    · rw [if_neg (fun z => in_0.mp z (by rw [show gR N (ix 16) = x from h16]; exact ⟨x0, q⟩)), if_pos q, a1, nu_R']
      have hn : f_X7_reckon op x.2.1 (Int32.toInt64 (nI j)) = f_X0_number op x.2.1 (Int32.toInt64 (nI j)) := by
        refine (num_eq ?_ ?_ ?_).symm
        · rcases hop with rfl | rfl | rfl <;> decide
        · rcases hop with rfl | rfl | rfl <;> decide
        · rcases hop with rfl | rfl | rfl <;> (intro z; rcases z with z | z <;> exact absurd z (by decide))
      rw [hn]
      exact same _
    · rw [if_pos (in_0.mpr (fun z => q (by rw [show gR N (ix 16) = x from h16] at z; exact z.2))), if_neg q, al_R']
      have key : ∀ Q : Mem, Q = pR N 20 (mvQ op x (nI j)) → ∃ i, f_X7_move_427 Q = uI (pR N 20 (toR (shF (mvQ op x (nI j))))) 52 7 i := fun Q h => by
        unfold f_X7_move_427 f_X7_move_c433
        rw [h]
        exact shF_R (t := 20) hp
      unfold f_X7_move_c48
      rw [show ix 20 = 20 from rfl]
      unfold AL
      simp only [(e _).1, (e _).2.2.1, wr3, (e _).2.2.2.1, wr4, wr1]
      have hq : mvQ op x (nI j) = if op = 6 then mvL x (nI j) else if op = 7 then mvR x (nI j) else mvZ x (nI j) := rfl
      by_cases e6 : op = 6
      · rw [if_pos e6]
        rw [if_pos e6] at hq
        unfold f_X7_move_c92 f_X7_move_214
        rw [show ix 20 = 20 from rfl]
        simp only [(e _).1, (e _).2.1, wr1, wr2]
        unfold mvL at hq
        by_cases q1 : jshr (jshl x.2.1 (nI j)) (nI j) = x.2.1
        · rw [if_pos q1]
          rw [if_pos q1] at hq
          by_cases q2 : jshr (jshl x.2.2.1 (nI j)) (nI j) = x.2.2.1
          · rw [if_pos q2, (e _).2.2.2.2.2]
            rw [if_pos q2] at hq
            unfold f_X7_move_c168
            obtain ⟨r', g1, g2⟩ := mv_loop (N := pR N 20 (0, jshl x.2.1 (nI j), jshl x.2.2.1 (nI j), jshl x.2.2.2.1 (nI j) ||| (jshl 1 (nI j) - 1), jshl x.2.2.2.2.1 (nI j), 1, 0)) (x := x) (c := j) hj (by rw [gR_n (by decide), h16]) px.1.2.1 j (j + 1) 0 x.2.2.2.2.2.2 (by omega) (by omega) px.1.2.2.1 px.1.2.2.2
            rw [g1]
            unfold f_X7_move_c214 f_X7_move_214
            refine key _ ?_
            rw [hq]
            unfold f_X7_setRest
            rw [show ix 20 = 20 from rfl, wr5, wr6]
            have : f_X7_rem r' x.2.2.2.2.2.1 = lfR x.2.2.2.2.2.1 x.2.2.2.2.2.2 (nI j) := by
              apply Int64.toInt_inj.mp
              rw [i_rm px.1.2.1.1, g2, Int.emod_emod, lf_i hj px.1.2.1 px.1.2.2.1 px.1.2.2.2]
            rw [this]
          · rw [if_neg q2]
            rw [if_neg q2] at hq
            exact key _ (by rw [hq])
        · rw [if_neg q1]
          rw [if_neg q1] at hq
          exact key _ (by rw [hq])
      · rw [if_neg e6]
        rw [if_neg e6] at hq
        by_cases e7 : op = 7
        · rw [if_pos e7]
          rw [if_pos e7] at hq
          unfold f_X7_move_c271
          rw [show ix 20 = 20 from rfl]
          simp only [(e _).2.1, wr2]
          exact key _ (by rw [hq]; rfl)
        · rw [if_neg e7]
          rw [if_neg e7] at hq
          unfold f_X7_move_c332 f_X7_move_349 f_X7_move_366 f_X7_move_374 f_X7_move_398 f_X7_move_426
          rw [show ix 20 = 20 from rfl]
          simp only [wr1, wr2, (e _).1, (e _).2.1, if_neg (show ¬ (1 : Int32) = 0 by decide), if_neg (show ¬ (0 : Int32) = 1 by decide), if_true]
          unfold mvZ at hq
          by_cases q1 : 0 ≤ x.2.1
          · have q2 : 0 ≤ x.2.2.1 := Int64.le_trans q1 px.2
            rw [if_pos q1, if_pos q2]
            rw [if_pos q1] at hq
            exact key _ (by rw [hq])
          · rw [if_neg q1]
            rw [if_neg q1] at hq
            by_cases q2 : 0 ≤ x.2.2.1
            · rw [if_pos q2]
              rw [if_pos q2] at hq
              exact key _ (by rw [hq])
            · rw [if_neg q2]
              rw [if_neg q2] at hq
              exact key _ (by rw [hq])
