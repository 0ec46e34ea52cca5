theorem mn_C' {M : Mem} {a : Nat} : f_X1_makeNone M a = pC M a ZC := by
  have h := mn_C (M := M) (a := a) (x := gC M a)
  rwa [pC_g] at h
theorem mc_C' {M : Mem} {a : Nat} {z : Int64} : f_X1_makeConstant M a z = pC M a (cst z) := rfl
theorem ma_C' {M : Mem} {a : Nat} : f_X1_makeAll M a = pC M a AL := rfl
theorem no_R' {M : Mem} {f : Int32} : f_X7_nothing M f = pR M (ix f) ZR := by
  show uI (pR M (ix f) (0, -9223372036854775808, 9223372036854775807, 0, 0, 1, 0)) 53 (ix f) 1 = _
  rw [wr0]
  rfl
theorem nu_R' {M : Mem} {f : Int32} {z : Int64} : f_X7_number M f z = pR M (ix f) (cst z) := rfl
theorem al_R' {M : Mem} {f : Int32} : f_X7_all M f = pR M (ix f) AL := rfl
theorem sr_R {M : Mem} {t : Int32} {l h k v m z : Int64} : f_X7_setRest (f_X7_put M t l h k v) t m z = pR M (ix t) (0, l, h, k, v, m, f_X7_rem z m) := by
  show uL (uL (pR M (ix t) (0, l, h, k, v, 1, 0)) 58 (ix t) m) 59 (ix t) (f_X7_rem z m) = _
  rw [wr5, wr6]
def mtS (x y : Fk) (m r : Int64) : Fk := shL ZC 6 (jmax x.2.1 y.2.1) (jmin x.2.2.1 y.2.2.1) (x.2.2.2.1 ||| y.2.2.2.1) (x.2.2.2.2.1 ||| y.2.2.2.2.1) m r
/-- MEET -/
def mtF (x y : Fk) : Fk := if x.1 = 0 then (if y.1 = 0 then (if (((x.2.2.2.2.1 ^^^ y.2.2.2.2.1) &&& x.2.2.2.1) &&& y.2.2.2.1) = 0 then (if y.2.2.2.2.2.1 ≤ x.2.2.2.2.2.1 then mtS x y x.2.2.2.2.2.1 x.2.2.2.2.2.2 else mtS x y y.2.2.2.2.2.1 y.2.2.2.2.2.2) else ZC) else ZC) else ZC
theorem mt_C {M : Mem} {t a b : Nat} : f_X1_becomeMeet M t a b = pC M t (mtF (gC M a) (gC M b)) := by
  have e0 : ∀ a, mI M a 0 = (gC M a).1 := fun _ => rfl
  have hn : f_X1_becomeMeet_38 t M = pC M t ZC := mn_C'
  have hs : ∀ w : Nat, f_X1_becomeMeet_60 t a b w M = pC M t (mtS (gC M a) (gC M b) (gC M w).2.2.2.2.2.1 (gC M w).2.2.2.2.2.2) := fun w => sh_C
  have e3 : ∀ a, mL M a 3 = (gC M a).2.2.2.1 := fun _ => rfl
  have e4 : ∀ a, mL M a 4 = (gC M a).2.2.2.2.1 := fun _ => rfl
  have e5 : ∀ a, mL M a 5 = (gC M a).2.2.2.2.2.1 := fun _ => rfl
  unfold f_X1_becomeMeet mtF
  rw [e0, e0, e3, e3, e4, e4, e5, e5, hn, hs, hs]
  repeat' split
  all_goals rfl
theorem vk_or {k v k' v' : Int64} (h : v &&& k = v) (h' : v' &&& k' = v') : (v ||| v') &&& (k ||| k') = v ||| v' := tb_ext fun p hp => by
  have h1 : tb v p = (tb v p && tb k p) := by rw [← tb_and, h]
  have h2 : tb v' p = (tb v' p && tb k' p) := by rw [← tb_and, h']
  simp only [tb_and, tb_or]
  cases e1 : tb v p <;> cases e2 : tb k p <;> cases e3 : tb v' p <;> cases e4 : tb k' p <;> simp [e1, e2, e3, e4] at h1 h2 ⊢
theorem gd_P {x : Fk} (h : Gd x) (h0 : x.1 = 0) : Pd x.2.2.2.1 x.2.2.2.2.1 x.2.2.2.2.2.1 x.2.2.2.2.2.2 ∧ x.2.1 ≤ x.2.2.1 := by
  rcases h with h | ⟨l, hh, k, v, m, r, e, p, q, _⟩
  · rw [h] at h0; cases h0
  · rw [e]; exact ⟨p, q⟩
theorem Gd_mt {x y : Fk} (hx : Gd x) (hy : Gd y) : Gd (mtF x y) := by
  unfold mtF
  by_cases h1 : x.1 = 0
  · rw [if_pos h1]
    by_cases h2 : y.1 = 0
    · rw [if_pos h2]
      have px := (gd_P hx h1).1
      have py := (gd_P hy h2).1
      have hv := vk_or px.1 py.1
      repeat' split
      · exact Gd_sh6 ⟨hv, px.2⟩
      · exact Gd_sh6 ⟨hv, py.2⟩
      · exact Gd_Z
    · rw [if_neg h2]; exact Gd_Z
  · rw [if_neg h1]; exact Gd_Z
theorem rem_self {m r : Int64} (hm : 1 ≤ m) (h0 : 0 ≤ r) (h1 : r < m) : f_X7_rem r m = r := by
  apply Int64.toInt_inj.mp
  rw [i_rm hm]
  rw [Int64.le_iff_toInt_le] at h0
  rw [Int64.lt_iff_toInt_lt] at h1
  have e0 : (0 : Int64).toInt = 0 := rfl
  exact Int.emod_eq_of_lt (by omega) h1
theorem mt_R {M : Mem} {a b t : Int32} {x y : Fk} (hx : Gd x) (hy : Gd y) (ha : gR M (ix a) = toR x) (hb : gR M (ix b) = toR y) : ∃ i, f_X7_meet M a b t = uI (pR M (ix t) (toR (mtF x y))) 52 7 i := by
  have same : ∀ N : Mem, ∃ i, N = uI N 52 7 i := fun N => ⟨_, u_self.symm⟩
  have e0 : ∀ a : Int32, mI M 53 (ix a) = (gR M (ix a)).1 := fun _ => rfl
  have nz : ∀ {x : Fk}, Gd x → ¬ x.1 = 0 → (toR x).1 = 1 := fun {x} hg h => by unfold toR; rw [if_neg h]; rfl
  have hno : ∀ (N : Mem) , f_X7_meet_104 a b t N M = pR M (ix t) ZR := fun N => by
    unfold f_X7_meet_104 f_X7_meet_109 f_X7_meet_c121
    rw [if_neg (by decide), no_R']
  by_cases h1 : x.1 = 0
  · by_cases h2 : y.1 = 0
    · rw [show toR x = x from if_pos h1] at ha
      rw [show toR y = y from if_pos h2] at hb
      have px := gd_P hx h1
      have py := gd_P hy h2
      have l0 : ∀ (c : Int32), mL M 54 (ix c) = (gR M (ix c)).2.1 := fun _ => rfl
      have l1 : ∀ (c : Int32), mL M 55 (ix c) = (gR M (ix c)).2.2.1 := fun _ => rfl
      have l2 : ∀ (c : Int32), mL M 56 (ix c) = (gR M (ix c)).2.2.2.1 := fun _ => rfl
      have l3 : ∀ (c : Int32), mL M 57 (ix c) = (gR M (ix c)).2.2.2.2.1 := fun _ => rfl
      have l4 : ∀ (c : Int32), mL M 58 (ix c) = (gR M (ix c)).2.2.2.2.2.1 := fun _ => rfl
      have l5 : ∀ (c : Int32), mL M 59 (ix c) = (gR M (ix c)).2.2.2.2.2.2 := fun _ => rfl
      have ec : ((x.2.2.2.1 &&& y.2.2.2.1) &&& (x.2.2.2.2.1 ^^^ y.2.2.2.2.1)) = (((x.2.2.2.2.1 ^^^ y.2.2.2.2.1) &&& x.2.2.2.1) &&& y.2.2.2.1) := tb_ext fun p hp => by
        simp only [tb_and, tb_xor]
        cases tb x.2.2.2.1 p <;> cases tb y.2.2.2.1 p <;> simp
      unfold f_X7_meet mtF
      rw [e0 a, e0 b, ha, hb, if_pos h1, if_pos h2, if_pos h1, if_pos h2]
      unfold f_X7_meet_23
      rw [if_pos rfl, l0, l0, l1, l1, l2, l2, l3, l3, ha, hb, less_eq, more_eq, ec, hno]
      by_cases e1 : jmin x.2.2.1 y.2.2.1 < jmax x.2.1 y.2.1
      · rw [if_pos e1]
        have : (if (((x.2.2.2.2.1 ^^^ y.2.2.2.2.1) &&& x.2.2.2.1) &&& y.2.2.2.1) = 0 then (if y.2.2.2.2.2.1 ≤ x.2.2.2.2.2.1 then mtS x y x.2.2.2.2.2.1 x.2.2.2.2.2.2 else mtS x y y.2.2.2.2.2.1 y.2.2.2.2.2.2) else ZC) = ZC := by
          repeat' split
          · exact sh_over e1
          · exact sh_over e1
          · rfl
        rw [this, toR_Z]
        exact same _
      · rw [if_neg e1]
        by_cases e2 : (((x.2.2.2.2.1 ^^^ y.2.2.2.2.1) &&& x.2.2.2.1) &&& y.2.2.2.1) = 0
        · rw [if_pos e2, if_pos e2]
          have hv := vk_or px.1.1 py.1.1
          have hS : ∀ (m r : Int64), mOK m → 0 ≤ r → r < m → ∃ i, f_X7_meet_217 a b t M M m r M = uI (pR M (ix t) (toR (mtS x y m r))) 52 7 i := by
            intro m r hm hr0 hr1
            unfold f_X7_meet_217 f_X7_meet_c232 f_X7_meet_c241 f_X7_meet_c246
            rw [l0, l0, l1, l1, l2, l2, l3, l3, ha, hb, less_eq, more_eq, sr_R, rem_self hm.1 hr0 hr1]
            obtain ⟨i, hi⟩ := sh_R (M := M) (f := t) (l := jmax x.2.1 y.2.1) (h := jmin x.2.2.1 y.2.2.1) (k := x.2.2.2.1 ||| y.2.2.2.1) (v := x.2.2.2.2.1 ||| y.2.2.2.2.1) (m := m) (r := r) hm.1 hv
            rw [shL_R] at hi
            exact ⟨i, hi⟩
          unfold f_X7_meet_109
          rw [if_pos rfl, l4, l4, ha, hb]
          by_cases e3 : y.2.2.2.2.2.1 ≤ x.2.2.2.2.2.1
          · rw [if_pos e3, if_pos e3]
            unfold f_X7_meet_173 f_X7_meet_195
            rw [if_pos rfl, if_pos rfl, l4, l5, ha]
            exact hS _ _ px.1.2.1 px.1.2.2.1 px.1.2.2.2
          · rw [if_neg e3, if_neg e3]
            unfold f_X7_meet_173 f_X7_meet_195
            rw [if_neg (by decide), if_neg (by decide), l4, l5, hb]
            exact hS _ _ py.1.2.1 py.1.2.2.1 py.1.2.2.2
        · rw [if_neg e2, if_neg e2, toR_Z]
          exact same _
    · have em : mtF x y = ZC := by unfold mtF; rw [if_pos h1, if_neg h2]
      rw [em, toR_Z]
      unfold f_X7_meet f_X7_meet_18 f_X7_meet_23
      rw [e0 b, hb, nz hy h2, if_neg (show ¬ (1 : Int32) = 0 by decide)]
      split
      · rw [hno]; exact same _
      · rw [if_neg (by decide), hno]; exact same _
  · have em : mtF x y = ZC := by unfold mtF; rw [if_neg h1]
    rw [em, toR_Z]
    unfold f_X7_meet f_X7_meet_18 f_X7_meet_23
    rw [e0 a, ha, nz hx h1, if_neg (show ¬ (1 : Int32) = 0 by decide), if_neg (show ¬ (1 : Int32) = 0 by decide), hno]
    exact same _
