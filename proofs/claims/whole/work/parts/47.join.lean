theorem odd_OK (g : Int64) : mOK (f_X6_oddPart g) := by
  have e : f_X6_oddPart g = oddF (f_X6_withoutTwos g) := rfl
  rw [e]
  unfold oddF
  by_cases h1 : f_X6_withoutTwos g ≤ 0
  · rw [if_pos h1]; exact mOK_1
  · rw [if_neg h1]
    by_cases h2 : f_X6_withoutTwos g ≤ 2147483647
    · rw [if_pos h2]
      have hg : ¬ g = 0 := fun z => h1 (by rw [z]; decide)
      refine ⟨?_, h2, ?_⟩
      · have h3 := Int64.not_le.mp h1
        rw [Int64.lt_iff_toInt_lt] at h3
        rw [Int64.le_iff_toInt_le]
        have e0 : (0 : Int64).toInt = 0 := rfl
        have e1 : (1 : Int64).toInt = 1 := rfl
        omega
      · have := wt_odd hg
        rw [tb_uN, Nat.testBit_zero]
        simp [this]
    · rw [if_neg h2]; exact mOK_1
theorem rest_rng {v m : Int64} (hm : 1 ≤ m) : 0 ≤ f_X6_restBy v m ∧ f_X6_restBy v m < m := by
  have hp := pos_i hm
  rw [rest_rem hm, Int64.le_iff_toInt_le, Int64.lt_iff_toInt_lt, i_rm hm]
  exact ⟨Int.emod_nonneg _ (by omega), Int.emod_lt_of_pos _ hp⟩
theorem more_eq (a b : Int64) : f_X7_more a b = jmax a b := by
  unfold f_X7_more f_X7_more_11 jmax
  by_cases h : a ≤ b
  · rw [if_pos h, if_neg (Int64.not_lt.mpr h)]
  · rw [if_neg h, if_pos (Int64.not_le.mp h)]
theorem less_eq (a b : Int64) : f_X7_less a b = jmin a b := by
  unfold f_X7_less f_X7_less_11 jmin
  by_cases h : b ≤ a
  · rw [if_pos h]
    split
    · rfl
    · rename_i h2; exact Int64.le_antisymm h (Int64.not_lt.mp h2)
  · rw [if_neg h, if_neg (fun z => h (Int64.le_of_lt z))]
def jnK (x y : Fk) : Int64 := (x.2.2.2.1 &&& y.2.2.2.1) &&& ((x.2.2.2.2.1 ^^^ y.2.2.2.2.1) ^^^ (-1))
def jnM (x y : Fk) : Int64 := if f_X6_commonDivisor (cmo x) (cmo y) = 0 then f_X6_oddPart (jmax x.2.1 y.2.1 - jmin x.2.1 y.2.1) else f_X6_oddPart (f_X6_commonDivisor (f_X6_commonDivisor (cmo x) (cmo y)) (jabs (f_X6_restBy (cre x) (f_X6_commonDivisor (cmo x) (cmo y)) - f_X6_restBy (cre y) (f_X6_commonDivisor (cmo x) (cmo y)))))
def jnS (x y : Fk) : Fk := shL ZC 6 (jmin x.2.1 y.2.1) (jmax x.2.2.1 y.2.2.1) (jnK x y) (x.2.2.2.2.1 &&& jnK x y) (jnM x y) (f_X6_restBy (cre x) (jnM x y))
/-- JOIN -/
def jn (x y : Fk) : Fk := if x.1 = 0 then (if y.1 = 0 then (if x.2.1 = x.2.2.1 then (if y.2.1 = y.2.2.1 then (if x.2.1 = y.2.1 then x else jnS x y) else jnS x y) else jnS x y) else x) else y
theorem cp_C {M : Mem} {a b : Nat} : f_X1_copy M a b = pC M a (gC M b) := by
  unfold f_X1_copy f_X1_copy_c32 f_X1_copy_c56
  simp only [mL_uL_nk (show (2 : Nat) ≠ 1 by decide), mL_uL_nk (show (3 : Nat) ≠ 1 by decide), mL_uL_nk (show (3 : Nat) ≠ 2 by decide), mL_uL_nk (show (4 : Nat) ≠ 1 by decide), mL_uL_nk (show (4 : Nat) ≠ 2 by decide), mL_uL_nk (show (4 : Nat) ≠ 3 by decide), mL_uL_nk (show (5 : Nat) ≠ 1 by decide), mL_uL_nk (show (5 : Nat) ≠ 2 by decide), mL_uL_nk (show (5 : Nat) ≠ 3 by decide), mL_uL_nk (show (5 : Nat) ≠ 4 by decide), mL_uL_nk (show (6 : Nat) ≠ 1 by decide), mL_uL_nk (show (6 : Nat) ≠ 2 by decide), mL_uL_nk (show (6 : Nat) ≠ 3 by decide), mL_uL_nk (show (6 : Nat) ≠ 4 by decide), mL_uL_nk (show (6 : Nat) ≠ 5 by decide), mL_uI]
  rfl
theorem jn_C {M : Mem} {t a b : Nat} : f_X1_becomeJoin M t a b = pC M t (jn (gC M a) (gC M b)) := by
  have hS : f_X1_becomeJoin_56 t a b M = pC M t (jnS (gC M a) (gC M b)) := by
    unfold f_X1_becomeJoin_56 f_X1_becomeJoin_c87 f_X1_becomeJoin_c131 f_X1_becomeJoin_c135 f_X1_becomeJoin_135 f_X1_joinModulus f_X1_joinModulus_c12 f_X1_joinModulus_c64
    rw [cm_C, cm_C, cr_C, cr_C]
    exact sh_C
  have e0 : ∀ a, mI M a 0 = (gC M a).1 := fun _ => rfl
  have e1 : ∀ a, mL M a 1 = (gC M a).2.1 := fun _ => rfl
  unfold f_X1_becomeJoin jn
  rw [e0, e0, hS]
  by_cases h1 : (gC M a).1 = 0
  · rw [if_pos h1, if_pos h1]
    by_cases h2 : (gC M b).1 = 0
    · rw [if_pos h2, if_pos h2]
      by_cases h3 : (gC M a).2.1 = (gC M a).2.2.1
      · rw [if_neg (fun z => ic_0.mp z ⟨h1, h3⟩), if_pos h3]
        by_cases h4 : (gC M b).2.1 = (gC M b).2.2.1
        · rw [if_neg (fun z => ic_0.mp z ⟨h2, h4⟩), if_pos h4, e1, e1]
          by_cases h5 : (gC M a).2.1 = (gC M b).2.1
          · rw [if_pos h5, if_pos h5]; exact cp_C
          · rw [if_neg h5, if_neg h5]
        · rw [if_pos (ic_0.mpr (fun z => h4 z.2)), if_neg h4]
      · rw [if_pos (ic_0.mpr (fun z => h3 z.2)), if_neg h3]
    · rw [if_neg h2, if_neg h2]; exact cp_C
  · rw [if_neg h1, if_neg h1]; exact cp_C
/-! the reference's -/
theorem cp_R {M : Mem} {f g : Int32} : f_X7_copy M f g = pR M (ix f) (gR M (ix g)) := by
  unfold f_X7_copy f_X7_copy_c36 f_X7_copy_c72
  simp only [mL_uL_ne (show (55 : Nat) ≠ 54 by decide), mL_uL_ne (show (56 : Nat) ≠ 54 by decide), mL_uL_ne (show (56 : Nat) ≠ 55 by decide), mL_uL_ne (show (57 : Nat) ≠ 54 by decide), mL_uL_ne (show (57 : Nat) ≠ 55 by decide), mL_uL_ne (show (57 : Nat) ≠ 56 by decide), mL_uL_ne (show (58 : Nat) ≠ 54 by decide), mL_uL_ne (show (58 : Nat) ≠ 55 by decide), mL_uL_ne (show (58 : Nat) ≠ 56 by decide), mL_uL_ne (show (58 : Nat) ≠ 57 by decide), mL_uL_ne (show (59 : Nat) ≠ 54 by decide), mL_uL_ne (show (59 : Nat) ≠ 55 by decide), mL_uL_ne (show (59 : Nat) ≠ 56 by decide), mL_uL_ne (show (59 : Nat) ≠ 57 by decide), mL_uL_ne (show (59 : Nat) ≠ 58 by decide), mL_uI]
  rfl
theorem u_self {N : Mem} {a k : Nat} : uI N a k (mI N a k) = N := by
  refine mem_ext rfl rfl (fun b j => ?_) (fun b j => rfl)
  rw [r_I]
  split
  · rename_i q; rw [q.1, q.2]
  · rfl
theorem cmo_pos {x : Fk} {l h k v m r : Int64} (e : x = (0, l, h, k, v, m, r)) (hm : mOK m) : 0 ≤ cmo x ∧ (cmo x = 0 ↔ l = h) := by
  subst e
  unfold cmo
  dsimp only
  rw [if_pos rfl]
  have h1 := pos_i hm.1
  have e0 : (0 : Int64).toInt = 0 := rfl
  by_cases q : l = h
  · rw [if_pos q]; exact ⟨by decide, ⟨fun _ => q, fun _ => rfl⟩⟩
  · rw [if_neg q]
    exact ⟨by rw [Int64.le_iff_toInt_le]; omega, ⟨fun z => by rw [z] at h1; omega, fun z => absurd z q⟩⟩
/-- the modulus of a join -/
theorem jm_eq {x y : Fk} (hx : ∃ l h k v m r, x = (0, l, h, k, v, m, r) ∧ mOK m) (hy : ∃ l h k v m r, y = (0, l, h, k, v, m, r) ∧ mOK m) :
    f_X7_odd (f_X7_common (f_X7_common (cmo x) (cmo y)) (if cre x ≤ cre y then cre y - cre x else cre x - cre y)) = jnM x y := by
  obtain ⟨l, h, k, v, m, r, ex, hmx⟩ := hx
  obtain ⟨l', h', k', v', m', r', ey, hmy⟩ := hy
  obtain ⟨px, zx⟩ := cmo_pos ex hmx
  obtain ⟨py, zy⟩ := cmo_pos ey hmy
  unfold jnM
  have hcd := cd_gcd px py
  rw [cd_cm px py] at hcd ⊢
  generalize hb : f_X7_common (cmo x) (cmo y) = both at hcd ⊢
  by_cases hb0 : both = 0
  · rw [if_pos hb0, hb0]
    have h0 : uN (0 : Int64) = 0 := rfl
    rw [hb0, h0] at hcd
    have g0 := Nat.gcd_eq_zero_iff.mp hcd.1.symm
    have q1 : l = h := zx.mp (uN_inj (g0.1.trans rfl))
    have q2 : l' = h' := zy.mp (uN_inj (g0.2.trans rfl))
    have c1 : cre x = l := by rw [ex]; unfold cre; dsimp only; rw [if_pos rfl, if_pos q1]
    have c2 : cre y = l' := by rw [ey]; unfold cre; dsimp only; rw [if_pos rfl, if_pos q2]
    have hf : ∀ z : Int64, f_X7_common 0 z = z := fun z => uN_inj (by rw [cm_gcd, h0, Nat.gcd_zero_left])
    rw [hf, c1, c2, odd_eq]
    congr 1
    rw [ex, ey]
    unfold jmax jmin
    dsimp only
    by_cases q : l ≤ l'
    · rw [if_pos q, if_neg (Int64.not_lt.mpr q), if_neg (Int64.not_lt.mpr q)]
    · rw [if_neg q, if_pos (Int64.not_le.mp q), if_pos (Int64.not_le.mp q)]
  · rw [if_neg hb0, odd_eq]
    congr 1
    have hb1 : 1 ≤ both := by
      have h2 := hcd.2
      rw [Int64.le_iff_toInt_le] at h2 ⊢
      have e0 : (0 : Int64).toInt = 0 := rfl
      have e1 : (1 : Int64).toInt = 1 := rfl
      have : both.toInt ≠ 0 := fun z => hb0 (Int64.toInt_inj.mp z)
      omega
    have r1 := rest_rng (v := cre x) hb1
    have r2 := rest_rng (v := cre y) hb1
    have i1 := i_rm (v := cre x) hb1
    have i2 := i_rm (v := cre y) hb1
    rw [← rest_rem hb1] at i1 i2
    have hbi := uN_i hcd.2
    have hbp := pos_i hb1
    have sb : (f_X6_restBy (cre x) both - f_X6_restBy (cre y) both).toInt = (cre x).toInt % both.toInt - (cre y).toInt % both.toInt := by
      rw [Int64.toInt_sub, i1, i2]
      apply bm
      have a1 := Int.emod_nonneg (cre x).toInt (b := both.toInt) (by omega)
      have a2 := Int.emod_lt_of_pos (cre x).toInt hbp
      have a3 := Int.emod_nonneg (cre y).toInt (b := both.toInt) (by omega)
      have a4 := Int.emod_lt_of_pos (cre y).toInt hbp
      have a5 := (inR_i both).2
      exact ⟨by omega, by omega⟩
    have hne : ¬ (f_X6_restBy (cre x) both - f_X6_restBy (cre y) both) = -9223372036854775808 := fun z => by
      rw [z, toInt_lst] at sb
      have a1 := Int.emod_nonneg (cre x).toInt (b := both.toInt) (by omega)
      have a4 := Int.emod_lt_of_pos (cre y).toInt hbp
      have a5 := (inR_i both).2
      omega
    obtain ⟨ab1, ab2⟩ := uN_abs hne
    rw [cd_cm hcd.2 ab2]
    apply uN_inj
    rw [cm_gcd, cm_gcd, ab1, sb]
    have key : Nat.gcd (uN both) ((cre x).toInt - (cre y).toInt).natAbs = Nat.gcd (uN both) ((cre x).toInt % both.toInt - (cre y).toInt % both.toInt).natAbs := by
      apply gcd_cong
      rw [← hbi]
      refine ⟨(cre x).toInt / both.toInt - (cre y).toInt / both.toInt, ?_⟩
      have e1 := Int.mul_ediv_add_emod (cre x).toInt both.toInt
      have e2 := Int.mul_ediv_add_emod (cre y).toInt both.toInt
      rw [Int.mul_sub]
      omega
    rw [← key]
    congr 1
    by_cases q : cre x ≤ cre y
    · rw [if_pos q]
      have := uN_far q
      omega
    · rw [if_neg q]
      have := uN_far (Int64.le_of_lt (Int64.not_le.mp q))
      omega
theorem jnM_OK (x y : Fk) : mOK (jnM x y) := by
  unfold jnM
  split
  · exact odd_OK _
  · exact odd_OK _
theorem jnV (x y : Fk) : (x.2.2.2.2.1 &&& jnK x y) &&& jnK x y = x.2.2.2.2.1 &&& jnK x y := tb_ext fun p hp => by
  simp only [tb_and]
  cases tb (jnK x y) p <;> simp
theorem Gd_jnS (x y : Fk) : Gd (jnS x y) := Gd_sh6 ⟨jnV x y, jnM_OK x y, rest_rng (jnM_OK x y).1⟩
theorem Gd_jn {x y : Fk} (hx : Gd x) (hy : Gd y) : Gd (jn x y) := by
  unfold jn
  repeat' split
  all_goals first | exact hx | exact hy | exact Gd_jnS x y
theorem gd_0 {x : Fk} (h : Gd x) : x = ZC ∨ ∃ l h k v m r, x = (0, l, h, k, v, m, r) ∧ mOK m := by
  rcases h with h | ⟨l, hh, k, v, m, r, e, p, _⟩
  · exact Or.inl h
  · exact Or.inr ⟨l, hh, k, v, m, r, e, p.2.1⟩
theorem jn_R {M : Mem} {a b t : Int32} {x y : Fk} (hx : Gd x) (hy : Gd y) (ha : gR M (ix a) = toR x) (hb : gR M (ix b) = toR y) : ∃ i, f_X7_join M a b t = uI (pR M (ix t) (toR (jn x y))) 52 7 i := by
  have same : ∀ N : Mem, ∃ i, N = uI N 52 7 i := fun N => ⟨_, u_self.symm⟩
  have e0 : ∀ a : Int32, mI M 53 (ix a) = (gR M (ix a)).1 := fun _ => rfl
  rcases gd_0 hx with rfl | hx'
  · rw [toR_Z] at ha
    have e : f_X7_join M a b t = f_X7_copy M t b := by
      unfold f_X7_join f_X7_join_18
      rw [e0 a, ha, if_neg (by decide), if_neg (by decide)]
      rfl
    rw [e, cp_R, hb]
    exact same _
  · rcases gd_0 hy with rfl | hy'
    · rw [toR_Z] at hb
      obtain ⟨l, h, k, v, m, r, ex, hm⟩ := hx'
      have hx0 : x.1 = 0 := by rw [ex]
      have tx : toR x = x := if_pos hx0
      have e : f_X7_join M a b t = f_X7_copy M t a := by
        unfold f_X7_join f_X7_join_18
        rw [e0 a, e0 b, ha, hb, tx, if_pos hx0, if_neg (by decide), if_pos hx0]
        rfl
      have ej : jn x ZC = x := by unfold jn; rw [if_pos hx0, if_neg (by decide)]
      rw [e, cp_R, ha, ej]
      exact same _
    · have hx0 : x.1 = 0 := by obtain ⟨l, h, k, v, m, r, ex, hm⟩ := hx'; rw [ex]
      have hy0 : y.1 = 0 := by obtain ⟨l, h, k, v, m, r, ex, hm⟩ := hy'; rw [ex]
      rw [show toR x = x from if_pos hx0] at ha
      rw [show toR y = y from if_pos hy0] at hb
      have l0 : ∀ (c : Int32), mL M 54 (ix c) = (gR M (ix c)).2.1 := fun _ => rfl
      have l1 : ∀ (c : Int32), mL M 55 (ix c) = (gR M (ix c)).2.2.1 := fun _ => rfl
      have l2 : ∀ (c : Int32), mL M 56 (ix c) = (gR M (ix c)).2.2.2.1 := fun _ => rfl
      have l3 : ∀ (c : Int32), mL M 57 (ix c) = (gR M (ix c)).2.2.2.2.1 := fun _ => rfl
      have hS : ∃ i, f_X7_join_77 a b t M = uI (pR M (ix t) (toR (jnS x y))) 52 7 i := by
        have key : ∀ far : Int64, far = (if cre x ≤ cre y then cre y - cre x else cre x - cre y) → ∃ i, f_X7_join_112 a b t M far M = uI (pR M (ix t) (toR (jnS x y))) 52 7 i := by
          intro far hf
          unfold f_X7_join_112 f_X7_join_c137 f_X7_join_c204 f_X7_join_c228 f_X7_join_c237 f_X7_join_c242
          rw [bo_R, bo_R, ro_R, ha, hb, hf, jm_eq hx' hy', l0, l0, l1, l1, l2, l2, l3, l3, ha, hb, less_eq, more_eq]
          have es : ∀ (l h k v m z : Int64), f_X7_setRest (f_X7_put M t l h k v) t m z = pR M (ix t) (0, l, h, k, v, m, f_X7_rem z m) := fun l h k v m z => by
            show uL (uL (pR M (ix t) (0, l, h, k, v, 1, 0)) 58 (ix t) m) 59 (ix t) (f_X7_rem z m) = _
            rw [wr5, wr6]
          rw [es, ← rest_rem (jnM_OK x y).1]
          obtain ⟨i, hi⟩ := sh_R (M := M) (f := t) (l := jmin x.2.1 y.2.1) (h := jmax x.2.2.1 y.2.2.1) (k := jnK x y) (v := x.2.2.2.2.1 &&& jnK x y) (m := jnM x y) (r := f_X6_restBy (cre x) (jnM x y)) (jnM_OK x y).1 (jnV x y)
          refine ⟨i, ?_⟩
          rw [shL_R] at hi
          exact hi
        unfold f_X7_join_77
        rw [ro_R, ro_R, ha, hb]
        by_cases q : cre x ≤ cre y
        · rw [if_pos q]; exact key _ (by rw [if_pos q])
        · rw [if_neg q]; exact key _ (by rw [if_neg q])
      unfold f_X7_join jn
      rw [e0 a, e0 b, l0, l0, ha, hb, if_pos hx0, if_pos hy0, if_pos hx0, if_pos hy0]
      by_cases h3 : x.2.1 = x.2.2.1
      · rw [if_neg (fun z => in_0.mp z (by rw [ha]; exact ⟨hx0, h3⟩)), if_pos h3]
        by_cases h4 : y.2.1 = y.2.2.1
        · rw [if_neg (fun z => in_0.mp z (by rw [hb]; exact ⟨hy0, h4⟩)), if_pos h4]
          by_cases h5 : x.2.1 = y.2.1
          · rw [if_pos h5, if_pos h5, show toR x = x from if_pos hx0]
            unfold f_X7_join_c76
            rw [cp_R, ha]
            exact same _
          · rw [if_neg h5, if_neg h5]; exact hS
        · rw [if_pos (in_0.mpr (fun z => h4 (by rw [hb] at z; exact z.2))), if_neg h4]; exact hS
      · rw [if_pos (in_0.mpr (fun z => h3 (by rw [ha] at z; exact z.2))), if_neg h3]; exact hS
