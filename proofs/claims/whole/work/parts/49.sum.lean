/-- the reference's scratch: cells 16 .. 26, the flags -/
def scr (b j : Nat) : Bool := (decide (53 ≤ b) && decide (b ≤ 59) && decide (16 ≤ j) && decide (j ≤ 26)) || (decide (b = 52) && (decide (j = 7) || decide (j = 8)))
def Sc (M N : Mem) : Prop := N.1 = M.1 ∧ N.2.1 = M.2.1 ∧ ∀ b j, scr b j = false → mI N b j = mI M b j ∧ mL N b j = mL M b j
theorem Sc.rf {M : Mem} : Sc M M := ⟨rfl, rfl, fun _ _ _ => ⟨rfl, rfl⟩⟩
theorem Sc.tr {M N O : Mem} (h : Sc M N) (h2 : Sc N O) : Sc M O := ⟨h2.1.trans h.1, h2.2.1.trans h.2.1, fun b j q => ⟨(h2.2.2 b j q).1.trans (h.2.2 b j q).1, (h2.2.2 b j q).2.trans (h.2.2 b j q).2⟩⟩
theorem Sc.uI {M N : Mem} {b j : Nat} {v : Int32} (h : Sc M N) (q : scr b j = true) : Sc M (uI N b j v) := ⟨h.1, h.2.1, fun b' j' q' => ⟨by
  rw [r_I, if_neg (fun z => by rw [z.1, z.2, q] at q'; cases q')]; exact (h.2.2 b' j' q').1, (h.2.2 b' j' q').2⟩⟩
theorem Sc.uL {M N : Mem} {b j : Nat} {v : Int64} (h : Sc M N) (q : scr b j = true) : Sc M (uL N b j v) := ⟨h.1, h.2.1, fun b' j' q' => ⟨(h.2.2 b' j' q').1, by
  rw [r_L, if_neg (fun z => by rw [z.1, z.2, q] at q'; cases q')]; exact (h.2.2 b' j' q').2⟩⟩
theorem scr_f {b f : Nat} (h1 : 53 ≤ b) (h2 : b ≤ 59) (h3 : 16 ≤ f) (h4 : f ≤ 26) : scr b f = true := by simp [scr, h1, h2, h3, h4]
theorem Sc.pR {M N : Mem} {f : Nat} {x : Fk} (h : Sc M N) (h3 : 16 ≤ f) (h4 : f ≤ 26) : Sc M (pR N f x) :=
  ((((((h.uI (scr_f (by decide) (by decide) h3 h4)).uL (scr_f (by decide) (by decide) h3 h4)).uL (scr_f (by decide) (by decide) h3 h4)).uL (scr_f (by decide) (by decide) h3 h4)).uL (scr_f (by decide) (by decide) h3 h4)).uL (scr_f (by decide) (by decide) h3 h4)).uL (scr_f (by decide) (by decide) h3 h4)
theorem Sc.g {M N : Mem} {f : Nat} (h : Sc M N) (hf : f < 16 ∨ 26 < f) : gR N f = gR M f := by
  have q : ∀ b, 53 ≤ b → scr b f = false := fun b hb => by
    unfold scr
    have : ¬ b = 52 := by omega
    rcases hf with hf | hf
    · have : ¬ 16 ≤ f := by omega
      simp [*]
    · have : ¬ f ≤ 26 := by omega
      simp [*]
  unfold gR
  rw [(h.2.2 53 f (q 53 (by decide))).1, (h.2.2 54 f (q 54 (by decide))).2, (h.2.2 55 f (q 55 (by decide))).2, (h.2.2 56 f (q 56 (by decide))).2, (h.2.2 57 f (q 57 (by decide))).2, (h.2.2 58 f (q 58 (by decide))).2, (h.2.2 59 f (q 59 (by decide))).2]
/-- scratch, and what was given up stays -/
def Sd (M N : Mem) : Prop := Sc M N ∧ mI N 52 8 = mI M 52 8
theorem Sd.rf {M : Mem} : Sd M M := ⟨Sc.rf, rfl⟩
theorem Sd.tr {M N O : Mem} (h : Sd M N) (h2 : Sd N O) : Sd M O := ⟨h.1.tr h2.1, h2.2.trans h.2⟩
theorem Sd.uL {M N : Mem} {b j : Nat} {v : Int64} (h : Sd M N) (q : scr b j = true) : Sd M (uL N b j v) := ⟨h.1.uL q, h.2⟩
theorem Sd.pR {M N : Mem} {f : Nat} {x : Fk} (h : Sd M N) (h3 : 16 ≤ f) (h4 : f ≤ 26) : Sd M (pR N f x) := ⟨h.1.pR h3 h4, by rw [qdoI (by omega)]; exact h.2⟩
theorem ix16 : ix 16 = 16 := rfl
theorem ix17 : ix 17 = 17 := rfl
theorem ix18 : ix 18 = 18 := rfl
/-! over the end -/
theorem sg (x : Int64) : 0 ≤ x ↔ tb x 63 = false := by
  rw [uN_neg, tb_uN, Nat.testBit_eq_decide_div_mod_eq]
  have := uN_lt x
  simp
  omega
theorem ov_eq (a b s : Int64) : f_X7_isOver a b s = if (tb a 63 == tb b 63) && (tb s 63 != tb a 63) then 1 else 0 := by
  unfold f_X7_isOver f_X7_isOver_11 f_X7_isOver_22 f_X7_isOver_37 f_X7_isOver_48 f_X7_isOver_55 f_X7_isOver_56
  simp only [sg]
  cases tb a 63 <;> cases tb b 63 <;> cases tb s 63 <;> rfl
theorem sw_eq (a b : Int64) : f_X6_sumWraps a b = f_X7_isOver a b (a + b) := by
  rw [ov_eq]
  unfold f_X6_sumWraps f_X6_sumWraps_21
  simp only [sg, tb_and, tb_xor]
  cases tb a 63 <;> cases tb b 63 <;> cases tb (a + b) 63 <;> rfl
theorem dw_eq (a b : Int64) : f_X6_differenceWraps a b = f_X7_isOver a (b ^^^ (-1)) (a - b) := by
  rw [ov_eq]
  unfold f_X6_differenceWraps f_X6_differenceWraps_19
  simp only [sg, tb_and, tb_xor]
  have : tb (-1) 63 = true := tb_m1 (by decide)
  rw [this]
  cases tb a 63 <;> cases tb b 63 <;> cases tb (a - b) 63 <;> rfl
def plM (x y : Fk) : Int64 := f_X6_oddPart (f_X6_commonDivisor (cmo x) (cmo y))
theorem pm_eq {x y : Fk} (hx : ∃ l h k v m r, x = (0, l, h, k, v, m, r) ∧ mOK m) (hy : ∃ l h k v m r, y = (0, l, h, k, v, m, r) ∧ mOK m) : f_X7_odd (f_X7_common (cmo x) (cmo y)) = plM x y := by
  obtain ⟨l, h, k, v, m, r, ex, hmx⟩ := hx
  obtain ⟨l', h', k', v', m', r', ey, hmy⟩ := hy
  unfold plM
  rw [cd_cm (cmo_pos ex hmx).1 (cmo_pos ey hmy).1, odd_eq]
/-- a sum, a difference, ahead of sharpening -/
def plP (x y : Fk) : Fk :=
  if f_X6_sumWraps x.2.1 y.2.1 = 0 then (if f_X6_sumWraps x.2.2.1 y.2.2.1 = 0 then (0, x.2.1 + y.2.1, x.2.2.1 + y.2.2.1, bsK x.2.2.2.1 x.2.2.2.2.1 y.2.2.2.1 y.2.2.2.2.1 0, bsV x.2.2.2.1 x.2.2.2.2.1 y.2.2.2.1 y.2.2.2.2.1 0, plM x y, f_X6_restBy (f_X6_restBy (cre x) (plM x y) + f_X6_restBy (cre y) (plM x y)) (plM x y))
    else (0, -9223372036854775808, 9223372036854775807, bsK x.2.2.2.1 x.2.2.2.2.1 y.2.2.2.1 y.2.2.2.2.1 0, bsV x.2.2.2.1 x.2.2.2.2.1 y.2.2.2.1 y.2.2.2.2.1 0, 1, 0)) else (0, -9223372036854775808, 9223372036854775807, bsK x.2.2.2.1 x.2.2.2.2.1 y.2.2.2.1 y.2.2.2.2.1 0, bsV x.2.2.2.1 x.2.2.2.2.1 y.2.2.2.1 y.2.2.2.2.1 0, 1, 0)
def tn (y : Fk) : Int64 := (y.2.2.2.2.1 ^^^ (-1)) &&& y.2.2.2.1
def miP (x y : Fk) : Fk :=
  if f_X6_differenceWraps x.2.1 y.2.2.1 = 0 then (if f_X6_differenceWraps x.2.2.1 y.2.1 = 0 then (0, x.2.1 - y.2.2.1, x.2.2.1 - y.2.1, bsK x.2.2.2.1 x.2.2.2.2.1 y.2.2.2.1 (tn y) 1, bsV x.2.2.2.1 x.2.2.2.2.1 y.2.2.2.1 (tn y) 1, plM x y, f_X6_restBy (f_X6_restBy (cre x) (plM x y) - f_X6_restBy (cre y) (plM x y)) (plM x y))
    else (0, -9223372036854775808, 9223372036854775807, bsK x.2.2.2.1 x.2.2.2.2.1 y.2.2.2.1 (tn y) 1, bsV x.2.2.2.1 x.2.2.2.2.1 y.2.2.2.1 (tn y) 1, 1, 0)) else (0, -9223372036854775808, 9223372036854775807, bsK x.2.2.2.1 x.2.2.2.2.1 y.2.2.2.1 (tn y) 1, bsV x.2.2.2.1 x.2.2.2.2.1 y.2.2.2.1 (tn y) 1, 1, 0)
section PC
variable {M : Mem} {a b t : Nat}
theorem pl_C (ha : a ≠ t) (hb : b ≠ t) : f_X0_plus (pC M t AL) a b t = pC M t (plP (gC M a) (gC M b)) := by
  unfold f_X0_plus
  rw [bs_eq]
  unfold AL
  rw [wc3, wc4]
  simp only [qcnL ha, qcnL hb]
  unfold f_X0_plus_c21 f_X0_plus_c64 f_X0_plus_c83 f_X0_plus_c112 f_X0_plus_112 f_X1_limit
  simp only [cm_C, cr_C, gC_n ha, gC_n hb, qcnL ha, qcnL hb, wc1, wc2, wc5, wc6]
  unfold plP plM
  show (if f_X6_sumWraps (gC M a).2.1 (gC M b).2.1 = 0 then (if f_X6_sumWraps (gC M a).2.2.1 (gC M b).2.2.1 = 0 then _ else _) else _) = _
  repeat' split
  all_goals rfl
theorem mi_C (ha : a ≠ t) (hb : b ≠ t) : f_X0_minus (pC M t AL) a b t = pC M t (miP (gC M a) (gC M b)) := by
  unfold f_X0_minus
  rw [bs_eq]
  unfold AL
  rw [wc3, wc4]
  simp only [qcnL ha, qcnL hb]
  unfold f_X0_minus_c30 f_X0_minus_c73 f_X0_minus_c92 f_X0_minus_c121 f_X0_minus_121 f_X1_limit
  simp only [cm_C, cr_C, gC_n ha, gC_n hb, qcnL ha, qcnL hb, wc1, wc2, wc5, wc6]
  unfold miP plM
  show (if f_X6_differenceWraps (gC M a).2.1 (gC M b).2.2.1 = 0 then (if f_X6_differenceWraps (gC M a).2.2.1 (gC M b).2.1 = 0 then _ else _) else _) = _
  repeat' split
  all_goals rfl
end PC
theorem bsV_K (k1 v1 k2 v2 c : Int64) : bsV k1 v1 k2 v2 c &&& bsK k1 v1 k2 v2 c = bsV k1 v1 k2 v2 c := by
  unfold bsV
  exact tb_ext fun p hp => by
    simp only [tb_and]
    cases tb (bsK k1 v1 k2 v2 c) p <;> simp
/-- a fact ahead of sharpening -/
def Pf (x : Fk) : Prop := x.1 = 0 ∧ Pd x.2.2.2.1 x.2.2.2.2.1 x.2.2.2.2.2.1 x.2.2.2.2.2.2
theorem Pf_mk {l h k v m r : Int64} (q : Pd k v m r) : Pf (0, l, h, k, v, m, r) := ⟨rfl, q⟩
theorem Pd_1 {k v : Int64} (q : v &&& k = v) : Pd k v 1 0 := ⟨q, mOK_1, by decide, by decide⟩
theorem Pf_pl (x y : Fk) : Pf (plP x y) := by
  unfold plP
  have h1 : mOK (plM x y) := odd_OK _
  repeat' split
  · exact Pf_mk ⟨bsV_K _ _ _ _ _, h1, rest_rng h1.1⟩
  · exact Pf_mk (Pd_1 (bsV_K _ _ _ _ _))
  · exact Pf_mk (Pd_1 (bsV_K _ _ _ _ _))
theorem Pf_mi (x y : Fk) : Pf (miP x y) := by
  unfold miP
  have h1 : mOK (plM x y) := odd_OK _
  repeat' split
  · exact Pf_mk ⟨bsV_K _ _ _ _ _, h1, rest_rng h1.1⟩
  · exact Pf_mk (Pd_1 (bsV_K _ _ _ _ _))
  · exact Pf_mk (Pd_1 (bsV_K _ _ _ _ _))
def shF (x : Fk) : Fk := shL ZC 6 x.2.1 x.2.2.1 x.2.2.2.1 x.2.2.2.2.1 x.2.2.2.2.2.1 x.2.2.2.2.2.2
theorem shF_C {M : Mem} {t : Nat} {x : Fk} (h : Pf x) : f_X1_sharpen (pC M t x) t = pC M t (shF x) := by
  obtain ⟨n, l, hh, k, v, m, r⟩ := x
  have : n = 0 := h.1
  subst this
  exact sh_C
theorem shF_R {M : Mem} {t : Int32} {x : Fk} (h : Pf x) : ∃ i, f_X7_sharpen (pR M (ix t) x) t = uI (pR M (ix t) (toR (shF x))) 52 7 i := by
  obtain ⟨n, l, hh, k, v, m, r⟩ := x
  have : n = 0 := h.1
  subst this
  obtain ⟨i, hi⟩ := sh_R (M := M) (f := t) (l := l) (h := hh) (k := k) (v := v) (m := m) (r := r) h.2.2.1.1 h.2.1
  rw [shL_R] at hi
  exact ⟨i, hi⟩
theorem Gd_shF {x : Fk} (h : Pf x) : Gd (shF x) := Gd_sh6 h.2
/-- the reference's sum: A and B are cells 16 and 17, C cell 18 -/
theorem add_R {N : Mem} {x y : Fk} (hx : ∃ l h k v m r, x = (0, l, h, k, v, m, r) ∧ mOK m) (hy : ∃ l h k v m r, y = (0, l, h, k, v, m, r) ∧ mOK m) (vx : x.2.2.2.2.1 &&& x.2.2.2.1 = x.2.2.2.2.1) (vy : y.2.2.2.2.1 &&& y.2.2.2.1 = y.2.2.2.2.1) (h16 : gR N 16 = x) (h17 : gR N 17 = y) (h18 : gR N 18 = AL) : f_X7_add N 16 17 0 = pR N 18 (plP x y) := by
  have hN : N = pR N 18 AL := by rw [← h18, pR_g]
  have e : ∀ z : Fk, gR (pR N 18 z) 16 = x ∧ gR (pR N 18 z) 17 = y := fun z => ⟨by rw [gR_n (by decide), h16], by rw [gR_n (by decide), h17]⟩
  have rip : ∀ l h m r : Int64, f_X7_add_267 16 17 0 (pR N 18 (0, l, h, 0, 0, m, r)) = pR N 18 (0, l, h, bsK x.2.2.2.1 x.2.2.2.2.1 y.2.2.2.1 y.2.2.2.2.1 0, bsV x.2.2.2.1 x.2.2.2.2.1 y.2.2.2.1 y.2.2.2.2.1 0, m, r) := fun l h m r => by
    unfold f_X7_add_267 f_X7_add_c300 f_X7_add_300
    have e1 := (e (0, l, h, 0, 0, m, r)).1
    have e2 := (e (0, l, h, 0, 0, m, r)).2
    generalize hQ : pR N 18 (0, l, h, 0, 0, m, r) = Q at e1 e2
    have k1 : mL Q 56 (ix 16) = x.2.2.2.1 := by rw [← e1]; rfl
    have v1 : mL Q 57 (ix 16) = x.2.2.2.2.1 := by rw [← e1]; rfl
    have k2 : mL Q 56 (ix 17) = y.2.2.2.1 := by rw [← e2]; rfl
    have v2 : mL Q 57 (ix 17) = y.2.2.2.2.1 := by rw [← e2]; rfl
    rw [if_pos rfl, rip_eq Q 16 17 18 0 (Or.inl rfl) (by rw [k1, v1]; exact vx) (by rw [k2, v2]; exact vy), k1, k2, v1, v2, if_pos rfl, ix18, ← hQ, wr3, wr4]
  have q0 : ∀ (Q : Mem), gR Q 16 = x → mL Q 54 (ix 16) = x.2.1 ∧ mL Q 55 (ix 16) = x.2.2.1 := fun Q h => by rw [← h]; exact ⟨rfl, rfl⟩
  have q1 : ∀ (Q : Mem), gR Q 17 = y → mL Q 54 (ix 17) = y.2.1 ∧ mL Q 55 (ix 17) = y.2.2.1 := fun Q h => by rw [← h]; exact ⟨rfl, rfl⟩
  unfold f_X7_add
  rw [if_pos rfl, (q0 N h16).1, (q1 N h17).1]
  unfold f_X7_add_33
  rw [if_pos rfl, (q0 N h16).2, (q1 N h17).2]
  unfold f_X7_add_68
  rw [if_pos rfl, (q0 N h16).1, (q1 N h17).1, (q0 N h16).2, (q1 N h17).2, ← sw_eq, ← sw_eq]
  have bad : f_X7_add_170 16 17 0 (x.2.1 + y.2.1) (x.2.2.1 + y.2.2.1) N = pR N 18 (0, -9223372036854775808, 9223372036854775807, bsK x.2.2.2.1 x.2.2.2.2.1 y.2.2.2.1 y.2.2.2.2.1 0, bsV x.2.2.2.1 x.2.2.2.2.1 y.2.2.2.1 y.2.2.2.2.1 0, 1, 0) := by
    unfold f_X7_add_170 f_X7_add_175
    rw [if_neg (by decide)]
    have q := rip (-9223372036854775808) 9223372036854775807 1 0
    rw [show pR N 18 (0, -9223372036854775808, 9223372036854775807, 0, 0, 1, 0) = N from hN.symm] at q
    exact q
  unfold plP
  rw [bad]
  by_cases e1 : f_X6_sumWraps x.2.1 y.2.1 = 0
  · rw [if_pos e1, if_pos e1]
    by_cases e2 : f_X6_sumWraps x.2.2.1 y.2.2.1 = 0
    · rw [if_pos e2, if_pos e2]
      unfold f_X7_add_175
      rw [if_pos rfl]
      have hQ : uL (uL N 54 (ix 18) (x.2.1 + y.2.1)) 55 (ix 18) (x.2.2.1 + y.2.2.1) = pR N 18 (0, x.2.1 + y.2.1, x.2.2.1 + y.2.2.1, 0, 0, 1, 0) := by
        rw [ix18]
        conv => lhs; rw [hN]
        unfold AL
        rw [wr1, wr2]
      unfold f_X7_add_c218 f_X7_add_c230 f_X7_add_c242 f_X7_add_264 f_X7_add_c267
      rw [hQ, if_pos rfl, bo_R, bo_R, ro_R, ro_R, ix16, ix17, (e _).1, (e _).2, pm_eq hx hy]
      have hs : ∀ z w : Int64, f_X7_setRest (pR N 18 (0, x.2.1 + y.2.1, x.2.2.1 + y.2.2.1, 0, 0, 1, 0)) 18 z w = pR N 18 (0, x.2.1 + y.2.1, x.2.2.1 + y.2.2.1, 0, 0, z, f_X7_rem w z) := fun z w => by
        unfold f_X7_setRest
        rw [ix18, wr5, wr6]
      have h1 : mOK (plM x y) := odd_OK _
      rw [hs, ← rest_rem h1.1, ← rest_rem h1.1, ← rest_rem h1.1]
      exact rip _ _ _ _
    · rw [if_neg e2, if_neg e2]
  · rw [if_neg e1, if_neg e1]
/-- the difference; the cell 21 serves -/
theorem sub_R {N : Mem} {x y : Fk} (hx : ∃ l h k v m r, x = (0, l, h, k, v, m, r) ∧ mOK m) (hy : ∃ l h k v m r, y = (0, l, h, k, v, m, r) ∧ mOK m) (vx : x.2.2.2.2.1 &&& x.2.2.2.1 = x.2.2.2.2.1) (h16 : gR N 16 = x) (h17 : gR N 17 = y) (h18 : gR N 18 = AL) : gR (f_X7_add N 16 17 1) 18 = miP x y ∧ Sd N (f_X7_add N 16 17 1) := by
  have hN : N = pR N 18 AL := by rw [← h18, pR_g]
  have e : ∀ z : Fk, gR (pR N 18 z) 16 = x ∧ gR (pR N 18 z) 17 = y := fun z => ⟨by rw [gR_n (by decide), h16], by rw [gR_n (by decide), h17]⟩
  have rip : ∀ l h m r : Int64, f_X7_add_267 16 17 1 (pR N 18 (0, l, h, 0, 0, m, r)) = uL (uL (uL (uL (pR N 18 (0, l, h, 0, 0, m, r)) 56 21 y.2.2.2.1) 57 21 (tn y)) 56 18 (bsK x.2.2.2.1 x.2.2.2.2.1 y.2.2.2.1 (tn y) 1)) 57 18 (bsV x.2.2.2.1 x.2.2.2.2.1 y.2.2.2.1 (tn y) 1) := fun l h m r => by
    have e1 := (e (0, l, h, 0, 0, m, r)).1
    have e2 := (e (0, l, h, 0, 0, m, r)).2
    generalize pR N 18 (0, l, h, 0, 0, m, r) = Q at e1 e2
    have k1 : mL Q 56 16 = x.2.2.2.1 := by rw [← e1]; rfl
    have v1 : mL Q 57 16 = x.2.2.2.2.1 := by rw [← e1]; rfl
    have k2 : mL Q 56 17 = y.2.2.2.1 := by rw [← e2]; rfl
    have v2 : mL Q 57 17 = y.2.2.2.2.1 := by rw [← e2]; rfl
    have ht : f_X7_turn Q 17 21 = uL (uL Q 56 21 y.2.2.2.1) 57 21 (tn y) := by
      unfold f_X7_turn f_X7_turn_c35
      rw [ix17, show ix 21 = 21 from rfl, mL_uL_ne (by decide), mL_uL_nk (by decide), k2, v2]
      rfl
    unfold f_X7_add_267 f_X7_add_c278 f_X7_add_c288 f_X7_add_300
    rw [if_neg (by decide), ht]
    generalize hP : uL (uL Q 56 21 y.2.2.2.1) 57 21 (tn y) = P
    have a1 : mL P 56 (ix 16) = x.2.2.2.1 := by rw [← hP, ix16, mL_uL_ne (by decide), mL_uL_nk (by decide), k1]
    have a2 : mL P 57 (ix 16) = x.2.2.2.2.1 := by rw [← hP, ix16, mL_uL_nk (by decide), mL_uL_ne (by decide), v1]
    have a3 : mL P 56 (ix 21) = y.2.2.2.1 := by rw [← hP, show ix 21 = 21 from rfl, mL_uL_ne (by decide), mL_uL]
    have a4 : mL P 57 (ix 21) = tn y := by rw [← hP, show ix 21 = 21 from rfl, mL_uL]
    rw [rip_eq P 16 21 18 1 (Or.inr rfl) (by rw [a1, a2]; exact vx) (by
      rw [a3, a4]
      unfold tn
      exact tb_ext fun p hp => by
        simp only [tb_and]
        cases tb y.2.2.2.1 p <;> simp), a1, a2, a3, a4, if_neg (by decide), ix18]
  have fin : ∀ l h m r : Int64, gR (f_X7_add_267 16 17 1 (pR N 18 (0, l, h, 0, 0, m, r))) 18 = (0, l, h, bsK x.2.2.2.1 x.2.2.2.2.1 y.2.2.2.1 (tn y) 1, bsV x.2.2.2.1 x.2.2.2.2.1 y.2.2.2.1 (tn y) 1, m, r) ∧ Sd N (f_X7_add_267 16 17 1 (pR N 18 (0, l, h, 0, 0, m, r))) := fun l h m r => by
    rw [rip]
    refine ⟨?_, ((((Sd.rf.pR (by decide) (by decide)).uL (scr_f (by decide) (by decide) (by decide) (by decide))).uL (scr_f (by decide) (by decide) (by decide) (by decide))).uL (scr_f (by decide) (by decide) (by decide) (by decide))).uL (scr_f (by decide) (by decide) (by decide) (by decide))⟩
    unfold gR
    simp only [r_IL, r_L]
    simp [rr0, rr1, rr2, rr5, rr6]
  have q0 : ∀ (Q : Mem), gR Q 16 = x → mL Q 54 (ix 16) = x.2.1 ∧ mL Q 55 (ix 16) = x.2.2.1 := fun Q h => by rw [← h]; exact ⟨rfl, rfl⟩
  have q1 : ∀ (Q : Mem), gR Q 17 = y → mL Q 54 (ix 17) = y.2.1 ∧ mL Q 55 (ix 17) = y.2.2.1 := fun Q h => by rw [← h]; exact ⟨rfl, rfl⟩
  unfold f_X7_add
  rw [if_neg (by decide), (q0 N h16).1, (q1 N h17).2]
  unfold f_X7_add_33
  rw [if_neg (by decide), (q0 N h16).2, (q1 N h17).1]
  unfold f_X7_add_68
  rw [if_neg (by decide), (q0 N h16).1, (q1 N h17).1, (q0 N h16).2, (q1 N h17).2, ← dw_eq, ← dw_eq]
  have bad : f_X7_add_122 16 17 1 (x.2.1 - y.2.2.1) (x.2.2.1 - y.2.1) N = f_X7_add_267 16 17 1 (pR N 18 (0, -9223372036854775808, 9223372036854775807, 0, 0, 1, 0)) := by
    unfold f_X7_add_122 f_X7_add_175
    rw [if_neg (by decide)]
    exact congrArg _ hN
  unfold miP
  rw [bad]
  by_cases e1 : f_X6_differenceWraps x.2.1 y.2.2.1 = 0
  · rw [if_pos e1, if_pos e1]
    by_cases e2 : f_X6_differenceWraps x.2.2.1 y.2.1 = 0
    · rw [if_pos e2, if_pos e2]
      unfold f_X7_add_175
      rw [if_pos rfl]
      have hQ : uL (uL N 54 (ix 18) (x.2.1 - y.2.2.1)) 55 (ix 18) (x.2.2.1 - y.2.1) = pR N 18 (0, x.2.1 - y.2.2.1, x.2.2.1 - y.2.1, 0, 0, 1, 0) := by
        rw [ix18]
        conv => lhs; rw [hN]
        unfold AL
        rw [wr1, wr2]
      unfold f_X7_add_c218 f_X7_add_c230 f_X7_add_c242 f_X7_add_264 f_X7_add_c267
      rw [hQ, if_neg (by decide), bo_R, bo_R, ro_R, ro_R, ix16, ix17, (e _).1, (e _).2, pm_eq hx hy]
      have hs : ∀ z w : Int64, f_X7_setRest (pR N 18 (0, x.2.1 - y.2.2.1, x.2.2.1 - y.2.1, 0, 0, 1, 0)) 18 z w = pR N 18 (0, x.2.1 - y.2.2.1, x.2.2.1 - y.2.1, 0, 0, z, f_X7_rem w z) := fun z w => by
        unfold f_X7_setRest
        rw [ix18, wr5, wr6]
      have h1 : mOK (plM x y) := odd_OK _
      rw [hs, ← rest_rem h1.1, ← rest_rem h1.1, ← rest_rem h1.1]
      exact fin _ _ _ _
    · rw [if_neg e2, if_neg e2]
      exact fin _ _ _ _
  · rw [if_neg e1, if_neg e1]
    exact fin _ _ _ _
