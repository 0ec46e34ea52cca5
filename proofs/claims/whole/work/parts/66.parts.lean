/-! what a LINE makes of facts -/
def kuF (x : Fk) (v : Int64) : Fk := shF (x.1, x.2.1, jmin x.2.2.1 v, x.2.2.2)
def kfF (x : Fk) (v : Int64) : Fk := shF (x.1, jmax x.2.1 v, x.2.2)
def kbF (x y : Fk) : Fk := if y.2.2.1 = -9223372036854775808 then ZC else kuF x (y.2.2.1 - 1)
def kaF (x y : Fk) : Fk := if y.2.1 = 9223372036854775807 then ZC else kfF x (y.2.1 + 1)
def apF (x y : Fk) : Fk := if y.2.1 = y.2.2.1 then (if x.2.1 = x.2.2.1 then (if x.2.1 = y.2.1 then ZC else x) else shF (x.1, (if x.2.1 = y.2.1 then x.2.1 + 1 else x.2.1), (if x.2.2.1 = y.2.1 then x.2.2.1 - 1 else x.2.2.1), x.2.2.2)) else x
def lbF (x : Fk) (bit v : Int64) : Fk := if (((x.2.2.2.2.1 ^^^ v) &&& x.2.2.2.1) &&& bit) = 0 then shF (x.1, x.2.1, x.2.2.1, x.2.2.2.1 ||| bit, x.2.2.2.2.1 ||| v, x.2.2.2.2.2) else ZC
theorem Pf_lh {x : Fk} {l h : Int64} (hx : Gd x) (x0 : x.1 = 0) : Pf (x.1, l, h, x.2.2.2) := ⟨x0, (gd_P hx x0).1⟩
theorem Gd_ku {x : Fk} {v : Int64} (hx : Gd x) (x0 : x.1 = 0) : Gd (kuF x v) := Gd_shF (Pf_lh hx x0)
theorem Gd_kf {x : Fk} {v : Int64} (hx : Gd x) (x0 : x.1 = 0) : Gd (kfF x v) := Gd_shF (Pf_lh (l := jmax x.2.1 v) (h := x.2.2.1) hx x0)
theorem Gd_kb {x y : Fk} (hx : Gd x) (x0 : x.1 = 0) : Gd (kbF x y) := by
  unfold kbF
  split
  · exact Gd_Z
  · exact Gd_ku hx x0
theorem Gd_ka {x y : Fk} (hx : Gd x) (x0 : x.1 = 0) : Gd (kaF x y) := by
  unfold kaF
  split
  · exact Gd_Z
  · exact Gd_kf hx x0
theorem Gd_ap {x y : Fk} (hx : Gd x) (x0 : x.1 = 0) : Gd (apF x y) := by
  unfold apF
  by_cases q1 : y.2.1 = y.2.2.1
  · rw [if_pos q1]
    by_cases q2 : x.2.1 = x.2.2.1
    · rw [if_pos q2]
      by_cases q3 : x.2.1 = y.2.1
      · rw [if_pos q3]; exact Gd_Z
      · rw [if_neg q3]; exact hx
    · rw [if_neg q2]; exact Gd_shF (Pf_lh hx x0)
  · rw [if_neg q1]; exact hx
theorem Pf_lb {x : Fk} {bit v : Int64} (hx : Gd x) (x0 : x.1 = 0) (hv : v &&& bit = v) : Pf (x.1, x.2.1, x.2.2.1, x.2.2.2.1 ||| bit, x.2.2.2.2.1 ||| v, x.2.2.2.2.2) := by
  have px := (gd_P hx x0).1
  exact ⟨x0, vk_or px.1 hv, px.2⟩
theorem Gd_lb {x : Fk} {bit v : Int64} (hx : Gd x) (x0 : x.1 = 0) (hv : v &&& bit = v) : Gd (lbF x bit v) := by
  unfold lbF
  split
  · exact Gd_shF (Pf_lb hx x0 hv)
  · exact Gd_Z
section KC
variable {M : Mem} {a b t : Nat} {v : Int64}
theorem ku_C (ha : a ≠ t) (hx : Gd (gC M a)) (x0 : (gC M a).1 = 0) : f_X2_keepUpTo M a v t = pC M t (kuF (gC M a) v) := by
  unfold f_X2_keepUpTo f_X2_keepUpTo_c5 f_X2_keepUpTo_c21
  have e : uL (pC M t (gC M a)) t 2 (jmin (mL (pC M t (gC M a)) a 2) v) = pC M t ((gC M a).1, (gC M a).2.1, jmin (gC M a).2.2.1 v, (gC M a).2.2.2) := by
    rw [qcnL ha]; exact wc2
  rw [cp_C, e]
  exact shF_C (Pf_lh hx x0)
theorem kf_C (ha : a ≠ t) (hx : Gd (gC M a)) (x0 : (gC M a).1 = 0) : f_X2_keepFrom M a v t = pC M t (kfF (gC M a) v) := by
  unfold f_X2_keepFrom f_X2_keepFrom_c5 f_X2_keepFrom_c21
  have e : uL (pC M t (gC M a)) t 1 (jmax (mL (pC M t (gC M a)) a 1) v) = pC M t ((gC M a).1, jmax (gC M a).2.1 v, (gC M a).2.2) := by
    rw [qcnL ha]; exact wc1
  rw [cp_C, e]
  exact shF_C (Pf_lh (l := jmax (gC M a).2.1 v) (h := (gC M a).2.2.1) hx x0)
theorem kb_C (ha : a ≠ t) (hx : Gd (gC M a)) (x0 : (gC M a).1 = 0) : f_X2_keepBelow M a b t = pC M t (kbF (gC M a) (gC M b)) := by
  unfold f_X2_keepBelow f_X2_keepBelow_c15 f_X2_keepBelow_c29 f_X2_keepBelow_29 kbF
  rw [mn_C', ku_C ha hx x0]
  show (if (gC M b).2.2.1 = -9223372036854775808 then _ else _) = _
  by_cases q : (gC M b).2.2.1 = -9223372036854775808
  · rw [if_pos q, if_pos q]
  · rw [if_neg q, if_neg q]; rfl
theorem ka_C (ha : a ≠ t) (hx : Gd (gC M a)) (x0 : (gC M a).1 = 0) : f_X2_keepAbove M a b t = pC M t (kaF (gC M a) (gC M b)) := by
  unfold f_X2_keepAbove f_X2_keepAbove_c15 f_X2_keepAbove_c29 f_X2_keepAbove_29 kaF
  rw [mn_C', kf_C ha hx x0]
  show (if (gC M b).2.1 = 9223372036854775807 then _ else _) = _
  by_cases q : (gC M b).2.1 = 9223372036854775807
  · rw [if_pos q, if_pos q]
  · rw [if_neg q, if_neg q]; rfl
theorem ap_C (ha : a ≠ t) (hb : b ≠ t) (hx : Gd (gC M a)) (x0 : (gC M a).1 = 0) (y0 : (gC M b).1 = 0) : f_X2_keepApart M a b t = pC M t (apF (gC M a) (gC M b)) := by
  have ia : f_X1_isConstant (pC M t (gC M a)) a = 0 ↔ ¬ (gC M a).2.1 = (gC M a).2.2.1 := by
    rw [ic_0, gC_n ha]; exact ⟨fun h z => h ⟨x0, z⟩, fun h z => h z.2⟩
  have ib : f_X1_isConstant (pC M t (gC M a)) b = 0 ↔ ¬ (gC M b).2.1 = (gC M b).2.2.1 := by
    rw [ic_0, gC_n hb]; exact ⟨fun h z => h ⟨y0, z⟩, fun h z => h z.2⟩
  have r1 : ∀ z : Fk, mL (pC M t z) a 1 = (gC M a).2.1 ∧ mL (pC M t z) b 1 = (gC M b).2.1 ∧ mL (pC M t z) a 2 = (gC M a).2.2.1 := fun z => by
    rw [qcnL ha, qcnL hb, qcnL ha]; exact ⟨rfl, rfl, rfl⟩
  have s81 : ∀ l h : Int64, f_X2_keepApart_81 t (pC M t ((gC M a).1, l, h, (gC M a).2.2.2)) = pC M t (shF ((gC M a).1, l, h, (gC M a).2.2.2)) := fun l h => shF_C (Pf_lh hx x0)
  have s59 : ∀ l : Int64, f_X2_keepApart_59 a b t (pC M t ((gC M a).1, l, (gC M a).2.2)) = pC M t (shF ((gC M a).1, l, (if (gC M a).2.2.1 = (gC M b).2.1 then (gC M a).2.2.1 - 1 else (gC M a).2.2.1), (gC M a).2.2.2)) := fun l => by
    unfold f_X2_keepApart_59
    rw [(r1 _).2.2, (r1 _).2.1, rc2]
    by_cases q : (gC M a).2.2.1 = (gC M b).2.1
    · rw [if_pos q, if_pos q]
      have e : uL (pC M t ((gC M a).1, l, (gC M a).2.2)) t 2 ((gC M a).2.2.1 - 1) = pC M t ((gC M a).1, l, (gC M a).2.2.1 - 1, (gC M a).2.2.2) := wc2
      exact (congrArg (f_X2_keepApart_81 t) e).trans (s81 _ _)
    · rw [if_neg q, if_neg q]
      exact s81 l (gC M a).2.2.1
  unfold f_X2_keepApart apF
  rw [cp_C]
  unfold f_X2_keepApart_c5 f_X2_keepApart_c36 f_X2_keepApart_36
  rw [(r1 _).1, (r1 _).2.1, mn_C, rc1]
  by_cases q1 : (gC M b).2.1 = (gC M b).2.2.1
  · rw [if_neg (fun z => ib.mp z q1), if_pos q1]
    by_cases q2 : (gC M a).2.1 = (gC M a).2.2.1
    · rw [if_neg (fun z => ia.mp z q2), if_pos q2]
      by_cases q3 : (gC M a).2.1 = (gC M b).2.1
      · rw [if_pos q3, if_pos q3]
      · rw [if_neg q3, if_neg q3]
    · rw [if_pos (ia.mpr q2), if_neg q2]
      by_cases q3 : (gC M a).2.1 = (gC M b).2.1
      · rw [if_pos q3, if_pos q3]
        have e : uL (pC M t (gC M a)) t 1 ((gC M a).2.1 + 1) = pC M t ((gC M a).1, (gC M a).2.1 + 1, (gC M a).2.2) := wc1
        exact (congrArg (f_X2_keepApart_59 a b t) e).trans (s59 _)
      · rw [if_neg q3, if_neg q3]
        exact s59 (gC M a).2.1
  · rw [if_pos (ib.mpr q1), if_neg q1]
theorem lb_C2 {x : Fk} {bit : Int64} {z : Int32} (hx : Gd x) (x0 : x.1 = 0) : f_X2_learnBit (pC M t x) t bit z = pC M t (lbF x bit (if z = 0 then 0 else bit)) := by
  have key : ∀ w : Int64, w &&& bit = w → f_X2_learnBit_9 t bit w (pC M t x) = pC M t (lbF x bit w) := fun w hw => by
    have hp := Pf_lb hx x0 hw
    unfold f_X2_learnBit_9 f_X2_learnBit_c60 f_X2_learnBit_c34 lbF
    rw [mn_C, rc3, rc4]
    have e1 : uL (pC M t x) t 3 (x.2.2.2.1 ||| bit) = pC M t (x.1, x.2.1, x.2.2.1, x.2.2.2.1 ||| bit, x.2.2.2.2) := wc3
    have e2 : uL (pC M t (x.1, x.2.1, x.2.2.1, x.2.2.2.1 ||| bit, x.2.2.2.2)) t 4 (x.2.2.2.2.1 ||| w) = pC M t (x.1, x.2.1, x.2.2.1, x.2.2.2.1 ||| bit, x.2.2.2.2.1 ||| w, x.2.2.2.2.2) := wc4
    rw [e1, rc4, e2, shF_C hp]
    split <;> rfl
  unfold f_X2_learnBit
  by_cases q : z = 0
  · rw [if_pos q, if_pos q]; exact key 0 (tb_ext fun p hp => by rw [tb_and, tb_0]; rfl)
  · rw [if_neg q, if_neg q]; exact key bit (tb_ext fun p hp => by rw [tb_and, Bool.and_self])
end KC
/-! the reference's -/
section KR
variable {M : Mem} {f g t : Int32} {x y : Fk} {v : Int64}
theorem jmn_lt {a b : Int64} {l : Int64} (h : b < l) : jmin a b < l := by
  rw [Int64.lt_iff_toInt_lt] at h ⊢
  rw [mn_i]
  split <;> omega
theorem jmx_lt {a b : Int64} {l : Int64} (h : l < b) : l < jmax a b := by
  rw [Int64.lt_iff_toInt_lt] at h ⊢
  rw [mx_i]
  split <;> omega
theorem am_R {n : Int32} (hft : ix f ≠ ix t) (hx : Gd x) (x0 : x.1 = 0) (hf : gR M (ix f) = x) : ∃ i, f_X7_atMost M f n v t = uI (pR M (ix t) (toR (if n = 0 then kuF x v else ZC))) 52 7 i := by
  have same : ∀ N : Mem, ∃ i, N = uI N 52 7 i := fun N => ⟨_, u_self.symm⟩
  have e1 : mL (pR M (ix t) x) 54 (ix f) = x.2.1 := by rw [qdnL hft, ← hf]; rfl
  have e2 : mL (pR M (ix t) x) 55 (ix f) = x.2.2.1 := by rw [qdnL hft, ← hf]; rfl
  have eno : f_X7_atMost_22 t (pR M (ix t) x) = pR M (ix t) ZR := by
    unfold f_X7_atMost_22 f_X7_atMost_c28; rw [no_R', pR_p]
  unfold f_X7_atMost
  rw [cp_R, hf]
  unfold f_X7_atMost_c7 f_X7_atMost_c52
  rw [e1, e2, eno, less_eq]
  by_cases q : n = 0
  · rw [if_pos q, if_pos q]
    by_cases q2 : x.2.1 ≤ v
    · rw [if_pos q2]
      have e3 : uL (pR M (ix t) x) 55 (ix t) (jmin x.2.2.1 v) = pR M (ix t) (x.1, x.2.1, jmin x.2.2.1 v, x.2.2.2) := wr2
      rw [e3]
      exact shF_R (Pf_lh hx x0)
    · rw [if_neg q2]
      have hz : kuF x v = ZC := sh_over (jmn_lt (Int64.not_le.mp q2))
      rw [hz, toR_Z]
      exact same _
  · rw [if_neg q, if_neg q, toR_Z]
    exact same _
theorem al_R {n : Int32} (hft : ix f ≠ ix t) (hx : Gd x) (x0 : x.1 = 0) (hf : gR M (ix f) = x) : ∃ i, f_X7_atLeast M f n v t = uI (pR M (ix t) (toR (if n = 0 then kfF x v else ZC))) 52 7 i := by
  have same : ∀ N : Mem, ∃ i, N = uI N 52 7 i := fun N => ⟨_, u_self.symm⟩
  have e1 : mL (pR M (ix t) x) 54 (ix f) = x.2.1 := by rw [qdnL hft, ← hf]; rfl
  have e2 : mL (pR M (ix t) x) 55 (ix f) = x.2.2.1 := by rw [qdnL hft, ← hf]; rfl
  have eno : f_X7_atLeast_22 t (pR M (ix t) x) = pR M (ix t) ZR := by
    unfold f_X7_atLeast_22 f_X7_atLeast_c28; rw [no_R', pR_p]
  unfold f_X7_atLeast
  rw [cp_R, hf]
  unfold f_X7_atLeast_c7 f_X7_atLeast_c52
  rw [e1, e2, eno, more_eq]
  by_cases q : n = 0
  · rw [if_pos q, if_pos q]
    by_cases q2 : v ≤ x.2.2.1
    · rw [if_pos q2]
      have e3 : uL (pR M (ix t) x) 54 (ix t) (jmax x.2.1 v) = pR M (ix t) (x.1, jmax x.2.1 v, x.2.2) := wr1
      rw [e3]
      exact shF_R (Pf_lh (l := jmax x.2.1 v) (h := x.2.2.1) hx x0)
    · rw [if_neg q2]
      have hz : kfF x v = ZC := sh_over (jmx_lt (Int64.not_le.mp q2))
      rw [hz, toR_Z]
      exact same _
  · rw [if_neg q, if_neg q, toR_Z]
    exact same _
theorem ap_R (hft : ix f ≠ ix t) (hgt : ix g ≠ ix t) (hx : Gd x) (x0 : x.1 = 0) (y0 : y.1 = 0) (hf : gR M (ix f) = x) (hg : gR M (ix g) = y) : ∃ i, f_X7_apart M f g t = uI (pR M (ix t) (toR (apF x y))) 52 7 i := by
  have same : ∀ N : Mem, ∃ i, N = uI N 52 7 i := fun N => ⟨_, u_self.symm⟩
  have ia : f_X7_isNumber (pR M (ix t) x) f = 0 ↔ ¬ x.2.1 = x.2.2.1 := by
    rw [in_0, gR_n hft, hf]; exact ⟨fun h z => h ⟨x0, z⟩, fun h z => h z.2⟩
  have ib : f_X7_isNumber (pR M (ix t) x) g = 0 ↔ ¬ y.2.1 = y.2.2.1 := by
    rw [in_0, gR_n hgt, hg]; exact ⟨fun h z => h ⟨y0, z⟩, fun h z => h z.2⟩
  have r : ∀ z : Fk, mL (pR M (ix t) z) 54 (ix f) = x.2.1 ∧ mL (pR M (ix t) z) 54 (ix g) = y.2.1 ∧ mL (pR M (ix t) z) 55 (ix f) = x.2.2.1 := fun z => by
    rw [qdnL hft, qdnL hgt, qdnL hft, ← hf, ← hg]; exact ⟨rfl, rfl, rfl⟩
  have s73 : ∀ w : Int64, ∃ i, f_X7_apart_73 f g t (pR M (ix t) x) w (pR M (ix t) x) = uI (pR M (ix t) (toR (shF (x.1, x.2.1 + w, (if x.2.2.1 = y.2.1 then x.2.2.1 - 1 else x.2.2.1), x.2.2.2)))) 52 7 i := fun w => by
    have e1 : uL (pR M (ix t) x) 54 (ix t) (x.2.1 + w) = pR M (ix t) (x.1, x.2.1 + w, x.2.2) := wr1
    have s99 : ∀ u : Int64, ∃ i, f_X7_apart_99 t (pR M (ix t) x) w (pR M (ix t) x) u (pR M (ix t) (x.1, x.2.1 + w, x.2.2)) = uI (pR M (ix t) (toR (shF (x.1, x.2.1 + w, x.2.2.1 - u, x.2.2.2)))) 52 7 i := fun u => by
      unfold f_X7_apart_99 f_X7_apart_c106
      rw [rr1, e1, rr2]
      have e2 : uL (pR M (ix t) (x.1, x.2.1 + w, x.2.2)) 55 (ix t) (x.2.2.1 - u) = pR M (ix t) (x.1, x.2.1 + w, x.2.2.1 - u, x.2.2.2) := wr2
      rw [e2]
      exact shF_R (Pf_lh hx x0)
    unfold f_X7_apart_73
    rw [rr1, e1, (r _).2.2, (r _).2.1]
    by_cases q : x.2.2.1 = y.2.1
    · rw [if_pos q, if_pos q]; exact s99 1
    · rw [if_neg q, if_neg q]
      have h := s99 0
      rw [show x.2.2.1 - 0 = x.2.2.1 from Int64.sub_zero _] at h
      exact h
  unfold f_X7_apart apF
  rw [cp_R, hf]
  unfold f_X7_apart_c6 f_X7_apart_c48 f_X7_apart_48
  rw [(r _).1, (r _).2.1, no_R', pR_p]
  by_cases q1 : y.2.1 = y.2.2.1
  · rw [if_neg (fun z => ib.mp z q1), if_pos q1]
    by_cases q2 : x.2.1 = x.2.2.1
    · rw [if_neg (fun z => ia.mp z q2), if_pos q2]
      by_cases q3 : x.2.1 = y.2.1
      · rw [if_pos q3, if_pos q3, toR_Z]; exact same _
      · rw [if_neg q3, if_neg q3, toR_eq x0]; exact same _
    · rw [if_pos (ia.mpr q2), if_neg q2]
      by_cases q3 : x.2.1 = y.2.1
      · rw [if_pos q3, if_pos q3]; exact s73 1
      · rw [if_neg q3, if_neg q3]
        have h := s73 0
        rw [show x.2.1 + 0 = x.2.1 from Int64.add_zero _] at h
        exact h
  · rw [if_pos (ib.mpr q1), if_neg q1, toR_eq x0]; exact same _
end KR
