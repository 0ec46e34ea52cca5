/-! WHERE FACTS COME TOGETHER: what is kept at a place, how often its ends moved -/
def dnP (z old : Fk) : Prop := z.2.1 < old.2.1
def mLes (z old : Fk) (c : Int32) : Int32 := if z.2.1 < old.2.1 then c + 1 else c
def mRis (z old : Fk) (c : Int32) : Int32 := if old.2.2.1 < z.2.2.1 then c + 1 else c
def mTl (z old : Fk) (c : Int32) : Bool := decide (z.2.1 < old.2.1) && !decide (c + 1 < 4)
def mTm (z old : Fk) (c : Int32) : Bool := decide (old.2.2.1 < z.2.2.1) && !decide (c + 1 < 4)
def mZ1 (z : Fk) (tl tm : Bool) : Fk := (z.1, if tl = true then -9223372036854775808 else z.2.1, if tm = true then 9223372036854775807 else z.2.2.1, z.2.2.2.1, z.2.2.2.2.1, z.2.2.2.2.2.1, z.2.2.2.2.2.2)
def mZ2 (z : Fk) (tl tm : Bool) : Fk := if (tl || tm) = true then shF (mZ1 z tl tm) else z
def mInc (tl tm : Bool) : Int32 := (if tl = true then 1 else 0) + (if tm = true then 1 else 0)
def keep (z old : Fk) : Fk := if z.1 = 0 then z else old
def chg (z old : Fk) : Int32 := if z.1 = 0 then (if z = old then 0 else 1) else 0
/-- old, more, how often: what is kept, whether it is new, the two counts, how much was widened -/
def mgF (old z : Fk) (a b : Int32) : Fk := if z.1 = 0 then keep (mZ2 z (mTl z old a) (mTm z old b)) old else old
def mgC (old z : Fk) (a b : Int32) : Int32 := if z.1 = 0 then chg (mZ2 z (mTl z old a) (mTm z old b)) old else 0
def mgL (old z : Fk) (a : Int32) : Int32 := if z.1 = 0 then mLes z old a else a
def mgR (old z : Fk) (b : Int32) : Int32 := if z.1 = 0 then mRis z old b else b
def mgI (old z : Fk) (a b : Int32) : Int32 := if z.1 = 0 then mInc (mTl z old a) (mTm z old b) else 0
theorem Pf_z1 {z : Fk} {tl tm : Bool} (h : Gd z) (h0 : z.1 = 0) : Pf (mZ1 z tl tm) := ⟨h0, (gd_P h h0).1⟩
theorem Gd_z2 {z : Fk} {tl tm : Bool} (h : Gd z) (h0 : z.1 = 0) : Gd (mZ2 z tl tm) := by
  unfold mZ2
  split
  · exact Gd_shF (Pf_z1 h h0)
  · exact h
theorem Gd_mg {old z : Fk} {a b : Int32} (h : Gd old) (hz : Gd z) (h0 : old.1 = 0) : Gd (mgF old z a b) ∧ (mgF old z a b).1 = 0 := by
  unfold mgF
  by_cases e : z.1 = 0
  · rw [if_pos e]
    unfold keep
    by_cases q : (mZ2 z (mTl z old a) (mTm z old b)).1 = 0
    · rw [if_pos q]; exact ⟨Gd_z2 hz e, q⟩
    · rw [if_neg q]; exact ⟨h, h0⟩
  · rw [if_neg e]; exact ⟨h, h0⟩
/-! the class's merge -/
def mSC (rt c kk b j : Nat) : Bool := decide (b = 19) || decide (b = c) || (decide (b = 21) && decide (j = kk)) || (decide (b = 22) && decide (j = kk)) || (decide (b = rt) && decide (j = 8))
def MS (rt c kk : Nat) (A Q : Mem) (old zz : Fk) (a b w : Int32) : Prop := gC Q 19 = zz ∧ gC Q c = old ∧ mI Q 21 kk = a ∧ mI Q 22 kk = b ∧ mI Q rt 8 = w ∧ ER (mSC rt c kk) A Q
section MG
variable {rt c kk : Nat} {A Q : Mem} {old zz : Fk} {a b w : Int32}
theorem ms_19 {j : Nat} : mSC rt c kk 19 j = true := by simp [mSC]
theorem ms_c {j : Nat} : mSC rt c kk c j = true := by simp [mSC]
theorem ER.pC {S : Nat → Nat → Bool} {M N : Mem} {x : Nat} {y : Fk} (h : ER S M N) (q : ∀ j, S x j = true) : ER S M (pC N x y) :=
  ((((((h.uI (q 0)).uL (q 1)).uL (q 2)).uL (q 3)).uL (q 4)).uL (q 5)).uL (q 6)
theorem MS.p19 (h : MS rt c kk A Q old zz a b w) (hc : 73 < c) (hr : 73 < rt) (y : Fk) : MS rt c kk A (pC Q 19 y) old y a b w :=
  ⟨gC_p, by rw [gC_n (by omega)]; exact h.2.1, by rw [qcnI (by decide)]; exact h.2.2.1, by rw [qcnI (by decide)]; exact h.2.2.2.1, by rw [qcnI (by omega)]; exact h.2.2.2.2.1, h.2.2.2.2.2.pC (fun _ => ms_19)⟩
theorem gC_uI {M : Mem} {x l j : Nat} {v : Int32} (h : x ≠ l) : gC (uI M l j v) x = gC M x := by
  unfold gC
  simp only [r_LI, r_I]
  simp [h]
theorem MS.u21 (h : MS rt c kk A Q old zz a b w) (hc : 73 < c) (hr : 73 < rt) (v : Int32) : MS rt c kk A (uI Q 21 kk v) old zz v b w :=
  ⟨by rw [gC_uI (by decide)]; exact h.1, by rw [gC_uI (by omega)]; exact h.2.1, mI_uI, by rw [mI_uI_ne (by decide)]; exact h.2.2.2.1, by rw [mI_uI_ne (by omega)]; exact h.2.2.2.2.1, h.2.2.2.2.2.uI (by simp [mSC])⟩
theorem MS.u22 (h : MS rt c kk A Q old zz a b w) (hc : 73 < c) (hr : 73 < rt) (v : Int32) : MS rt c kk A (uI Q 22 kk v) old zz a v w :=
  ⟨by rw [gC_uI (by decide)]; exact h.1, by rw [gC_uI (by omega)]; exact h.2.1, by rw [mI_uI_ne (by decide)]; exact h.2.2.1, mI_uI, by rw [mI_uI_ne (by omega)]; exact h.2.2.2.2.1, h.2.2.2.2.2.uI (by simp [mSC])⟩
theorem MS.u8 (h : MS rt c kk A Q old zz a b w) (hc : 73 < c) (hr : 73 < rt) (hrc : c ≠ rt) (v : Int32) : MS rt c kk A (uI Q rt 8 v) old zz a b v :=
  ⟨by rw [gC_uI (by omega)]; exact h.1, by rw [gC_uI hrc]; exact h.2.1, by rw [mI_uI_ne (by omega)]; exact h.2.2.1, by rw [mI_uI_ne (by omega)]; exact h.2.2.2.1, mI_uI, h.2.2.2.2.2.uI (by simp [mSC])⟩
theorem eq19 (h : MS rt c kk A Q old zz a b w) : Q = pC Q 19 zz := by rw [← h.1, pC_g]
theorem MS.l19 (h : MS rt c kk A Q old zz a b w) (hc : 73 < c) (hr : 73 < rt) (v : Int64) : MS rt c kk A (uL Q 19 1 v) old (zz.1, v, zz.2.2) a b w := by
  have e : uL Q 19 1 v = pC Q 19 (zz.1, v, zz.2.2) := by
    conv => lhs; rw [eq19 h]
    exact wc1
  rw [e]
  exact h.p19 hc hr _
theorem MS.h19 (h : MS rt c kk A Q old zz a b w) (hc : 73 < c) (hr : 73 < rt) (v : Int64) : MS rt c kk A (uL Q 19 2 v) old (zz.1, zz.2.1, v, zz.2.2.2) a b w := by
  have e : uL Q 19 2 v = pC Q 19 (zz.1, zz.2.1, v, zz.2.2.2) := by
    conv => lhs; rw [eq19 h]
    exact wc2
  rw [e]
  exact h.p19 hc hr _
theorem like_0 {M : Mem} {x y : Nat} : f_X1_isLike M x y = 0 ↔ ¬ gC M x = gC M y := by
  have e : f_X1_isLike M x y = if mI M x 0 = mI M y 0 then if mL M x 1 = mL M y 1 then if mL M x 2 = mL M y 2 then if mL M x 3 = mL M y 3 then if mL M x 4 = mL M y 4 then if mL M x 5 = mL M y 5 then if mL M x 6 = mL M y 6 then 1 else 0 else 0 else 0 else 0 else 0 else 0 else 0 := rfl
  rw [e]
  unfold gC
  by_cases h0 : mI M x 0 = mI M y 0
  · by_cases h1 : mL M x 1 = mL M y 1
    · by_cases h2 : mL M x 2 = mL M y 2
      · by_cases h3 : mL M x 3 = mL M y 3
        · by_cases h4 : mL M x 4 = mL M y 4
          · by_cases h5 : mL M x 5 = mL M y 5
            · by_cases h6 : mL M x 6 = mL M y 6
              · simp [h0, h1, h2, h3, h4, h5, h6]
              · simp [h0, h1, h2, h3, h4, h5, h6]
            · simp [h0, h1, h2, h3, h4, h5]
          · simp [h0, h1, h2, h3, h4]
        · simp [h0, h1, h2, h3]
      · simp [h0, h1, h2]
    · simp [h0, h1]
  · simp [h0]
/-- what the class's merge has done in the end -/
def MO (rt c kk : Nat) (A : Mem) (new : Fk) (ch a b w : Int32) (r : Int32 × Mem) : Prop := r.1 = ch ∧ gC r.2 c = new ∧ mI r.2 21 kk = a ∧ mI r.2 22 kk = b ∧ mI r.2 rt 8 = w ∧ ER (mSC rt c kk) A r.2
theorem mg154 {k : Int32} (hc : 73 < c) (hr : 73 < rt) (hrc : c ≠ rt) (ec : rt + 5 + 10 + ix k = c) (h : MS rt c kk A Q old zz a b w) : MO rt c kk A (keep zz old) (chg zz old) a b w (f_X2_merge_154 rt k Q) := by
  have c0 : mI Q 19 0 = zz.1 := by rw [← h.1]; rfl
  have fin : ∀ ch, MO rt c kk A old ch a b w (ch, Q) := fun ch => ⟨rfl, h.2.1, h.2.2.1, h.2.2.2.1, h.2.2.2.2.1, h.2.2.2.2.2⟩
  unfold f_X2_merge_154 f_X2_merge_c187 f_X2_merge_176 keep chg
  rw [ec, c0]
  by_cases e : zz.1 = 0
  · rw [if_pos e, if_pos e, if_pos e]
    by_cases q : zz = old
    · rw [if_neg (fun z => like_0.mp z (by rw [h.1, h.2.1]; exact q)), if_pos q, q]; exact fin 0
    · rw [if_pos (like_0.mpr (by rw [h.1, h.2.1]; exact q)), if_neg q, cp_C, h.1]
      exact ⟨rfl, gC_p, by rw [qcnI (by omega)]; exact h.2.2.1, by rw [qcnI (by omega)]; exact h.2.2.2.1, by rw [qcnI (by omega)]; exact h.2.2.2.2.1, h.2.2.2.2.2.pC (fun _ => ms_c)⟩
  · rw [if_neg e, if_neg e, if_neg e]; exact fin 0
theorem mg131 {k : Int32} {y : Int32} {z : Fk} {tl tm : Bool} (hc : 73 < c) (hr : 73 < rt) (hrc : c ≠ rt) (ec : rt + 5 + 10 + ix k = c) (hz : Gd z) (z0 : z.1 = 0) (ez : zz = mZ1 z tl tm) (hy : y = mInc tl tm) (h : MS rt c kk A Q old zz a b w) : MO rt c kk A (keep (mZ2 z tl tm) old) (chg (mZ2 z tl tm) old) a b (w + mInc tl tm) (f_X2_merge_131 rt k y Q) := by
  unfold f_X2_merge_131 f_X2_merge_c154
  have hw : mI Q rt 8 = w := h.2.2.2.2.1
  by_cases q : (tl || tm) = true
  · have hy0 : ¬ y ≤ 0 := by rw [hy]; cases tl <;> cases tm <;> first | decide | (exact absurd q (by decide))
    have e2 : mZ2 z tl tm = shF zz := by unfold mZ2; rw [if_pos q, ez]
    rw [if_neg hy0, e2, hw]
    have h8 := h.u8 hc hr hrc (w + y)
    have hs : f_X1_sharpen (uI Q rt 8 (w + y)) 19 = pC (uI Q rt 8 (w + y)) 19 (shF zz) := by
      conv => lhs; rw [eq19 h8]
      rw [shF_C (by rw [ez]; exact Pf_z1 hz z0)]
    rw [hs, ← hy]
    exact mg154 hc hr hrc ec (h8.p19 hc hr _)
  · have hb : tl = false ∧ tm = false := by cases tl <;> cases tm <;> first | exact ⟨rfl, rfl⟩ | (exact absurd rfl q)
    have hy0 : y ≤ 0 := by rw [hy, hb.1, hb.2]; decide
    have e1 : zz = z := by rw [ez, hb.1, hb.2]; unfold mZ1; simp
    have e2 : mZ2 z tl tm = z := by unfold mZ2; rw [if_neg q]
    have ei : w + mInc tl tm = w := by rw [hb.1, hb.2]; exact Int32.add_zero w
    rw [if_pos hy0, e2, ei]
    rw [e1] at h
    exact mg154 hc hr hrc ec h
theorem mg82 {k : Int32} {y : Int32} {z : Fk} {tl : Bool} (hc : 73 < c) (hr : 73 < rt) (hrc : c ≠ rt) (ec : rt + 5 + 10 + ix k = c) (ek : ix k = kk) (hz : Gd z) (z0 : z.1 = 0) (ez : zz = mZ1 z tl false) (hy : y = if tl = true then 1 else 0) (h : MS rt c kk A Q old zz a b w) : MO rt c kk A (keep (mZ2 z tl (mTm z old b)) old) (chg (mZ2 z tl (mTm z old b)) old) a (mRis z old b) (w + mInc tl (mTm z old b)) (f_X2_merge_82 rt k y Q) := by
  have c2 : mL Q 19 2 = z.2.2.1 := by
    have : mL Q 19 2 = zz.2.2.1 := by rw [← h.1]; rfl
    rw [this, ez]; rfl
  have o2 : mL Q c 2 = old.2.2.1 := by rw [← h.2.1]; rfl
  have hb : mI Q 22 kk = b := h.2.2.2.1
  unfold f_X2_merge_82
  rw [ec, ek, c2, o2, mI_uI, hb]
  by_cases q : z.2.2.1 ≤ old.2.2.1
  · have nq : ¬ old.2.2.1 < z.2.2.1 := Int64.not_lt.mpr q
    have et : mTm z old b = false := by unfold mTm; simp [nq]
    have er : mRis z old b = b := by unfold mRis; rw [if_neg nq]
    rw [if_pos q, et, er]
    exact mg131 hc hr hrc ec hz z0 ez (by rw [hy]; cases tl <;> rfl) h
  · have nq : old.2.2.1 < z.2.2.1 := Int64.not_le.mp q
    have er : mRis z old b = b + 1 := by unfold mRis; rw [if_pos nq]
    have h1 := h.u22 hc hr (b + 1)
    rw [if_neg q, er]
    by_cases q4 : b + 1 < 4
    · have et : mTm z old b = false := by unfold mTm; simp [q4]
      rw [if_pos q4, et]
      exact mg131 hc hr hrc ec hz z0 ez (by rw [hy]; cases tl <;> rfl) h1
    · have et : mTm z old b = true := by unfold mTm; simp [nq, q4]
      rw [if_neg q4, et]
      have h2 := h1.h19 hc hr 9223372036854775807
      exact mg131 hc hr hrc ec hz z0 (tl := tl) (tm := true) (by rw [ez]; rfl) (by rw [hy]; cases tl <;> rfl) h2
/-- MERGE, of the class -/
theorem mg_C {k : Int32} {x : Nat} {more : Fk} (hc : 73 < c) (hr : 73 < rt) (hrc : c ≠ rt) (ec : rt + 5 + 10 + ix k = c) (ek : ix k = kk) (ho : gC A c = old) (hm : gC A x = more) (gz : Gd (jn old more)) (ha : mI A 21 kk = a) (hb : mI A 22 kk = b) (hw : mI A rt 8 = w) :
    MO rt c kk A (mgF old (jn old more) a b) (mgC old (jn old more) a b) (mgL old (jn old more) a) (mgR old (jn old more) b) (w + mgI old (jn old more) a b) (f_X2_merge A rt k x) := by
  unfold f_X2_merge
  rw [ec, jn_C, ho, hm]
  have h0 : MS rt c kk A A old (gC A 19) a b w := ⟨rfl, ho, ha, hb, hw, ER.rf⟩
  have h1 := h0.p19 hc hr (jn old more)
  generalize jn old more = z at gz h1
  unfold f_X2_merge_c18 mgF mgC mgL mgR mgI
  have c0 : mI (pC A 19 z) 19 0 = z.1 := rc0
  have c1 : mL (pC A 19 z) 19 1 = z.2.1 := rc1
  have o1 : mL (pC A 19 z) c 1 = old.2.1 := by rw [qcnL (by omega), ← ho]; rfl
  have a1 : mI (pC A 19 z) 21 kk = a := h1.2.2.1
  rw [ec, ek, c0, c1, o1, mI_uI, a1]
  by_cases z0 : z.1 = 0
  · rw [if_pos z0, if_pos z0, if_pos z0, if_pos z0, if_pos z0, if_pos z0]
    have ezz : z = mZ1 z false false := by unfold mZ1; simp
    by_cases q : old.2.1 ≤ z.2.1
    · have nq : ¬ z.2.1 < old.2.1 := Int64.not_lt.mpr q
      have et : mTl z old a = false := by unfold mTl; simp [nq]
      have el : mLes z old a = a := by unfold mLes; rw [if_neg nq]
      rw [if_pos q, et, el]
      exact mg82 hc hr hrc ec ek gz z0 (tl := false) ezz rfl h1
    · have nq : z.2.1 < old.2.1 := Int64.not_le.mp q
      have el : mLes z old a = a + 1 := by unfold mLes; rw [if_pos nq]
      have h2 := h1.u21 hc hr (a + 1)
      rw [if_neg q, el]
      by_cases q4 : a + 1 < 4
      · have et : mTl z old a = false := by unfold mTl; simp [q4]
        rw [if_pos q4, et]
        exact mg82 hc hr hrc ec ek gz z0 (tl := false) ezz rfl h2
      · have et : mTl z old a = true := by unfold mTl; simp [nq, q4]
        rw [if_neg q4, et]
        have h3 := h2.l19 hc hr (-9223372036854775808)
        exact mg82 hc hr hrc ec ek gz z0 (tl := true) rfl (by decide) h3
  · rw [if_neg z0, if_neg z0, if_neg z0, if_neg z0, if_neg z0, if_neg z0]
    exact ⟨rfl, h1.2.1, h1.2.2.1, h1.2.2.2.1, by rw [h1.2.2.2.2.1]; exact (Int32.add_zero w).symm, h1.2.2.2.2.2⟩
end MG
