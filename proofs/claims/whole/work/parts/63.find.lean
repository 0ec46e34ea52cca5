/-! the reference's merge -/
def mSR (mm cN kk l b j : Nat) : Bool := scr b j || (decide (53 ≤ b) && decide (b ≤ 59) && decide (j = cN)) || (decide (b = 70) && decide (j = kk)) || (decide (b = 71) && decide (j = kk)) || (decide (b = 68) && decide (j = mm)) || (decide (b = 69) && decide (j = l))
def MR (mm cN kk l : Nat) (B Q : Mem) (old zz : Fk) (a b w wt : Int32) : Prop := gR Q 25 = old ∧ gR Q cN = zz ∧ mI Q 70 kk = a ∧ mI Q 71 kk = b ∧ mI Q 68 mm = w ∧ mI Q 69 l = wt ∧ ER (mSR mm cN kk l) B Q
theorem gR_uo {M : Mem} {f l j : Nat} {v : Int32} (h : l < 53 ∨ 59 < l) : gR (uI M l j v) f = gR M f := by
  unfold gR
  have h1 : ¬ 53 = l := by omega
  simp only [r_LI, r_I]
  simp [h1]
section MGR
variable {mm cN kk l : Nat} {B Q : Mem} {old zz : Fk} {a b w wt : Int32}
theorem mr_s {b j : Nat} (h : scr b j = true) : mSR mm cN kk l b j = true := by simp [mSR, h]
theorem mr_c {b : Nat} (h1 : 53 ≤ b) (h2 : b ≤ 59) : mSR mm cN kk l b cN = true := by simp [mSR, h1, h2]
theorem MR.u70 (h : MR mm cN kk l B Q old zz a b w wt) (v : Int32) : MR mm cN kk l B (uI Q 70 kk v) old zz v b w wt :=
  ⟨by rw [gR_uo (by decide)]; exact h.1, by rw [gR_uo (by decide)]; exact h.2.1, mI_uI, by rw [mI_uI_ne (by decide)]; exact h.2.2.2.1, by rw [mI_uI_ne (by decide)]; exact h.2.2.2.2.1, by rw [mI_uI_ne (by decide)]; exact h.2.2.2.2.2.1, h.2.2.2.2.2.2.uI (by simp [mSR])⟩
theorem MR.u71 (h : MR mm cN kk l B Q old zz a b w wt) (v : Int32) : MR mm cN kk l B (uI Q 71 kk v) old zz a v w wt :=
  ⟨by rw [gR_uo (by decide)]; exact h.1, by rw [gR_uo (by decide)]; exact h.2.1, by rw [mI_uI_ne (by decide)]; exact h.2.2.1, mI_uI, by rw [mI_uI_ne (by decide)]; exact h.2.2.2.2.1, by rw [mI_uI_ne (by decide)]; exact h.2.2.2.2.2.1, h.2.2.2.2.2.2.uI (by simp [mSR])⟩
theorem MR.u68 (h : MR mm cN kk l B Q old zz a b w wt) (v : Int32) : MR mm cN kk l B (uI Q 68 mm v) old zz a b v wt :=
  ⟨by rw [gR_uo (by decide)]; exact h.1, by rw [gR_uo (by decide)]; exact h.2.1, by rw [mI_uI_ne (by decide)]; exact h.2.2.1, by rw [mI_uI_ne (by decide)]; exact h.2.2.2.1, mI_uI, by rw [mI_uI_ne (by decide)]; exact h.2.2.2.2.2.1, h.2.2.2.2.2.2.uI (by simp [mSR])⟩
theorem MR.u69 (h : MR mm cN kk l B Q old zz a b w wt) (v : Int32) : MR mm cN kk l B (uI Q 69 l v) old zz a b w v :=
  ⟨by rw [gR_uo (by decide)]; exact h.1, by rw [gR_uo (by decide)]; exact h.2.1, by rw [mI_uI_ne (by decide)]; exact h.2.2.1, by rw [mI_uI_ne (by decide)]; exact h.2.2.2.1, by rw [mI_uI_ne (by decide)]; exact h.2.2.2.2.1, mI_uI, h.2.2.2.2.2.2.uI (by simp [mSR])⟩
theorem MR.pc (h : MR mm cN kk l B Q old zz a b w wt) (hc : 55 < cN) (y : Fk) : MR mm cN kk l B (pR Q cN y) old y a b w wt :=
  ⟨by rw [gR_n (by omega)]; exact h.1, gR_p, by rw [qdoI (by omega)]; exact h.2.2.1, by rw [qdoI (by omega)]; exact h.2.2.2.1, by rw [qdoI (by omega)]; exact h.2.2.2.2.1, by rw [qdoI (by omega)]; exact h.2.2.2.2.2.1, h.2.2.2.2.2.2.pR (fun _ h1 h2 => mr_c h1 h2)⟩
theorem MR.u7 (h : MR mm cN kk l B Q old zz a b w wt) (v : Int32) : MR mm cN kk l B (uI Q 52 7 v) old zz a b w wt :=
  ⟨by rw [gR_u]; exact h.1, by rw [gR_u]; exact h.2.1, by rw [mI_uI_ne (by decide)]; exact h.2.2.1, by rw [mI_uI_ne (by decide)]; exact h.2.2.2.1, by rw [mI_uI_ne (by decide)]; exact h.2.2.2.2.1, by rw [mI_uI_ne (by decide)]; exact h.2.2.2.2.2.1, h.2.2.2.2.2.2.uI (mr_s rfl)⟩
theorem eqc (h : MR mm cN kk l B Q old zz a b w wt) : Q = pR Q cN zz := by rw [← h.2.1, pR_g]
theorem MR.lo (h : MR mm cN kk l B Q old zz a b w wt) (hc : 55 < cN) (v : Int64) : MR mm cN kk l B (uL Q 54 cN v) old (zz.1, v, zz.2.2) a b w wt := by
  have e : uL Q 54 cN v = pR Q cN (zz.1, v, zz.2.2) := by
    conv => lhs; rw [eqc h]
    exact wr1
  rw [e]; exact h.pc hc _
theorem MR.hi (h : MR mm cN kk l B Q old zz a b w wt) (hc : 55 < cN) (v : Int64) : MR mm cN kk l B (uL Q 55 cN v) old (zz.1, zz.2.1, v, zz.2.2.2) a b w wt := by
  have e : uL Q 55 cN v = pR Q cN (zz.1, zz.2.1, v, zz.2.2.2) := by
    conv => lhs; rw [eqc h]
    exact wr2
  rw [e]; exact h.pc hc _
def b32 (t : Bool) : Int32 := if t = true then 1 else 0
theorem bf : b32 false = 0 := rfl
theorem bt : b32 true = 1 := rfl
theorem b32_0 {t : Bool} : b32 t = 0 ↔ t = false := by cases t <;> decide
/-- the ends that are let go, then sharpening -/
theorem wd182 {f : Int32} {z : Fk} {tl tm : Bool} (hc : 55 < cN) (ef : ix f = cN) (hz : Gd z) (z0 : z.1 = 0) {v : Int64} (hv : v = if tl = true then -9223372036854775808 else z.2.1) (h : MR mm cN kk l B Q old z a b w wt) : MR mm cN kk l B (f_X7_widen_182 f (b32 tl) (b32 tm) v Q) old (toR (mZ2 z tl tm)) a b w wt := by
  have h1 := h.lo hc v
  have e2 : mL (uL Q 54 (ix f) v) 55 (ix f) = z.2.2.1 := by
    rw [ef, mL_uL_ne (by decide), ← h.2.1]; rfl
  have fin : ∀ u : Int64, u = (if tm = true then 9223372036854775807 else z.2.2.1) → MR mm cN kk l B (f_X7_widen_205 f (b32 tl) (b32 tm) u (uL Q 54 (ix f) v)) old (toR (mZ2 z tl tm)) a b w wt := by
    intro u hu
    have h2 := h1.hi hc u
    have ez : (z.1, v, u, z.2.2.2) = mZ1 z tl tm := by rw [hv, hu]; rfl
    have h2' : MR mm cN kk l B (uL (uL Q 54 cN v) 55 cN u) old (mZ1 z tl tm) a b w wt := by rw [← ez]; exact h2
    unfold f_X7_widen_205 f_X7_widen_216 f_X7_widen_221 f_X7_widen_c221
    rw [ef]
    have hs : (tl || tm) = true → MR mm cN kk l B (f_X7_sharpen (uL (uL Q 54 cN v) 55 cN u) f) old (toR (mZ2 z tl tm)) a b w wt := by
      intro q
      have hp := Pf_z1 (tl := tl) (tm := tm) hz z0
      obtain ⟨i, hi⟩ := shF_R (M := uL (uL Q 54 cN v) 55 cN u) (t := f) hp
      have e3 : f_X7_sharpen (uL (uL Q 54 cN v) 55 cN u) f = uI (pR (uL (uL Q 54 cN v) 55 cN u) cN (toR (mZ2 z tl tm))) 52 7 i := by
        conv => lhs; rw [eqc h2']
        rw [ef] at hi
        rw [hi]
        unfold mZ2
        rw [if_pos q]
      rw [e3]
      exact (h2'.pc hc _).u7 i
    by_cases q1 : b32 tl = 0
    · rw [if_pos q1]
      by_cases q2 : b32 tm = 0
      · rw [if_pos q2]
        have t1 := b32_0.mp q1
        have t2 := b32_0.mp q2
        have e4 : toR (mZ2 z tl tm) = mZ1 z tl tm := by
          rw [t1, t2]
          unfold mZ2 mZ1
          rw [if_neg (by decide), toR_eq z0]
          simp
        rw [e4]
        exact h2'
      · rw [if_neg q2]
        exact hs (by cases tl <;> cases tm <;> first | rfl | (exact absurd rfl q2))
    · rw [if_neg q1]
      exact hs (by cases tl <;> cases tm <;> first | rfl | (exact absurd rfl q1))
  unfold f_X7_widen_182
  rw [e2]
  by_cases q2 : b32 tm = 0
  · rw [if_pos q2]; exact fin _ (by rw [b32_0.mp q2, if_neg (by decide)])
  · rw [if_neg q2]
    refine fin _ ?_
    cases tm
    · exact absurd rfl q2
    · rfl
theorem wd128 {m f : Int32} {z : Fk} {tl tm : Bool} (hc : 55 < cN) (ef : ix f = cN) (em : ix m = mm) (hz : Gd z) (z0 : z.1 = 0) (h : MR mm cN kk l B Q old z a b w wt) : MR mm cN kk l B (f_X7_widen_128 m f (b32 tl) (b32 tm) Q) old (toR (mZ2 z tl tm)) a b (w + mInc tl tm) wt := by
  have hw : mI Q 68 mm = w := h.2.2.2.2.1
  have key : ∀ x y : Int32, x = b32 tl → y = b32 tm → MR mm cN kk l B (f_X7_widen_157 m f (b32 tl) (b32 tm) Q x y Q) old (toR (mZ2 z tl tm)) a b (w + mInc tl tm) wt := by
    intro x y hx hy
    have h1 := h.u68 (w + (x + y))
    have e1 : mL (uI Q 68 mm (w + (x + y))) 54 cN = z.2.1 := by rw [mL_uI, ← h.2.1]; rfl
    have ei : w + (x + y) = w + mInc tl tm := by rw [hx, hy]; rfl
    unfold f_X7_widen_157
    rw [em, hw, ef, e1]
    rw [ei] at h1 ⊢
    by_cases q : b32 tl = 0
    · rw [if_pos q]
      exact wd182 hc ef hz z0 (by rw [b32_0.mp q, if_neg (by decide)]) h1
    · rw [if_neg q]
      refine wd182 hc ef hz z0 ?_ h1
      cases tl
      · exact absurd rfl q
      · rfl
  unfold f_X7_widen_128 f_X7_widen_147
  by_cases q1 : b32 tl = 0
  · rw [if_pos q1]
    by_cases q2 : b32 tm = 0
    · rw [if_pos q2]; exact key 0 0 q1.symm q2.symm
    · rw [if_neg q2]
      refine key 0 1 q1.symm ?_
      cases tm
      · exact absurd rfl q2
      · rfl
  · rw [if_neg q1]
    have e1 : (1 : Int32) = b32 tl := by
      cases tl
      · exact absurd rfl q1
      · rfl
    by_cases q2 : b32 tm = 0
    · rw [if_pos q2]; exact key 1 0 e1 q2.symm
    · rw [if_neg q2]
      refine key 1 1 e1 ?_
      cases tm
      · exact absurd rfl q2
      · rfl
theorem le3 {x : Int32} : x ≤ 3 ↔ x < 4 := by
  rw [Int32.le_iff_toInt_le, Int32.lt_iff_toInt_lt]
  show x.toInt ≤ 3 ↔ x.toInt < 4
  omega
/-- WIDEN -/
theorem wd_R {m k f : Int32} {z : Fk} (hc : 55 < cN) (ef : ix f = cN) (em : ix m = mm) (ek : ix k = kk) (hz : Gd z) (z0 : z.1 = 0) (h : MR mm cN kk l B Q old z a b w wt) :
    MR mm cN kk l B (f_X7_widen Q m k f) old (toR (mZ2 z (mTl z old a) (mTm z old b))) (mLes z old a) (mRis z old b) (w + mInc (mTl z old a) (mTm z old b)) wt := by
  have c1 : mL Q 54 (ix f) = z.2.1 := by rw [ef, ← h.2.1]; rfl
  have c2 : mL Q 55 (ix f) = z.2.2.1 := by rw [ef, ← h.2.1]; rfl
  have o1 : mL Q 54 (ix 25) = old.2.1 := by rw [← h.1]; rfl
  have o2 : mL Q 55 (ix 25) = old.2.2.1 := by rw [← h.1]; rfl
  have ha : mI Q 70 kk = a := h.2.2.1
  have hb : mI Q 71 kk = b := h.2.2.2.1
  -- the second count, and whether the upper end is let go
  have s106 : ∀ (Q' : Mem) (a' b' : Int32) (tl up : Bool), MR mm cN kk l B Q' old z a' b' w wt → MR mm cN kk l B (f_X7_widen_106 m k f (b32 up) (b32 tl) Q') old (toR (mZ2 z tl (up && !decide (b' < 4)))) a' b' (w + mInc tl (up && !decide (b' < 4))) wt := by
    intro Q' a' b' tl up h'
    have hb' : mI Q' 71 kk = b' := h'.2.2.2.1
    unfold f_X7_widen_106 f_X7_widen_127
    rw [ek, hb']
    have n1 : ¬ (1 : Int32) = 0 := by decide
    cases up
    · rw [bf, if_pos rfl, ← bf]
      exact wd128 (tm := false) hc ef em hz z0 h'
    · rw [bt, if_neg n1, ← bf, ← bt]
      by_cases q : b' < 4
      · have e : (true && !decide (b' < 4)) = false := by simp [q]
        rw [if_pos (le3.mpr q), e]
        exact wd128 (tm := false) hc ef em hz z0 h'
      · have e : (true && !decide (b' < 4)) = true := by simp [q]
        rw [if_neg (fun y => q (le3.mp y)), e]
        exact wd128 (tm := true) hc ef em hz z0 h'
  have s84 : ∀ (Q1 : Mem) (dn up : Bool) (a' : Int32), MR mm cN kk l B Q1 old z a' b w wt → MR mm cN kk l B (f_X7_widen_84 m k f (b32 dn) (b32 up) Q (b32 dn) Q (b32 up) Q1) old (toR (mZ2 z (dn && !decide (a' < 4)) (up && !decide (b + b32 up < 4)))) a' (b + b32 up) (w + mInc (dn && !decide (a' < 4)) (up && !decide (b + b32 up < 4))) wt := by
    intro Q1 dn up a' h1
    unfold f_X7_widen_84 f_X7_widen_105
    rw [ek, mI_uI_ne (show (71 : Nat) ≠ 70 by decide), hb]
    have h2 := h1.u71 (b + b32 up)
    have ha2 : mI (uI Q1 71 kk (b + b32 up)) 70 kk = a' := h2.2.2.1
    rw [ha2]
    have n1 : ¬ (1 : Int32) = 0 := by decide
    cases dn
    · rw [bf, if_pos rfl, ← bf]
      exact s106 _ _ _ false up h2
    · rw [bt, if_neg n1, ← bf, ← bt]
      by_cases q : a' < 4
      · have e : (true && !decide (a' < 4)) = false := by simp [q]
        rw [if_pos (le3.mpr q), e]
        exact s106 _ _ _ false up h2
      · have e : (true && !decide (a' < 4)) = true := by simp [q]
        rw [if_neg (fun y => q (le3.mp y)), e]
        exact s106 _ _ _ true up h2
  have s46 : ∀ (dn up : Bool), dn = decide (z.2.1 < old.2.1) → up = decide (old.2.2.1 < z.2.2.1) → MR mm cN kk l B (f_X7_widen_46 m k f (b32 dn) (b32 up) Q) old (toR (mZ2 z (mTl z old a) (mTm z old b))) (mLes z old a) (mRis z old b) (w + mInc (mTl z old a) (mTm z old b)) wt := by
    intro dn up hd hu
    have h1 : MR mm cN kk l B (uI Q 70 kk (a + b32 dn)) old z (a + b32 dn) b w wt := h.u70 (a + b32 dn)
    have e65 : f_X7_widen_46 m k f (b32 dn) (b32 up) Q = f_X7_widen_84 m k f (b32 dn) (b32 up) Q (b32 dn) Q (b32 up) (uI Q 70 kk (a + b32 dn)) := by
      unfold f_X7_widen_46 f_X7_widen_65
      rw [ek, ha]
      have n1 : ¬ (1 : Int32) = 0 := by decide
      cases dn
      · rw [bf, if_pos rfl]
        cases up
        · rw [bf, if_pos rfl]
        · rw [bt, if_neg n1]
      · rw [bt, if_neg n1]
        cases up
        · rw [bf, if_pos rfl]
        · rw [bt, if_neg n1]
    rw [e65]
    have t1 : (dn && !decide (a + b32 dn < 4)) = mTl z old a := by
      unfold mTl
      rw [← hd]
      cases dn
      · rw [Bool.false_and, Bool.false_and]
      · rw [bt]
    have t2 : (up && !decide (b + b32 up < 4)) = mTm z old b := by
      unfold mTm
      rw [← hu]
      cases up
      · rw [Bool.false_and, Bool.false_and]
      · rw [bt]
    have t3 : a + b32 dn = mLes z old a := by
      unfold mLes
      by_cases q : z.2.1 < old.2.1
      · have hd' : dn = true := by rw [hd]; simp [q]
        rw [if_pos q, hd', bt]
      · have hd' : dn = false := by rw [hd]; simp [q]
        rw [if_neg q, hd', bf, Int32.add_zero]
    have t4 : b + b32 up = mRis z old b := by
      unfold mRis
      by_cases q : old.2.2.1 < z.2.2.1
      · have hu' : up = true := by rw [hu]; simp [q]
        rw [if_pos q, hu', bt]
      · have hu' : up = false := by rw [hu]; simp [q]
        rw [if_neg q, hu', bf, Int32.add_zero]
    rw [← t1, ← t2, ← t3, ← t4]
    exact s84 _ dn up (a + b32 dn) h1
  unfold f_X7_widen f_X7_widen_22
  rw [c1, c2, o1, o2]
  by_cases q1 : old.2.1 ≤ z.2.1
  · rw [if_pos q1]
    have d1 : false = decide (z.2.1 < old.2.1) := by simp [Int64.not_lt.mpr q1]
    by_cases q2 : z.2.2.1 ≤ old.2.2.1
    · rw [if_pos q2, ← bf]; exact s46 false false d1 (by simp [Int64.not_lt.mpr q2])
    · rw [if_neg q2, ← bf, ← bt]; exact s46 false true d1 (by simp [Int64.not_le.mp q2])
  · rw [if_neg q1]
    have d1 : true = decide (z.2.1 < old.2.1) := by simp [Int64.not_le.mp q1]
    by_cases q2 : z.2.2.1 ≤ old.2.2.1
    · rw [if_pos q2, ← bf, ← bt]; exact s46 true false d1 (by simp [Int64.not_lt.mpr q2])
    · rw [if_neg q2, ← bt]; exact s46 true true d1 (by simp [Int64.not_le.mp q2])
theorem alike_0 {M : Mem} {f g : Int32} : f_X7_alike M f g = 0 ↔ ¬ gR M (ix f) = gR M (ix g) := by
  have e : f_X7_alike M f g = if mI M 53 (ix f) = mI M 53 (ix g) then if mL M 54 (ix f) = mL M 54 (ix g) then if mL M 55 (ix f) = mL M 55 (ix g) then if mL M 56 (ix f) = mL M 56 (ix g) then if mL M 57 (ix f) = mL M 57 (ix g) then if mL M 58 (ix f) = mL M 58 (ix g) then if mL M 59 (ix f) = mL M 59 (ix g) then 1 else 0 else 0 else 0 else 0 else 0 else 0 else 0 := rfl
  rw [e]
  unfold gR
  by_cases h0 : mI M 53 (ix f) = mI M 53 (ix g)
  · by_cases h1 : mL M 54 (ix f) = mL M 54 (ix g)
    · by_cases h2 : mL M 55 (ix f) = mL M 55 (ix g)
      · by_cases h3 : mL M 56 (ix f) = mL M 56 (ix g)
        · by_cases h4 : mL M 57 (ix f) = mL M 57 (ix g)
          · by_cases h5 : mL M 58 (ix f) = mL M 58 (ix g)
            · by_cases h6 : mL M 59 (ix f) = mL M 59 (ix g)
              · simp [h0, h1, h2, h3, h4, h5, h6]
              · simp [h0, h1, h2, h3, h4, h5, h6]
            · simp [h0, h1, h2, h3, h4, h5]
          · simp [h0, h1, h2, h3, h4]
        · simp [h0, h1, h2, h3]
      · simp [h0, h1, h2]
    · simp [h0, h1]
  · simp [h0]
def orW (wt ch : Int32) : Int32 := if wt = 0 then ch else 1
/-- the reference's step at a place of a LINE that was reached -/
theorem mg_R {m ln : Int32} {j : Nat} {R : Nat → Mem → Mem} {more : Fk} (hc : 111 < cN) (ef : ix (f_X7_cell m ln (nI j)) = cN) (em : ix m = mm) (el : ix ln = l) (ek : ix ((8 * ln) + (nI j)) = kk) (e48 : ix (48 + nI j) < 56 ∧ 47 < ix (48 + nI j)) (go : Gd old) (gm : Gd more) (o0 : old.1 = 0) (ho : gR B cN = old) (hm : gR B (ix (48 + nI j)) = toR more) (ha : mI B 70 kk = a) (hb : mI B 71 kk = b) (hw : mI B 68 mm = w) (ht : mI B 69 l = wt) :
    ∃ Q', f_X7_goTo_c120 m ln j R (f_X7_copy B 25 (f_X7_cell m ln (nI j))) = R (j + 1) Q' ∧ MR mm cN kk l B Q' old (mgF old (jn old more) a b) (mgL old (jn old more) a) (mgR old (jn old more) b) (w + mgI old (jn old more) a b) (orW wt (mgC old (jn old more) a b)) := by
  have gz := Gd_jn go gm
  have h0 : MR mm cN kk l B (pR B 25 old) old old a b w wt := ⟨gR_p, by rw [gR_n (by omega)]; exact ho, by rw [qdoI (by decide)]; exact ha, by rw [qdoI (by decide)]; exact hb, by rw [qdoI (by decide)]; exact hw, by rw [qdoI (by decide)]; exact ht, ER.rf.pR (fun b h1 h2 => mr_s (scr_f h1 h2 (by decide) (by decide)))⟩
  have hcp : f_X7_copy B 25 (f_X7_cell m ln (nI j)) = pR B 25 old := by rw [cp_R, ef, ho]; rfl
  obtain ⟨i, hj⟩ := jn_R (M := pR B 25 old) (a := 25) (b := 48 + nI j) (t := f_X7_cell m ln (nI j)) go gm (by rw [show ix 25 = 25 from rfl, gR_p, toR_eq o0]) (by rw [gR_n (by omega)]; exact hm)
  rw [ef] at hj
  have h1 := (h0.pc (by omega) (toR (jn old more))).u7 i
  unfold f_X7_goTo_c120
  rw [hcp, hj]
  generalize uI (pR (pR B 25 old) cN (toR (jn old more))) 52 7 i = Q1 at h1
  generalize jn old more = z at gz h1
  have c0 : mI Q1 53 cN = (toR z).1 := by rw [← h1.2.1]; rfl
  -- the end: waits, and on
  have s175 : ∀ (Q' : Mem) (n : Fk) (a' b' w' : Int32), n.1 = 0 → MR mm cN kk l B Q' old n a' b' w' wt → ∃ Q'', f_X7_goTo_175 m ln j R Q' = R (j + 1) Q'' ∧ MR mm cN kk l B Q'' old n a' b' w' (orW wt (if n = old then 0 else 1)) := by
    intro Q' n a' b' w' n0 h'
    have ht' : mI Q' 69 l = wt := h'.2.2.2.2.2.1
    unfold f_X7_goTo_175 f_X7_goTo_200 f_X7_goTo_205 f_X7_goTo_206 orW
    rw [el, ht']
    by_cases q : wt = 0
    · rw [if_pos q, if_pos q]
      by_cases q2 : n = old
      · rw [if_neg (fun y => alike_0.mp y (by rw [ef, show ix 25 = 25 from rfl, h'.1, h'.2.1, q2])), if_pos q2]
        exact ⟨_, rfl, h'.u69 0⟩
      · rw [if_pos (alike_0.mpr (by rw [ef, show ix 25 = 25 from rfl, h'.1, h'.2.1]; exact fun y => q2 y.symm)), if_neg q2]
        exact ⟨_, rfl, h'.u69 1⟩
    · rw [if_neg q, if_neg q]
      exact ⟨_, rfl, h'.u69 1⟩
  have s157 : ∀ (Q' : Mem) (y : Fk) (a' b' w' : Int32), Gd y → MR mm cN kk l B Q' old (toR y) a' b' w' wt → ∃ Q'', f_X7_goTo_157 m ln j R Q' = R (j + 1) Q'' ∧ MR mm cN kk l B Q'' old (keep y old) a' b' w' (orW wt (chg y old)) := by
    intro Q' y a' b' w' gy h'
    have c0' : mI Q' 53 cN = (toR y).1 := by rw [← h'.2.1]; rfl
    unfold f_X7_goTo_157 f_X7_goTo_c175 keep chg
    rw [ef, c0']
    by_cases q : y.1 = 0
    · rw [if_pos (toR_1.mpr q), if_pos q, if_pos q]
      rw [toR_eq q] at h'
      exact s175 _ _ _ _ _ q h'
    · rw [if_neg (fun x => q (toR_1.mp x)), if_neg q, if_neg q, cp_R, ef, show ix 25 = 25 from rfl, h'.1]
      have h2 := s175 _ _ _ _ _ o0 (h'.pc (by omega) old)
      rw [if_pos rfl] at h2
      exact h2
  unfold f_X7_goTo_c133 f_X7_goTo_c157 mgF mgC mgL mgR mgI
  rw [ef, c0]
  by_cases z0 : z.1 = 0
  · rw [if_pos (toR_1.mpr z0), if_pos z0, if_pos z0, if_pos z0, if_pos z0, if_pos z0]
    rw [toR_eq z0] at h1
    have h2 := wd_R (m := m) (k := (8 * ln) + (nI j)) (f := f_X7_cell m ln (nI j)) (by omega) ef em ek gz z0 h1
    exact s157 _ _ _ _ _ (Gd_z2 gz z0) h2
  · rw [if_neg (fun x => z0 (toR_1.mp x)), if_neg z0, if_neg z0, if_neg z0, if_neg z0, if_neg z0]
    have h2 := s157 _ _ _ _ _ gz h1
    have ek2 : keep z old = old := by unfold keep; rw [if_neg z0]
    have ec2 : chg z old = 0 := by unfold chg; rw [if_neg z0]
    rw [ek2, ec2] at h2
    rw [show w + 0 = w from Int32.add_zero w]
    exact h2
end MGR
