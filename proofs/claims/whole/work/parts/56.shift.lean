def sfL (op : Int32) (x : Fk) (kb vb : Int64) : Nat → Nat → Fk → Fk
  | 0, _, z => z
  | n + 1, j, z => if (Int32.toInt64 (nI j) &&& (kb &&& 63)) = (vb &&& 63) then sfL op x kb vb n (j + 1) (jn z (mvP op x (nI j))) else sfL op x kb vb n (j + 1) z
theorem Gd_sf {op : Int32} {x : Fk} {kb vb : Int64} (hx : Gd x) (x0 : x.1 = 0) : ∀ (n j : Nat) (z : Fk), j + n = 64 → Gd z → Gd (sfL op x kb vb n j z) := by
  intro n
  induction n with
  | zero => intro j z _ h; exact h
  | succ n ih =>
    intro j z hj h
    unfold sfL
    split
    · exact ih _ _ (by omega) (Gd_jn h (Gd_mv (by omega) hx x0))
    · exact ih _ _ (by omega) h
/-- of the class: all stays but two facts -/
def On2 (t u : Nat) (M N : Mem) : Prop := N.1 = M.1 ∧ N.2.1 = M.2.1 ∧ ∀ b k, b ≠ t → b ≠ u → mI N b k = mI M b k ∧ mL N b k = mL M b k
theorem On2.rf {t u : Nat} {M : Mem} : On2 t u M M := ⟨rfl, rfl, fun _ _ _ _ => ⟨rfl, rfl⟩⟩
theorem On2.tr {t u : Nat} {M N O : Mem} (h : On2 t u M N) (h2 : On2 t u N O) : On2 t u M O := ⟨h2.1.trans h.1, h2.2.1.trans h.2.1, fun b k q r => ⟨(h2.2.2 b k q r).1.trans (h.2.2 b k q r).1, (h2.2.2 b k q r).2.trans (h.2.2 b k q r).2⟩⟩
theorem On2.pt {t u : Nat} {M N : Mem} {x : Fk} (h : On2 t u M N) : On2 t u M (pC N t x) := ⟨h.1, h.2.1, fun b k q r => by rw [qcnI q, qcnL q]; exact h.2.2 b k q r⟩
theorem On2.pu {t u : Nat} {M N : Mem} {x : Fk} (h : On2 t u M N) : On2 t u M (pC N u x) := ⟨h.1, h.2.1, fun b k q r => by rw [qcnI r, qcnL r]; exact h.2.2 b k q r⟩
theorem On2.g {t u b : Nat} {M N : Mem} (h : On2 t u M N) (h1 : b ≠ t) (h2 : b ≠ u) : gC N b = gC M b := by
  unfold gC
  rw [(h.2.2 b 0 h1 h2).1, (h.2.2 b 1 h1 h2).2, (h.2.2 b 2 h1 h2).2, (h.2.2 b 3 h1 h2).2, (h.2.2 b 4 h1 h2).2, (h.2.2 b 5 h1 h2).2, (h.2.2 b 6 h1 h2).2]
theorem sf_C {M : Mem} {a0 a b t : Nat} {op : Int32} {x : Fk} (ha : a ≠ t) (ha2 : a ≠ a0 + 2) (ht : t ≠ a0 + 2) (hx : Gd x) (x0 : x.1 = 0) : ∀ (q n j : Nat) (Q : Mem), j + q = 64 → q < n → gC Q a = x →
    gC (f_X0_shifted_28 a0 op a b t M n j Q) t = sfL op x (mL M b 3) (mL M b 4) q j (gC Q t) ∧ On2 t (a0 + 2) Q (f_X0_shifted_28 a0 op a b t M n j Q) := by
  intro q
  induction q with
  | zero =>
    intro n j Q hj hn hq
    obtain ⟨n, rfl⟩ : ∃ z, n = z + 1 := ⟨n - 1, by omega⟩
    rw [f_X0_shifted_28, if_pos (show (64 : Int32) ≤ nI j from nI_le (a := 64) (by omega) (by omega))]
    exact ⟨rfl, On2.rf⟩
  | succ q ih =>
    intro n j Q hj hn hq
    obtain ⟨n, rfl⟩ : ∃ z, n = z + 1 := ⟨n - 1, by omega⟩
    have hj' : j < 64 := by omega
    rw [f_X0_shifted_28, if_neg (show ¬ (64 : Int32) ≤ nI j from nI_ge (b := 64) hj' (by decide))]
    unfold sfL f_X0_shifted_c55 f_X0_shifted_c66 f_X0_shifted_66
    by_cases e : (Int32.toInt64 (nI j) &&& (mL M b 3 &&& 63)) = (mL M b 4 &&& 63)
    · rw [if_pos e, if_pos e, mv_C hj' ha2 (by rw [hq]; exact hx) (by rw [hq]; exact x0), hq, jn_C, gC_p, gC_n ht]
      obtain ⟨r1, r2⟩ := ih n (j + 1) (pC (pC Q (a0 + 2) (mvP op x (nI j))) t (jn (gC Q t) (mvP op x (nI j)))) (by omega) (by omega) (by rw [gC_n ha, gC_n ha2, hq])
      exact ⟨by rw [r1, gC_p], (On2.rf.pu.pt).tr r2⟩
    · rw [if_neg e, if_neg e]
      exact ih n (j + 1) Q (by omega) (by omega) hq
/-- the reference's loop: D is cell 19, E cell 20, OLD cell 25 -/
theorem sf_R {op : Int32} {x y : Fk} (hop : op = 6 ∨ op = 7 ∨ op = 8) (hx : Gd x) (x0 : x.1 = 0) : ∀ (q n j : Nat) (N : Mem) (z : Fk), j + q = 64 → q < n → Gd z → gR N 16 = x → gR N 17 = y → gR N 19 = toR z →
    gR (f_X7_shift_73 op n j N) 18 = toR (sfL op x y.2.2.2.1 y.2.2.2.2.1 q j z) ∧ Sc N (f_X7_shift_73 op n j N) ∧ mI (f_X7_shift_73 op n j N) 52 8 = mI N 52 8 := by
  intro q
  induction q with
  | zero =>
    intro n j N z hj hn hz h16 h17 h19
    obtain ⟨n, rfl⟩ : ∃ w, n = w + 1 := ⟨n - 1, by omega⟩
    rw [f_X7_shift_73, if_pos (show (64 : Int32) ≤ nI j from nI_le (a := 64) (by omega) (by omega))]
    unfold f_X7_shift_c146
    rw [cp_R, ix18, show ix 19 = 19 from rfl, h19]
    exact ⟨gR_p, Sc.rf.pR (by decide) (by decide), qdoI (by omega)⟩
  | succ q ih =>
    intro n j N z hj hn hz h16 h17 h19
    obtain ⟨n, rfl⟩ : ∃ w, n = w + 1 := ⟨n - 1, by omega⟩
    have hj' : j < 64 := by omega
    have k2 : mL N 56 (ix 17) = y.2.2.2.1 := by rw [← h17]; rfl
    have v2 : mL N 57 (ix 17) = y.2.2.2.2.1 := by rw [← h17]; rfl
    have as : ((Int32.toInt64 (nI j)) &&& y.2.2.2.1) &&& 63 = (Int32.toInt64 (nI j) &&& (y.2.2.2.1 &&& 63)) := tb_ext fun p hp => by simp only [tb_and, Bool.and_assoc]
    rw [f_X7_shift_73, if_neg (show ¬ (64 : Int32) ≤ nI j from nI_ge (b := 64) hj' (by decide)), k2, v2, as]
    unfold sfL f_X7_shift_c114 f_X7_shift_c124 f_X7_shift_c132 f_X7_shift_132
    by_cases e : (Int32.toInt64 (nI j) &&& (y.2.2.2.1 &&& 63)) = (y.2.2.2.2.1 &&& 63)
    · rw [if_pos e, if_pos e]
      obtain ⟨i1, hm⟩ := mv_R (N := N) (op := op) hop hj' hx x0 h16
      have hg := Gd_mv (op := op) hj' hx x0
      rw [hm]
      obtain ⟨i2, hjn⟩ := jn_R (M := uI (pR N 20 (toR (mvP op x (nI j)))) 52 7 i1) (a := 19) (b := 20) (t := 25) hz hg (by rw [gR_u, show ix 19 = 19 from rfl, gR_n (by decide), h19]) (by rw [gR_u, show ix 20 = 20 from rfl, gR_p])
      rw [hjn, cp_R, gR_u, show ix 25 = 25 from rfl, gR_p, show ix 19 = 19 from rfl]
      have hP : ∀ f, f ≠ 19 → f ≠ 25 → f ≠ 20 → gR (pR (uI (pR (uI (pR N 20 (toR (mvP op x (nI j)))) 52 7 i1) 25 (toR (jn z (mvP op x (nI j))))) 52 7 i2) 19 (toR (jn z (mvP op x (nI j))))) f = gR N f := fun f h1 h2 h3 => by
        rw [gR_n h1, gR_u, gR_n h2, gR_u, gR_n h3]
      have hS : Sc N (pR (uI (pR (uI (pR N 20 (toR (mvP op x (nI j)))) 52 7 i1) 25 (toR (jn z (mvP op x (nI j))))) 52 7 i2) 19 (toR (jn z (mvP op x (nI j))))) := ((((Sc.rf.pR (by decide) (by decide)).uI rfl).pR (by decide) (by decide)).uI rfl).pR (by decide) (by decide)
      obtain ⟨r1, r2, r3⟩ := ih n (j + 1) (pR (uI (pR (uI (pR N 20 (toR (mvP op x (nI j)))) 52 7 i1) 25 (toR (jn z (mvP op x (nI j))))) 52 7 i2) 19 (toR (jn z (mvP op x (nI j))))) (jn z (mvP op x (nI j))) (by omega) (by omega) (Gd_jn hz hg) (by rw [hP 16 (by decide) (by decide) (by decide), h16]) (by rw [hP 17 (by decide) (by decide) (by decide), h17]) gR_p
      refine ⟨r1, hS.tr r2, r3.trans ?_⟩
      rw [qdoI (by omega), mI_uI_nk (by decide), qdoI (by omega), mI_uI_nk (by decide), qdoI (by omega)]
    · rw [if_neg e, if_neg e]
      exact ih n (j + 1) N z (by omega) (by omega) hz h16 h17 h19
theorem sn_R {op : Int32} {y : Fk} : ∀ (q n j : Nat) (c : Int32) (N : Mem), j + q = 64 → q < n → gR N 17 = y → f_X7_shift_4 op n c j N = if sfN (y.2.2.2.1 &&& 63) (y.2.2.2.2.1 &&& 63) q j c ≤ 8 then f_X7_shift_c71 op (f_X7_nothing N 19) else uI N 52 8 1 := by
  intro q
  induction q with
  | zero =>
    intro n j c N hj hn h17
    obtain ⟨n, rfl⟩ : ∃ w, n = w + 1 := ⟨n - 1, by omega⟩
    rw [f_X7_shift_4, if_pos (show (64 : Int32) ≤ nI j from nI_le (a := 64) (by omega) (by omega))]
    rfl
  | succ q ih =>
    intro n j c N hj hn h17
    obtain ⟨n, rfl⟩ : ∃ w, n = w + 1 := ⟨n - 1, by omega⟩
    have hj' : j < 64 := by omega
    have k2 : mL N 56 (ix 17) = y.2.2.2.1 := by rw [← h17]; rfl
    have v2 : mL N 57 (ix 17) = y.2.2.2.2.1 := by rw [← h17]; rfl
    have as : ((Int32.toInt64 (nI j)) &&& y.2.2.2.1) &&& 63 = (Int32.toInt64 (nI j) &&& (y.2.2.2.1 &&& 63)) := tb_ext fun p hp => by simp only [tb_and, Bool.and_assoc]
    rw [f_X7_shift_4, if_neg (show ¬ (64 : Int32) ≤ nI j from nI_ge (b := 64) hj' (by decide)), k2, v2, as]
    unfold sfN f_X7_shift_45
    by_cases e : (Int32.toInt64 (nI j) &&& (y.2.2.2.1 &&& 63)) = (y.2.2.2.2.1 &&& 63)
    · rw [if_pos e, if_pos e]; exact ih n (j + 1) _ N (by omega) (by omega) h17
    · rw [if_neg e, if_neg e]; exact ih n (j + 1) _ N (by omega) (by omega) h17
/-! ACTS -/
def guF (op : Int32) (x y : Fk) : Int32 :=
  if op = 6 ∨ op = 7 ∨ op = 8 then (if ishl 1 (f_J13_bitCount_95d88 ((y.2.2.2.1 ^^^ (-1)) &&& 63)) ≤ 8 then 0 else 1)
  else if op = 9 ∨ op = 10 then (if y.2.1 = y.2.2.1 then (if 0 < y.2.1 then 0 else if x.2.1 = x.2.2.1 then 0 else 1) else 1)
  else if op = 11 then (if x.2.1 = x.2.2.1 then (if y.2.1 = y.2.2.1 then 0 else 1) else 1) else 0
theorem gu_C {M : Mem} {op : Int32} {a b : Nat} (a0 : (gC M a).1 = 0) (b0 : (gC M b).1 = 0) : f_X0_givesUp M op a b = guF op (gC M a) (gC M b) := by
  unfold f_X0_givesUp guF f_X0_givesUp_67 f_X0_givesUp_91 f_X0_givesUp_95 f_X0_givesUp_96 f_X0_givesUp_111 f_X0_givesUp_116
  have ia : f_X1_isConstant M a = 0 ↔ ¬ (gC M a).2.1 = (gC M a).2.2.1 := ic_0.trans ⟨fun h z => h ⟨a0, z⟩, fun h z => h z.2⟩
  have ib : f_X1_isConstant M b = 0 ↔ ¬ (gC M b).2.1 = (gC M b).2.2.1 := ic_0.trans ⟨fun h z => h ⟨b0, z⟩, fun h z => h z.2⟩
  by_cases e1 : op = 6 ∨ op = 7 ∨ op = 8
  · rw [if_pos e1, if_pos e1]; rfl
  · rw [if_neg e1, if_neg e1]
    by_cases e2 : op = 9 ∨ op = 10
    · rw [if_pos e2, if_pos e2]
      by_cases q1 : (gC M b).2.1 = (gC M b).2.2.1
      · rw [if_neg (fun z => ib.mp z q1), if_pos q1]
        show (if 0 < (gC M b).2.1 then (0 : Int32) else _) = _
        by_cases q2 : 0 < (gC M b).2.1
        · rw [if_pos q2, if_pos q2]
        · rw [if_neg q2, if_neg q2]
          by_cases q3 : (gC M a).2.1 = (gC M a).2.2.1
          · rw [if_neg (fun z => ia.mp z q3), if_pos q3]
          · rw [if_pos (ia.mpr q3), if_neg q3]
      · rw [if_pos (ib.mpr q1), if_neg q1]
    · rw [if_neg e2, if_neg e2]
      by_cases e3 : op = 11
      · rw [if_pos e3, if_pos e3]
        by_cases q3 : (gC M a).2.1 = (gC M a).2.2.1
        · rw [if_neg (fun z => ia.mp z q3), if_pos q3]
          by_cases q1 : (gC M b).2.1 = (gC M b).2.2.1
          · rw [if_neg (fun z => ib.mp z q1), if_pos q1]
          · rw [if_pos (ib.mpr q1), if_neg q1]
        · rw [if_pos (ia.mpr q3), if_neg q3]
      · rw [if_neg e3, if_neg e3]
def sfP (op : Int32) (x y : Fk) : Fk := sfL op x y.2.2.2.1 y.2.2.2.2.1 64 0 ZC
/-- what an act makes, ahead of the last sharpening -/
def acP (op : Int32) (x y : Fk) : Fk := if op = 0 then plP x y else if op = 1 then miP x y else if op = 2 then tmP x y else if op = 3 ∨ op = 4 ∨ op = 5 then bwP op x y else if op = 6 ∨ op = 7 ∨ op = 8 then sfP op x y else if op = 9 then quP x y.2.1 else if op = 10 then rmP x y.2.1 else if op = 12 then miP (cst 0) x else if op = 13 then tuP x else na op x
def shG (x : Fk) : Fk := if x.1 = 0 then shF x else x
def wkA (op : Int32) (x y : Fk) : Fk := if guF op x y = 0 then shG (acP op x y) else AL
def wkK (op : Int32) (x y : Fk) : Fk := if f_X0_stops op y.2.1 = 0 then cst (f_X0_number op x.2.1 y.2.1) else ZC
def wk2 (op : Int32) (x y : Fk) : Fk := if x.2.1 = x.2.2.1 then (if 12 ≤ op then wkK op x y else if y.1 = 0 then (if y.2.1 = y.2.2.1 then wkK op x y else wkA op x y) else wkA op x y) else wkA op x y
def wk (op : Int32) (x y : Fk) : Fk := if x.1 = 0 then (if 12 ≤ op then wk2 op x y else if y.1 = 0 then wk2 op x y else ZC) else ZC
