theorem gu_cc {op : Int32} {x y : Fk} (hy : Gd y) (y0 : y.1 = 0) (xc : x.2.1 = x.2.2.1) (yc : y.2.1 = y.2.2.1) : guF op x y = 0 := by
  have ey : y = cst y.2.1 := by
    rcases hy with h | ⟨l, hh, k, v, m, r, e, _, _, q⟩
    · rw [h] at y0; exact absurd y0 (by decide)
    · rw [e] at yc ⊢
      rw [e] at q
      exact q yc
  unfold guF
  by_cases n6 : op = 6 ∨ op = 7 ∨ op = 8
  · have hk : y.2.2.2.1 = -1 := by rw [ey]; rfl
    rw [if_pos n6, hk, if_pos (by decide)]
  · rw [if_neg n6]
    by_cases n9 : op = 9 ∨ op = 10
    · rw [if_pos n9, if_pos yc, if_pos xc]; split <;> rfl
    · rw [if_neg n9]
      by_cases n11 : op = 11
      · rw [if_pos n11, if_pos xc, if_pos yc]
      · rw [if_neg n11]
/-- THE ACTS, of the reference; OUT is cell 26 -/
theorem does_R {M : Mem} {op f g : Int32} {x y : Fk} (h1 : 0 ≤ op) (h2 : op ≤ 19) (hx : Gd x) (hy : Gd y) (hf : gR M (ix f) = toR x) (hg : gR M (ix g) = toR y) (fo : ix f < 16 ∨ 26 < ix f) (go : ix g < 16 ∨ 26 < ix g) :
    gR (f_X7_does M op f g 26) 26 = toR (wk op x y) ∧ Sc M (f_X7_does M op f g 26) ∧ (op ≤ 11 → x.1 = 0 → y.1 = 0 → mI (f_X7_does M op f g 26) 52 8 = guF op x y) := by
  have s0 : Sc M (uI M 52 8 0) := Sc.rf.uI rfl
  have hf1 : gR (uI M 52 8 0) (ix f) = toR x := by rw [gR_u, hf]
  have hg1 : gR (uI M 52 8 0) (ix g) = toR y := by rw [gR_u, hg]
  have h8 : mI (uI M 52 8 0) 52 8 = 0 := mI_uI
  unfold f_X7_does
  generalize uI M 52 8 0 = N at s0 hf1 hg1 h8
  have e0 : ∀ c : Int32, mI N 53 (ix c) = (gR N (ix c)).1 := fun _ => rfl
  have e1 : ∀ c : Int32, mL N 54 (ix c) = (gR N (ix c)).2.1 := fun _ => rfl
  have hnone : gR (f_X7_does_41 26 N) 26 = ZR ∧ Sc M (f_X7_does_41 26 N) := by
    unfold f_X7_does_41 f_X7_does_c47
    rw [no_R', show ix 26 = 26 from rfl, gR_p]
    exact ⟨rfl, s0.pR (by decide) (by decide)⟩
  have nz : ∀ {x : Fk}, ¬ x.1 = 0 → (toR x).1 = 1 := fun {x} h => by unfold toR; rw [if_neg h]; rfl
  have i11 : op ≤ 11 ↔ ¬ 12 ≤ op := by
    rw [Int32.le_iff_toInt_le, Int32.le_iff_toInt_le]
    have a : (11 : Int32).toInt = 11 := rfl
    have b : (12 : Int32).toInt = 12 := rfl
    omega
  have i12 : op < 12 ↔ ¬ 12 ≤ op := by
    rw [Int32.lt_iff_toInt_lt, Int32.le_iff_toInt_le]
    omega
  by_cases x0 : x.1 = 0
  · have tx : toR x = x := if_pos x0
    rw [tx] at hf1
    have ia : f_X7_isNumber N f = 0 ↔ ¬ x.2.1 = x.2.2.1 := in_0.trans ⟨fun h z => h (by rw [hf1]; exact ⟨x0, z⟩), fun h z => h (by rw [hf1] at z; exact z.2)⟩
    have hcopy : ∀ (w : Int32), gR (pR (pR (pR N 16 x) 17 (gR (pR N 16 x) (ix w))) 18 AL) 16 = x ∧ gR (pR (pR (pR N 16 x) 17 (gR (pR N 16 x) (ix w))) 18 AL) 18 = AL ∧ mI (pR (pR (pR N 16 x) 17 (gR (pR N 16 x) (ix w))) 18 AL) 52 8 = 0 ∧ Sc M (pR (pR (pR N 16 x) 17 (gR (pR N 16 x) (ix w))) 18 AL) := fun w =>
      ⟨by rw [gR_n (by decide), gR_n (by decide), gR_p], gR_p, by rw [qdoI (by omega), qdoI (by omega), qdoI (by omega), h8], ((s0.pR (by decide) (by decide)).pR (by decide) (by decide)).pR (by decide) (by decide)⟩
    have hcon : ∀ w, (w = 0 ∧ ¬ 12 ≤ op ∧ y.1 = 0) ∨ (w = 1 ∧ 12 ≤ op) → gR (f_X7_does_69 op f g 26 w N) 26 = toR (wkK op x y) ∧ Sc M (f_X7_does_69 op f g 26 w N) ∧ mI (f_X7_does_69 op f g 26 w N) 52 8 = 0 := by
      intro w hw
      have h101 : ((op = 9 ∨ op = 10) → ¬ y.2.1 = 0) → (w = 0 → toR y = y) → gR (f_X7_does_101 op f g 26 w N) 26 = toR (cst (f_X0_number op x.2.1 y.2.1)) ∧ Sc M (f_X7_does_101 op f g 26 w N) ∧ mI (f_X7_does_101 op f g 26 w N) 52 8 = 0 := by
        intro hb hyy
        have key : ∀ z : Int64, f_X7_reckon op x.2.1 z = f_X0_number op x.2.1 y.2.1 → gR (f_X7_does_126 op f 26 N z N) 26 = toR (cst (f_X0_number op x.2.1 y.2.1)) ∧ Sc M (f_X7_does_126 op f 26 N z N) ∧ mI (f_X7_does_126 op f 26 N z N) 52 8 = 0 := by
          intro z hz
          unfold f_X7_does_126 f_X7_does_c132 f_X7_does_132
          rw [e1, hf1, hz, nu_R', show ix 26 = 26 from rfl, gR_p]
          exact ⟨rfl, s0.pR (by decide) (by decide), by rw [qdoI (by omega), h8]⟩
        have hn := num_eq (a := x.2.1) (b := y.2.1) h1 h2 hb
        unfold f_X7_does_101
        rcases hw with ⟨w0, _, y0⟩ | ⟨w1, h12⟩
        · rw [if_pos w0, e1, hg1, hyy w0]
          exact key _ hn.symm
        · rw [if_neg (by rw [w1]; decide)]
          exact key _ ((num_1 h12).trans hn.symm)
      unfold f_X7_does_69 f_X7_does_81 f_X7_does_c98 f_X7_does_132 wkK
      have hno : gR (f_X7_nothing N 26) 26 = toR ZC ∧ Sc M (f_X7_nothing N 26) ∧ mI (f_X7_nothing N 26) 52 8 = 0 := by
        rw [no_R', show ix 26 = 26 from rfl, gR_p]
        exact ⟨rfl, s0.pR (by decide) (by decide), by rw [qdoI (by omega), h8]⟩
      by_cases n9 : op = 9 ∨ op = 10
      · have l12 : ¬ 12 ≤ op := by rcases n9 with e | e <;> rw [e] <;> decide
        have hw0 : w = 0 ∧ y.1 = 0 := by
          rcases hw with h | h
          · exact ⟨h.1, h.2.2⟩
          · exact absurd h.2 l12
        have ty : toR y = y := if_pos hw0.2
        have hst : f_X0_stops op y.2.1 = if y.2.1 = 0 then 1 else 0 := by
          unfold f_X0_stops f_X0_stops_12 f_X0_stops_22 f_X0_stops_23
          rcases n9 with e | e
          · rw [if_pos e]
          · rw [if_neg (by rw [e]; decide), if_pos e]
        have e81 : (if op = 9 then (if mL N 54 (ix g) = 0 then f_X7_nothing N 26 else f_X7_does_101 op f g 26 w N) else if op = 10 then (if mL N 54 (ix g) = 0 then f_X7_nothing N 26 else f_X7_does_101 op f g 26 w N) else f_X7_does_101 op f g 26 w N) = if y.2.1 = 0 then f_X7_nothing N 26 else f_X7_does_101 op f g 26 w N := by
          rw [e1, hg1, ty]
          rcases n9 with e | e
          · rw [if_pos e]
          · rw [if_neg (by rw [e]; decide), if_pos e]
        rw [e81, hst]
        by_cases q : y.2.1 = 0
        · rw [if_pos q, if_pos q, if_neg (by decide)]; exact hno
        · rw [if_neg q, if_neg q, if_pos rfl]
          exact h101 (fun _ => q) (fun _ => ty)
      · rw [if_neg (fun z => n9 (Or.inl z)), if_neg (fun z => n9 (Or.inr z))]
        have hst : f_X0_stops op y.2.1 = 0 := by
          unfold f_X0_stops f_X0_stops_22 f_X0_stops_23
          rw [if_neg (fun z => n9 (Or.inl z)), if_neg (fun z => n9 (Or.inr z))]
        rw [if_pos hst]
        refine h101 (fun z => absurd z n9) (fun w0 => ?_)
        rcases hw with h | h
        · exact if_pos h.2.2
        · rw [h.1] at w0; exact absurd w0 (by decide)
    by_cases h12 : 12 ≤ op
    · rw [if_neg (fun z => i11.mp z h12)]
      unfold f_X7_does_16 wk
      rw [e0 f, hf1, if_pos x0, if_neg (by decide), if_pos x0, if_pos h12]
      unfold f_X7_does_48 wk2
      refine ⟨?_, ?_, fun z => absurd h12 (i11.mp z)⟩
      all_goals by_cases q : x.2.1 = x.2.2.1
      · rw [if_neg (fun z => ia.mp z q), if_neg (by decide), if_pos q, if_pos h12]
        exact (hcon 1 (Or.inr ⟨rfl, h12⟩)).1
      · rw [if_pos (ia.mpr q), if_neg q]
        unfold f_X7_does_133 f_X7_does_c140 f_X7_does_154 f_X7_does_c157
        rw [if_neg (by decide), cp_R, cp_R, al_R', hf1, ix16, ix17, ix18]
        exact (wA_R h1 h2 hx hy x0 (fun z => absurd h12 (i12.mp z)) (fun z => absurd h12 (i12.mp z)) (hcopy 24).1 (fun z => absurd h12 (i12.mp z)) (hcopy 24).2.1 (hcopy 24).2.2.1).1
      · rw [if_neg (fun z => ia.mp z q), if_neg (by decide)]
        exact (hcon 1 (Or.inr ⟨rfl, h12⟩)).2.1
      · rw [if_pos (ia.mpr q)]
        unfold f_X7_does_133 f_X7_does_c140 f_X7_does_154 f_X7_does_c157
        rw [if_neg (by decide), cp_R, cp_R, al_R', hf1, ix16, ix17, ix18]
        exact (hcopy 24).2.2.2.tr (wA_R h1 h2 hx hy x0 (fun z => absurd h12 (i12.mp z)) (fun z => absurd h12 (i12.mp z)) (hcopy 24).1 (fun z => absurd h12 (i12.mp z)) (hcopy 24).2.1 (hcopy 24).2.2.1).2.1
    · rw [if_pos (i11.mpr h12)]
      unfold f_X7_does_16 wk
      rw [e0 f, e0 g, hf1, hg1, if_pos x0, if_pos rfl, if_pos x0, if_neg h12]
      by_cases y0 : y.1 = 0
      · have ty : toR y = y := if_pos y0
        rw [ty] at hg1 ⊢
        rw [if_pos y0, if_pos y0]
        have ib : f_X7_isNumber N g = 0 ↔ ¬ y.2.1 = y.2.2.1 := in_0.trans ⟨fun h z => h (by rw [hg1]; exact ⟨y0, z⟩), fun h z => h (by rw [hg1] at z; exact z.2)⟩
        have hact : ¬ (x.2.1 = x.2.2.1 ∧ y.2.1 = y.2.2.1) → gR (f_X7_does_133 op f g 26 0 N) 26 = toR (wkA op x y) ∧ Sc M (f_X7_does_133 op f g 26 0 N) ∧ mI (f_X7_does_133 op f g 26 0 N) 52 8 = guF op x y := fun hnc => by
          unfold f_X7_does_133 f_X7_does_c140 f_X7_does_154 f_X7_does_c157
          rw [if_pos rfl, cp_R, cp_R, al_R', hf1, ix16, ix17, ix18]
          have h17 : gR (pR (pR (pR N 16 x) 17 (gR (pR N 16 x) (ix g))) 18 AL) 17 = y := by
            rw [gR_n (by decide), gR_p, gR_n (by omega), hg1]
          obtain ⟨r1, r2, r3⟩ := wA_R h1 h2 hx hy x0 (fun _ => y0) (fun _ => hnc) (hcopy g).1 (fun _ => h17) (hcopy g).2.1 (hcopy g).2.2.1
          exact ⟨r1, (hcopy g).2.2.2.tr r2, r3⟩
        unfold f_X7_does_48 wk2
        by_cases q : x.2.1 = x.2.2.1
        · rw [if_neg (fun z => ia.mp z q), if_pos rfl, if_pos q, if_neg h12, if_pos y0]
          by_cases q2 : y.2.1 = y.2.2.1
          · rw [if_neg (fun z => ib.mp z q2), if_pos q2]
            obtain ⟨r1, r2, r3⟩ := hcon 0 (Or.inl ⟨rfl, h12, y0⟩)
            exact ⟨r1, r2, fun _ _ _ => by rw [r3, gu_cc hy y0 q q2]⟩
          · rw [if_pos (ib.mpr q2), if_neg q2]
            obtain ⟨r1, r2, r3⟩ := hact (fun z => q2 z.2)
            exact ⟨r1, r2, fun _ _ _ => r3⟩
        · rw [if_pos (ia.mpr q), if_neg q]
          obtain ⟨r1, r2, r3⟩ := hact (fun z => q z.1)
          exact ⟨r1, r2, fun _ _ _ => r3⟩
      · rw [nz y0, if_neg (by decide), if_neg y0]
        exact ⟨hnone.1, hnone.2, fun _ _ z => absurd z y0⟩
  · have hw : wk op x y = ZC := by unfold wk; rw [if_neg x0]
    rw [hw]
    have key : ∀ w, f_X7_does_16 op f g 26 w N = f_X7_does_41 26 N := fun w => by
      unfold f_X7_does_16
      rw [e0 f, hf1, nz x0, if_neg (show ¬ (1 : Int32) = 0 by decide)]
    rw [key, key]
    refine ⟨?_, ?_, fun _ z => absurd z x0⟩
    · split
      · exact hnone.1
      · exact hnone.1
    · split
      · exact hnone.2
      · exact hnone.2
