theorem t_act {A B : Mem} {op a b t : Int32} (hF : RF A B) (hz : gC A 12 = cst 0) : (f_X6_act A op a b t).1 = (f_X7_act B op a b t).1 ∧ RF (f_X6_act A op a b t).2 (f_X7_act B op a b t).2 ∧ EC fo A (f_X6_act A op a b t).2 ∧ ER ro B (f_X7_act B op a b t).2 := by
  have e0 : (0 : Int64).toInt = 0 := rfl
  have e21 : (21 : Int64).toInt = 21 := rfl
  have f21 : (21 : Int32).toInt = 21 := rfl
  have bad : ∀ z : Int32 × Mem, z = (-1, A) → ∀ y : Int32 × Mem, y = (-1, B) → z.1 = y.1 ∧ RF z.2 y.2 ∧ EC fo A z.2 ∧ ER ro B y.2 := fun z hz y hy => by rw [hz, hy]; exact ⟨rfl, hF, EC.rf, ER.rf⟩
  have hin : f_X7_in (Int32.toInt64 op) 0 21 = 0 ↔ (op < 0 ∨ 21 < op) := by
    rw [i32_64, e0, e21, Int32.lt_iff_toInt_lt, Int32.lt_iff_toInt_lt, Int32.toInt_zero, f21]
    omega
  unfold f_X6_act f_X7_act f_X7_act_34
  rcases fact_cases a with ⟨i, hi, a1, a2, a3⟩ | ⟨a2, a3⟩
  · rcases fact_cases b with ⟨j, hj, b1, b2, b3⟩ | ⟨b2, b3⟩
    · rcases fact_cases t with ⟨k, hk, t1, t2, t3⟩ | ⟨t2, t3⟩
      · rw [a2, b2, t2, if_neg a3, if_neg b3, if_neg t3]
        simp only [Option.elim]
        by_cases q : op < 0 ∨ 21 < op
        · rw [if_pos (hin.mpr q)]
          refine bad _ ?_ _ rfl
          by_cases q1 : op < 0
          · rw [if_pos q1]; rfl
          · rw [if_neg q1, if_pos (q.resolve_left q1)]; rfl
        · rw [if_neg (fun z => q (hin.mp z)), if_neg (fun z => q (Or.inl z)), if_neg (fun z => q (Or.inr z))]
          have fin : ∀ (A' B' : Mem) (x : Fk), Gd x → gC A' 35 = x → gR B' 26 = toR x → EC fo A A' → ER ro B B' → (∀ i, i < 16 → gC A' (36 + i) = gC A (36 + i)) → (∀ i, i < 16 → gR B' i = gR B i) →
              (f_X6_act_105 (36 + k) A').1 = (f_X7_act_79 t B').1 ∧ RF (f_X6_act_105 (36 + k) A').2 (f_X7_act_79 t B').2 ∧ EC fo A (f_X6_act_105 (36 + k) A').2 ∧ ER ro B (f_X7_act_79 t B').2 := by
            intro A' B' x hx hA hB sA sB cA cB
            unfold f_X6_act_105 f_X6_act_c114 f_X7_act_79 f_X7_act_c87 f_X7_act_102
            rw [cp_C, hA, cp_R, show ix 26 = 26 from rfl, hB, t1, rr0]
            unfold f_X6_oneUnlessNone f_X6_oneUnlessNone_12
            rw [rc0]
            have hR : RF (pC A' (36 + k) x) (pR B' k (toR x)) := (hF.cong cA cB).set hx hk
            have s1 : EC fo A (pC A' (36 + k) x) := sA.pC (fo_f hk)
            have s2 : ER ro B (pR B' k (toR x)) := sB.pR (fun b h1 h2 => ro_f (by omega) h1 h2)
            by_cases q : x.1 = 0
            · rw [if_pos q, if_pos (toR_1.mpr q)]; exact ⟨rfl, hR, s1, s2⟩
            · rw [if_neg q, if_neg (fun z => q (toR_1.mp z))]; exact ⟨rfl, hR, s1, s2⟩
          have hx := hF i hi
          have hy := hF j hj
          by_cases q20 : op = 20
          · rw [if_pos q20, if_pos q20]
            obtain ⟨w, hw⟩ := jn_R (M := B) (a := a) (b := b) (t := 26) hx.1 hy.1 (by rw [a1]; exact hx.2) (by rw [b1]; exact hy.2)
            rw [hw]
            unfold f_X6_act_c66 f_X7_act_c50
            rw [jn_C]
            exact fin _ _ _ (Gd_jn hx.1 hy.1) gC_p (by rw [gR_u, show ix 26 = 26 from rfl, gR_p]) (EC.rf.pC rfl) ((ER.rf.pR (fun b h1 h2 => ro_f (by decide) h1 h2)).uI rfl) (fun n hn => gC_n (by omega)) (fun n hn => by rw [gR_u, show ix 26 = 26 from rfl, gR_n (by omega)])
          · rw [if_neg q20, if_neg q20]
            by_cases q21 : op = 21
            · rw [if_pos q21, if_pos q21]
              obtain ⟨w, hw⟩ := mt_R (M := B) (a := a) (b := b) (t := 26) hx.1 hy.1 (by rw [a1]; exact hx.2) (by rw [b1]; exact hy.2)
              rw [hw]
              unfold f_X6_act_c86 f_X7_act_c67
              rw [mt_C]
              exact fin _ _ _ (Gd_mt hx.1 hy.1) gC_p (by rw [gR_u, show ix 26 = 26 from rfl, gR_p]) (EC.rf.pC rfl) ((ER.rf.pR (fun b h1 h2 => ro_f (by decide) h1 h2)).uI rfl) (fun n hn => gC_n (by omega)) (fun n hn => by rw [gR_u, show ix 26 = 26 from rfl, gR_n (by omega)])
            · rw [if_neg q21, if_neg q21]
              have o0 : 0 ≤ op := by
                rw [Int32.le_iff_toInt_le, Int32.toInt_zero]
                have : ¬ op < 0 := fun z => q (Or.inl z)
                rw [Int32.lt_iff_toInt_lt, Int32.toInt_zero] at this
                omega
              have o19 : op ≤ 19 := by
                have h3 : ¬ 21 < op := fun z => q (Or.inr z)
                rw [Int32.lt_iff_toInt_lt, f21] at h3
                have h4 : op.toInt ≠ 20 := fun z => q20 (Int32.toInt_inj.mp z)
                have h5 : op.toInt ≠ 21 := fun z => q21 (Int32.toInt_inj.mp z)
                rw [Int32.le_iff_toInt_le]
                show op.toInt ≤ 19
                omega
              obtain ⟨r1, r2⟩ := wk_C (M := A) (a0 := 11) (a := 36 + i) (b := 36 + j) (t := 35) (op := op) o0 o19 (by omega) (by omega) (by omega) (by omega) (by decide) (by decide) hz hx.1 hy.1
              obtain ⟨s1, s2, -⟩ := does_R (M := B) (f := a) (g := b) o0 o19 hx.1 hy.1 (by rw [a1]; exact hx.2) (by rw [b1]; exact hy.2) (by omega) (by omega)
              exact fin _ _ _ (Gd_wk hx.1 hy.1) r1 s1 (r2.EC rfl rfl) (s2.ER scr_ro) (fun n hn => r2.g (by omega) (by omega)) (fun n hn => s2.g (by omega))
      · rw [a2, b2, t2, if_neg a3, if_neg b3, if_pos t3]
        simp only [Option.elim]
        refine bad _ ?_ _ ?_
        · repeat' split
          all_goals rfl
        · split <;> rfl
    · rw [a2, b2, if_neg a3, if_pos b3]
      simp only [Option.elim]
      refine bad _ ?_ _ ?_
      · cases f_X6_factAt t <;> simp only [] <;> (repeat' split) <;> rfl
      · split <;> rfl
  · rw [a2, if_pos a3]
    simp only [Option.elim]
    refine bad _ ?_ _ ?_
    · cases f_X6_factAt b <;> cases f_X6_factAt t <;> simp only [] <;> (repeat' split) <;> rfl
    · split <;> rfl
/-! told, isOf -/
theorem toR_eq {x : Fk} (h : x.1 = 0) : toR x = x := if_pos h
theorem t_told {A B : Mem} {f w : Int32} (hF : RF A B) : f_X6_told A f w = f_X7_told B f w := by
  unfold f_X6_told f_X7_told f_X7_told_19
  rcases fact_cases f with ⟨i, hi, a1, a2, a3⟩ | ⟨a2, a3⟩
  · rw [a2, if_neg a3]
    simp only [Option.elim]
    obtain ⟨hg, hr⟩ := hF i hi
    have c0 : mI A (36 + i) 0 = (gC A (36 + i)).1 := rfl
    have c1 : mL A (36 + i) 1 = (gC A (36 + i)).2.1 := rfl
    have c2 : mL A (36 + i) 2 = (gC A (36 + i)).2.2.1 := rfl
    have c3 : mL A (36 + i) 3 = (gC A (36 + i)).2.2.2.1 := rfl
    have c4 : mL A (36 + i) 4 = (gC A (36 + i)).2.2.2.2.1 := rfl
    have c5 : mL A (36 + i) 5 = (gC A (36 + i)).2.2.2.2.2.1 := rfl
    have c6 : mL A (36 + i) 6 = (gC A (36 + i)).2.2.2.2.2.2 := rfl
    rw [c0, c1, c2, c3, c4, c5, c6]
    generalize gC A (36 + i) = x at hg hr
    have d0 : mI B 53 (ix f) = (toR x).1 := by rw [a1, ← hr]; rfl
    have d1 : mL B 54 (ix f) = (toR x).2.1 := by rw [a1, ← hr]; rfl
    have d2 : mL B 55 (ix f) = (toR x).2.2.1 := by rw [a1, ← hr]; rfl
    have d3 : mL B 56 (ix f) = (toR x).2.2.2.1 := by rw [a1, ← hr]; rfl
    have d4 : mL B 57 (ix f) = (toR x).2.2.2.2.1 := by rw [a1, ← hr]; rfl
    have d5 : mL B 58 (ix f) = (toR x).2.2.2.2.2.1 := by rw [a1, ← hr]; rfl
    have d6 : mL B 59 (ix f) = (toR x).2.2.2.2.2.2 := by rw [a1, ← hr]; rfl
    unfold f_X7_told_36 f_X7_told_55 f_X7_told_56 f_X7_told_132 f_X6_told_98
    rw [d0, d1, d2, d3, d4, d5, d6]
    have e0 : (0 : Int64).toInt = 0 := rfl
    have e6 : (6 : Int64).toInt = 6 := rfl
    have hin : f_X7_in (Int32.toInt64 w) 0 6 = 0 ↔ ¬ (0 ≤ w.toInt ∧ w.toInt ≤ 6) := by rw [i32_64, e0, e6]
    by_cases hw : 0 ≤ w.toInt ∧ w.toInt ≤ 6
    · rw [if_neg (fun z => hin.mp z hw)]
      have cases7 : w = 0 ∨ w = 1 ∨ w = 2 ∨ w = 3 ∨ w = 4 ∨ w = 5 ∨ w = 6 := by
        have inj : ∀ k : Int32, w.toInt = k.toInt → w = k := fun k h => Int32.toInt_inj.mp h
        rcases (show w.toInt = 0 ∨ w.toInt = 1 ∨ w.toInt = 2 ∨ w.toInt = 3 ∨ w.toInt = 4 ∨ w.toInt = 5 ∨ w.toInt = 6 by omega) with h | h | h | h | h | h | h
        · exact Or.inl (inj 0 h)
        · exact Or.inr (Or.inl (inj 1 h))
        · exact Or.inr (Or.inr (Or.inl (inj 2 h)))
        · exact Or.inr (Or.inr (Or.inr (Or.inl (inj 3 h))))
        · exact Or.inr (Or.inr (Or.inr (Or.inr (Or.inl (inj 4 h)))))
        · exact Or.inr (Or.inr (Or.inr (Or.inr (Or.inr (Or.inl (inj 5 h))))))
        · exact Or.inr (Or.inr (Or.inr (Or.inr (Or.inr (Or.inr (inj 6 h))))))
      by_cases x0 : x.1 = 0
      · rw [toR_eq x0]
        rcases cases7 with rfl | rfl | rfl | rfl | rfl | rfl | rfl <;> simp [x0]
      · have hz : x = ZC := by
          rcases hg with h | ⟨l, hh, k, v, m, r, e, _⟩
          · exact h
          · rw [e] at x0; exact absurd rfl x0
        rw [hz, toR_Z]
        rcases cases7 with rfl | rfl | rfl | rfl | rfl | rfl | rfl <;> decide
    · rw [if_pos (hin.mpr hw)]
      have ne : ∀ k : Int32, 0 ≤ k.toInt ∧ k.toInt ≤ 6 → ¬ w = k := fun k hk z => hw (by rw [z]; exact hk)
      rw [if_neg (ne 0 (by decide)), if_neg (ne 1 (by decide)), if_neg (ne 2 (by decide)), if_neg (ne 3 (by decide)), if_neg (ne 4 (by decide)), if_neg (ne 5 (by decide)), if_neg (ne 6 (by decide))]
  · rw [a2, if_pos a3]; rfl
/-- a number is of a fact -/
theorem hold_eq {A B : Mem} {a : Nat} {f : Int32} {x : Fk} {v : Int64} (hx : Gd x) (ha : gC A a = x) (hb : gR B (ix f) = toR x) : f_X1_holds A a v = f_X7_isIn B f v := by
  have c0 : mI A a 0 = x.1 := by rw [← ha]; rfl
  have c1 : mL A a 1 = x.2.1 := by rw [← ha]; rfl
  have c2 : mL A a 2 = x.2.2.1 := by rw [← ha]; rfl
  have c3 : mL A a 3 = x.2.2.2.1 := by rw [← ha]; rfl
  have c4 : mL A a 4 = x.2.2.2.2.1 := by rw [← ha]; rfl
  have c5 : mL A a 5 = x.2.2.2.2.2.1 := by rw [← ha]; rfl
  have c6 : mL A a 6 = x.2.2.2.2.2.2 := by rw [← ha]; rfl
  have d0 : mI B 53 (ix f) = (toR x).1 := by rw [← hb]; rfl
  have d1 : mL B 54 (ix f) = (toR x).2.1 := by rw [← hb]; rfl
  have d2 : mL B 55 (ix f) = (toR x).2.2.1 := by rw [← hb]; rfl
  have d3 : mL B 56 (ix f) = (toR x).2.2.2.1 := by rw [← hb]; rfl
  have d4 : mL B 57 (ix f) = (toR x).2.2.2.2.1 := by rw [← hb]; rfl
  have d5 : mL B 58 (ix f) = (toR x).2.2.2.2.2.1 := by rw [← hb]; rfl
  have d6 : mL B 59 (ix f) = (toR x).2.2.2.2.2.2 := by rw [← hb]; rfl
  unfold f_X1_holds f_X7_isIn f_X1_holds_61 f_X1_holds_62 f_X7_isIn_70 f_X7_isIn_71
  rw [c0, c1, c2, c3, c4, c5, c6, d0, d1, d2, d3, d4, d5, d6]
  by_cases x0 : x.1 = 0
  · have px := (gd_P hx x0).1
    rw [toR_eq x0, if_pos x0, if_pos x0]
    have hin := in_iff (v := v) (a := x.2.1) (b := x.2.2.1)
    have hbt := and_eq_iff v x.2.2.2.1 x.2.2.2.2.1 px.1
    rw [← rest_rem px.2.1.1]
    by_cases q1 : v < x.2.1
    · rw [if_pos q1, if_pos]
      exact Classical.byContradiction (fun z => absurd (hin.mp z).1 (Int64.not_le.mpr q1))
    · rw [if_neg q1]
      by_cases q2 : x.2.2.1 < v
      · rw [if_pos q2, if_pos]
        exact Classical.byContradiction (fun z => absurd (hin.mp z).2 (Int64.not_le.mpr q2))
      · rw [if_neg q2, if_neg (hin.mpr ⟨Int64.not_lt.mp q1, Int64.not_lt.mp q2⟩)]
        by_cases q3 : ((v ^^^ x.2.2.2.2.1) &&& x.2.2.2.1) = 0
        · rw [if_pos q3, if_pos (hbt.mpr q3)]
        · rw [if_neg q3, if_neg (fun z => q3 (hbt.mp z))]
  · rw [if_neg x0, if_neg (fun z => x0 (toR_1.mp z))]
theorem t_isOf {A B : Mem} {f : Int32} {v : Int64} (hF : RF A B) : f_X6_isOf A f v = f_X7_isOf B f v := by
  unfold f_X6_isOf f_X7_isOf f_X7_isOf_20 f_X7_isOf_21
  rcases fact_cases f with ⟨i, hi, a1, a2, a3⟩ | ⟨a2, a3⟩
  · rw [a2, if_neg a3]
    simp only [Option.elim]
    rw [hold_eq (hF i hi).1 rfl (by rw [a1]; exact (hF i hi).2) (f := f)]
    by_cases q : f_X7_isIn B f v = 0
    · rw [if_pos q, if_pos q]; rfl
    · rw [if_neg q, if_neg q]; rfl
  · rw [a2, if_pos a3]; rfl
