theorem sh_AL : shG AL = AL := by decide +kernel
theorem sG_R {M : Mem} {t : Int32} {z : Fk} (h : Gd z) : ∃ i, f_X7_sharpen (pR M (ix t) (toR z)) t = uI (pR M (ix t) (toR (shG z))) 52 7 i := by
  unfold shG
  by_cases e : z.1 = 0
  · rw [if_pos e, show toR z = z from if_pos e]
    exact shF_R ⟨e, (gd_P h e).1⟩
  · rw [if_neg e]
    have hz : z = ZC := by
      rcases h with h | ⟨l, hh, k, v, m, r, q, _⟩
      · exact h
      · rw [q] at e; exact absurd rfl e
    rw [hz, toR_Z]
    refine ⟨mI M 52 7, ?_⟩
    unfold f_X7_sharpen f_X7_sharpen_14
    rw [rr0, if_neg (by decide)]
    have : f_X7_sharpen_17 t 7 0 0 (pR M (ix t) ZR) = pR M (ix t) ZR := by
      show f_X7_sharpen_17 t (6 + 1) 0 0 _ = _
      rw [f_X7_sharpen_17, if_neg (by decide), if_pos rfl]
      rfl
    rw [this]
    have e2 : mI M 52 7 = mI (pR M (ix t) ZR) 52 7 := (qdoI (by omega)).symm
    rw [e2, u_self]
/-- the last steps of an act -/
theorem fin_R {N : Mem} {z : Fk} (h : Gd z ∨ Pf z) (h18 : gR N 18 = toR z) : gR (f_X7_does_366 26 N) 26 = toR (shG z) ∧ Sc N (f_X7_does_366 26 N) ∧ mI (f_X7_does_366 26 N) 52 8 = mI N 52 8 := by
  have key : ∃ i, f_X7_does_366 26 N = uI (pR N 26 (toR (shG z))) 52 7 i := by
    unfold f_X7_does_366 f_X7_does_c374 f_X7_does_c380
    rw [cp_R, ix18, h18, show ix 26 = 26 from rfl]
    rcases h with h | h
    · exact sG_R (t := 26) h
    · rw [shG_Pf h, show toR z = z from if_pos h.1]
      exact shF_R (t := 26) h
  obtain ⟨i, e⟩ := key
  rw [e, gR_u, gR_p]
  exact ⟨rfl, (Sc.rf.pR (by decide) (by decide)).uI rfl, by rw [mI_uI_nk (by decide), qdoI (by omega)]⟩
theorem gd_ex {x : Fk} (h : Gd x) (h0 : x.1 = 0) : ∃ l h k v m r, x = (0, l, h, k, v, m, r) ∧ mOK m := by
  rcases gd_0 h with e | e
  · rw [e] at h0; exact absurd h0 (by decide)
  · exact e
/-- acts over the cells A (16), B (17), C (18) -/
theorem wA_R {N : Mem} {op : Int32} {x y : Fk} (h1 : 0 ≤ op) (h2 : op ≤ 19) (hx : Gd x) (hy : Gd y) (x0 : x.1 = 0) (y0 : op < 12 → y.1 = 0) (hnc : op < 12 → ¬ (x.2.1 = x.2.2.1 ∧ y.2.1 = y.2.2.1)) (h16 : gR N 16 = x) (h17 : op < 12 → gR N 17 = y) (h18 : gR N 18 = AL) (h8 : mI N 52 8 = 0) :
    gR (f_X7_does_c163 op 26 N) 26 = toR (wkA op x y) ∧ Sc N (f_X7_does_c163 op 26 N) ∧ mI (f_X7_does_c163 op 26 N) 52 8 = guF op x y := by
  have lt : ∀ k : Int32, op = k → k < 12 → op < 12 := fun k e h => by rw [e]; exact h
  have px := (gd_P hx x0).1
  have ex := gd_ex hx x0
  have hac : acP op x y = acP op x y := rfl
  conv at hac => rhs; unfold acP
  have key : ∀ (Q : Mem), (gR Q 18 = acP op x y ∧ Sc N Q ∧ mI Q 52 8 = 0) → guF op x y = 0 → ¬ (op = 6 ∨ op = 7 ∨ op = 8) → gR (f_X7_does_366 26 Q) 26 = toR (wkA op x y) ∧ Sc N (f_X7_does_366 26 Q) ∧ mI (f_X7_does_366 26 Q) 52 8 = guF op x y := fun Q h hg n6 => by
    have hp := Pf_ac hx hy x0 y0 n6
    obtain ⟨r1, r2, r3⟩ := fin_R (N := Q) (z := acP op x y) (Or.inr hp) (by rw [h.1, show toR (acP op x y) = acP op x y from if_pos hp.1])
    unfold wkA
    rw [if_pos hg]
    exact ⟨r1, h.2.1.tr r2, by rw [r3, h.2.2, hg]⟩
  have up : ∀ (Q : Mem), Q = uI N 52 8 1 → guF op x y = 1 → gR (f_X7_does_366 26 Q) 26 = toR (wkA op x y) ∧ Sc N (f_X7_does_366 26 Q) ∧ mI (f_X7_does_366 26 Q) 52 8 = guF op x y := fun Q h hg => by
    obtain ⟨r1, r2, r3⟩ := fin_R (N := Q) (z := AL) (Or.inl Gd_AL) (by rw [h, gR_u, h18]; rfl)
    unfold wkA
    rw [if_neg (by rw [hg]; decide)]
    refine ⟨by rw [r1, sh_AL], ?_, by rw [r3, h, mI_uI, hg]⟩
    rw [h] at r2
    rw [h]
    exact (Sc.rf.uI rfl).tr r2
  have gu0 : (¬ (op = 6 ∨ op = 7 ∨ op = 8)) → (¬ (op = 9 ∨ op = 10)) → ¬ op = 11 → guF op x y = 0 := fun a b c => by
    unfold guF; rw [if_neg a, if_neg b, if_neg c]
  have pr : ∀ z : Fk, z = acP op x y → gR (pR N 18 z) 18 = acP op x y ∧ Sc N (pR N 18 z) ∧ mI (pR N 18 z) 52 8 = 0 := fun z e => by
    rw [gR_p]
    exact ⟨e, Sc.rf.pR (by decide) (by decide), by rw [qdoI (by omega), h8]⟩
  have fl8 : ∀ {Q : Mem}, (∀ b j, mI Q b j = mI N b j) → mI Q 52 8 = 0 := fun h => by rw [h, h8]
  unfold f_X7_does_c163 f_X7_does_183 f_X7_does_c186 f_X7_does_c198 f_X7_does_c212 f_X7_does_c226 f_X7_does_c240 f_X7_does_c366
  have i0 : (0 : Int32).toInt = 0 := rfl
  by_cases n0 : op = 0
  · rw [if_pos n0] at hac
    rw [if_neg (by rw [n0]; decide), if_neg (by rw [n0]; decide), add_R ex (gd_ex hy (y0 (lt 0 n0 (by decide)))) px.1 (gd_P hy (y0 (lt 0 n0 (by decide)))).1.1 h16 (h17 (lt 0 n0 (by decide))) h18]
    exact key _ (pr _ hac.symm) (gu0 (by rw [n0]; decide) (by rw [n0]; decide) (by rw [n0]; decide)) (by rw [n0]; decide)
  rw [if_neg n0] at hac
  by_cases n1 : op = 1
  · rw [if_pos n1] at hac
    rw [if_neg (by rw [n1]; decide), if_pos n1]
    obtain ⟨s1, s2⟩ := sub_R ex (gd_ex hy (y0 (lt 1 n1 (by decide)))) px.1 h16 (h17 (lt 1 n1 (by decide))) h18
    exact key _ ⟨s1.trans hac.symm, s2.1, s2.2.trans h8⟩ (gu0 (by rw [n1]; decide) (by rw [n1]; decide) (by rw [n1]; decide)) (by rw [n1]; decide)
  rw [if_neg n1] at hac
  have g2 : 2 ≤ op := by
    rw [Int32.le_iff_toInt_le] at h1 ⊢
    have a0 : op.toInt ≠ 0 := fun z => n0 (Int32.toInt_inj.mp z)
    have a1 : op.toInt ≠ 1 := fun z => n1 (Int32.toInt_inj.mp z)
    have e2 : (2 : Int32).toInt = 2 := rfl
    omega
  rw [if_pos g2]
  by_cases n2 : op = 2
  · rw [if_pos n2] at hac
    rw [if_pos n2]
    obtain ⟨s1, s2⟩ := mul_R hx hy x0 (y0 (lt 2 n2 (by decide))) (hnc (lt 2 n2 (by decide))) h16 (h17 (lt 2 n2 (by decide))) h18
    exact key _ ⟨s1.trans hac.symm, s2.1, s2.2.trans h8⟩ (gu0 (by rw [n2]; decide) (by rw [n2]; decide) (by rw [n2]; decide)) (by rw [n2]; decide)
  rw [if_neg n2] at hac
  rw [if_neg n2]
  by_cases n3 : op = 3 ∨ op = 4 ∨ op = 5
  · rw [if_pos n3] at hac
    have l12 : op < 12 := by rcases n3 with e | e | e <;> rw [e] <;> decide
    rw [if_neg (by rcases n3 with e | e | e <;> rw [e] <;> decide), bw_R h16 (h17 l12) h18]
    exact key _ (pr _ hac.symm) (gu0 (by rcases n3 with e | e | e <;> rw [e] <;> decide) (by rcases n3 with e | e | e <;> rw [e] <;> decide) (by rcases n3 with e | e | e <;> rw [e] <;> decide)) (by rcases n3 with e | e | e <;> rw [e] <;> decide)
  rw [if_neg n3] at hac
  have g6 : 6 ≤ op := by
    rw [Int32.le_iff_toInt_le] at g2 ⊢
    have a2 : op.toInt ≠ 2 := fun z => n2 (Int32.toInt_inj.mp z)
    have a3 : op.toInt ≠ 3 := fun z => n3 (Or.inl (Int32.toInt_inj.mp z))
    have a4 : op.toInt ≠ 4 := fun z => n3 (Or.inr (Or.inl (Int32.toInt_inj.mp z)))
    have a5 : op.toInt ≠ 5 := fun z => n3 (Or.inr (Or.inr (Int32.toInt_inj.mp z)))
    have e2 : (2 : Int32).toInt = 2 := rfl
    have e6 : (6 : Int32).toInt = 6 := rfl
    omega
  rw [if_pos g6]
  by_cases n6 : op = 6 ∨ op = 7 ∨ op = 8
  · rw [if_pos n6] at hac
    have l12 : op < 12 := by rcases n6 with e | e | e <;> rw [e] <;> decide
    rw [if_neg (by rcases n6 with e | e | e <;> rw [e] <;> decide)]
    have vy := (gd_P hy (y0 l12)).1.1
    have hgu : guF op x y = if sfN (y.2.2.2.1 &&& 63) (y.2.2.2.2.1 &&& 63) 64 0 0 ≤ 8 then 0 else 1 := by
      unfold guF
      rw [if_pos n6]
      by_cases q : sfN (y.2.2.2.1 &&& 63) (y.2.2.2.2.1 &&& 63) 64 0 0 ≤ 8
      · rw [if_pos q, if_pos ((sf_le vy).mp q)]
      · rw [if_neg q, if_neg (fun z => q ((sf_le vy).mpr z))]
    have es : f_X7_shift N op = if sfN (y.2.2.2.1 &&& 63) (y.2.2.2.2.1 &&& 63) 64 0 0 ≤ 8 then f_X7_shift_c71 op (f_X7_nothing N 19) else uI N 52 8 1 := sn_R 64 65 0 0 N rfl (by omega) (h17 l12)
    rw [es]
    by_cases q : sfN (y.2.2.2.1 &&& 63) (y.2.2.2.2.1 &&& 63) 64 0 0 ≤ 8
    · rw [if_pos q]
      rw [if_pos q] at hgu
      unfold f_X7_shift_c71
      rw [no_R', show ix 19 = 19 from rfl]
      obtain ⟨s1, s2, s3⟩ := sf_R (op := op) (y := y) n6 hx x0 64 65 0 (pR N 19 ZR) ZC rfl (by omega) Gd_Z (by rw [gR_n (by decide), h16]) (by rw [gR_n (by decide), h17 l12]) (by rw [gR_p, toR_Z])
      have hg : Gd (sfP op x y) := Gd_sf hx x0 64 0 ZC rfl Gd_Z
      obtain ⟨r1, r2, r3⟩ := fin_R (N := f_X7_shift_73 op 65 0 (pR N 19 ZR)) (z := sfP op x y) (Or.inl hg) s1
      unfold wkA
      rw [if_pos hgu, hac]
      refine ⟨r1, ((Sc.rf.pR (by decide) (by decide)).tr s2).tr r2, ?_⟩
      rw [r3, s3, qdoI (by omega), h8, hgu]
    · rw [if_neg q]
      rw [if_neg q] at hgu
      exact up _ rfl hgu
  rw [if_neg n6] at hac
  have g9 : 9 ≤ op := by
    rw [Int32.le_iff_toInt_le] at g6 ⊢
    have a6 : op.toInt ≠ 6 := fun z => n6 (Or.inl (Int32.toInt_inj.mp z))
    have a7 : op.toInt ≠ 7 := fun z => n6 (Or.inr (Or.inl (Int32.toInt_inj.mp z)))
    have a8 : op.toInt ≠ 8 := fun z => n6 (Or.inr (Or.inr (Int32.toInt_inj.mp z)))
    have e6 : (6 : Int32).toInt = 6 := rfl
    have e9 : (9 : Int32).toInt = 9 := rfl
    omega
  rw [if_pos g9]
  by_cases n9 : op = 9 ∨ op = 10
  · have l12 : op < 12 := by rcases n9 with e | e <;> rw [e] <;> decide
    rw [if_neg (by rcases n9 with e | e <;> rw [e] <;> decide)]
    by_cases hg : guF op x y = 0
    · have hq := gu_9 n9 hg (hnc l12)
      rw [div_R n9 hx x0 (y0 l12) hq.1 hq.2 h16 (h17 l12) h18]
      refine key _ (pr _ ?_) hg n6
      rw [hac]
      rcases n9 with e | e
      · rw [if_pos e, if_pos e]
      · rw [if_neg (by rw [e]; decide), if_neg (by rw [e]; decide), if_pos e]
    · have hg1 : guF op x y = 1 := by
        unfold guF at hg ⊢
        rw [if_neg n6, if_pos n9] at hg ⊢
        by_cases q1 : y.2.1 = y.2.2.1
        · rw [if_pos q1] at hg ⊢
          by_cases q2 : 0 < y.2.1
          · rw [if_pos q2] at hg; exact absurd rfl hg
          · rw [if_neg q2] at hg ⊢
            by_cases q3 : x.2.1 = x.2.2.1
            · rw [if_pos q3] at hg; exact absurd rfl hg
            · rw [if_neg q3]
        · rw [if_neg q1]
      refine up _ ?_ hg1
      unfold f_X7_divide f_X7_divide_29
      have a2 : mL N 54 (ix 17) = y.2.1 := by rw [← h17 l12]; rfl
      rw [if_neg (by rcases n9 with e | e <;> rw [e] <;> decide), a2]
      by_cases q1 : y.2.1 = y.2.2.1
      · rw [if_neg (fun z => in_0.mp z (by rw [show gR N (ix 17) = y from h17 l12]; exact ⟨y0 l12, q1⟩))]
        have q2 : ¬ 0 < y.2.1 := fun z => hg (by unfold guF; rw [if_neg n6, if_pos n9, if_pos q1, if_pos z])
        rw [if_neg q2]
      · rw [if_pos (in_0.mpr (fun z => q1 (by rw [show gR N (ix 17) = y from h17 l12] at z; exact z.2)))]
  have n9' : ¬ op = 9 := fun z => n9 (Or.inl z)
  have n10 : ¬ op = 10 := fun z => n9 (Or.inr z)
  rw [if_neg n9', if_neg n10] at hac
  by_cases n11 : op = 11
  · have l12 : op < 12 := by rw [n11]; decide
    rw [if_neg (by rw [n11]; decide)]
    have hg1 : guF op x y = 1 := by
      unfold guF
      rw [if_neg n6, if_neg n9, if_pos n11]
      by_cases q1 : x.2.1 = x.2.2.1
      · rw [if_pos q1]
        by_cases q2 : y.2.1 = y.2.2.1
        · exact absurd ⟨q1, q2⟩ (hnc l12)
        · rw [if_neg q2]
      · rw [if_neg q1]
    refine up _ ?_ hg1
    unfold f_X7_divide f_X7_divide_29
    rw [if_pos n11]
  have g12 : 12 ≤ op := by
    rw [Int32.le_iff_toInt_le] at g9 ⊢
    have a9 : op.toInt ≠ 9 := fun z => n9' (Int32.toInt_inj.mp z)
    have a10 : op.toInt ≠ 10 := fun z => n10 (Int32.toInt_inj.mp z)
    have a11 : op.toInt ≠ 11 := fun z => n11 (Int32.toInt_inj.mp z)
    have e9 : (9 : Int32).toInt = 9 := rfl
    have e12 : (12 : Int32).toInt = 12 := rfl
    omega
  rw [if_pos g12]
  have hg0 : guF op x y = 0 := gu_12 g12
  by_cases n12 : op = 12
  · rw [if_pos n12] at hac
    rw [if_pos n12]
    unfold f_X7_does_c256 f_X7_does_c264 f_X7_does_c272 f_X7_does_c281
    rw [nu_R', cp_R, cp_R]
    have q1 : gR (pR N (ix 19) (cst 0)) (ix 16) = x := by rw [gR_n (by decide)]; exact h16
    rw [q1]
    have q2 : gR (pR (pR N (ix 19) (cst 0)) (ix 17) x) (ix 19) = cst 0 := by rw [gR_n (by decide), gR_p]
    rw [q2]
    have w1 : gR (pR (pR (pR N (ix 19) (cst 0)) (ix 17) x) (ix 16) (cst 0)) 16 = cst 0 := gR_p
    have w2 : gR (pR (pR (pR N (ix 19) (cst 0)) (ix 17) x) (ix 16) (cst 0)) 17 = x := by rw [gR_n (by decide)]; exact gR_p
    have w3 : gR (pR (pR (pR N (ix 19) (cst 0)) (ix 17) x) (ix 16) (cst 0)) 18 = AL := by rw [gR_n (by decide), gR_n (by decide), gR_n (by decide), h18]
    have w4 : Sc N (pR (pR (pR N (ix 19) (cst 0)) (ix 17) x) (ix 16) (cst 0)) := ((Sc.rf.pR (by decide) (by decide)).pR (by decide) (by decide)).pR (by decide) (by decide)
    have w5 : mI (pR (pR (pR N (ix 19) (cst 0)) (ix 17) x) (ix 16) (cst 0)) 52 8 = 0 := by rw [qdoI (by omega), qdoI (by omega), qdoI (by omega), h8]
    obtain ⟨s1, s2⟩ := sub_R (gd_ex (Gd_cst 0) rfl) ex (gd_P (Gd_cst 0) rfl).1.1 w1 w2 w3
    exact key _ ⟨s1.trans hac.symm, w4.tr s2.1, s2.2.trans w5⟩ hg0 n6
  rw [if_neg n12] at hac
  rw [if_neg n12]
  by_cases n13 : op = 13
  · rw [if_pos n13] at hac
    rw [if_pos n13]
    unfold f_X7_does_c298 f_X7_does_c322
    have hN : N = pR N 18 AL := by rw [← h18, pR_g]
    have e : ∀ (z : Fk), mL (pR N 18 z) 54 (ix 16) = x.2.1 ∧ mL (pR N 18 z) 55 (ix 16) = x.2.2.1 ∧ mL (pR N 18 z) 56 (ix 16) = x.2.2.2.1 ∧ mL (pR N 18 z) 57 (ix 16) = x.2.2.2.2.1 ∧ mL (pR N 18 z) 58 (ix 16) = x.2.2.2.2.2.1 ∧ mL (pR N 18 z) 59 (ix 16) = x.2.2.2.2.2.2 := na_e h16
    have ht : f_X7_turn N 16 18 = pR N 18 (0, -9223372036854775808, 9223372036854775807, x.2.2.2.1, tn x, 1, 0) := by
      conv => lhs; rw [hN]
      unfold f_X7_turn f_X7_turn_c35 AL
      rw [ix18]
      simp only [(e _).2.2.1, wr3, (e _).2.2.2.1, wr4]
      rfl
    rw [ht]
    simp only [(e _).2.2.2.2.1, (e _).2.2.2.2.2]
    unfold f_X7_setRest
    rw [ix18]
    simp only [wr5, wr6, (e _).2.1, (e _).1, wr1, wr2]
    refine key _ (pr _ ?_) hg0 n6
    rw [hac, ← rest_rem px.2.1.1]
    rfl
  rw [if_neg n13] at hac
  rw [if_neg n13, na_R (op_na h1 h2 n0 n1 n2 n3 n6 n9' n10 n11 n12 n13) h16 h18]
  exact key _ (pr _ hac.symm) hg0 n6
