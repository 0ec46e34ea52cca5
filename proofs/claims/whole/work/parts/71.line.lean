theorem sc_h {b p : Nat} (hp : p < 8) (h1 : 53 ≤ b) : scr b (40 + p) = false ∧ scr b (48 + p) = false := ⟨scr_n (by omega) (by omega), scr_n (by omega) (by omega)⟩
/-- a LINE that goes on to the next, or to another, or ends -/
theorem wl_on {m n l : Nat} {A0 B0 A B M : Mem} {op b : Int32} (hm : m < 6) (hl : l < n) (hS : St m n A B) (hD : Dy m n A B) (hC : Cm A B) (ho : mI M 61 (32 * m + l) = op) (n26 : ¬ op = 26) (n27 : ¬ op = 27) (ha : ER (wfC m) A0 A) (hb : ER (wfR m) B0 B) :
    Dy m n (f_X2_workLine_252 (rT m) (nI l) A) (f_X7_work_234 (nI m) (nI l) M B) ∧ ER (wfC m) A0 (f_X2_workLine_252 (rT m) (nI l) A) ∧ ER (wfR m) B0 (f_X7_work_234 (nI m) (nI l) M B) := by
  have hn := hS.1
  unfold f_X2_workLine_252 f_X2_workLine_c260 f_X7_work_234 f_X7_work_256 f_X7_work_c259 f_X7_work_259
  rw [x_ml hm (by omega), ho, if_neg n27, if_neg n26, nI_1]
  exact on_all hm (by omega) hS hD hC ha hb
theorem Dy.wa {m n : Nat} {A0 B0 A B A' B' : Mem} (hm : m < 6) (hS : St m n A B) (hD : Dy m n A B) (ha : ER eC A A') (hb : ER eR B B') (wa : ER (wfC m) A0 A) (wb : ER (wfR m) B0 B) : St m n A' B' ∧ Dy m n A' B' ∧ ER (wfC m) A0 A' ∧ ER (wfR m) B0 B' :=
  ⟨hS.w hm (ha.mono eC_w) (hb.mono eR_w), hD.e hm hS.1 ha hb, wa.tr (ha.mono eC_w), wb.tr (hb.mono eR_w)⟩
theorem one_cm {m l : Nat} {A B A3 B3 : Mem} {x : Nat → Fk} {i : Nat} {u : Fk} (h : LnS m l A B x) (hi : i < 8) (hu : Gd u) (h1 : gC A3 (23 + i) = u) (h2 : gR B3 (48 + i) = toR u) (h3 : ∀ p, p < 8 → p ≠ i → gC A3 (23 + p) = gC A (23 + p)) (h4 : ∀ p, p < 8 → p ≠ i → gR B3 (48 + p) = gR B (48 + p)) : Cm A3 B3 := fun p hp => by
  by_cases e : p = i
  · rw [e, h1, h2]; exact ⟨hu, rfl⟩
  · rw [h3 p hp e, h4 p hp e]; exact h.cm p hp
theorem wl_all {m n l : Nat} {A B : Mem} (hm : m < 6) (hl : l < n) (hS : St m n A B) (hD : Dy m n A B) (hr : ¬ mI B 67 (32 * m + l) = 0) :
    Dy m n (f_X2_workLine_c23 (rT m) (nI l) (f_X2_fetch A (rT m) (nI l))) (f_X7_work B (nI m) (nI l)) ∧ ER (wfC m) A (f_X2_workLine_c23 (rT m) (nI l) (f_X2_fetch A (rT m) (nI l))) ∧ ER (wfR m) B (f_X7_work B (nI m) (nI l)) := by
  have er : rT m = 74 + 271 * m := rfl
  have hn := hS.1
  have xl : ix (nI l) = l := ix_n (by omega)
  have hpl := hD.2.2.2.1 l hl hr
  obtain ⟨o1, o2, o3, hg⟩ := hS.2.2.2.2.1 l hl
  obtain ⟨Q', q1, q2, q3⟩ := hr_R (M := B) (B := B) hm (show l < 32 by omega) 8 9 0 B rfl (by omega) ER.rf (fun p h => by omega)
  have ew : f_X7_work B (nI m) (nI l) = f_X7_work_c75 (nI m) (nI l) B (f_X7_ready Q') := q1
  rw [ew]
  obtain ⟨L2, t2, u2⟩ := LnS.of (A := A) (B := Q') (A2 := f_X2_fetch A (rT m) (nI l)) (B2 := f_X7_ready Q') (x := fun p => gC A (rT m + 15 + (8 * l + p))) (fun p hp => ⟨rfl, (hpl p hp).1, (hpl p hp).2.1⟩) (fun p hp => by rw [q2 p hp]; exact (hpl p hp).2.2) (by omega) rfl rfl
  generalize f_X2_fetch A (rT m) (nI l) = A2 at L2 t2
  generalize f_X7_ready Q' = B2 at L2 u2
  have eB : ER eR B B2 := (q3.mono hr_e).tr (u2.mono hr_e)
  obtain ⟨S2, D2, wA2, wB2⟩ := Dy.wa hm hS hD (t2.mono cm_e) eB ER.rf ER.rf
  have p1 : mI A2 (rT m + 1) l = mI B 61 (32 * m + l) := by rw [wC_ops wA2 (by omega) (by omega)]; exact o1
  have p2 : mI A2 (rT m + 2) l = mI B 62 (32 * m + l) := by rw [wC_ops wA2 (by omega) (by omega)]; exact o2
  have p3 : mI A2 (rT m + 3) l = mI B 63 (32 * m + l) := by rw [wC_ops wA2 (by omega) (by omega)]; exact o3
  have xm : ix (32 * nI m + nI l) = 32 * m + l := x_ml hm (by omega)
  generalize hop : mI B 61 (32 * m + l) = op at hg p1
  generalize ha' : mI B 62 (32 * m + l) = a at hg p2
  generalize hb' : mI B 63 (32 * m + l) = b at hg p3
  obtain ⟨g1, g2, ⟨i, hi, rfl⟩, g4, g5, g6, g7⟩ := id hg
  unfold f_X2_workLine_c23 f_X7_work_c75
  rw [xl, xm, p1, p2, p3, hop, ha', hb', x_23 hi]
  have iop : ∀ k : Int32, op = k ↔ op.toInt = k.toInt := fun k => Int32.toInt_inj.symm
  have j0 := Int32.le_iff_toInt_le.mp g1
  have j27 := Int32.le_iff_toInt_le.mp g2
  have c0 : (0 : Int32).toInt = 0 := rfl
  have c20 : (20 : Int32).toInt = 20 := rfl
  have c21 : (21 : Int32).toInt = 21 := rfl
  have c22 : (22 : Int32).toInt = 22 := rfl
  have c23 : (23 : Int32).toInt = 23 := rfl
  have c24 : (24 : Int32).toInt = 24 := rfl
  have c25 : (25 : Int32).toInt = 25 := rfl
  have c26 : (26 : Int32).toInt = 26 := rfl
  have c27 : (27 : Int32).toInt = 27 := rfl
  have c12 : (12 : Int32).toInt = 12 := rfl
  by_cases h23 : op = 23 ∨ op = 24 ∨ op = 25
  · have n20 : ¬ op = 20 := by rcases h23 with e | e | e <;> rw [e] <;> decide
    have n21 : ¬ op = 21 := by rcases h23 with e | e | e <;> rw [e] <;> decide
    have n22 : ¬ op = 22 := by rcases h23 with e | e | e <;> rw [e] <;> decide
    rw [if_neg n20, if_neg n21, if_neg n22, if_pos h23, if_neg (by rcases h23 with e | e | e <;> rw [e] <;> decide), if_neg (by rcases h23 with e | e | e <;> rw [e] <;> decide)]
    unfold f_X7_work_c97 f_X7_work_c105 f_X7_work_c109
    rw [xm, hop, ha', hb']
    exact wl_2 hm hl S2 D2 L2 h23 hg p1 p2 p3 wA2 wB2
  · have e128 : (if op ≤ 22 then f_X7_work_128 (nI m) (nI l) B B2 else if 26 ≤ op then f_X7_work_128 (nI m) (nI l) B B2 else f_X7_work_c97 (nI m) (nI l) B (f_X7_asked B2 op (nI i) b 0)) = f_X7_work_128 (nI m) (nI l) B B2 := by
      by_cases q : op ≤ 22
      · rw [if_pos q]
      · rw [if_neg q, if_pos]
        rw [Int32.le_iff_toInt_le] at q ⊢
        rw [iop, iop, iop] at h23
        omega
    rw [e128, if_neg h23]
    unfold f_X7_work_128
    rw [xm, hop, ha', hb']
    by_cases h20 : op = 20
    · rw [if_pos h20, if_pos (by rw [h20]; decide), if_pos h20]
      unfold f_X2_workLine_c132 f_X7_work_c194
      rw [mc_C', nu_R', x_48 hi]
      obtain ⟨S3, D3, w3, v3⟩ := Dy.wa (A' := pC A2 (23 + i) (cst (Int32.toInt64 b))) (B' := pR B2 (48 + i) (cst (Int32.toInt64 b))) hm S2 D2 ((ER.rf.pC (fun _ => cm_f hi)).mono cm_e) ((ER.rf.pR (fun _ h1 h2 => th_f hi h1 h2)).mono th_e) wA2 wB2
      exact wl_on (b := b) hm hl S3 D3 (one_cm L2 hi (Gd_cst _) gC_p gR_p (fun p hp e => gC_n (by omega)) (fun p hp e => gR_n (by omega))) hop (by rw [h20]; decide) (by rw [h20]; decide) w3 v3
    rw [if_neg h20]
    by_cases h21 : op = 21
    · obtain ⟨k, hk, rfl⟩ := g4 (Or.inr (Or.inl h21))
      rw [if_pos h21, if_pos (by rw [h21]; decide), if_neg h20, if_pos h21]
      unfold f_X2_workLine_c150 f_X7_work_c217
      have hxk := L2.1 k hk
      rw [x_15 (by omega) hk, cp_C, hxk.1, cp_R, x_48 hi, x_40 hk, L2.2.1 k hk]
      obtain ⟨S3, D3, w3, v3⟩ := Dy.wa (A' := pC A2 (23 + i) (gC A (rT m + 15 + (8 * l + k)))) (B' := pR B2 (48 + i) (gC A (rT m + 15 + (8 * l + k)))) hm S2 D2 ((ER.rf.pC (fun _ => cm_f hi)).mono cm_e) ((ER.rf.pR (fun _ h1 h2 => th_f hi h1 h2)).mono th_e) wA2 wB2
      exact wl_on (b := 0) hm hl S3 D3 (one_cm L2 hi hxk.2.1 gC_p (by rw [gR_p, toR_eq hxk.2.2]) (fun p hp e => gC_n (by omega)) (fun p hp e => gR_n (by omega))) hop (by rw [h21]; decide) (by rw [h21]; decide) w3 v3
    rw [if_neg h21]
    by_cases h22 : op = 22
    · obtain ⟨t, ht, rfl⟩ := g5 h22
      rw [if_pos h22, if_pos (by rw [h22]; decide), if_neg h20, if_neg h21, if_pos h22]
      unfold f_X2_workLine_c164 f_X7_work_c234
      rw [x_15 (by omega) hi]
      have hxi := L2.1 i hi
      obtain ⟨k, k1, k2, k3, k4⟩ := S2.2.2.2.2.2 t ht
      -- what the place holds, of both
      have hh : ∀ (Qa : Mem), ER (lkW i) (pC A2 (23 + i) ZC) Qa → ∀ v, f_X1_holds Qa (rT m + 15 + (8 * l + i)) v = f_X7_isIn B2 (40 + nI i) v := fun Qa hE v => by
        refine hold_eq hxi.2.1 ?_ (by rw [x_40 hi, toR_eq hxi.2.2]; exact L2.2.1 i hi)
        rw [hE.cg (fun jj => by
          have a1 : ¬ 74 + 271 * m + 15 + (8 * l + i) = 19 := by omega
          have a2 : ¬ 74 + 271 * m + 15 + (8 * l + i) = 23 + i := by omega
          simp only [lkW, er, a1, a2, decide_false, Bool.or_self]), gC_n (by omega)]
        exact hxi.1
      have cA := lk_C (m := m) (l := l) (A := pC A2 (23 + i) ZC) (x := ZC) (num := fun p => mL A2 (6 + t) p) (hd := fun p => !decide (f_X7_isIn B2 (40 + nI i) (Int32.toInt64 (nI p)) = 0)) hi ht k1 k (k + 1) 0 (pC A2 (23 + i) ZC) (by omega) (by omega) ER.rf (by rw [qcnI (by omega)]; exact k2) (fun p hp => by rw [qcnL (by omega)]) (fun Qa hE p hp => by rw [hh Qa hE]; simp)
      have cB := lk_R (B := pR B2 19 ZR) (x := ZC) (num := fun p => mL A2 (6 + t) p) (hd := fun p => !decide (f_X7_isIn B2 (40 + nI i) (Int32.toInt64 (nI p)) = 0)) hi ht k1 k (k + 1) 0 (pR B2 19 ZR) ZC (by omega) (by omega) Gd_Z (by rw [gR_p, toR_Z]) ER.rf (by rw [qdoI (by omega)]; exact k3) (fun p hp => by rw [qdoL (by omega)]; exact (k4 p hp).symm) (fun Qb hE p hp => by
        have e : f_X7_isIn Qb (40 + nI i) (Int32.toInt64 (nI p)) = f_X7_isIn B2 (40 + nI i) (Int32.toInt64 (nI p)) := by
          have g : gR Qb (40 + i) = gR B2 (40 + i) := by
            rw [hE.g (fun b h1 h2 => (sc_h hi h1).1), gR_n (by omega)]
          have e0 : ∀ X : Mem, f_X7_isIn X (40 + nI i) (Int32.toInt64 (nI p)) = f_X1_holds A2 (rT m + 15 + (8 * l + i)) (Int32.toInt64 (nI p)) ∨ ¬ gR X (40 + i) = gR B2 (40 + i) := fun X => by
            by_cases q : gR X (40 + i) = gR B2 (40 + i)
            · left
              exact (hold_eq hxi.2.1 hxi.1 (by rw [x_40 hi, q, toR_eq hxi.2.2]; exact L2.2.1 i hi)).symm
            · exact Or.inr q
          rw [(e0 Qb).resolve_right (fun z => z g), (e0 B2).resolve_right (fun z => z rfl)]
        rw [e]; simp)
      have fA : f_X2_lookUp A2 (nI t) (rT m + 15 + (8 * l + i)) (23 + i) = f_X2_lookUp_8 (nI t) (rT m + 15 + (8 * l + i)) (23 + i) (k + 1) 0 (pC A2 (23 + i) ZC) := by
        unfold f_X2_lookUp f_X2_lookUp_c5
        rw [mn_C', ix_n (show t < 2 ^ 31 by omega), k2, ix_n (show k < 2 ^ 31 by omega)]
      have fB : f_X7_look B2 (nI i) (nI t) = f_X7_look_8 (nI i) (nI t) (k + 1) 0 (pR B2 19 ZR) := by
        unfold f_X7_look f_X7_look_c6
        rw [no_R', show ix 19 = 19 from rfl, ix_n (show t < 2 ^ 31 by omega), k3, ix_n (show k < 2 ^ 31 by omega)]
      rw [fA, fB]
      generalize f_X2_lookUp_8 (nI t) (rT m + 15 + (8 * l + i)) (23 + i) (k + 1) 0 (pC A2 (23 + i) ZC) = A3 at cA
      generalize f_X7_look_8 (nI i) (nI t) (k + 1) 0 (pR B2 19 ZR) = B3 at cB
      obtain ⟨cA1, cA2⟩ := cA
      obtain ⟨cB1, cB2⟩ := cB
      rw [gC_p] at cA1
      have sA : ER eC A2 A3 := ((ER.rf.pC (fun _ => cm_f hi)).mono cm_e).tr (cA2.mono (fun b j h => by
        simp only [lkW, Bool.or_eq_true, decide_eq_true_eq] at h
        rcases h with h | h
        · simp [eC, h]
        · rw [h]; exact cm_e _ _ (cm_f hi)))
      have sB : ER eR B2 B3 := ((ER.rf.pR (fun _ h1 h2 => scr_f h1 h2 (by decide) (by decide))).mono sc_e).tr (cB2.mono (fun b j h => by
        simp only [eR, hrR, Bool.or_eq_true, Bool.and_eq_true, decide_eq_true_eq] at h ⊢
        rcases h with h | h
        · exact Or.inl h
        · exact Or.inr ⟨⟨h.1, by omega⟩, by omega⟩))
      obtain ⟨S3, D3, w3, v3⟩ := Dy.wa hm S2 D2 sA sB wA2 wB2
      refine wl_on (b := 0) hm hl S3 D3 (one_cm L2 hi (Gd_lk _ _ _ Gd_Z) cA1 cB1 (fun p hp e => ?_) (fun p hp e => ?_)) hop (by rw [h22]; decide) (by rw [h22]; decide) w3 v3
      · rw [cA2.cg (fun jj => by
          have a1 : ¬ 23 + p = 19 := by omega
          have a2 : ¬ 23 + p = 23 + i := by omega
          simp only [lkW, a1, a2, decide_false, Bool.or_self]), gC_n (by omega)]
      · rw [cB2.g (fun b h1 h2 => by
          have a1 := (sc_h (b := b) hp h1).2
          have a2 : ¬ 48 + p = 48 + i := by omega
          simp only [a1, decide_eq_false a2, Bool.and_false, Bool.or_self]), gR_n (by omega)]
    rw [if_neg h22]
    by_cases h26 : op = 26
    · obtain ⟨k, hk, rfl⟩ := g7 h26
      rw [if_pos h26, if_pos (by rw [h26]; decide), if_neg h20, if_neg h21, if_neg h22]
      unfold f_X2_workLine_c211 f_X7_work_234 f_X7_work_256 f_X7_work_c259 f_X7_work_259
      rw [xm, hop, hb', if_neg (by rw [h26]; decide), if_pos h26]
      exact on_all hm (by omega) S2 D2 L2.cm wA2 wB2
    rw [if_neg h26]
    by_cases h27 : op = 27
    · rw [if_pos h27, if_pos (by rw [h27]; decide), if_neg h20, if_neg h21, if_neg h22]
      unfold f_X7_work_234 f_X7_work_259
      rw [xm, hop, if_pos h27]
      exact ⟨D2, wA2, wB2⟩
    rw [if_neg h27]
    -- an act
    have l20 : op < 20 := by
      rw [iop] at h20 h21 h22 h26 h27
      rw [iop, iop, iop] at h23
      rw [Int32.lt_iff_toInt_lt]
      omega
    obtain ⟨k, hk, rfl⟩ := g4 (Or.inl l20)
    have l19 : op ≤ 19 := by
      rw [Int32.lt_iff_toInt_lt] at l20
      rw [Int32.le_iff_toInt_le]
      show op.toInt ≤ 19
      omega
    have n20 : ¬ 20 ≤ op := fun z => by rw [Int32.le_iff_toInt_le] at z; rw [Int32.lt_iff_toInt_lt] at l20; omega
    rw [if_neg n20, x_15 (by omega) hi, x_15 (by omega) hk]
    have act : ∀ (f : Nat), f < 8 → Dy m n (f_X2_workLine_245 (rT m) (nI l) A2 (rT m + 15 + (8 * l + f)) A2) (f_X7_work_151 (nI m) (nI l) B (nI f) B2) ∧ ER (wfC m) A (f_X2_workLine_245 (rT m) (nI l) A2 (rT m + 15 + (8 * l + f)) A2) ∧ ER (wfR m) B (f_X7_work_151 (nI m) (nI l) B (nI f) B2) := by
      intro f hf
      have hxf := L2.1 f hf
      have hxk := L2.1 k hk
      have z16 : gC A2 (15 + 1) = cst 0 := S2.2.2.2.1
      obtain ⟨r1, r2⟩ := wk_C (M := A2) (a0 := 15) (a := rT m + 15 + (8 * l + f)) (b := rT m + 15 + (8 * l + k)) (t := 23 + i) (op := op) g1 l19 (by omega) (by omega) (by omega) (by omega) (by omega) (by omega) z16 (by rw [hxf.1]; exact hxf.2.1) (by rw [hxk.1]; exact hxk.2.1)
      rw [hxf.1, hxk.1] at r1
      obtain ⟨s1, s2, -⟩ := does_R (M := B2) (op := op) (f := 40 + nI f) (g := 40 + nI k) g1 l19 hxf.2.1 hxk.2.1 (by rw [x_40 hf, toR_eq hxf.2.2]; exact L2.2.1 f hf) (by rw [x_40 hk, toR_eq hxk.2.2]; exact L2.2.1 k hk) (by rw [x_40 hf]; omega) (by rw [x_40 hk]; omega)
      unfold f_X2_workLine_245 f_X2_workLine_c252 f_X7_work_151 f_X7_work_c162 f_X7_work_c173
      rw [xl, p1, p2, p3, xm, hop, ha', hb', x_15 (by omega) hk, x_23 hi, cp_R, x_48 hi, show ix 26 = 26 from rfl, s1]
      generalize f_X0_work A2 15 op (rT m + 15 + (8 * l + f)) (rT m + 15 + (8 * l + k)) (23 + i) = A3 at r1 r2
      generalize f_X7_does B2 op (40 + nI f) (40 + nI k) 26 = B3 at s1 s2
      have sA : ER eC A2 A3 := ⟨r2.1, r2.2.1, fun b j q => r2.2.2 b j (fun z => by rw [z] at q; rw [cm_e _ _ (cm_f (j := j) hi)] at q; cases q) (fun z => by rw [z] at q; simp [eC] at q)⟩
      have sB : ER eR B2 (pR B3 (48 + i) (toR (wk op (gC A (rT m + 15 + (8 * l + f))) (gC A (rT m + 15 + (8 * l + k)))))) := (s2.ER sc_e).pR (fun b h1 h2 => th_e _ _ (th_f hi h1 h2))
      obtain ⟨S3, D3, w3, v3⟩ := Dy.wa hm S2 D2 sA sB wA2 wB2
      refine wl_on (b := 0) hm hl S3 D3 (one_cm L2 hi (Gd_wk hxf.2.1 hxk.2.1) r1 gR_p (fun p hp e => r2.g (by omega) (by omega)) (fun p hp e => ?_)) hop h26 h27 w3 v3
      rw [gR_n (by omega), s2.g (by omega)]
    by_cases h12 : 12 ≤ op
    · rw [if_pos h12, if_pos h12]; exact act k hk
    · rw [if_neg h12, if_neg h12]; exact act i hi
