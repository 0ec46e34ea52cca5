theorem gu_12 {op : Int32} {x y : Fk} (h : 12 ≤ op) : guF op x y = 0 := by
  have ne : ∀ k : Int32, k < 12 → ¬ op = k := fun k hk z => by
    rw [z] at h
    have q := Int32.lt_of_lt_of_le hk h
    rw [Int32.lt_iff_toInt_lt] at q
    omega
  unfold guF
  rw [if_neg (fun z => z.elim (ne 6 (by decide)) (fun z => z.elim (ne 7 (by decide)) (ne 8 (by decide)))), if_neg (fun z => z.elim (ne 9 (by decide)) (ne 10 (by decide))), if_neg (ne 11 (by decide))]
theorem gu_C12 {M : Mem} {op : Int32} {a b : Nat} (h : 12 ≤ op) : f_X0_givesUp M op a b = 0 := by
  have ne : ∀ k : Int32, k < 12 → ¬ op = k := fun k hk z => by
    rw [z] at h
    have q := Int32.lt_of_lt_of_le hk h
    rw [Int32.lt_iff_toInt_lt] at q
    omega
  unfold f_X0_givesUp
  rw [if_neg (fun z => z.elim (ne 6 (by decide)) (fun z => z.elim (ne 7 (by decide)) (ne 8 (by decide)))), if_neg (fun z => z.elim (ne 9 (by decide)) (ne 10 (by decide))), if_neg (ne 11 (by decide))]
theorem shG_Pf {x : Fk} (h : Pf x) : shG x = shF x := if_pos h.1
theorem sG_C {M : Mem} {t : Nat} {z : Fk} (h : Gd z) : f_X1_sharpen (pC M t z) t = pC M t (shG z) := by
  unfold shG
  by_cases e : z.1 = 0
  · rw [if_pos e]
    exact shF_C ⟨e, (gd_P h e).1⟩
  · rw [if_neg e]
    rcases h with rfl | ⟨l, hh, k, v, m, r, q, _⟩
    · exact sh_none 7 0
    · rw [q] at e; exact absurd rfl e
theorem Gd_shG {z : Fk} (h : Gd z) : Gd (shG z) := by
  unfold shG
  by_cases e : z.1 = 0
  · rw [if_pos e]; exact Gd_shF ⟨e, (gd_P h e).1⟩
  · rw [if_neg e]; exact h
theorem c0_Pf : (cst 0).1 = 0 ∧ Gd (cst 0) := ⟨rfl, Gd_cst 0⟩
/-- the acts that are left when the others are told off -/
theorem op_na {op : Int32} (h1 : 0 ≤ op) (h2 : op ≤ 19) (n0 : ¬ op = 0) (n1 : ¬ op = 1) (n2 : ¬ op = 2) (n3 : ¬ (op = 3 ∨ op = 4 ∨ op = 5)) (n6 : ¬ (op = 6 ∨ op = 7 ∨ op = 8)) (n9 : ¬ op = 9) (n10 : ¬ op = 10) (n11 : ¬ op = 11) (n12 : ¬ op = 12) (n13 : ¬ op = 13) : op = 14 ∨ op = 15 ∨ op = 16 ∨ op = 17 ∨ op = 18 ∨ op = 19 := by
  by_cases e14 : op = 14
  · exact Or.inl e14
  · by_cases e15 : op = 15
    · exact Or.inr (Or.inl e15)
    · by_cases e16 : op = 16
      · exact Or.inr (Or.inr (Or.inl e16))
      · by_cases e17 : op = 17
        · exact Or.inr (Or.inr (Or.inr (Or.inl e17)))
        · by_cases e18 : op = 18
          · exact Or.inr (Or.inr (Or.inr (Or.inr (Or.inl e18))))
          · by_cases e19 : op = 19
            · exact Or.inr (Or.inr (Or.inr (Or.inr (Or.inr e19))))
            · exact (op_bad h1 h2 fun k hk => match k, hk with | 0, _ => n0 | 1, _ => n1 | 2, _ => n2 | 3, _ => fun z => n3 (Or.inl z) | 4, _ => fun z => n3 (Or.inr (Or.inl z)) | 5, _ => fun z => n3 (Or.inr (Or.inr z)) | 6, _ => fun z => n6 (Or.inl z) | 7, _ => fun z => n6 (Or.inr (Or.inl z)) | 8, _ => fun z => n6 (Or.inr (Or.inr z)) | 9, _ => n9 | 10, _ => n10 | 11, _ => n11 | 12, _ => n12 | 13, _ => n13 | 14, _ => e14 | 15, _ => e15 | 16, _ => e16 | 17, _ => e17 | 18, _ => e18 | 19, _ => e19 | k + 20, hk => absurd hk (by omega)).elim
theorem na_C {M : Mem} {a t : Nat} {op : Int32} (ho : op = 14 ∨ op = 15 ∨ op = 16 ∨ op = 17 ∨ op = 18 ∨ op = 19) (ha : a ≠ t) : f_X0_narrowed (pC M t AL) op a t = pC M t (na op (gC M a)) := by
  rcases ho with rfl | rfl | rfl | rfl | rfl | rfl
  · exact na_C14 ha
  · exact na_C15 ha
  · exact na_C16 ha
  · exact na_C17 ha
  · exact na_C18 ha
  · exact na_C19 ha
theorem na_R {N : Mem} {op : Int32} {x : Fk} (ho : op = 14 ∨ op = 15 ∨ op = 16 ∨ op = 17 ∨ op = 18 ∨ op = 19) (h16 : gR N 16 = x) (h18 : gR N 18 = AL) : f_X7_narrow N op = pR N 18 (na op x) := by
  rcases ho with rfl | rfl | rfl | rfl | rfl | rfl
  · exact na_R14 h16 h18
  · exact na_R15 h16 h18
  · exact na_R16 h16 h18
  · exact na_R17 h16 h18
  · exact na_R18 h16 h18
  · exact na_R19 h16 h18
theorem gu_11 {x y : Fk} (h : guF 11 x y = 0) : x.2.1 = x.2.2.1 ∧ y.2.1 = y.2.2.1 := by
  unfold guF at h
  rw [if_neg (by decide), if_neg (by decide), if_pos rfl] at h
  by_cases e1 : x.2.1 = x.2.2.1
  · rw [if_pos e1] at h
    by_cases e2 : y.2.1 = y.2.2.1
    · exact ⟨e1, e2⟩
    · rw [if_neg e2] at h; exact absurd h (by decide)
  · rw [if_neg e1] at h; exact absurd h (by decide)
theorem gu_9 {op : Int32} {x y : Fk} (ho : op = 9 ∨ op = 10) (h : guF op x y = 0) (hnc : ¬ (x.2.1 = x.2.2.1 ∧ y.2.1 = y.2.2.1)) : y.2.1 = y.2.2.1 ∧ 0 < y.2.1 := by
  unfold guF at h
  rw [if_neg (by rcases ho with rfl | rfl <;> decide), if_pos ho] at h
  by_cases e1 : y.2.1 = y.2.2.1
  · rw [if_pos e1] at h
    by_cases e2 : 0 < y.2.1
    · exact ⟨e1, e2⟩
    · rw [if_neg e2] at h
      by_cases e3 : x.2.1 = x.2.2.1
      · exact absurd ⟨e3, e1⟩ hnc
      · rw [if_neg e3] at h; exact absurd h (by decide)
  · rw [if_neg e1] at h; exact absurd h (by decide)
/-- an act's fact, ahead of the last sharpening, is fit for it -/
theorem Pf_ac {op : Int32} {x y : Fk} (hx : Gd x) (hy : Gd y) (x0 : x.1 = 0) (y0 : op < 12 → y.1 = 0) (n6 : ¬ (op = 6 ∨ op = 7 ∨ op = 8)) : Pf (acP op x y) := by
  unfold acP
  split
  · exact Pf_pl _ _
  · split
    · exact Pf_mi _ _
    · split
      · rename_i e; exact Pf_tm hx hy x0 (y0 (by rw [e]; decide))
      · by_cases n3 : op = 3 ∨ op = 4 ∨ op = 5
        · rw [if_pos n3]; exact Pf_bw _ _ _
        · rw [if_neg n3]
          split
          · exact Pf_qu _ _
          · split
            · exact Pf_rm hx x0
            · split
              · exact Pf_mi _ _
              · split
                · exact Pf_tu hx x0
                · exact Pf_na hx x0
theorem Gd_ac {op : Int32} {x y : Fk} (hx : Gd x) (hy : Gd y) (x0 : x.1 = 0) (y0 : op < 12 → y.1 = 0) : Gd (shG (acP op x y)) := by
  by_cases n6 : op = 6 ∨ op = 7 ∨ op = 8
  · have e : acP op x y = sfP op x y := by
      unfold acP
      rw [if_neg (by rcases n6 with rfl | rfl | rfl <;> decide), if_neg (by rcases n6 with rfl | rfl | rfl <;> decide), if_neg (by rcases n6 with rfl | rfl | rfl <;> decide), if_neg (by rcases n6 with rfl | rfl | rfl <;> decide), if_pos n6]
    rw [e]
    exact Gd_shG (Gd_sf hx x0 64 0 ZC rfl Gd_Z)
  · have h := Pf_ac hx hy x0 y0 n6
    rw [shG_Pf h]
    exact Gd_shF h
theorem Gd_wkA {op : Int32} {x y : Fk} (hx : Gd x) (hy : Gd y) (x0 : x.1 = 0) (y0 : op < 12 → y.1 = 0) : Gd (wkA op x y) := by
  unfold wkA
  split
  · exact Gd_ac hx hy x0 y0
  · exact Gd_AL
theorem Gd_wkK (op : Int32) (x y : Fk) : Gd (wkK op x y) := by
  unfold wkK
  split
  · exact Gd_cst _
  · exact Gd_Z
theorem Gd_wk {op : Int32} {x y : Fk} (hx : Gd x) (hy : Gd y) : Gd (wk op x y) := by
  unfold wk
  by_cases x0 : x.1 = 0
  · rw [if_pos x0]
    by_cases h12 : 12 ≤ op
    · rw [if_pos h12]
      have y0 : op < 12 → y.1 = 0 := fun z => by
        rw [Int32.lt_iff_toInt_lt] at z
        rw [Int32.le_iff_toInt_le] at h12
        omega
      unfold wk2
      repeat' split
      all_goals first | exact Gd_wkK _ _ _ | exact Gd_wkA hx hy x0 y0
    · rw [if_neg h12]
      by_cases y0 : y.1 = 0
      · rw [if_pos y0]
        unfold wk2
        repeat' split
        all_goals first | exact Gd_wkK _ _ _ | exact Gd_wkA hx hy x0 (fun _ => y0)
      · rw [if_neg y0]; exact Gd_Z
  · rw [if_neg x0]; exact Gd_Z
/-- the class's act, neither constant nor NONE -/
theorem wA_C {M : Mem} {a0 a b t : Nat} {op : Int32} (h1 : 0 ≤ op) (h2 : op ≤ 19) (ha : a ≠ t) (ha2 : a ≠ a0 + 2) (hb : b ≠ t) (hb2 : b ≠ a0 + 2) (ht : t ≠ a0 + 2) (hz : a0 + 1 ≠ t) (hzz : gC M (a0 + 1) = cst 0) (hx : Gd (gC M a)) (hy : Gd (gC M b)) (x0 : (gC M a).1 = 0) (y0 : op < 12 → (gC M b).1 = 0) (hnc : op < 12 → ¬ ((gC M a).2.1 = (gC M a).2.2.1 ∧ (gC M b).2.1 = (gC M b).2.2.1)) : gC (f_X0_work_61 a0 op a b t M) t = wkA op (gC M a) (gC M b) ∧ On2 t (a0 + 2) M (f_X0_work_61 a0 op a b t M) := by
  have lt : ∀ k : Int32, op = k → k < 12 → op < 12 := fun k e h => by rw [e]; exact h
  have hgu : f_X0_givesUp (pC M t AL) op a b = guF op (gC M a) (gC M b) := by
    by_cases h12 : 12 ≤ op
    · rw [gu_C12 h12, gu_12 h12]
    · have := y0 (Int32.not_le.mp h12)
      rw [gu_C (by rw [gC_n ha]; exact x0) (by rw [gC_n hb]; exact this), gC_n ha, gC_n hb]
  unfold f_X0_work_61
  rw [ma_C']
  unfold f_X0_work_c66 wkA
  rw [hgu]
  by_cases hg : guF op (gC M a) (gC M b) = 0
  · rw [if_pos hg, if_pos hg]
    have key : ∀ (Q : Mem) (z : Fk), Q = pC M t z → z = acP op (gC M a) (gC M b) → ¬ (op = 6 ∨ op = 7 ∨ op = 8) → gC (f_X0_work_256 t Q) t = shG (acP op (gC M a) (gC M b)) ∧ On2 t (a0 + 2) M (f_X0_work_256 t Q) := fun Q z h e n6 => by
      have hp := Pf_ac hx hy x0 y0 n6
      unfold f_X0_work_256 f_X0_work_c261
      rw [h, e, shF_C hp, shG_Pf hp, gC_p]
      exact ⟨rfl, On2.rf.pt⟩
    have hac : acP op (gC M a) (gC M b) = acP op (gC M a) (gC M b) := rfl
    conv at hac => rhs; unfold acP
    by_cases n0 : op = 0
    · rw [if_pos n0] at hac
      rw [if_pos n0]
      exact key _ _ (pl_C ha hb) hac.symm (by rw [n0]; decide)
    rw [if_neg n0] at hac ⊢
    by_cases n1 : op = 1
    · rw [if_pos n1] at hac ⊢
      exact key _ _ (mi_C ha hb) hac.symm (by rw [n1]; decide)
    rw [if_neg n1] at hac ⊢
    by_cases n2 : op = 2
    · rw [if_pos n2] at hac ⊢
      exact key _ _ (tm_C ha hb x0 (y0 (lt 2 n2 (by decide)))) hac.symm (by rw [n2]; decide)
    rw [if_neg n2] at hac ⊢
    by_cases n3 : op = 3 ∨ op = 4 ∨ op = 5
    · rw [if_pos n3] at hac ⊢
      exact key _ _ (bw_C ha hb) hac.symm (by rcases n3 with rfl | rfl | rfl <;> decide)
    rw [if_neg n3] at hac ⊢
    by_cases n6 : op = 6 ∨ op = 7 ∨ op = 8
    · rw [if_pos n6] at hac ⊢
      rw [hac]
      unfold f_X0_work_c198 f_X0_work_256 f_X0_work_c261 f_X0_shifted f_X0_shifted_c25
      rw [mn_C]
      have k1 : mL (pC M t AL) b 3 = (gC M b).2.2.2.1 := by rw [qcnL hb]; rfl
      have v1 : mL (pC M t AL) b 4 = (gC M b).2.2.2.2.1 := by rw [qcnL hb]; rfl
      obtain ⟨r1, r2⟩ := sf_C (M := pC M t AL) (b := b) (op := op) ha ha2 ht hx x0 64 65 0 (pC M t ZC) rfl (by omega) (gC_n ha)
      rw [k1, v1, gC_p] at r1
      generalize f_X0_shifted_28 a0 op a b t (pC M t AL) 65 0 (pC M t ZC) = Q at r1 r2
      have hQ : Q = pC Q t (sfP op (gC M a) (gC M b)) := by
        have := pC_g (M := Q) (a := t)
        rw [r1] at this
        exact this.symm
      rw [hQ, sG_C (z := sfP op (gC M a) (gC M b)) (Gd_sf hx x0 64 0 ZC rfl Gd_Z), gC_p]
      exact ⟨rfl, ((On2.rf.pt).tr r2).pt⟩
    rw [if_neg n6] at hac ⊢
    by_cases n9 : op = 9
    · rw [if_pos n9] at hac ⊢
      have hq := gu_9 (Or.inl n9) hg (hnc (lt 9 n9 (by decide)))
      have e1 : mL (pC M t AL) b 1 = (gC M b).2.1 := by rw [qcnL hb]; rfl
      rw [e1]
      exact key _ _ (qu_C ha hq.2) hac.symm (by rw [n9]; decide)
    rw [if_neg n9] at hac ⊢
    by_cases n10 : op = 10
    · rw [if_pos n10] at hac ⊢
      have e1 : mL (pC M t AL) b 1 = (gC M b).2.1 := by rw [qcnL hb]; rfl
      rw [e1]
      exact key _ _ (rm_C ha) hac.symm (by rw [n10]; decide)
    rw [if_neg n10] at hac ⊢
    have n11 : ¬ op = 11 := fun z => by
      rw [z] at hg
      exact hnc (lt 11 z (by decide)) (gu_11 hg)
    by_cases n12 : op = 12
    · rw [if_pos n12] at hac ⊢
      have hm := mi_C (M := M) (a := a0 + 1) (b := a) hz ha
      rw [hzz] at hm
      exact key _ _ hm hac.symm n6
    rw [if_neg n12] at hac ⊢
    by_cases n13 : op = 13
    · rw [if_pos n13] at hac ⊢
      exact key _ _ (tu_C ha) hac.symm n6
    rw [if_neg n13] at hac ⊢
    exact key _ _ (na_C (op_na h1 h2 n0 n1 n2 n3 n6 n9 n10 n11 n12 n13) ha) hac.symm n6
  · rw [if_neg hg, if_neg hg, gC_p]
    exact ⟨rfl, On2.rf.pt⟩
/-- THE ACTS, of the class -/
theorem wk_C {M : Mem} {a0 a b t : Nat} {op : Int32} (h1 : 0 ≤ op) (h2 : op ≤ 19) (ha : a ≠ t) (ha2 : a ≠ a0 + 2) (hb : b ≠ t) (hb2 : b ≠ a0 + 2) (ht : t ≠ a0 + 2) (hz : a0 + 1 ≠ t) (hzz : gC M (a0 + 1) = cst 0) (hx : Gd (gC M a)) (hy : Gd (gC M b)) : gC (f_X0_work M a0 op a b t) t = wk op (gC M a) (gC M b) ∧ On2 t (a0 + 2) M (f_X0_work M a0 op a b t) := by
  have e0 : ∀ c, mI M c 0 = (gC M c).1 := fun _ => rfl
  have e1 : ∀ c, mL M c 1 = (gC M c).2.1 := fun _ => rfl
  have hnone : gC (f_X0_work_20 t M) t = ZC ∧ On2 t (a0 + 2) M (f_X0_work_20 t M) := by
    unfold f_X0_work_20 f_X0_work_c25
    rw [mn_C', gC_p]
    exact ⟨rfl, On2.rf.pt⟩
  have hcon : gC (f_X0_work_46 op a b t M) t = wkK op (gC M a) (gC M b) ∧ On2 t (a0 + 2) M (f_X0_work_46 op a b t M) := by
    unfold f_X0_work_46 f_X0_work_c60 f_X0_constant f_X0_constant_c27 f_X0_constant_c13 f_X0_constant_27 wkK
    rw [e1, e1]
    by_cases q : f_X0_stops op (gC M b).2.1 = 0
    · rw [if_pos q, if_pos q, mc_C', gC_p]; exact ⟨rfl, On2.rf.pt⟩
    · rw [if_neg q, if_neg q, mn_C', gC_p]; exact ⟨rfl, On2.rf.pt⟩
  unfold f_X0_work wk
  rw [e0, e0]
  by_cases x0 : (gC M a).1 = 0
  · rw [if_pos x0, if_pos x0]
    have ia : f_X1_isConstant M a = 0 ↔ ¬ (gC M a).2.1 = (gC M a).2.2.1 := ic_0.trans ⟨fun h z => h ⟨x0, z⟩, fun h z => h z.2⟩
    by_cases h12 : 12 ≤ op
    · rw [if_pos h12, if_pos h12]
      have nlt : ¬ op < 12 := fun z => by
        rw [Int32.lt_iff_toInt_lt] at z
        rw [Int32.le_iff_toInt_le] at h12
        omega
      unfold f_X0_work_26 wk2
      by_cases q : (gC M a).2.1 = (gC M a).2.2.1
      · rw [if_neg (fun z => ia.mp z q), if_pos q, if_pos h12, if_pos h12]; exact hcon
      · rw [if_pos (ia.mpr q), if_neg q]
        exact wA_C h1 h2 ha ha2 hb hb2 ht hz hzz hx hy x0 (fun z => absurd z nlt) (fun z => absurd z nlt)
    · rw [if_neg h12, if_neg h12]
      by_cases y0 : (gC M b).1 = 0
      · rw [if_pos y0, if_pos y0]
        have ib : f_X1_isConstant M b = 0 ↔ ¬ (gC M b).2.1 = (gC M b).2.2.1 := ic_0.trans ⟨fun h z => h ⟨y0, z⟩, fun h z => h z.2⟩
        unfold f_X0_work_26 wk2
        by_cases q : (gC M a).2.1 = (gC M a).2.2.1
        · rw [if_neg (fun z => ia.mp z q), if_pos q, if_neg h12, if_neg h12, if_pos y0]
          by_cases q2 : (gC M b).2.1 = (gC M b).2.2.1
          · rw [if_neg (fun z => ib.mp z q2), if_pos q2]; exact hcon
          · rw [if_pos (ib.mpr q2), if_neg q2]
            exact wA_C h1 h2 ha ha2 hb hb2 ht hz hzz hx hy x0 (fun _ => y0) (fun _ z => q2 z.2)
        · rw [if_pos (ia.mpr q), if_neg q]
          exact wA_C h1 h2 ha ha2 hb hb2 ht hz hzz hx hy x0 (fun _ => y0) (fun _ z => q z.1)
      · rw [if_neg y0, if_neg y0]; exact hnone
  · rw [if_neg x0, if_neg x0]; exact hnone
