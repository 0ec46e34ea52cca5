/-- what is known where a LINE parts: BIT -/
theorem br_1 {m l i k : Nat} {A B : Mem} {x : Nat → Fk} {z : Int32} (hl : l < 32) (hi : i < 8) (hk : k < 64) (hz : z = 0 ∨ z = 1) (h : LnS m l A B x) (e1 : mI A (rT m + 1) l = 25) (e2 : mI A (rT m + 2) l = nI i) (e3 : mI A (rT m + 3) l = nI k) :
    Cm (f_X2_branch A (rT m) (nI l) z) (f_X7_asked B 25 (nI i) (nI k) z) ∧ ER cmC A (f_X2_branch A (rT m) (nI l) z) ∧ ER thR B (f_X7_asked B 25 (nI i) (nI k) z) := by
  have xl : ix (nI l) = l := ix_n (by omega)
  have hxi := h.1 i hi
  have i48 : ix (48 + nI i) = 48 + i := x_48 hi
  have hA : A = pC A (23 + i) (x i) := by rw [← h.2.2.1 i hi, pC_g]
  have hB : B = pR B (48 + i) (x i) := by rw [← h.2.2.2 i hi, pR_g]
  have c1 : f_X2_branch A (rT m) (nI l) z = pC A (23 + i) (lbF (x i) (jshl 1 (nI k)) (if z = 0 then 0 else jshl 1 (nI k))) := by
    unfold f_X2_branch f_X2_branch_c68
    rw [xl, e1, e2, e3, if_pos rfl, x_23 hi]
    conv => lhs; rw [hA]
    exact lb_C2 hxi.2.1 hxi.2.2
  have hv : (if z = 0 then (0 : Int64) else jshl 1 (nI k)) &&& jshl 1 (nI k) = (if z = 0 then 0 else jshl 1 (nI k)) := by
    by_cases q : z = 0
    · rw [if_pos q]; exact tb_ext fun p hp => by rw [tb_and, tb_0]; rfl
    · rw [if_neg q]; exact tb_ext fun p hp => by rw [tb_and, Bool.and_self]
  have hp := Pf_lb hxi.2.1 hxi.2.2 hv
  have b3 : mL B 56 (ix (48 + nI i)) = (x i).2.2.2.1 := by rw [i48, ← h.2.2.2 i hi]; rfl
  have b4 : mL B 57 (ix (48 + nI i)) = (x i).2.2.2.2.1 := by rw [i48, ← h.2.2.2 i hi]; rfl
  have s64 : ∃ w, f_X7_asked_64 (nI i) (nI k) z B = uI (pR B (48 + i) (toR (shF ((x i).1, (x i).2.1, (x i).2.2.1, (x i).2.2.2.1 ||| jshl 1 (nI k), (x i).2.2.2.2.1 ||| (if z = 0 then 0 else jshl 1 (nI k)), (x i).2.2.2.2.2)))) 52 7 w := by
    have e5 : uL B 56 (48 + i) ((x i).2.2.2.1 ||| jshl 1 (nI k)) = pR B (48 + i) ((x i).1, (x i).2.1, (x i).2.2.1, (x i).2.2.2.1 ||| jshl 1 (nI k), (x i).2.2.2.2) := by
      conv => lhs; rw [hB]
      exact wr3
    have key : ∀ u : Int64, u = (if z = 0 then 0 else jshl 1 (nI k)) → ∃ w, f_X7_asked_95 (nI i) (nI k) B u (uL B 56 (48 + i) ((x i).2.2.2.1 ||| jshl 1 (nI k))) = uI (pR B (48 + i) (toR (shF ((x i).1, (x i).2.1, (x i).2.2.1, (x i).2.2.2.1 ||| jshl 1 (nI k), (x i).2.2.2.2.1 ||| (if z = 0 then 0 else jshl 1 (nI k)), (x i).2.2.2.2.2)))) 52 7 w := by
      intro u hu
      unfold f_X7_asked_95 f_X7_asked_c103
      rw [b3, i48, e5, rr4, hu]
      have e6 : uL (pR B (48 + i) ((x i).1, (x i).2.1, (x i).2.2.1, (x i).2.2.2.1 ||| jshl 1 (nI k), (x i).2.2.2.2)) 57 (48 + i) ((x i).2.2.2.2.1 ||| (if z = 0 then 0 else jshl 1 (nI k))) = pR B (48 + i) ((x i).1, (x i).2.1, (x i).2.2.1, (x i).2.2.2.1 ||| jshl 1 (nI k), (x i).2.2.2.2.1 ||| (if z = 0 then 0 else jshl 1 (nI k)), (x i).2.2.2.2.2) := wr4
      rw [e6]
      have := shF_R (M := B) (t := 48 + nI i) hp
      rw [i48] at this
      exact this
    unfold f_X7_asked_64
    rw [b3, i48]
    by_cases q : z = 0
    · rw [if_pos q]; exact key 0 (by rw [if_pos q])
    · rw [if_neg q]; exact key _ (by rw [if_neg q])
  have hno : ∃ w, f_X7_nothing B (48 + nI i) = uI (pR B (48 + i) (toR ZC)) 52 7 w := by
    rw [no_R', i48, toR_Z]; exact ⟨_, u_self.symm⟩
  have r1 : ∃ w, f_X7_asked B 25 (nI i) (nI k) z = uI (pR B (48 + i) (toR (lbF (x i) (jshl 1 (nI k)) (if z = 0 then 0 else jshl 1 (nI k))))) 52 7 w := by
    have hcond : ((((x i).2.2.2.2.1 ^^^ (if z = 0 then 0 else jshl 1 (nI k))) &&& (x i).2.2.2.1) &&& jshl 1 (nI k)) = 0 ↔ (tb (x i).2.2.2.1 k = false ∨ (tb (x i).2.2.2.2.1 k = true ↔ ¬ z = 0)) := by
      rw [and_b _ hk, tb_and, tb_xor]
      by_cases q : z = 0
      · rw [if_pos q, tb_0]
        cases tb (x i).2.2.2.2.1 k <;> cases tb (x i).2.2.2.1 k <;> simp [q]
      · rw [if_neg q, tb_b hk hk]
        cases tb (x i).2.2.2.2.1 k <;> cases tb (x i).2.2.2.1 k <;> simp [q]
    unfold f_X7_asked f_X7_asked_52 f_X7_asked_c63 lbF
    rw [if_pos rfl, b3, b4]
    by_cases q1 : ((x i).2.2.2.1 &&& jshl 1 (nI k)) = 0
    · rw [if_pos q1, if_pos (hcond.mpr (Or.inl ((and_b _ hk).mp q1)))]; exact s64
    · rw [if_neg q1]
      have t1 : ¬ tb (x i).2.2.2.1 k = false := fun w => q1 ((and_b _ hk).mpr w)
      by_cases q2 : ((x i).2.2.2.2.1 &&& jshl 1 (nI k)) = 0
      · have t2 := (and_b _ hk).mp q2
        rw [if_pos q2]
        rcases hz with z0 | z1
        · rw [if_pos z0.symm, if_pos (hcond.mpr (Or.inr (by rw [t2, z0]; decide)))]; exact s64
        · rw [if_neg (by rw [z1]; decide), if_neg (fun w => (hcond.mp w).elim t1 (by rw [t2, z1]; decide))]; exact hno
      · have t2 : tb (x i).2.2.2.2.1 k = true := by
          cases e : tb (x i).2.2.2.2.1 k with
          | true => rfl
          | false => exact absurd ((and_b _ hk).mpr e) q2
        rw [if_neg q2]
        rcases hz with z0 | z1
        · rw [if_neg (by rw [z0]; decide), if_neg (fun w => (hcond.mp w).elim t1 (by rw [t2, z0]; decide))]; exact hno
        · rw [if_pos z1.symm, if_pos (hcond.mpr (Or.inr (by rw [t2, z1]; decide)))]; exact s64
  obtain ⟨w, r1⟩ := r1
  rw [c1, r1]
  have hg := Gd_lb hxi.2.1 hxi.2.2 hv
  exact ⟨h.cm.set hg hi, ER.rf.pC (fun _ => cm_f hi), (ER.rf.pR (fun _ h1 h2 => th_f hi h1 h2)).uI (th_s rfl)⟩
/-! LOOKING UP -/
def lkL (x : Fk) (num : Nat → Int64) (hd : Nat → Bool) : Nat → Nat → Fk → Fk
  | 0, _, z => z
  | n + 1, j, z => if hd j = true then lkL x num hd n (j + 1) (jn z (cst (num j))) else lkL x num hd n (j + 1) z
theorem Gd_lk {x : Fk} {num : Nat → Int64} {hd : Nat → Bool} : ∀ (n j : Nat) (z : Fk), Gd z → Gd (lkL x num hd n j z) := by
  intro n
  induction n with
  | zero => intro j z h; exact h
  | succ n ih =>
    intro j z h
    unfold lkL
    split
    · exact ih _ _ (Gd_jn h (Gd_cst _))
    · exact ih _ _ h
def lkW (i b j : Nat) : Bool := decide (b = 19) || decide (b = 23 + i)
theorem lkW_10 (i t : Nat) : lkW i 10 t = false := by
  have a2 : ¬ 10 = 23 + i := by omega
  simp only [lkW, a2, decide_false]
  rfl
theorem lk_C {m l i t n : Nat} {A : Mem} {x : Fk} {num : Nat → Int64} {hd : Nat → Bool} (hi : i < 8) (ht : t < 4) (hn : n ≤ 16) : ∀ (q k j : Nat) (Q : Mem), j + q = n → q < k → ER (lkW i) A Q → mI A 10 t = nI n → (∀ p, p < n → mL A (6 + t) p = num p) → (∀ Q, ER (lkW i) A Q → ∀ p, p < n → (f_X1_holds Q (rT m + 15 + (8 * l + i)) (Int32.toInt64 (nI p)) = 0 ↔ hd p = false)) →
    gC (f_X2_lookUp_8 (nI t) (rT m + 15 + (8 * l + i)) (23 + i) k j Q) (23 + i) = lkL x num hd q j (gC Q (23 + i)) ∧ ER (lkW i) A (f_X2_lookUp_8 (nI t) (rT m + 15 + (8 * l + i)) (23 + i) k j Q) := by
  have er : rT m = 74 + 271 * m := rfl
  have xt : ix (nI t) = t := ix_n (by omega)
  intro q
  induction q with
  | zero =>
    intro k j Q hj hk hE hs hnum hh
    obtain ⟨k, rfl⟩ : ∃ z, k = z + 1 := ⟨k - 1, by omega⟩
    have e : mI Q 10 t = nI n := by rw [(hE.2.2 10 t (lkW_10 i t)).1, hs]
    rw [f_X2_lookUp_8, xt, e, if_pos (nI_le (by omega) (by omega))]
    exact ⟨rfl, hE⟩
  | succ q ih =>
    intro k j Q hj hk hE hs hnum hh
    obtain ⟨k, rfl⟩ : ∃ z, k = z + 1 := ⟨k - 1, by omega⟩
    have e : mI Q 10 t = nI n := by rw [(hE.2.2 10 t (lkW_10 i t)).1, hs]
    have hsf : ∀ jj, lkW i (6 + t) jj = false := fun jj => by
      have a1 : ¬ 6 + t = 19 := by omega
      have a2 : ¬ 6 + t = 23 + i := by omega
      simp only [lkW, a1, a2, decide_false, Bool.or_self]
    have en : mL Q (5 + 1 + ix (nI t)) (ix (nI j)) = num j := by
      rw [xt, ix_n (by omega), (hE.2.2 (6 + t) j (hsf j)).2]; exact hnum j (by omega)
    rw [f_X2_lookUp_8, xt, e, if_neg (nI_ge (by omega) (by omega))]
    unfold lkL f_X2_lookUp_c45 f_X2_lookUp_c56 f_X2_lookUp_56
    have hhd := hh Q hE j (by omega)
    by_cases q0 : f_X1_holds Q (rT m + 15 + (8 * l + i)) (Int32.toInt64 (nI j)) = 0
    · rw [if_pos q0, if_neg (by rw [hhd.mp q0]; decide)]
      exact ih k (j + 1) Q (by omega) (by omega) hE hs hnum hh
    · have hd1 : hd j = true := by
        cases e2 : hd j with
        | true => rfl
        | false => exact absurd (hhd.mpr e2) q0
      rw [if_neg q0, if_pos hd1]
      have en2 : mL Q (5 + 1 + t) (ix (nI j)) = num j := by rw [xt] at en; exact en
      rw [en2, mc_C', jn_C, gC_p, gC_n (by omega)]
      have hE2 : ER (lkW i) A (pC (pC Q 19 (cst (num j))) (23 + i) (jn (gC Q (23 + i)) (cst (num j)))) := (hE.pC (fun _ => by simp [lkW])).pC (fun _ => by simp [lkW])
      obtain ⟨r1, r2⟩ := ih k (j + 1) _ (by omega) (by omega) hE2 hs hnum hh
      exact ⟨by rw [r1, gC_p], r2⟩
theorem lk_R {i t n : Nat} {B : Mem} {x : Fk} {num : Nat → Int64} {hd : Nat → Bool} (hi : i < 8) (ht : t < 4) (hn : n ≤ 16) : ∀ (q k j : Nat) (Q : Mem) (z : Fk), j + q = n → q < k → Gd z → gR Q 19 = toR z → ER scr B Q → mI B 64 t = nI n → (∀ p, p < n → mL B 65 (16 * t + p) = num p) → (∀ Q, ER scr B Q → ∀ p, p < n → (f_X7_isIn Q (40 + nI i) (Int32.toInt64 (nI p)) = 0 ↔ hd p = false)) →
    gR (f_X7_look_8 (nI i) (nI t) k j Q) (48 + i) = toR (lkL x num hd q j z) ∧ ER (fun b j => scr b j || (decide (53 ≤ b) && decide (b ≤ 59) && decide (j = 48 + i))) B (f_X7_look_8 (nI i) (nI t) k j Q) := by
  have xt : ix (nI t) = t := ix_n (by omega)
  intro q
  induction q with
  | zero =>
    intro k j Q z hj hk hz h19 hE hs hnum hh
    obtain ⟨k, rfl⟩ : ∃ w, k = w + 1 := ⟨k - 1, by omega⟩
    have e : mI Q 64 t = nI n := by rw [(hE.2.2 64 t (scr_n (by omega) (by omega))).1, hs]
    rw [f_X7_look_8, xt, e, if_pos (nI_le (by omega) (by omega))]
    unfold f_X7_look_c82
    rw [cp_R, x_48 hi, show ix 19 = 19 from rfl, h19]
    exact ⟨gR_p, (hE.mono (fun b j h => by simp [h])).pR (fun b h1 h2 => by simp [h1, h2])⟩
  | succ q ih =>
    intro k j Q z hj hk hz h19 hE hs hnum hh
    obtain ⟨k, rfl⟩ : ∃ w, k = w + 1 := ⟨k - 1, by omega⟩
    have e : mI Q 64 t = nI n := by rw [(hE.2.2 64 t (scr_n (by omega) (by omega))).1, hs]
    have en : mL Q 65 (ix ((16 * nI t) + nI j)) = num j := by
      have : (16 * nI t) + nI j = nI (16 * t + j) := by rw [show (16 : Int32) = nI 16 from rfl, nI_mul, nI_add]
      rw [this, ix_n (by omega), (hE.2.2 65 (16 * t + j) (scr_n (by omega) (by omega))).2]
      exact hnum j (by omega)
    rw [f_X7_look_8, xt, e, if_neg (nI_ge (by omega) (by omega))]
    unfold lkL f_X7_look_c48 f_X7_look_c58 f_X7_look_c66 f_X7_look_66
    have hhd := hh Q hE j (by omega)
    by_cases q0 : f_X7_isIn Q (40 + nI i) (Int32.toInt64 (nI j)) = 0
    · rw [if_pos q0, if_neg (by rw [hhd.mp q0]; decide)]
      exact ih k (j + 1) Q z (by omega) (by omega) hz h19 hE hs hnum hh
    · have hd1 : hd j = true := by
        cases e2 : hd j with
        | true => rfl
        | false => exact absurd (hhd.mpr e2) q0
      rw [if_neg q0, if_pos hd1, en, nu_R', show ix 20 = 20 from rfl]
      obtain ⟨w, hw⟩ := jn_R (M := pR Q 20 (cst (num j))) (a := 19) (b := 20) (t := 25) hz (Gd_cst (num j)) (by rw [show ix 19 = 19 from rfl, gR_n (by decide), h19]) (by rw [show ix 20 = 20 from rfl, gR_p]; rfl)
      rw [hw, cp_R, show ix 25 = 25 from rfl, show ix 19 = 19 from rfl, gR_u, gR_p]
      have hE2 : ER scr B (pR (uI (pR (pR Q 20 (cst (num j))) 25 (toR (jn z (cst (num j))))) 52 7 w) 19 (toR (jn z (cst (num j))))) := (((hE.pR (fun b h1 h2 => scr_f h1 h2 (by decide) (by decide))).pR (fun b h1 h2 => scr_f h1 h2 (by decide) (by decide))).uI rfl).pR (fun b h1 h2 => scr_f h1 h2 (by decide) (by decide))
      exact ih k (j + 1) _ _ (by omega) (by omega) (Gd_jn hz (Gd_cst _)) gR_p hE2 hs hnum hh
