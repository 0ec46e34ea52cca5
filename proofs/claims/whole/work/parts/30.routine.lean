/-- the class's methods, as they stand; its tables' sizes -/
def Rs (M : Mem) : Prop := cn (mI M 1 2) 6 ∧ ∀ n, n < ix (mI M 1 2) → Rt M (74 + 271 * n) ∧ mB M 3 n = true ∧ cn (mI M (74 + 271 * n) 3) 32 ∧ ∀ l : Nat, l < ix (mI M (74 + 271 * n) 3) → LnC (mI M (74 + 271 * n + 1) (ix (nI l))) (mI M (74 + 271 * n + 2) (ix (nI l))) (mI M (74 + 271 * n + 3) (ix (nI l)))
def Ts (M : Mem) : Prop := ∀ t, t < 4 → cn (mI M 10 t) 16
/-- what adding a line, a table's number, a run's look, a run's step, a run writes -/
def wL (s : Nat × Nat) (k : Nat) : Bool := decide (s = (20, 32)) || (decide (s.1 = 4) && (decide (k = 3) || decide (k = 7)))
def wT (s : Nat × Nat) (k : Nat) : Bool := decide (s = (22, 16)) || decide (s = (20, 4)) || (decide (s.1 = 4) && decide (k = 7))
def wK (s : Nat × Nat) (k : Nat) : Bool := decide (s.1 = 5) && decide (k = 3)
def wN (s : Nat × Nat) (_k : Nat) : Bool := decide (s = (22, 8))
def wR (s : Nat × Nat) (_k : Nat) : Bool := decide (s = (22, 8)) || decide (s.1 = 5)
theorem SC.mono {w w' : Nat × Nat → Nat → Bool} {M N : Mem} (h : SC w M N) (hs : ∀ s k, w s k = true → w' s k = true) : SC w' M N := ⟨h.1, fun a k ha => h.2 a k (by
  cases e1 : cl a with
  | false => rfl
  | true =>
    cases e : w (SH a) k with
    | false => rfl
    | true => rw [e1, hs _ k e] at ha; cases ha)⟩
theorem sub_wK_wR : ∀ s k, wK s k = true → wR s k = true := fun s k h => by
  simp only [wK, wR, Bool.or_eq_true, Bool.and_eq_true, decide_eq_true_eq] at h ⊢
  exact Or.inr h.1
theorem sub_wN_wR : ∀ s k, wN s k = true → wR s k = true := fun s k h => by
  simp only [wN, wR, Bool.or_eq_true, decide_eq_true_eq] at h ⊢
  exact Or.inl h
theorem sub_wL_wL : ∀ s k, wL s k = true → wL s k = true := fun _ _ h => h
theorem ix_n {j : Nat} (h : j < 2 ^ 31) : ix (nI j) = j := nI_clamp h
theorem ixv {y : Int32} {n : Nat} (h : vp_in y n) (hn : n < 2 ^ 31) : y = nI (ix y) := by
  obtain ⟨a, ha, rfl⟩ := vp_in_of h hn
  rw [ix_n (by omega)]
theorem ixlt {x y : Int32} {n N : Nat} (hx : cn x N) (hy : vp_in y n) (h : ¬ x ≤ y) (hn : n < 2 ^ 31) (hN : N < 2 ^ 31) : ix y < ix x := by
  have h1 := hx.2
  have h2 : ix y < n := vin_lt hy
  have e := ixv hy hn
  rw [e] at h
  exact cnt_lt h hx.1 (by omega) (by omega)
theorem rt_lt {m x : Int32} (c : cn x 6) (h1 : ¬ m < 0) (h9 : m < x) : m = nI (ix m) ∧ ix m < ix x := by
  obtain ⟨j, hj, rfl⟩ := nI_of h1
  rw [ix_n hj]
  refine ⟨rfl, ?_⟩
  have h2 := c.2
  rw [c.1] at h9
  exact (nI_ltI hj (by omega)).mp h9
theorem rt_in {m x : Int32} (c : cn x 6) (h1 : ¬ m < 0) (h9 : m < x) : vp_in m 6 := by
  obtain ⟨e, h⟩ := rt_lt c h1 h9
  have h2 := c.2
  rw [e]
  exact vp_in_nI (by omega) (by decide)
def f_X6_routineAt_12   : Option Nat := none
def f_X6_routineAt (M : Mem) (m : Int32) : Option Nat := if m < 0 then f_X6_routineAt_12  else if m < (mI M 1 2) then some (74 + 271 * ix m) else f_X6_routineAt_12 
abbrev p_X6_routineAt (M : Mem) (m : Int32) : Option Value → Mem → Prop := fun r N => r = some (rv (f_X6_routineAt M m)) ∧ N = M
set_option maxRecDepth 100000 in
set_option maxHeartbeats 4000000 in
theorem c_X6_routineAt (G : Ctx) (l : Launch) (M : Mem) (m : Int32) (q : Ok M) (hRs : Rs M) : CT G l 0 mX6_routineAt [.ref 1, .int m] M 0 0 (p_X6_routineAt M m) := by
  refine CT.of (by decide) (Nat.le_of_ble_eq_true rfl) ?_
  intro X d hd hl hRm hnm F
  subst hl
  have E : f_X6_routineAt M m = f_X6_routineAt M m := rfl
  show V G X 2 0 0 (Qx G X 0 0 (p_X6_routineAt M m)) 0 [(0, .ref 1), (1, .int m)] [] M
  refine V.seg F floX6 cjoX6 [.iload_n 1] (by decide +kernel) (pc2 := 1) (lv2 := [(0, .ref 1), (1, .int m)]) (st2 := [.int m]) (M2 := M) rfl ⟨trivial, trivial⟩ ?_
  have hJ12 : f_X6_routineAt M m = f_X6_routineAt_12 → V G X 2 0 0 (Qx G X 0 0 (p_X6_routineAt M m)) 12 [] [] M := by
    intro E
    refine V.seg F floX6 cjoX6 [.aconst_null, .goto 9] (by decide +kernel) (pc2 := 22) (lv2 := []) (st2 := [.null]) (M2 := M) rfl ⟨trivial, (by decide), trivial⟩ ?_
    exact V.nret F (by decide +kernel) ⟨congrArg (fun z => some (rv z)) E.symm, rfl⟩
  refine V.if_lt (off := 11) F (by decide +kernel) (tgt := 12) (by decide) (fun h1 => ?_) (fun h1 => ?_)
  · replace E := E.trans (if_pos h1)
    refine V.pick [] rfl ?_
    exact hJ12   E
  · replace E := E.trans (if_neg h1)
    refine V.seg F floX6 cjoX6 [.iload_n 1, .aload_n 0, .getfield 21] (by decide +kernel) (pc2 := 9) (lv2 := [(0, .ref 1), (1, .int m)]) (st2 := [.int (mI M 1 2), .int m]) (M2 := M) rfl ⟨trivial, trivial, (q.o 1 6 rfl), trivial⟩ ?_
    refine V.ic_lt (off := 7) F (by decide +kernel) (tgt := 16) (by decide) (fun h9 => ?_) (fun h9 => ?_)
    · replace E := E.trans (if_pos h9)
      refine V.seg F floX6 cjoX6 [.aload_n 0, .getfield 17, .iload_n 1] (by decide +kernel) (pc2 := 21) (lv2 := [(0, .ref 1), (1, .int m)]) (st2 := [.int m, .ref 3]) (M2 := M) rfl ⟨trivial, (q.f 1 6 1 rfl), trivial, trivial⟩ ?_
      refine V.aald (kd := 27) F (by decide +kernel) (q.a 3 27 6 rfl (rt_in hRs.1 h1 h9)) ⟨by decide, by decide⟩ (hRs.2 (ix m) (rt_lt hRs.1 h1 h9).2).2.1 ?_
      show V G X 2 0 0 (Qx G X 0 0 (p_X6_routineAt M m)) 22 [(0, .ref 1), (1, .int m)] [.ref (74 + 271 * ix m)] M
      exact V.aret F (by decide +kernel) ⟨congrArg (fun z => some (rv z)) E.symm, rfl⟩
    · replace E := E.trans (if_neg h9)
      refine V.pick [] rfl ?_
      exact hJ12   E
theorem routineAt_x {M : Mem} {m : Int32} {a : Nat} (hRs : Rs M) (h : f_X6_routineAt M m = some a) : ∃ n, n < ix (mI M 1 2) ∧ a = 74 + 271 * n := by
  unfold f_X6_routineAt f_X6_routineAt_12 at h
  split at h
  · cases h
  · rename_i h1
    split at h
    · rename_i h2
      cases h
      exact ⟨ix m, (rt_lt hRs.1 h1 h2).2, rfl⟩
    · cases h
theorem routineAt_o {M : Mem} {m : Int32} {a : Nat} (hRs : Rs M) (h : f_X6_routineAt M m = some a) : Rt M a := by
  obtain ⟨n, hn, rfl⟩ := routineAt_x hRs h
  exact (hRs.2 n hn).1
theorem routineAt_c {M : Mem} {m : Int32} {a : Nat} (hRs : Rs M) (h : f_X6_routineAt M m = some a) : cn (mI M a 3) 32 := by
  obtain ⟨n, hn, rfl⟩ := routineAt_x hRs h
  exact (hRs.2 n hn).2.2.1
theorem routineAt_l {M : Mem} {m : Int32} {a : Nat} (hRs : Rs M) (h : f_X6_routineAt M m = some a) : ∀ l : Nat, l < ix (mI M a 3) → LnC (mI M (a + 1) (ix (nI l))) (mI M (a + 2) (ix (nI l))) (mI M (a + 3) (ix (nI l))) := by
  obtain ⟨n, hn, rfl⟩ := routineAt_x hRs h
  exact (hRs.2 n hn).2.2.2
theorem isPl {p : Int32} (h : ¬ f_X6_isPlace p = 0) : vp_in p 8 := by
  unfold f_X6_isPlace at h
  split at h
  · exact absurd rfl h
  · rename_i h1
    split at h
    · exact absurd rfl h
    · rename_i h2
      obtain ⟨j, hj, rfl⟩ := nI_of h1
      exact vp_in_nI (cnt_lt (n := 8) h2 rfl hj (by decide)) (by decide)
theorem cnI {x : Int32} {N : Nat} (c : cn x N) {y : Int32} (hy : y = nI N) (h : x < y) (hN : N < 2 ^ 31) : vp_in x N := by
  have h2 := c.2
  rw [c.1, hy] at h
  have h3 := (nI_ltI (by omega) hN).mp h
  rw [c.1]
  exact vp_in_nI h3 hN
theorem fin4 {f : Int32} (h1 : ¬ f < 0) (h2 : f < 4) : vp_in f 4 := by
  obtain ⟨j, hj, rfl⟩ := nI_of h1
  have h3 : nI j < nI 4 := h2
  exact vp_in_nI ((nI_ltI hj (by decide)).mp h3) (by decide)
theorem div8 {j : Nat} (h : j < 256) : vp_in (nI j / 8) 32 := by
  have hall : ∀ j, j < 256 → vinb (nI j / 8) 32 = true := by decide +kernel
  exact vinc (hall j h)
theorem n1 {r : Nat} (o : Nat) (h : 0 < o) : r ≠ r + o := by omega
def f_X3_addLine (M : Mem) (rt : Nat) (op : Int32) (a : Int32) (b : Int32) : Mem := uI (uI (uI (uI (uI M (rt + 1) (ix (mI M rt 3)) op) (rt + 2) (ix (mI (uI M (rt + 1) (ix (mI M rt 3)) op) rt 3)) a) (rt + 3) (ix (mI (uI (uI M (rt + 1) (ix (mI M rt 3)) op) (rt + 2) (ix (mI (uI M (rt + 1) (ix (mI M rt 3)) op) rt 3)) a) rt 3)) b) rt 3 ((mI (uI (uI (uI M (rt + 1) (ix (mI M rt 3)) op) (rt + 2) (ix (mI (uI M (rt + 1) (ix (mI M rt 3)) op) rt 3)) a) (rt + 3) (ix (mI (uI (uI M (rt + 1) (ix (mI M rt 3)) op) (rt + 2) (ix (mI (uI M (rt + 1) (ix (mI M rt 3)) op) rt 3)) a) rt 3)) b) rt 3) + 1)) rt 7 0
abbrev p_X3_addLine (M : Mem) (rt : Nat) (op : Int32) (a : Int32) (b : Int32) : Option Value → Mem → Prop := fun r N => r = none ∧ N = f_X3_addLine M rt op a b ∧ SC wL M N
set_option maxRecDepth 100000 in
set_option maxHeartbeats 4000000 in
theorem c_X3_addLine (G : Ctx) (l : Launch) (M : Mem) (rt : Nat) (op : Int32) (a : Int32) (b : Int32) (q : Ok M) (hr : Rt M rt) (i_c : vp_in (mI M rt 3) 32) : CT G l 0 mX3_addLine [.ref rt, .int op, .int a, .int b] M 0 0 (p_X3_addLine M rt op a b) := by
  refine CT.of (by decide) (Nat.le_of_ble_eq_true rfl) ?_
  intro X d hd hl hRm hnm F
  subst hl
  have E : f_X3_addLine M rt op a b = f_X3_addLine M rt op a b := rfl
  show V G X 4 0 0 (Qx G X 0 0 (p_X3_addLine M rt op a b)) 0 [(0, .ref rt), (1, .int op), (2, .int a), (3, .int b)] [] M
  refine V.seg F floX3 cjoX3 [.aload_n 0, .getfield 9, .aload_n 0, .getfield 21, .iload_n 1, .iastore, .aload_n 0, .getfield 15, .aload_n 0, .getfield 21, .iload_n 2, .iastore, .aload_n 0, .getfield 18, .aload_n 0, .getfield 21, .iload_n 3, .iastore, .aload_n 0, .dup, .getfield 21, .iconst 1, .iadd, .putfield 21, .aload_n 0, .iconst 0, .putfield 38] (by decide +kernel) (pc2 := 45) (lv2 := [(0, .ref rt), (1, .int op), (2, .int a), (3, .int b)]) (st2 := []) (M2 := uI (uI (uI (uI (uI M (rt + 1) (ix (mI M rt 3)) op) (rt + 2) (ix (mI (uI M (rt + 1) (ix (mI M rt 3)) op) rt 3)) a) (rt + 3) (ix (mI (uI (uI M (rt + 1) (ix (mI M rt 3)) op) (rt + 2) (ix (mI (uI M (rt + 1) (ix (mI M rt 3)) op) rt 3)) a) rt 3)) b) rt 3 ((mI (uI (uI (uI M (rt + 1) (ix (mI M rt 3)) op) (rt + 2) (ix (mI (uI M (rt + 1) (ix (mI M rt 3)) op) rt 3)) a) (rt + 3) (ix (mI (uI (uI M (rt + 1) (ix (mI M rt 3)) op) (rt + 2) (ix (mI (uI M (rt + 1) (ix (mI M rt 3)) op) rt 3)) a) rt 3)) b) rt 3) + 1)) rt 7 0) rfl ⟨trivial, (Rt.f hr 0 rfl), trivial, (Rt.o hr), trivial, (Rt.a hr 1 20 32 rfl i_c), trivial, (Rt.f (hr.sm (SC.pI (SC.rf (w := wL)) (wC_a hr 1 (by decide) rfl)).1) 1 rfl), trivial, (Rt.o (hr.sm (SC.pI (SC.rf (w := wL)) (wC_a hr 1 (by decide) rfl)).1)), trivial, (Rt.a (hr.sm (SC.pI (SC.rf (w := wL)) (wC_a hr 1 (by decide) rfl)).1) 2 20 32 rfl (vin_of (mI_uI_ne (n1 1 (by decide))) i_c)), trivial, (Rt.f (hr.sm (SC.pI (SC.pI (SC.rf (w := wL)) (wC_a hr 1 (by decide) rfl)) (wC_a hr 2 (by decide) rfl)).1) 2 rfl), trivial, (Rt.o (hr.sm (SC.pI (SC.pI (SC.rf (w := wL)) (wC_a hr 1 (by decide) rfl)) (wC_a hr 2 (by decide) rfl)).1)), trivial, (Rt.a (hr.sm (SC.pI (SC.pI (SC.rf (w := wL)) (wC_a hr 1 (by decide) rfl)) (wC_a hr 2 (by decide) rfl)).1) 3 20 32 rfl (vin_of (mI_uI_ne (n1 2 (by decide))) (vin_of (mI_uI_ne (n1 1 (by decide))) i_c))), trivial, trivial, (Rt.o (hr.sm (SC.pI (SC.pI (SC.pI (SC.rf (w := wL)) (wC_a hr 1 (by decide) rfl)) (wC_a hr 2 (by decide) rfl)) (wC_a hr 3 (by decide) rfl)).1)), trivial, trivial, (Rt.o (hr.sm (SC.pI (SC.pI (SC.pI (SC.rf (w := wL)) (wC_a hr 1 (by decide) rfl)) (wC_a hr 2 (by decide) rfl)) (wC_a hr 3 (by decide) rfl)).1)), trivial, trivial, ⟨(Rt.o (hr.sm (SC.pI (SC.pI (SC.pI (SC.pI (SC.rf (w := wL)) (wC_a hr 1 (by decide) rfl)) (wC_a hr 2 (by decide) rfl)) (wC_a hr 3 (by decide) rfl)) (wC_r hr rfl)).1)), Or.inl rfl⟩, trivial⟩ ?_
  exact V.vret F (by decide +kernel) ⟨rfl, E.symm, (SC.pI (SC.pI (SC.pI (SC.pI (SC.pI (SC.rf (w := wL)) (wC_a hr 1 (by decide) rfl)) (wC_a hr 2 (by decide) rfl)) (wC_a hr 3 (by decide) rfl)) (wC_r hr rfl)) (wC_r hr rfl))⟩
def f_X3_reachedLines_27 (y1_4 : Int32) (j4 : Nat) (R4_ : Int32 → Nat → Int32) (w0_27 : Int32) : Int32 := R4_ (y1_4 + w0_27) (j4 + 1)
def f_X3_reachedLines_4 (rt : Nat) (M : Mem) : Nat → Int32 → Nat → Int32
  | 0, _, _ => 0
  | n_ + 1, y1_4, j4 => if (mI M rt 3) ≤ (nI j4) then y1_4 else if (mI M (rt + 6) (ix (nI j4))) = 0 then f_X3_reachedLines_27 y1_4 j4 (f_X3_reachedLines_4 rt M n_) 0 else f_X3_reachedLines_27 y1_4 j4 (f_X3_reachedLines_4 rt M n_) 1
def f_X3_reachedLines (M : Mem) (rt : Nat) : Int32 := f_X3_reachedLines_4 rt M (ix (mI M rt 3) + 1) 0 0
abbrev p_X3_reachedLines (M : Mem) (rt : Nat) : Option Value → Mem → Prop := fun r N => r = some (.int (f_X3_reachedLines M rt)) ∧ N = M
set_option maxRecDepth 100000 in
set_option maxHeartbeats 4000000 in
theorem c_X3_reachedLines (G : Ctx) (l : Launch) (M : Mem) (rt : Nat) (q : Ok M) (hr : Rt M rt) (cR : cn (mI M rt 3) 32) : CT G l 0 mX3_reachedLines [.ref rt] M 0 0 (p_X3_reachedLines M rt) := by
  refine CT.of (by decide) (Nat.le_of_ble_eq_true rfl) ?_
  intro X d hd hl hRm hnm F
  subst hl
  have E : f_X3_reachedLines M rt = f_X3_reachedLines M rt := rfl
  show V G X 3 0 0 (Qx G X 0 0 (p_X3_reachedLines M rt)) 0 [(0, .ref rt)] [] M
  refine V.seg F floX3 cjoX3 [.iconst 0, .istore_n 1, .iconst 0] (by decide +kernel) (pc2 := 3) (lv2 := [(1, .int 0), (0, .ref rt)]) (st2 := [.int 0]) (M2 := M) rfl ⟨trivial, (by decide), trivial, trivial⟩ ?_
  refine V.seg F floX3 cjoX3 [.istore_n 2] (by decide +kernel) (pc2 := 4) (lv2 := [(2, .int 0), (1, .int 0), (0, .ref rt)]) (st2 := []) (M2 := M) rfl ⟨(by decide), trivial⟩ ?_
  have hJ4 : ∀ (n_ : Nat) (y1_4 : Int32) (j4 : Nat), (j4 ≤ ix (mI M rt 3)) → (ix (mI M rt 3) - j4 < n_) → f_X3_reachedLines M rt = f_X3_reachedLines_4 rt M n_ y1_4 j4 → V G X 3 0 0 (Qx G X 0 0 (p_X3_reachedLines M rt)) 4 [(0, .ref rt), (1, .int y1_4), (2, .int (nI j4))] [] M := by
    intro n_
    induction n_ with
    | zero => intro y1_4 j4 b4 m4 E; omega
    | succ n_ ih_4 =>
      intro y1_4 j4 b4 m4 E
      rw [f_X3_reachedLines_4] at E
      refine V.seg F floX3 cjoX3 [.iload_n 2, .aload_n 0, .getfield 21] (by decide +kernel) (pc2 := 9) (lv2 := [(0, .ref rt), (1, .int y1_4), (2, .int (nI j4))]) (st2 := [.int (mI M rt 3), .int (nI j4)]) (M2 := M) rfl ⟨trivial, trivial, (Rt.o hr), trivial⟩ ?_
      refine V.ic_ge (off := 26) F (by decide +kernel) (tgt := 35) (by decide) (fun h9 => ?_) (fun h9 => ?_)
      · replace E := E.trans (if_pos h9)
        refine V.seg F floX3 cjoX3 [.iload_n 1] (by decide +kernel) (pc2 := 36) (lv2 := [(0, .ref rt), (1, .int y1_4), (2, .int (nI j4))]) (st2 := [.int y1_4]) (M2 := M) rfl ⟨trivial, trivial⟩ ?_
        exact V.iret F (by decide +kernel) ⟨congrArg (fun z => some (Value.int z)) E.symm, rfl⟩
      · replace E := E.trans (if_neg h9)
        refine V.seg F floX3 cjoX3 [.iload_n 1, .aload_n 0, .getfield 34, .iload_n 2, .baload] (by decide +kernel) (pc2 := 19) (lv2 := [(0, .ref rt), (1, .int y1_4), (2, .int (nI j4))]) (st2 := [.int (mI M (rt + 6) (ix (nI j4))), .int y1_4]) (M2 := M) rfl ⟨trivial, trivial, (Rt.f hr 6 rfl), trivial, (Rt.a hr 6 21 32 rfl (vp_in_nI (by have le_ := cR.2; have hlt_ := cnt_lt (n := ix (mI M rt 3)) h9 cR.1 (by omega) (by omega); omega) (by decide))), trivial⟩ ?_
        have hJ27 : ∀ (w0_27 : Int32), f_X3_reachedLines M rt = f_X3_reachedLines_27 y1_4 j4 (f_X3_reachedLines_4 rt M n_) w0_27 → V G X 3 0 0 (Qx G X 0 0 (p_X3_reachedLines M rt)) 27 [(0, .ref rt), (2, .int (nI j4))] [.int w0_27, .int y1_4] M := by
          intro w0_27 E
          refine V.seg F floX3 cjoX3 [.iadd, .istore_n 1, .iinc 2 1, .goto (-28)] (by decide +kernel) (pc2 := 4) (lv2 := [(2, .int ((nI j4) + 1)), (1, .int (y1_4 + w0_27)), (0, .ref rt)]) (st2 := []) (M2 := M) rfl ⟨trivial, (by decide), (by decide), (by decide), trivial⟩ ?_
          refine V.pick [2, 1, 0] rfl ?_
          rw [nI_1]
          exact ih_4 (y1_4 + w0_27) (j4 + 1) (by have le_ := cR.2; have hlt_ := cnt_lt (n := ix (mI M rt 3)) h9 cR.1 (by omega) (by omega); omega) (by have le_ := cR.2; have hlt_ := cnt_lt (n := ix (mI M rt 3)) h9 cR.1 (by omega) (by omega); omega) E
        refine V.if_eq (off := 7) F (by decide +kernel) (tgt := 26) (by decide) (fun h19 => ?_) (fun h19 => ?_)
        · replace E := E.trans (if_pos h19)
          refine V.seg F floX3 cjoX3 [.iconst 0] (by decide +kernel) (pc2 := 27) (lv2 := [(0, .ref rt), (1, .int y1_4), (2, .int (nI j4))]) (st2 := [.int 0, .int y1_4]) (M2 := M) rfl ⟨trivial, trivial⟩ ?_
          refine V.pick [0, 2] rfl ?_
          exact hJ27 0  E
        · replace E := E.trans (if_neg h19)
          refine V.seg F floX3 cjoX3 [.iconst 1, .goto 4] (by decide +kernel) (pc2 := 27) (lv2 := [(0, .ref rt), (1, .int y1_4), (2, .int (nI j4))]) (st2 := [.int 1, .int y1_4]) (M2 := M) rfl ⟨trivial, (by decide), trivial⟩ ?_
          refine V.pick [0, 2] rfl ?_
          exact hJ27 1  E
  refine V.pick [2, 1, 0] rfl ?_
  exact hJ4 _ 0 0 (by omega) (by omega) E
theorem lt12' {op : Int32} (h : ¬ 12 ≤ op) : ¬ 20 ≤ op := lt12 h
def f_X3_givenUpLines_90 (j4 : Nat) (R4_ : Int32 → Nat → Int32) (y1_90 : Int32) : Int32 := R4_ y1_90 (j4 + 1)
def f_X3_givenUpLines_88 (y1_4 : Int32) (j4 : Nat) (R4_ : Int32 → Nat → Int32) (w0_88 : Int32) : Int32 := f_X3_givenUpLines_90 j4 R4_ (y1_4 + w0_88)
def f_X3_givenUpLines_4 (rt : Nat) (M : Mem) : Nat → Int32 → Nat → Int32
  | 0, _, _ => 0
  | n_ + 1, y1_4, j4 => if (mI M rt 3) ≤ (nI j4) then y1_4 else if (mI M (rt + 6) (ix (nI j4))) = 0 then f_X3_givenUpLines_90 j4 (f_X3_givenUpLines_4 rt M n_) y1_4 else if 12 ≤ (mI M (rt + 1) (ix (nI j4))) then f_X3_givenUpLines_90 j4 (f_X3_givenUpLines_4 rt M n_) y1_4 else if (f_X0_givesUp M (mI M (rt + 1) (ix (nI j4))) (rt + 5 + 10 + ix (((nI j4) * 8) + (mI M (rt + 2) (ix (nI j4))))) (rt + 5 + 10 + ix (((nI j4) * 8) + (mI M (rt + 3) (ix (nI j4)))))) = 0 then f_X3_givenUpLines_88 y1_4 j4 (f_X3_givenUpLines_4 rt M n_) 0 else f_X3_givenUpLines_88 y1_4 j4 (f_X3_givenUpLines_4 rt M n_) 1
def f_X3_givenUpLines (M : Mem) (rt : Nat) : Int32 := f_X3_givenUpLines_4 rt M (ix (mI M rt 3) + 1) 0 0
abbrev p_X3_givenUpLines (M : Mem) (rt : Nat) : Option Value → Mem → Prop := fun r N => r = some (.int (f_X3_givenUpLines M rt)) ∧ N = M
set_option maxRecDepth 100000 in
set_option maxHeartbeats 4000000 in
theorem c_X3_givenUpLines (G : Ctx) (l : Launch) (M : Mem) (rt : Nat) (q : Ok M) (hr : Rt M rt) (cR : cn (mI M rt 3) 32) (hLn : ∀ l : Nat, l < ix (mI M rt 3) → LnC (mI M (rt + 1) (ix (nI l))) (mI M (rt + 2) (ix (nI l))) (mI M (rt + 3) (ix (nI l)))) : CT G l 2 mX3_givenUpLines [.ref rt] M 0 0 (p_X3_givenUpLines M rt) := by
  refine CT.of (by decide) (Nat.le_of_ble_eq_true rfl) ?_
  intro X d hd hl hRm hnm F
  subst hl
  have E : f_X3_givenUpLines M rt = f_X3_givenUpLines M rt := rfl
  show V G X 5 0 0 (Qx G X 0 0 (p_X3_givenUpLines M rt)) 0 [(0, .ref rt)] [] M
  refine V.seg F floX3 cjoX3 [.iconst 0, .istore_n 1, .iconst 0] (by decide +kernel) (pc2 := 3) (lv2 := [(1, .int 0), (0, .ref rt)]) (st2 := [.int 0]) (M2 := M) rfl ⟨trivial, (by decide), trivial, trivial⟩ ?_
  refine V.seg F floX3 cjoX3 [.istore_n 2] (by decide +kernel) (pc2 := 4) (lv2 := [(2, .int 0), (1, .int 0), (0, .ref rt)]) (st2 := []) (M2 := M) rfl ⟨(by decide), trivial⟩ ?_
  have hJ4 : ∀ (n_ : Nat) (y1_4 : Int32) (j4 : Nat), (j4 ≤ ix (mI M rt 3)) → (ix (mI M rt 3) - j4 < n_) → f_X3_givenUpLines M rt = f_X3_givenUpLines_4 rt M n_ y1_4 j4 → V G X 5 0 0 (Qx G X 0 0 (p_X3_givenUpLines M rt)) 4 [(0, .ref rt), (1, .int y1_4), (2, .int (nI j4))] [] M := by
    intro n_
    induction n_ with
    | zero => intro y1_4 j4 b4 m4 E; omega
    | succ n_ ih_4 =>
      intro y1_4 j4 b4 m4 E
      rw [f_X3_givenUpLines_4] at E
      refine V.seg F floX3 cjoX3 [.iload_n 2, .aload_n 0, .getfield 21] (by decide +kernel) (pc2 := 9) (lv2 := [(0, .ref rt), (1, .int y1_4), (2, .int (nI j4))]) (st2 := [.int (mI M rt 3), .int (nI j4)]) (M2 := M) rfl ⟨trivial, trivial, (Rt.o hr), trivial⟩ ?_
      refine V.ic_ge (off := 87) F (by decide +kernel) (tgt := 96) (by decide) (fun h9 => ?_) (fun h9 => ?_)
      · replace E := E.trans (if_pos h9)
        refine V.seg F floX3 cjoX3 [.iload_n 1] (by decide +kernel) (pc2 := 97) (lv2 := [(0, .ref rt), (1, .int y1_4), (2, .int (nI j4))]) (st2 := [.int y1_4]) (M2 := M) rfl ⟨trivial, trivial⟩ ?_
        exact V.iret F (by decide +kernel) ⟨congrArg (fun z => some (Value.int z)) E.symm, rfl⟩
      · replace E := E.trans (if_neg h9)
        refine V.seg F floX3 cjoX3 [.aload_n 0, .getfield 34, .iload_n 2, .baload] (by decide +kernel) (pc2 := 18) (lv2 := [(0, .ref rt), (1, .int y1_4), (2, .int (nI j4))]) (st2 := [.int (mI M (rt + 6) (ix (nI j4)))]) (M2 := M) rfl ⟨trivial, (Rt.f hr 6 rfl), trivial, (Rt.a hr 6 21 32 rfl (vp_in_nI (by have le_ := cR.2; have hlt_ := cnt_lt (n := ix (mI M rt 3)) h9 cR.1 (by omega) (by omega); omega) (by decide))), trivial⟩ ?_
        have hJ90 : ∀ (y1_90 : Int32), f_X3_givenUpLines M rt = f_X3_givenUpLines_90 j4 (f_X3_givenUpLines_4 rt M n_) y1_90 → V G X 5 0 0 (Qx G X 0 0 (p_X3_givenUpLines M rt)) 90 [(0, .ref rt), (1, .int y1_90), (2, .int (nI j4))] [] M := by
          intro y1_90 E
          refine V.seg F floX3 cjoX3 [.iinc 2 1, .goto (-89)] (by decide +kernel) (pc2 := 4) (lv2 := [(2, .int ((nI j4) + 1)), (0, .ref rt), (1, .int y1_90)]) (st2 := []) (M2 := M) rfl ⟨(by decide), (by decide), trivial⟩ ?_
          refine V.pick [1, 2, 0] rfl ?_
          rw [nI_1]
          exact ih_4 y1_90 (j4 + 1) (by have le_ := cR.2; have hlt_ := cnt_lt (n := ix (mI M rt 3)) h9 cR.1 (by omega) (by omega); omega) (by have le_ := cR.2; have hlt_ := cnt_lt (n := ix (mI M rt 3)) h9 cR.1 (by omega) (by omega); omega) E
        refine V.if_eq (off := 72) F (by decide +kernel) (tgt := 90) (by decide) (fun h18 => ?_) (fun h18 => ?_)
        · replace E := E.trans (if_pos h18)
          refine V.pick [0, 1, 2] rfl ?_
          exact hJ90 y1_4  E
        · replace E := E.trans (if_neg h18)
          refine V.seg F floX3 cjoX3 [.aload_n 0, .getfield 9, .iload_n 2, .iaload, .bipush 12] (by decide +kernel) (pc2 := 29) (lv2 := [(0, .ref rt), (1, .int y1_4), (2, .int (nI j4))]) (st2 := [.int 12, .int (mI M (rt + 1) (ix (nI j4)))]) (M2 := M) rfl ⟨trivial, (Rt.f hr 0 rfl), trivial, (Rt.a hr 1 20 32 rfl (vp_in_nI (by have le_ := cR.2; have hlt_ := cnt_lt (n := ix (mI M rt 3)) h9 cR.1 (by omega) (by omega); omega) (by decide))), trivial, trivial⟩ ?_
          refine V.ic_ge (off := 61) F (by decide +kernel) (tgt := 90) (by decide) (fun h29 => ?_) (fun h29 => ?_)
          · replace E := E.trans (if_pos h29)
            refine V.pick [0, 1, 2] rfl ?_
            exact hJ90 y1_4  E
          · replace E := E.trans (if_neg h29)
            refine V.seg F floX3 cjoX3 [.aload_n 0, .getfield 31, .iload_n 2, .bipush 8, .imul, .aload_n 0, .getfield 15, .iload_n 2, .iaload, .iadd] (by decide +kernel) (pc2 := 47) (lv2 := [(0, .ref rt), (1, .int y1_4), (2, .int (nI j4))]) (st2 := [.int (((nI j4) * 8) + (mI M (rt + 2) (ix (nI j4)))), .ref (rt + 5)]) (M2 := M) rfl ⟨trivial, (Rt.f hr 5 rfl), trivial, trivial, trivial, trivial, (Rt.f hr 1 rfl), trivial, (Rt.a hr 2 20 32 rfl (vp_in_nI (by have le_ := cR.2; have hlt_ := cnt_lt (n := ix (mI M rt 3)) h9 cR.1 (by omega) (by omega); omega) (by decide))), trivial, trivial⟩ ?_
            refine V.aald (kd := 26) F (by decide +kernel) (Rt.a hr 5 26 256 rfl (lpq (vp_in_nI (by have le_ := cR.2; have hlt_ := cnt_lt (n := ix (mI M rt 3)) h9 cR.1 (by omega) (by omega); omega) (by decide)) (hLn j4 (by have le_ := cR.2; exact cnt_lt (n := ix (mI M rt 3)) h9 cR.1 (by omega) (by omega))).1.1)) ⟨by decide, by decide⟩ (Rt.aB hr (lpq (vp_in_nI (by have le_ := cR.2; have hlt_ := cnt_lt (n := ix (mI M rt 3)) h9 cR.1 (by omega) (by omega); omega) (by decide)) (hLn j4 (by have le_ := cR.2; exact cnt_lt (n := ix (mI M rt 3)) h9 cR.1 (by omega) (by omega))).1.1)) ?_
            show V G X 5 0 0 (Qx G X 0 0 (p_X3_givenUpLines M rt)) 48 [(0, .ref rt), (1, .int y1_4), (2, .int (nI j4))] [.ref (rt + 5 + 10 + ix (((nI j4) * 8) + (mI M (rt + 2) (ix (nI j4)))))] M
            refine V.seg F floX3 cjoX3 [.astore_n 3, .aload_n 0, .getfield 31, .iload_n 2, .bipush 8, .imul, .aload_n 0, .getfield 18, .iload_n 2, .iaload, .iadd] (by decide +kernel) (pc2 := 64) (lv2 := [(3, .ref (rt + 5 + 10 + ix (((nI j4) * 8) + (mI M (rt + 2) (ix (nI j4)))))), (0, .ref rt), (1, .int y1_4), (2, .int (nI j4))]) (st2 := [.int (((nI j4) * 8) + (mI M (rt + 3) (ix (nI j4)))), .ref (rt + 5)]) (M2 := M) rfl ⟨(by decide), trivial, (Rt.f hr 5 rfl), trivial, trivial, trivial, trivial, (Rt.f hr 2 rfl), trivial, (Rt.a hr 3 20 32 rfl (vp_in_nI (by have le_ := cR.2; have hlt_ := cnt_lt (n := ix (mI M rt 3)) h9 cR.1 (by omega) (by omega); omega) (by decide))), trivial, trivial⟩ ?_
            refine V.aald (kd := 26) F (by decide +kernel) (Rt.a hr 5 26 256 rfl (lpq (vp_in_nI (by have le_ := cR.2; have hlt_ := cnt_lt (n := ix (mI M rt 3)) h9 cR.1 (by omega) (by omega); omega) (by decide)) ((hLn j4 (by have le_ := cR.2; exact cnt_lt (n := ix (mI M rt 3)) h9 cR.1 (by omega) (by omega))).1.2.1 (lt12 h29)))) ⟨by decide, by decide⟩ (Rt.aB hr (lpq (vp_in_nI (by have le_ := cR.2; have hlt_ := cnt_lt (n := ix (mI M rt 3)) h9 cR.1 (by omega) (by omega); omega) (by decide)) ((hLn j4 (by have le_ := cR.2; exact cnt_lt (n := ix (mI M rt 3)) h9 cR.1 (by omega) (by omega))).1.2.1 (lt12 h29)))) ?_
            show V G X 5 0 0 (Qx G X 0 0 (p_X3_givenUpLines M rt)) 65 [(3, .ref (rt + 5 + 10 + ix (((nI j4) * 8) + (mI M (rt + 2) (ix (nI j4)))))), (0, .ref rt), (1, .int y1_4), (2, .int (nI j4))] [.ref (rt + 5 + 10 + ix (((nI j4) * 8) + (mI M (rt + 3) (ix (nI j4)))))] M
            refine V.seg F floX3 cjoX3 [.astore 4, .iload_n 1, .aload_n 0, .getfield 9, .iload_n 2, .iaload, .aload_n 3, .aload 4] (by decide +kernel) (pc2 := 77) (lv2 := [(4, .ref (rt + 5 + 10 + ix (((nI j4) * 8) + (mI M (rt + 3) (ix (nI j4)))))), (3, .ref (rt + 5 + 10 + ix (((nI j4) * 8) + (mI M (rt + 2) (ix (nI j4)))))), (0, .ref rt), (1, .int y1_4), (2, .int (nI j4))]) (st2 := [.ref (rt + 5 + 10 + ix (((nI j4) * 8) + (mI M (rt + 3) (ix (nI j4))))), .ref (rt + 5 + 10 + ix (((nI j4) * 8) + (mI M (rt + 2) (ix (nI j4))))), .int (mI M (rt + 1) (ix (nI j4))), .int y1_4]) (M2 := M) rfl ⟨(by decide), trivial, trivial, (Rt.f hr 0 rfl), trivial, (Rt.a hr 1 20 32 rfl (vp_in_nI (by have le_ := cR.2; have hlt_ := cnt_lt (n := ix (mI M rt 3)) h9 cR.1 (by omega) (by omega); omega) (by decide))), trivial, trivial, trivial⟩ ?_
            refine V.callS (as := [.int (mI M (rt + 1) (ix (nI j4))), .ref (rt + 5 + 10 + ix (((nI j4) * 8) + (mI M (rt + 2) (ix (nI j4))))), .ref (rt + 5 + 10 + ix (((nI j4) * 8) + (mI M (rt + 3) (ix (nI j4)))))]) (rest := [.int y1_4]) F (by decide +kernel) lX3_50 bX0_givesUp (c_X0_givesUp G X.2.1 M (mI M (rt + 1) (ix (nI j4))) (rt + 5 + 10 + ix (((nI j4) * 8) + (mI M (rt + 2) (ix (nI j4))))) (rt + 5 + 10 + ix (((nI j4) * 8) + (mI M (rt + 3) (ix (nI j4))))) (Rt.ah hr (lpq (vp_in_nI (by have le_ := cR.2; have hlt_ := cnt_lt (n := ix (mI M rt 3)) h9 cR.1 (by omega) (by omega); omega) (by decide)) (hLn j4 (by have le_ := cR.2; exact cnt_lt (n := ix (mI M rt 3)) h9 cR.1 (by omega) (by omega))).1.1)) (Rt.ah hr (lpq (vp_in_nI (by have le_ := cR.2; have hlt_ := cnt_lt (n := ix (mI M rt 3)) h9 cR.1 (by omega) (by omega); omega) (by decide)) ((hLn j4 (by have le_ := cR.2; exact cnt_lt (n := ix (mI M rt 3)) h9 cR.1 (by omega) (by omega))).1.2.1 (lt12 h29))))) (rm_ok hRm hd (by decide) (by decide)) ⟨Nat.zero_le _, Nat.zero_le _⟩ (Nat.le_of_ble_eq_true rfl) (fun r_ N_ p_ => ?_)
            obtain ⟨rfl, hN_, z77⟩ := p_
            rw [hN_]
            clear hN_
            have hJ88 : ∀ (w0_88 : Int32), f_X3_givenUpLines M rt = f_X3_givenUpLines_88 y1_4 j4 (f_X3_givenUpLines_4 rt M n_) w0_88 → V G X 5 0 0 (Qx G X 0 0 (p_X3_givenUpLines M rt)) 88 [(0, .ref rt), (2, .int (nI j4))] [.int w0_88, .int y1_4] M := by
              intro w0_88 E
              refine V.seg F floX3 cjoX3 [.iadd, .istore_n 1] (by decide +kernel) (pc2 := 90) (lv2 := [(1, .int (y1_4 + w0_88)), (0, .ref rt), (2, .int (nI j4))]) (st2 := []) (M2 := M) rfl ⟨trivial, (by decide), trivial⟩ ?_
              refine V.pick [1, 0, 2] rfl ?_
              exact hJ90 (y1_4 + w0_88)  E
            refine V.if_eq (off := 7) F (by decide +kernel) (tgt := 87) (by decide) (fun h80 => ?_) (fun h80 => ?_)
            · replace E := E.trans (if_pos h80)
              refine V.seg F floX3 cjoX3 [.iconst 0] (by decide +kernel) (pc2 := 88) (lv2 := [(4, .ref (rt + 5 + 10 + ix (((nI j4) * 8) + (mI M (rt + 3) (ix (nI j4)))))), (3, .ref (rt + 5 + 10 + ix (((nI j4) * 8) + (mI M (rt + 2) (ix (nI j4)))))), (0, .ref rt), (1, .int y1_4), (2, .int (nI j4))]) (st2 := [.int 0, .int y1_4]) (M2 := M) rfl ⟨trivial, trivial⟩ ?_
              refine V.pick [2, 4] rfl ?_
              exact hJ88 0  E
            · replace E := E.trans (if_neg h80)
              refine V.seg F floX3 cjoX3 [.iconst 1, .goto 4] (by decide +kernel) (pc2 := 88) (lv2 := [(4, .ref (rt + 5 + 10 + ix (((nI j4) * 8) + (mI M (rt + 3) (ix (nI j4)))))), (3, .ref (rt + 5 + 10 + ix (((nI j4) * 8) + (mI M (rt + 2) (ix (nI j4)))))), (0, .ref rt), (1, .int y1_4), (2, .int (nI j4))]) (st2 := [.int 1, .int y1_4]) (M2 := M) rfl ⟨trivial, (by decide), trivial⟩ ?_
              refine V.pick [2, 4] rfl ?_
              exact hJ88 1  E
  refine V.pick [2, 1, 0] rfl ?_
  exact hJ4 _ 0 0 (by omega) (by omega) E
def f_X3_constants_45 (y1_4 : Int32) (j4 : Nat) (R4_ : Int32 → Nat → Int32) (w0_45 : Int32) : Int32 := R4_ (y1_4 + w0_45) (j4 + 1)
def f_X3_constants_44 (y1_4 : Int32) (j4 : Nat) (R4_ : Int32 → Nat → Int32)  : Int32 := f_X3_constants_45 y1_4 j4 R4_ 0
def f_X3_constants_4 (rt : Nat) (M : Mem) : Nat → Int32 → Nat → Int32
  | 0, _, _ => 0
  | n_ + 1, y1_4, j4 => if ((mI M rt 3) * 8) ≤ (nI j4) then y1_4 else if (mI M (rt + 6) (ix ((nI j4) / 8))) = 0 then f_X3_constants_44 y1_4 j4 (f_X3_constants_4 rt M n_) else if (f_X1_isConstant M (rt + 5 + 10 + ix (nI j4))) = 0 then f_X3_constants_44 y1_4 j4 (f_X3_constants_4 rt M n_) else f_X3_constants_45 y1_4 j4 (f_X3_constants_4 rt M n_) 1
def f_X3_constants (M : Mem) (rt : Nat) : Int32 := f_X3_constants_4 rt M ((ix (mI M rt 3) * 8) + 1) 0 0
abbrev p_X3_constants (M : Mem) (rt : Nat) : Option Value → Mem → Prop := fun r N => r = some (.int (f_X3_constants M rt)) ∧ N = M
set_option maxRecDepth 100000 in
set_option maxHeartbeats 4000000 in
theorem c_X3_constants (G : Ctx) (l : Launch) (M : Mem) (rt : Nat) (q : Ok M) (hr : Rt M rt) (cR : cn (mI M rt 3) 32) : CT G l 1 mX3_constants [.ref rt] M 0 0 (p_X3_constants M rt) := by
  refine CT.of (by decide) (Nat.le_of_ble_eq_true rfl) ?_
  intro X d hd hl hRm hnm F
  subst hl
  have E : f_X3_constants M rt = f_X3_constants M rt := rfl
  show V G X 3 0 0 (Qx G X 0 0 (p_X3_constants M rt)) 0 [(0, .ref rt)] [] M
  refine V.seg F floX3 cjoX3 [.iconst 0, .istore_n 1, .iconst 0] (by decide +kernel) (pc2 := 3) (lv2 := [(1, .int 0), (0, .ref rt)]) (st2 := [.int 0]) (M2 := M) rfl ⟨trivial, (by decide), trivial, trivial⟩ ?_
  refine V.seg F floX3 cjoX3 [.istore_n 2] (by decide +kernel) (pc2 := 4) (lv2 := [(2, .int 0), (1, .int 0), (0, .ref rt)]) (st2 := []) (M2 := M) rfl ⟨(by decide), trivial⟩ ?_
  have hJ4 : ∀ (n_ : Nat) (y1_4 : Int32) (j4 : Nat), (j4 ≤ (ix (mI M rt 3) * 8)) → ((ix (mI M rt 3) * 8) - j4 < n_) → f_X3_constants M rt = f_X3_constants_4 rt M n_ y1_4 j4 → V G X 3 0 0 (Qx G X 0 0 (p_X3_constants M rt)) 4 [(0, .ref rt), (1, .int y1_4), (2, .int (nI j4))] [] M := by
    intro n_
    induction n_ with
    | zero => intro y1_4 j4 b4 m4 E; omega
    | succ n_ ih_4 =>
      intro y1_4 j4 b4 m4 E
      rw [f_X3_constants_4] at E
      refine V.seg F floX3 cjoX3 [.iload_n 2, .aload_n 0, .getfield 21, .bipush 8, .imul] (by decide +kernel) (pc2 := 12) (lv2 := [(0, .ref rt), (1, .int y1_4), (2, .int (nI j4))]) (st2 := [.int ((mI M rt 3) * 8), .int (nI j4)]) (M2 := M) rfl ⟨trivial, trivial, (Rt.o hr), trivial, trivial, trivial⟩ ?_
      refine V.ic_ge (off := 41) F (by decide +kernel) (tgt := 53) (by decide) (fun h12 => ?_) (fun h12 => ?_)
      · replace E := E.trans (if_pos h12)
        refine V.seg F floX3 cjoX3 [.iload_n 1] (by decide +kernel) (pc2 := 54) (lv2 := [(0, .ref rt), (1, .int y1_4), (2, .int (nI j4))]) (st2 := [.int y1_4]) (M2 := M) rfl ⟨trivial, trivial⟩ ?_
        exact V.iret F (by decide +kernel) ⟨congrArg (fun z => some (Value.int z)) E.symm, rfl⟩
      · replace E := E.trans (if_neg h12)
        refine V.seg F floX3 cjoX3 [.iload_n 1, .aload_n 0, .getfield 34, .iload_n 2, .bipush 8, .idiv, .baload] (by decide +kernel) (pc2 := 25) (lv2 := [(0, .ref rt), (1, .int y1_4), (2, .int (nI j4))]) (st2 := [.int (mI M (rt + 6) (ix ((nI j4) / 8))), .int y1_4]) (M2 := M) rfl ⟨trivial, trivial, (Rt.f hr 6 rfl), trivial, trivial, (by decide), (Rt.a hr 6 21 32 rfl (div8 (by have le_ := cR.2; have hlt_ := cnt_lt (n := ix (mI M rt 3) * 8) h12 (mulN cR.1 (rfl : (8 : Int32) = nI 8)) (by omega) (by omega); omega))), trivial⟩ ?_
        have hJ45 : ∀ (w0_45 : Int32), f_X3_constants M rt = f_X3_constants_45 y1_4 j4 (f_X3_constants_4 rt M n_) w0_45 → V G X 3 0 0 (Qx G X 0 0 (p_X3_constants M rt)) 45 [(0, .ref rt), (2, .int (nI j4))] [.int w0_45, .int y1_4] M := by
          intro w0_45 E
          refine V.seg F floX3 cjoX3 [.iadd, .istore_n 1, .iinc 2 1, .goto (-46)] (by decide +kernel) (pc2 := 4) (lv2 := [(2, .int ((nI j4) + 1)), (1, .int (y1_4 + w0_45)), (0, .ref rt)]) (st2 := []) (M2 := M) rfl ⟨trivial, (by decide), (by decide), (by decide), trivial⟩ ?_
          refine V.pick [2, 1, 0] rfl ?_
          rw [nI_1]
          exact ih_4 (y1_4 + w0_45) (j4 + 1) (by have le_ := cR.2; have hlt_ := cnt_lt (n := (ix (mI M rt 3) * 8)) h12 (mulN cR.1 (rfl : (8 : Int32) = nI 8)) (by omega) (by omega); omega) (by have le_ := cR.2; have hlt_ := cnt_lt (n := (ix (mI M rt 3) * 8)) h12 (mulN cR.1 (rfl : (8 : Int32) = nI 8)) (by omega) (by omega); omega) E
        have hJ44 : f_X3_constants M rt = f_X3_constants_44 y1_4 j4 (f_X3_constants_4 rt M n_) → V G X 3 0 0 (Qx G X 0 0 (p_X3_constants M rt)) 44 [(0, .ref rt), (2, .int (nI j4))] [.int y1_4] M := by
          intro E
          refine V.seg F floX3 cjoX3 [.iconst 0] (by decide +kernel) (pc2 := 45) (lv2 := [(0, .ref rt), (2, .int (nI j4))]) (st2 := [.int 0, .int y1_4]) (M2 := M) rfl ⟨trivial, trivial⟩ ?_
          refine V.pick [0, 1] rfl ?_
          exact hJ45 0  E
        refine V.if_eq (off := 19) F (by decide +kernel) (tgt := 44) (by decide) (fun h25 => ?_) (fun h25 => ?_)
        · replace E := E.trans (if_pos h25)
          refine V.pick [0, 2] rfl ?_
          exact hJ44   E
        · replace E := E.trans (if_neg h25)
          refine V.seg F floX3 cjoX3 [.aload_n 0, .getfield 31, .iload_n 2] (by decide +kernel) (pc2 := 33) (lv2 := [(0, .ref rt), (1, .int y1_4), (2, .int (nI j4))]) (st2 := [.int (nI j4), .ref (rt + 5), .int y1_4]) (M2 := M) rfl ⟨trivial, (Rt.f hr 5 rfl), trivial, trivial⟩ ?_
          refine V.aald (kd := 26) F (by decide +kernel) (Rt.a hr 5 26 256 rfl (vp_in_nI (by have le_ := cR.2; have hlt_ := cnt_lt (n := (ix (mI M rt 3) * 8)) h12 (mulN cR.1 (rfl : (8 : Int32) = nI 8)) (by omega) (by omega); omega) (by decide))) ⟨by decide, by decide⟩ (Rt.aB hr (vp_in_nI (by have le_ := cR.2; have hlt_ := cnt_lt (n := (ix (mI M rt 3) * 8)) h12 (mulN cR.1 (rfl : (8 : Int32) = nI 8)) (by omega) (by omega); omega) (by decide))) ?_
          show V G X 3 0 0 (Qx G X 0 0 (p_X3_constants M rt)) 34 [(0, .ref rt), (1, .int y1_4), (2, .int (nI j4))] [.ref (rt + 5 + 10 + ix (nI j4)), .int y1_4] M
          refine V.callV (as := []) (rest := [.int y1_4]) F (by decide +kernel) lX3_56 bX1_isConstant ⟨1, _, (Rt.ah hr (vp_in_nI (by have le_ := cR.2; have hlt_ := cnt_lt (n := (ix (mI M rt 3) * 8)) h12 (mulN cR.1 (rfl : (8 : Int32) = nI 8)) (by omega) (by omega); omega) (by decide))), rfl, rfl⟩ (c_X1_isConstant G X.2.1 M (rt + 5 + 10 + ix (nI j4)) (Rt.ah hr (vp_in_nI (by have le_ := cR.2; have hlt_ := cnt_lt (n := (ix (mI M rt 3) * 8)) h12 (mulN cR.1 (rfl : (8 : Int32) = nI 8)) (by omega) (by omega); omega) (by decide)))) (rm_ok hRm hd (by decide) (by decide)) ⟨Nat.zero_le _, Nat.zero_le _⟩ (Nat.le_of_ble_eq_true rfl) (fun r_ N_ p_ => ?_)
          obtain ⟨rfl, hN_, z34⟩ := p_
          rw [hN_]
          clear hN_
          refine V.if_eq (off := 7) F (by decide +kernel) (tgt := 44) (by decide) (fun h37 => ?_) (fun h37 => ?_)
          · replace E := E.trans (if_pos h37)
            refine V.pick [0, 2] rfl ?_
            exact hJ44   E
          · replace E := E.trans (if_neg h37)
            refine V.seg F floX3 cjoX3 [.iconst 1, .goto 4] (by decide +kernel) (pc2 := 45) (lv2 := [(0, .ref rt), (1, .int y1_4), (2, .int (nI j4))]) (st2 := [.int 1, .int y1_4]) (M2 := M) rfl ⟨trivial, (by decide), trivial⟩ ?_
            refine V.pick [0, 2] rfl ?_
            exact hJ45 1  E
  refine V.pick [2, 1, 0] rfl ?_
  exact hJ4 _ 0 0 (by omega) (by omega) E
def f_X5_addNumber (M : Mem) (t : Int32) (v : Int64) : Mem := uI (uL M (5 + 1 + ix t) (ix (mI M 10 (ix t))) v) 10 (ix t) ((mI (uL M (5 + 1 + ix t) (ix (mI M 10 (ix t))) v) 10 (ix t)) + 1)
abbrev p_X5_addNumber (M : Mem) (t : Int32) (v : Int64) : Option Value → Mem → Prop := fun r N => r = none ∧ N = f_X5_addNumber M t v ∧ SC wT M N
set_option maxRecDepth 100000 in
set_option maxHeartbeats 4000000 in
theorem c_X5_addNumber (G : Ctx) (l : Launch) (M : Mem) (t : Int32) (v : Int64) (q : Ok M) (i_t : vp_in t 4) (i_c : vp_in (mI M 10 (ix t)) 16) : CT G l 0 mX5_addNumber [.ref 4, .int t, .long v] M 0 0 (p_X5_addNumber M t v) := by
  refine CT.of (by decide) (Nat.le_of_ble_eq_true rfl) ?_
  intro X d hd hl hRm hnm F
  subst hl
  have E : f_X5_addNumber M t v = f_X5_addNumber M t v := rfl
  show V G X 4 0 0 (Qx G X 0 0 (p_X5_addNumber M t v)) 0 [(0, .ref 4), (1, .int t), (2, .long v)] [] M
  refine V.seg F floX5 cjoX5 [.aload_n 0, .getfield 11, .iload_n 1] (by decide +kernel) (pc2 := 5) (lv2 := [(0, .ref 4), (1, .int t), (2, .long v)]) (st2 := [.int t, .ref 5]) (M2 := M) rfl ⟨trivial, (q.f 4 5 0 rfl), trivial, trivial⟩ ?_
  refine V.aald (kd := 28) F (by decide +kernel) (q.a 5 28 4 rfl i_t) ⟨by decide, by decide⟩ (q.el 5 28 4 rfl rfl i_t) ?_
  show V G X 4 0 0 (Qx G X 0 0 (p_X5_addNumber M t v)) 6 [(0, .ref 4), (1, .int t), (2, .long v)] [.ref (5 + 1 + ix t)] M
  refine V.seg F floX5 cjoX5 [.aload_n 0, .getfield 16, .iload_n 1, .iaload, .lload_n 2, .lastore, .aload_n 0, .getfield 16, .iload_n 1, .dup2, .iaload, .iconst 1, .iadd, .iastore] (by decide +kernel) (pc2 := 24) (lv2 := [(0, .ref 4), (1, .int t), (2, .long v)]) (st2 := []) (M2 := uI (uL M (5 + 1 + ix t) (ix (mI M 10 (ix t))) v) 10 (ix t) ((mI (uL M (5 + 1 + ix t) (ix (mI M 10 (ix t))) v) 10 (ix t)) + 1)) rfl ⟨trivial, (q.f 4 5 1 rfl), trivial, (q.a 10 20 4 rfl i_t), trivial, (q.nu i_t i_c), trivial, ((q.sm (SC.pL (SC.rf (w := wT)) (wC_n i_t rfl)).1).f 4 5 1 rfl), trivial, trivial, ((q.sm (SC.pL (SC.rf (w := wT)) (wC_n i_t rfl)).1).a 10 20 4 rfl i_t), trivial, trivial, ((q.sm (SC.pL (SC.rf (w := wT)) (wC_n i_t rfl)).1).a 10 20 4 rfl i_t), trivial⟩ ?_
  exact V.vret F (by decide +kernel) ⟨rfl, E.symm, (SC.pI (SC.pL (SC.rf (w := wT)) (wC_n i_t rfl)) rfl)⟩
