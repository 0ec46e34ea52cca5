def f_X1_become (M : Mem) (a0 : Nat) (pl : Int64) (ph : Int64) (k : Int64) (v : Int64) (m : Int64) (pr : Int64) : Mem := uL (uL (uL (uL (uL (uL (uI M a0 0 0) a0 1 pl) a0 2 ph) a0 3 k) a0 4 v) a0 5 m) a0 6 pr
abbrev p_X1_become (M : Mem) (a0 : Nat) (pl : Int64) (ph : Int64) (k : Int64) (v : Int64) (m : Int64) (pr : Int64) : Option Value → Mem → Prop := fun r N => r = none ∧ N = f_X1_become M a0 pl ph k v m pr ∧ Sf M N
set_option maxRecDepth 100000 in
set_option maxHeartbeats 4000000 in
theorem c_X1_become (G : Ctx) (l : Launch) (M : Mem) (a0 : Nat) (pl : Int64) (ph : Int64) (k : Int64) (v : Int64) (m : Int64) (pr : Int64) (o_a0 : isO M a0 1) : CT G l 0 mX1_become [.ref a0, .long pl, .long ph, .long k, .long v, .long m, .long pr] M 0 0 (p_X1_become M a0 pl ph k v m pr) := by
  refine CT.of (by decide) (Nat.le_of_ble_eq_true rfl) ?_
  intro X d hd hl hRm hnm F
  subst hl
  have E : f_X1_become M a0 pl ph k v m pr = f_X1_become M a0 pl ph k v m pr := rfl
  show V G X 13 0 0 (Qx G X 0 0 (p_X1_become M a0 pl ph k v m pr)) 0 [(0, .ref a0), (1, .long pl), (3, .long ph), (5, .long k), (7, .long v), (9, .long m), (11, .long pr)] [] M
  refine V.seg F floX1 cjoX1 [.aload_n 0, .iconst 0, .putfield 29, .aload_n 0, .lload_n 1, .putfield 11, .aload_n 0, .lload_n 3, .putfield 19, .aload_n 0, .lload 5, .putfield 35, .aload_n 0, .lload 7, .putfield 38, .aload_n 0, .lload 9, .putfield 22, .aload_n 0, .lload 11, .putfield 41] (by decide +kernel) (pc2 := 39) (lv2 := [(0, .ref a0), (1, .long pl), (3, .long ph), (5, .long k), (7, .long v), (9, .long m), (11, .long pr)]) (st2 := []) (M2 := uL (uL (uL (uL (uL (uL (uI M a0 0 0) a0 1 pl) a0 2 ph) a0 3 k) a0 4 v) a0 5 m) a0 6 pr) rfl ⟨trivial, trivial, ⟨o_a0, Or.inl rfl⟩, trivial, trivial, (o_a0.sm (Sf.pI Sf.rf o_a0.1).1), trivial, trivial, (o_a0.sm (Sf.pL (Sf.pI Sf.rf o_a0.1) o_a0.1).1), trivial, trivial, (o_a0.sm (Sf.pL (Sf.pL (Sf.pI Sf.rf o_a0.1) o_a0.1) o_a0.1).1), trivial, trivial, (o_a0.sm (Sf.pL (Sf.pL (Sf.pL (Sf.pI Sf.rf o_a0.1) o_a0.1) o_a0.1) o_a0.1).1), trivial, trivial, (o_a0.sm (Sf.pL (Sf.pL (Sf.pL (Sf.pL (Sf.pI Sf.rf o_a0.1) o_a0.1) o_a0.1) o_a0.1) o_a0.1).1), trivial, trivial, (o_a0.sm (Sf.pL (Sf.pL (Sf.pL (Sf.pL (Sf.pL (Sf.pI Sf.rf o_a0.1) o_a0.1) o_a0.1) o_a0.1) o_a0.1) o_a0.1).1), trivial⟩ ?_
  exact V.vret F (by decide +kernel) ⟨rfl, E.symm, (Sf.pL (Sf.pL (Sf.pL (Sf.pL (Sf.pL (Sf.pL (Sf.pI Sf.rf o_a0.1) o_a0.1) o_a0.1) o_a0.1) o_a0.1) o_a0.1) o_a0.1)⟩
def f_X1_makeAll_c14  (M14 : Mem) : Mem := M14
def f_X1_makeAll (M : Mem) (a0 : Nat) : Mem := f_X1_makeAll_c14 (f_X1_become M a0 ((-9223372036854775808)) 9223372036854775807 0 0 1 0)
abbrev p_X1_makeAll (M : Mem) (a0 : Nat) : Option Value → Mem → Prop := fun r N => r = none ∧ N = f_X1_makeAll M a0 ∧ Sf M N
set_option maxRecDepth 100000 in
set_option maxHeartbeats 4000000 in
theorem c_X1_makeAll (G : Ctx) (l : Launch) (M : Mem) (a0 : Nat) (o_a0 : isO M a0 1) : CT G l 1 mX1_makeAll [.ref a0] M 0 0 (p_X1_makeAll M a0) := by
  refine CT.of (by decide) (Nat.le_of_ble_eq_true rfl) ?_
  intro X d hd hl hRm hnm F
  subst hl
  have E : f_X1_makeAll M a0 = f_X1_makeAll M a0 := rfl
  show V G X 1 0 0 (Qx G X 0 0 (p_X1_makeAll M a0)) 0 [(0, .ref a0)] [] M
  refine V.seg F floX1 cjoX1 [.aload_n 0, .ldc2_w 9, .ldc2_w 17, .lconst 0, .lconst 0, .lconst 1, .lconst 0] (by decide +kernel) (pc2 := 11) (lv2 := [(0, .ref a0)]) (st2 := [.long 0, .long 1, .long 0, .long 0, .long 9223372036854775807, .long ((-9223372036854775808)), .ref a0]) (M2 := M) rfl ⟨trivial, trivial, trivial, trivial, trivial, trivial, trivial, trivial⟩ ?_
  refine V.callV (as := [.long ((-9223372036854775808)), .long 9223372036854775807, .long 0, .long 0, .long 1, .long 0]) (rest := []) F (by decide +kernel) lX1_25 bX1_become ⟨1, _, o_a0, rfl, rfl⟩ (c_X1_become G X.2.1 M a0 ((-9223372036854775808)) 9223372036854775807 0 0 1 0 o_a0) (rm_ok hRm hd (by decide) (by decide)) ⟨Nat.zero_le _, Nat.zero_le _⟩ (Nat.le_of_ble_eq_true rfl) (fun r_ N_ p_ => ?_)
  obtain ⟨rfl, rfl, t11⟩ := p_
  refine (?_ : ∀ (M14 : Mem), (Sf M M14) → f_X1_makeAll M a0 = f_X1_makeAll_c14 M14 → V G X 1 0 0 (Qx G X 0 0 (p_X1_makeAll M a0)) 14 [(0, .ref a0)] [] M14) _ t11 E
  intro M14 s14 E
  exact V.vret F (by decide +kernel) ⟨rfl, E.symm, s14⟩
def f_X1_makeNone_c10 (a0 : Nat) (M10 : Mem) : Mem := uI M10 a0 0 1
def f_X1_makeNone (M : Mem) (a0 : Nat) : Mem := f_X1_makeNone_c10 a0 (f_X1_become M a0 0 0 0 0 0 0)
abbrev p_X1_makeNone (M : Mem) (a0 : Nat) : Option Value → Mem → Prop := fun r N => r = none ∧ N = f_X1_makeNone M a0 ∧ Sf M N
set_option maxRecDepth 100000 in
set_option maxHeartbeats 4000000 in
theorem c_X1_makeNone (G : Ctx) (l : Launch) (M : Mem) (a0 : Nat) (o_a0 : isO M a0 1) : CT G l 1 mX1_makeNone [.ref a0] M 0 0 (p_X1_makeNone M a0) := by
  refine CT.of (by decide) (Nat.le_of_ble_eq_true rfl) ?_
  intro X d hd hl hRm hnm F
  subst hl
  have E : f_X1_makeNone M a0 = f_X1_makeNone M a0 := rfl
  show V G X 1 0 0 (Qx G X 0 0 (p_X1_makeNone M a0)) 0 [(0, .ref a0)] [] M
  refine V.seg F floX1 cjoX1 [.aload_n 0, .lconst 0, .lconst 0, .lconst 0, .lconst 0, .lconst 0, .lconst 0] (by decide +kernel) (pc2 := 7) (lv2 := [(0, .ref a0)]) (st2 := [.long 0, .long 0, .long 0, .long 0, .long 0, .long 0, .ref a0]) (M2 := M) rfl ⟨trivial, trivial, trivial, trivial, trivial, trivial, trivial, trivial⟩ ?_
  refine V.callV (as := [.long 0, .long 0, .long 0, .long 0, .long 0, .long 0]) (rest := []) F (by decide +kernel) lX1_25 bX1_become ⟨1, _, o_a0, rfl, rfl⟩ (c_X1_become G X.2.1 M a0 0 0 0 0 0 0 o_a0) (rm_ok hRm hd (by decide) (by decide)) ⟨Nat.zero_le _, Nat.zero_le _⟩ (Nat.le_of_ble_eq_true rfl) (fun r_ N_ p_ => ?_)
  obtain ⟨rfl, rfl, t7⟩ := p_
  refine (?_ : ∀ (M10 : Mem), (Sf M M10) → f_X1_makeNone M a0 = f_X1_makeNone_c10 a0 M10 → V G X 1 0 0 (Qx G X 0 0 (p_X1_makeNone M a0)) 10 [(0, .ref a0)] [] M10) _ t7 E
  intro M10 s10 E
  refine V.seg F floX1 cjoX1 [.aload_n 0, .iconst 1, .putfield 29] (by decide +kernel) (pc2 := 15) (lv2 := [(0, .ref a0)]) (st2 := []) (M2 := uI M10 a0 0 1) rfl ⟨trivial, trivial, ⟨(o_a0.sm s10.1), Or.inr rfl⟩, trivial⟩ ?_
  exact V.vret F (by decide +kernel) ⟨rfl, E.symm, (Sf.pI s10 o_a0.1)⟩
def f_X1_makeConstant_c12  (M12 : Mem) : Mem := M12
def f_X1_makeConstant (M : Mem) (a0 : Nat) (v : Int64) : Mem := f_X1_makeConstant_c12 (f_X1_become M a0 v v ((-1)) v 1 0)
abbrev p_X1_makeConstant (M : Mem) (a0 : Nat) (v : Int64) : Option Value → Mem → Prop := fun r N => r = none ∧ N = f_X1_makeConstant M a0 v ∧ Sf M N
set_option maxRecDepth 100000 in
set_option maxHeartbeats 4000000 in
theorem c_X1_makeConstant (G : Ctx) (l : Launch) (M : Mem) (a0 : Nat) (v : Int64) (o_a0 : isO M a0 1) : CT G l 1 mX1_makeConstant [.ref a0, .long v] M 0 0 (p_X1_makeConstant M a0 v) := by
  refine CT.of (by decide) (Nat.le_of_ble_eq_true rfl) ?_
  intro X d hd hl hRm hnm F
  subst hl
  have E : f_X1_makeConstant M a0 v = f_X1_makeConstant M a0 v := rfl
  show V G X 3 0 0 (Qx G X 0 0 (p_X1_makeConstant M a0 v)) 0 [(0, .ref a0), (1, .long v)] [] M
  refine V.seg F floX1 cjoX1 [.aload_n 0, .lload_n 1, .lload_n 1, .ldc2_w 33, .lload_n 1, .lconst 1, .lconst 0] (by decide +kernel) (pc2 := 9) (lv2 := [(0, .ref a0), (1, .long v)]) (st2 := [.long 0, .long 1, .long v, .long ((-1)), .long v, .long v, .ref a0]) (M2 := M) rfl ⟨trivial, trivial, trivial, trivial, trivial, trivial, trivial, trivial⟩ ?_
  refine V.callV (as := [.long v, .long v, .long ((-1)), .long v, .long 1, .long 0]) (rest := []) F (by decide +kernel) lX1_25 bX1_become ⟨1, _, o_a0, rfl, rfl⟩ (c_X1_become G X.2.1 M a0 v v ((-1)) v 1 0 o_a0) (rm_ok hRm hd (by decide) (by decide)) ⟨Nat.zero_le _, Nat.zero_le _⟩ (Nat.le_of_ble_eq_true rfl) (fun r_ N_ p_ => ?_)
  obtain ⟨rfl, rfl, t9⟩ := p_
  refine (?_ : ∀ (M12 : Mem), (Sf M M12) → f_X1_makeConstant M a0 v = f_X1_makeConstant_c12 M12 → V G X 3 0 0 (Qx G X 0 0 (p_X1_makeConstant M a0 v)) 12 [(0, .ref a0), (1, .long v)] [] M12) _ t9 E
  intro M12 s12 E
  exact V.vret F (by decide +kernel) ⟨rfl, E.symm, s12⟩
def f_X1_copy_c56  (M56 : Mem) : Mem := M56
def f_X1_copy_c32 (a0 : Nat) (b : Nat) (M32 : Mem) : Mem := f_X1_copy_c56 (uL (uL (uL M32 a0 4 (mL M32 b 4)) a0 5 (mL (uL M32 a0 4 (mL M32 b 4)) b 5)) a0 6 (mL (uL (uL M32 a0 4 (mL M32 b 4)) a0 5 (mL (uL M32 a0 4 (mL M32 b 4)) b 5)) b 6))
def f_X1_copy (M : Mem) (a0 : Nat) (b : Nat) : Mem := f_X1_copy_c32 a0 b (uL (uL (uL (uI M a0 0 (mI M b 0)) a0 1 (mL (uI M a0 0 (mI M b 0)) b 1)) a0 2 (mL (uL (uI M a0 0 (mI M b 0)) a0 1 (mL (uI M a0 0 (mI M b 0)) b 1)) b 2)) a0 3 (mL (uL (uL (uI M a0 0 (mI M b 0)) a0 1 (mL (uI M a0 0 (mI M b 0)) b 1)) a0 2 (mL (uL (uI M a0 0 (mI M b 0)) a0 1 (mL (uI M a0 0 (mI M b 0)) b 1)) b 2)) b 3))
abbrev p_X1_copy (M : Mem) (a0 : Nat) (b : Nat) : Option Value → Mem → Prop := fun r N => r = none ∧ N = f_X1_copy M a0 b ∧ Sf M N
set_option maxRecDepth 100000 in
set_option maxHeartbeats 4000000 in
theorem c_X1_copy (G : Ctx) (l : Launch) (M : Mem) (a0 : Nat) (b : Nat) (o_a0 : isO M a0 1) (o_b : isO M b 1) : CT G l 0 mX1_copy [.ref a0, .ref b] M 0 0 (p_X1_copy M a0 b) := by
  refine CT.of (by decide) (Nat.le_of_ble_eq_true rfl) ?_
  intro X d hd hl hRm hnm F
  subst hl
  have E : f_X1_copy M a0 b = f_X1_copy M a0 b := rfl
  show V G X 2 0 0 (Qx G X 0 0 (p_X1_copy M a0 b)) 0 [(0, .ref a0), (1, .ref b)] [] M
  refine V.bool b 0 (bl_o o_b rfl) (fun bz5 => ?_)
  refine V.seg F floX1 cjoX1 [.aload_n 0, .aload_n 1, .getfield 29, .putfield 29, .aload_n 0, .aload_n 1, .getfield 11, .putfield 11, .aload_n 0, .aload_n 1, .getfield 19, .putfield 19, .aload_n 0, .aload_n 1, .getfield 35, .putfield 35] (by decide +kernel) (pc2 := 32) (lv2 := [(0, .ref a0), (1, .ref b)]) (st2 := []) (M2 := uL (uL (uL (uI M a0 0 (mI M b 0)) a0 1 (mL (uI M a0 0 (mI M b 0)) b 1)) a0 2 (mL (uL (uI M a0 0 (mI M b 0)) a0 1 (mL (uI M a0 0 (mI M b 0)) b 1)) b 2)) a0 3 (mL (uL (uL (uI M a0 0 (mI M b 0)) a0 1 (mL (uI M a0 0 (mI M b 0)) b 1)) a0 2 (mL (uL (uI M a0 0 (mI M b 0)) a0 1 (mL (uI M a0 0 (mI M b 0)) b 1)) b 2)) b 3)) rfl ⟨trivial, trivial, o_b, ⟨o_a0, bz5⟩, trivial, trivial, (o_b.sm (Sf.pI Sf.rf o_a0.1).1), (o_a0.sm (Sf.pI Sf.rf o_a0.1).1), trivial, trivial, (o_b.sm (Sf.pL (Sf.pI Sf.rf o_a0.1) o_a0.1).1), (o_a0.sm (Sf.pL (Sf.pI Sf.rf o_a0.1) o_a0.1).1), trivial, trivial, (o_b.sm (Sf.pL (Sf.pL (Sf.pI Sf.rf o_a0.1) o_a0.1) o_a0.1).1), (o_a0.sm (Sf.pL (Sf.pL (Sf.pI Sf.rf o_a0.1) o_a0.1) o_a0.1).1), trivial⟩ ?_
  refine (?_ : ∀ (M32 : Mem), (Sf M M32) → f_X1_copy M a0 b = f_X1_copy_c32 a0 b M32 → V G X 2 0 0 (Qx G X 0 0 (p_X1_copy M a0 b)) 32 [(0, .ref a0), (1, .ref b)] [] M32) _ (Sf.pL (Sf.pL (Sf.pL (Sf.pI Sf.rf o_a0.1) o_a0.1) o_a0.1) o_a0.1) E
  intro M32 s32 E
  refine V.seg F floX1 cjoX1 [.aload_n 0, .aload_n 1, .getfield 38, .putfield 38, .aload_n 0, .aload_n 1, .getfield 22, .putfield 22, .aload_n 0, .aload_n 1, .getfield 41, .putfield 41] (by decide +kernel) (pc2 := 56) (lv2 := [(0, .ref a0), (1, .ref b)]) (st2 := []) (M2 := uL (uL (uL M32 a0 4 (mL M32 b 4)) a0 5 (mL (uL M32 a0 4 (mL M32 b 4)) b 5)) a0 6 (mL (uL (uL M32 a0 4 (mL M32 b 4)) a0 5 (mL (uL M32 a0 4 (mL M32 b 4)) b 5)) b 6)) rfl ⟨trivial, trivial, (o_b.sm s32.1), (o_a0.sm s32.1), trivial, trivial, (o_b.sm (Sf.pL s32 o_a0.1).1), (o_a0.sm (Sf.pL s32 o_a0.1).1), trivial, trivial, (o_b.sm (Sf.pL (Sf.pL s32 o_a0.1) o_a0.1).1), (o_a0.sm (Sf.pL (Sf.pL s32 o_a0.1) o_a0.1).1), trivial⟩ ?_
  refine (?_ : ∀ (M56 : Mem), (Sf M M56) → f_X1_copy M a0 b = f_X1_copy_c56 M56 → V G X 2 0 0 (Qx G X 0 0 (p_X1_copy M a0 b)) 56 [(0, .ref a0), (1, .ref b)] [] M56) _ (Sf.pL (Sf.pL (Sf.pL s32 o_a0.1) o_a0.1) o_a0.1) E
  intro M56 s56 E
  exact V.vret F (by decide +kernel) ⟨rfl, E.symm, s56⟩
def f_X1_isConstant_24  (w0_24 : Int32) : Int32 := w0_24
def f_X1_isConstant_23   : Int32 := f_X1_isConstant_24 0
def f_X1_isConstant (M : Mem) (a0 : Nat) : Int32 := if (mI M a0 0) = 0 then if (mL M a0 1) = (mL M a0 2) then f_X1_isConstant_24 1 else f_X1_isConstant_23  else f_X1_isConstant_23 
abbrev p_X1_isConstant (M : Mem) (a0 : Nat) : Option Value → Mem → Prop := fun r N => r = some (.int (f_X1_isConstant M a0)) ∧ N = M ∧ ((f_X1_isConstant M a0) = 0 ∨ (f_X1_isConstant M a0) = 1)
set_option maxRecDepth 100000 in
set_option maxHeartbeats 4000000 in
theorem c_X1_isConstant (G : Ctx) (l : Launch) (M : Mem) (a0 : Nat) (o_a0 : isO M a0 1) : CT G l 0 mX1_isConstant [.ref a0] M 0 0 (p_X1_isConstant M a0) := by
  refine CT.of (by decide) (Nat.le_of_ble_eq_true rfl) ?_
  intro X d hd hl hRm hnm F
  subst hl
  have E : f_X1_isConstant M a0 = f_X1_isConstant M a0 := rfl
  show V G X 1 0 0 (Qx G X 0 0 (p_X1_isConstant M a0)) 0 [(0, .ref a0)] [] M
  refine V.seg F floX1 cjoX1 [.aload_n 0, .getfield 29] (by decide +kernel) (pc2 := 4) (lv2 := [(0, .ref a0)]) (st2 := [.int (mI M a0 0)]) (M2 := M) rfl ⟨trivial, o_a0, trivial⟩ ?_
  have hJ24 : ∀ (w0_24 : Int32), (w0_24 = 0 ∨ w0_24 = 1) → f_X1_isConstant M a0 = f_X1_isConstant_24 w0_24 → V G X 1 0 0 (Qx G X 0 0 (p_X1_isConstant M a0)) 24 [] [.int w0_24] M := by
    intro w0_24 zw0_24 E
    exact V.zret F (zw0_24) (by decide +kernel) ⟨congrArg (fun z => some (Value.int z)) E.symm, rfl, by rw [E]; exact zw0_24⟩
  have hJ23 : f_X1_isConstant M a0 = f_X1_isConstant_23 → V G X 1 0 0 (Qx G X 0 0 (p_X1_isConstant M a0)) 23 [] [] M := by
    intro E
    refine V.seg F floX1 cjoX1 [.iconst 0] (by decide +kernel) (pc2 := 24) (lv2 := []) (st2 := [.int 0]) (M2 := M) rfl ⟨trivial, trivial⟩ ?_
    refine V.pick [] rfl ?_
    exact hJ24 0 (Or.inl rfl) E
  refine V.if_ne (off := 19) F (by decide +kernel) (tgt := 23) (by decide) (fun h4 => ?_) (fun h4 => ?_)
  · replace E := E.trans (if_neg h4)
    refine V.pick [] rfl ?_
    exact hJ23   E
  · replace E := E.trans (if_pos h4)
    refine V.seg F floX1 cjoX1 [.aload_n 0, .getfield 11, .aload_n 0, .getfield 19, .lcmp] (by decide +kernel) (pc2 := 16) (lv2 := [(0, .ref a0)]) (st2 := [.int (lg_cmp (mL M a0 1) (mL M a0 2))]) (M2 := M) rfl ⟨trivial, o_a0, trivial, o_a0, trivial, trivial⟩ ?_
    refine V.lc_ne (off := 7) F (by decide +kernel) (tgt := 23) (by decide) (fun h16 => ?_) (fun h16 => ?_)
    · replace E := E.trans (if_neg h16)
      refine V.pick [] rfl ?_
      exact hJ23   E
    · replace E := E.trans (if_pos h16)
      refine V.seg F floX1 cjoX1 [.iconst 1, .goto 4] (by decide +kernel) (pc2 := 24) (lv2 := [(0, .ref a0)]) (st2 := [.int 1]) (M2 := M) rfl ⟨trivial, (by decide), trivial⟩ ?_
      refine V.pick [] rfl ?_
      exact hJ24 1 (Or.inr rfl) E
def f_X1_isLike_88  (w0_88 : Int32) : Int32 := w0_88
def f_X1_isLike_87   : Int32 := f_X1_isLike_88 0
def f_X1_isLike (M : Mem) (a0 : Nat) (b : Nat) : Int32 := if (mI M a0 0) = (mI M b 0) then if (mL M a0 1) = (mL M b 1) then if (mL M a0 2) = (mL M b 2) then if (mL M a0 3) = (mL M b 3) then if (mL M a0 4) = (mL M b 4) then if (mL M a0 5) = (mL M b 5) then if (mL M a0 6) = (mL M b 6) then f_X1_isLike_88 1 else f_X1_isLike_87  else f_X1_isLike_87  else f_X1_isLike_87  else f_X1_isLike_87  else f_X1_isLike_87  else f_X1_isLike_87  else f_X1_isLike_87 
abbrev p_X1_isLike (M : Mem) (a0 : Nat) (b : Nat) : Option Value → Mem → Prop := fun r N => r = some (.int (f_X1_isLike M a0 b)) ∧ N = M ∧ ((f_X1_isLike M a0 b) = 0 ∨ (f_X1_isLike M a0 b) = 1)
set_option maxRecDepth 100000 in
set_option maxHeartbeats 4000000 in
theorem c_X1_isLike (G : Ctx) (l : Launch) (M : Mem) (a0 : Nat) (b : Nat) (o_a0 : isO M a0 1) (o_b : isO M b 1) : CT G l 0 mX1_isLike [.ref a0, .ref b] M 0 0 (p_X1_isLike M a0 b) := by
  refine CT.of (by decide) (Nat.le_of_ble_eq_true rfl) ?_
  intro X d hd hl hRm hnm F
  subst hl
  have E : f_X1_isLike M a0 b = f_X1_isLike M a0 b := rfl
  show V G X 2 0 0 (Qx G X 0 0 (p_X1_isLike M a0 b)) 0 [(0, .ref a0), (1, .ref b)] [] M
  refine V.seg F floX1 cjoX1 [.aload_n 0, .getfield 29, .aload_n 1, .getfield 29] (by decide +kernel) (pc2 := 8) (lv2 := [(0, .ref a0), (1, .ref b)]) (st2 := [.int (mI M b 0), .int (mI M a0 0)]) (M2 := M) rfl ⟨trivial, o_a0, trivial, o_b, trivial⟩ ?_
  have hJ88 : ∀ (w0_88 : Int32), (w0_88 = 0 ∨ w0_88 = 1) → f_X1_isLike M a0 b = f_X1_isLike_88 w0_88 → V G X 2 0 0 (Qx G X 0 0 (p_X1_isLike M a0 b)) 88 [] [.int w0_88] M := by
    intro w0_88 zw0_88 E
    exact V.zret F (zw0_88) (by decide +kernel) ⟨congrArg (fun z => some (Value.int z)) E.symm, rfl, by rw [E]; exact zw0_88⟩
  have hJ87 : f_X1_isLike M a0 b = f_X1_isLike_87 → V G X 2 0 0 (Qx G X 0 0 (p_X1_isLike M a0 b)) 87 [] [] M := by
    intro E
    refine V.seg F floX1 cjoX1 [.iconst 0] (by decide +kernel) (pc2 := 88) (lv2 := []) (st2 := [.int 0]) (M2 := M) rfl ⟨trivial, trivial⟩ ?_
    refine V.pick [] rfl ?_
    exact hJ88 0 (Or.inl rfl) E
  refine V.ic_ne (off := 79) F (by decide +kernel) (tgt := 87) (by decide) (fun h8 => ?_) (fun h8 => ?_)
  · replace E := E.trans (if_neg h8)
    refine V.pick [] rfl ?_
    exact hJ87   E
  · replace E := E.trans (if_pos h8)
    refine V.seg F floX1 cjoX1 [.aload_n 0, .getfield 11, .aload_n 1, .getfield 11, .lcmp] (by decide +kernel) (pc2 := 20) (lv2 := [(0, .ref a0), (1, .ref b)]) (st2 := [.int (lg_cmp (mL M a0 1) (mL M b 1))]) (M2 := M) rfl ⟨trivial, o_a0, trivial, o_b, trivial, trivial⟩ ?_
    refine V.lc_ne (off := 67) F (by decide +kernel) (tgt := 87) (by decide) (fun h20 => ?_) (fun h20 => ?_)
    · replace E := E.trans (if_neg h20)
      refine V.pick [] rfl ?_
      exact hJ87   E
    · replace E := E.trans (if_pos h20)
      refine V.seg F floX1 cjoX1 [.aload_n 0, .getfield 19, .aload_n 1, .getfield 19, .lcmp] (by decide +kernel) (pc2 := 32) (lv2 := [(0, .ref a0), (1, .ref b)]) (st2 := [.int (lg_cmp (mL M a0 2) (mL M b 2))]) (M2 := M) rfl ⟨trivial, o_a0, trivial, o_b, trivial, trivial⟩ ?_
      refine V.lc_ne (off := 55) F (by decide +kernel) (tgt := 87) (by decide) (fun h32 => ?_) (fun h32 => ?_)
      · replace E := E.trans (if_neg h32)
        refine V.pick [] rfl ?_
        exact hJ87   E
      · replace E := E.trans (if_pos h32)
        refine V.seg F floX1 cjoX1 [.aload_n 0, .getfield 35, .aload_n 1, .getfield 35, .lcmp] (by decide +kernel) (pc2 := 44) (lv2 := [(0, .ref a0), (1, .ref b)]) (st2 := [.int (lg_cmp (mL M a0 3) (mL M b 3))]) (M2 := M) rfl ⟨trivial, o_a0, trivial, o_b, trivial, trivial⟩ ?_
        refine V.lc_ne (off := 43) F (by decide +kernel) (tgt := 87) (by decide) (fun h44 => ?_) (fun h44 => ?_)
        · replace E := E.trans (if_neg h44)
          refine V.pick [] rfl ?_
          exact hJ87   E
        · replace E := E.trans (if_pos h44)
          refine V.seg F floX1 cjoX1 [.aload_n 0, .getfield 38, .aload_n 1, .getfield 38, .lcmp] (by decide +kernel) (pc2 := 56) (lv2 := [(0, .ref a0), (1, .ref b)]) (st2 := [.int (lg_cmp (mL M a0 4) (mL M b 4))]) (M2 := M) rfl ⟨trivial, o_a0, trivial, o_b, trivial, trivial⟩ ?_
          refine V.lc_ne (off := 31) F (by decide +kernel) (tgt := 87) (by decide) (fun h56 => ?_) (fun h56 => ?_)
          · replace E := E.trans (if_neg h56)
            refine V.pick [] rfl ?_
            exact hJ87   E
          · replace E := E.trans (if_pos h56)
            refine V.seg F floX1 cjoX1 [.aload_n 0, .getfield 22, .aload_n 1, .getfield 22, .lcmp] (by decide +kernel) (pc2 := 68) (lv2 := [(0, .ref a0), (1, .ref b)]) (st2 := [.int (lg_cmp (mL M a0 5) (mL M b 5))]) (M2 := M) rfl ⟨trivial, o_a0, trivial, o_b, trivial, trivial⟩ ?_
            refine V.lc_ne (off := 19) F (by decide +kernel) (tgt := 87) (by decide) (fun h68 => ?_) (fun h68 => ?_)
            · replace E := E.trans (if_neg h68)
              refine V.pick [] rfl ?_
              exact hJ87   E
            · replace E := E.trans (if_pos h68)
              refine V.seg F floX1 cjoX1 [.aload_n 0, .getfield 41, .aload_n 1, .getfield 41, .lcmp] (by decide +kernel) (pc2 := 80) (lv2 := [(0, .ref a0), (1, .ref b)]) (st2 := [.int (lg_cmp (mL M a0 6) (mL M b 6))]) (M2 := M) rfl ⟨trivial, o_a0, trivial, o_b, trivial, trivial⟩ ?_
              refine V.lc_ne (off := 7) F (by decide +kernel) (tgt := 87) (by decide) (fun h80 => ?_) (fun h80 => ?_)
              · replace E := E.trans (if_neg h80)
                refine V.pick [] rfl ?_
                exact hJ87   E
              · replace E := E.trans (if_pos h80)
                refine V.seg F floX1 cjoX1 [.iconst 1, .goto 4] (by decide +kernel) (pc2 := 88) (lv2 := [(0, .ref a0), (1, .ref b)]) (st2 := [.int 1]) (M2 := M) rfl ⟨trivial, (by decide), trivial⟩ ?_
                refine V.pick [] rfl ?_
                exact hJ88 1 (Or.inr rfl) E
def f_X1_holds_62  (w0_62 : Int32) : Int32 := w0_62
def f_X1_holds_61   : Int32 := f_X1_holds_62 0
def f_X1_holds (M : Mem) (a0 : Nat) (v : Int64) : Int32 := if (mI M a0 0) = 0 then if v < (mL M a0 1) then f_X1_holds_61  else if (mL M a0 2) < v then f_X1_holds_61  else if ((v ^^^ (mL M a0 4)) &&& (mL M a0 3)) = 0 then if (f_X6_restBy v (mL M a0 5)) = (mL M a0 6) then f_X1_holds_62 1 else f_X1_holds_61  else f_X1_holds_61  else f_X1_holds_61 
abbrev p_X1_holds (M : Mem) (a0 : Nat) (v : Int64) : Option Value → Mem → Prop := fun r N => r = some (.int (f_X1_holds M a0 v)) ∧ N = M ∧ ((f_X1_holds M a0 v) = 0 ∨ (f_X1_holds M a0 v) = 1)
set_option maxRecDepth 100000 in
set_option maxHeartbeats 4000000 in
theorem c_X1_holds (G : Ctx) (l : Launch) (M : Mem) (a0 : Nat) (v : Int64) (o_a0 : isO M a0 1) : CT G l 1 mX1_holds [.ref a0, .long v] M 0 0 (p_X1_holds M a0 v) := by
  refine CT.of (by decide) (Nat.le_of_ble_eq_true rfl) ?_
  intro X d hd hl hRm hnm F
  subst hl
  have E : f_X1_holds M a0 v = f_X1_holds M a0 v := rfl
  show V G X 3 0 0 (Qx G X 0 0 (p_X1_holds M a0 v)) 0 [(0, .ref a0), (1, .long v)] [] M
  refine V.seg F floX1 cjoX1 [.aload_n 0, .getfield 29] (by decide +kernel) (pc2 := 4) (lv2 := [(0, .ref a0), (1, .long v)]) (st2 := [.int (mI M a0 0)]) (M2 := M) rfl ⟨trivial, o_a0, trivial⟩ ?_
  have hJ62 : ∀ (w0_62 : Int32), (w0_62 = 0 ∨ w0_62 = 1) → f_X1_holds M a0 v = f_X1_holds_62 w0_62 → V G X 3 0 0 (Qx G X 0 0 (p_X1_holds M a0 v)) 62 [] [.int w0_62] M := by
    intro w0_62 zw0_62 E
    exact V.zret F (zw0_62) (by decide +kernel) ⟨congrArg (fun z => some (Value.int z)) E.symm, rfl, by rw [E]; exact zw0_62⟩
  have hJ61 : f_X1_holds M a0 v = f_X1_holds_61 → V G X 3 0 0 (Qx G X 0 0 (p_X1_holds M a0 v)) 61 [] [] M := by
    intro E
    refine V.seg F floX1 cjoX1 [.iconst 0] (by decide +kernel) (pc2 := 62) (lv2 := []) (st2 := [.int 0]) (M2 := M) rfl ⟨trivial, trivial⟩ ?_
    refine V.pick [] rfl ?_
    exact hJ62 0 (Or.inl rfl) E
  refine V.if_ne (off := 57) F (by decide +kernel) (tgt := 61) (by decide) (fun h4 => ?_) (fun h4 => ?_)
  · replace E := E.trans (if_neg h4)
    refine V.pick [] rfl ?_
    exact hJ61   E
  · replace E := E.trans (if_pos h4)
    refine V.seg F floX1 cjoX1 [.lload_n 1, .aload_n 0, .getfield 11, .lcmp] (by decide +kernel) (pc2 := 13) (lv2 := [(0, .ref a0), (1, .long v)]) (st2 := [.int (lg_cmp v (mL M a0 1))]) (M2 := M) rfl ⟨trivial, trivial, o_a0, trivial, trivial⟩ ?_
    refine V.lc_lt (off := 48) F (by decide +kernel) (tgt := 61) (by decide) (fun h13 => ?_) (fun h13 => ?_)
    · replace E := E.trans (if_pos h13)
      refine V.pick [] rfl ?_
      exact hJ61   E
    · replace E := E.trans (if_neg h13)
      refine V.seg F floX1 cjoX1 [.lload_n 1, .aload_n 0, .getfield 19, .lcmp] (by decide +kernel) (pc2 := 22) (lv2 := [(0, .ref a0), (1, .long v)]) (st2 := [.int (lg_cmp v (mL M a0 2))]) (M2 := M) rfl ⟨trivial, trivial, o_a0, trivial, trivial⟩ ?_
      refine V.lc_gt (off := 39) F (by decide +kernel) (tgt := 61) (by decide) (fun h22 => ?_) (fun h22 => ?_)
      · replace E := E.trans (if_pos h22)
        refine V.pick [] rfl ?_
        exact hJ61   E
      · replace E := E.trans (if_neg h22)
        refine V.seg F floX1 cjoX1 [.lload_n 1, .aload_n 0, .getfield 38, .lxor, .aload_n 0, .getfield 35, .land, .lconst 0, .lcmp] (by decide +kernel) (pc2 := 38) (lv2 := [(0, .ref a0), (1, .long v)]) (st2 := [.int (lg_cmp ((v ^^^ (mL M a0 4)) &&& (mL M a0 3)) 0)]) (M2 := M) rfl ⟨trivial, trivial, o_a0, trivial, trivial, o_a0, trivial, trivial, trivial, trivial⟩ ?_
        refine V.lc_ne (off := 23) F (by decide +kernel) (tgt := 61) (by decide) (fun h38 => ?_) (fun h38 => ?_)
        · replace E := E.trans (if_neg h38)
          refine V.pick [] rfl ?_
          exact hJ61   E
        · replace E := E.trans (if_pos h38)
          refine V.seg F floX1 cjoX1 [.lload_n 1, .aload_n 0, .getfield 22] (by decide +kernel) (pc2 := 46) (lv2 := [(0, .ref a0), (1, .long v)]) (st2 := [.long (mL M a0 5), .long v]) (M2 := M) rfl ⟨trivial, trivial, o_a0, trivial⟩ ?_
          refine V.callSN (as := [.long v, .long (mL M a0 5)]) (rest := []) F (by decide +kernel) lX1_44 bX6_restBy (c_X6_restBy G X.2.1 M v (mL M a0 5)) (rm_ok hRm hd (by decide) (by decide)) ⟨Nat.zero_le _, Nat.zero_le _⟩ (Nat.le_of_ble_eq_true rfl) (fun r_ N_ p_ => ?_)
          obtain ⟨rfl, hN_⟩ := p_
          rw [hN_]
          clear hN_
          refine V.seg F floX1 cjoX1 [.aload_n 0, .getfield 41, .lcmp] (by decide +kernel) (pc2 := 54) (lv2 := [(0, .ref a0), (1, .long v)]) (st2 := [.int (lg_cmp (f_X6_restBy v (mL M a0 5)) (mL M a0 6))]) (M2 := M) rfl ⟨trivial, o_a0, trivial, trivial⟩ ?_
          refine V.lc_ne (off := 7) F (by decide +kernel) (tgt := 61) (by decide) (fun h54 => ?_) (fun h54 => ?_)
          · replace E := E.trans (if_neg h54)
            refine V.pick [] rfl ?_
            exact hJ61   E
          · replace E := E.trans (if_pos h54)
            refine V.seg F floX1 cjoX1 [.iconst 1, .goto 4] (by decide +kernel) (pc2 := 62) (lv2 := [(0, .ref a0), (1, .long v)]) (st2 := [.int 1]) (M2 := M) rfl ⟨trivial, (by decide), trivial⟩ ?_
            refine V.pick [] rfl ?_
            exact hJ62 1 (Or.inr rfl) E
def f_X1_countedModulus_15  (w0_15 : Int64) : Int64 := w0_15
def f_X1_countedModulus (M : Mem) (a0 : Nat) : Int64 := if (f_X1_isConstant M a0) = 0 then f_X1_countedModulus_15 (mL M a0 5) else f_X1_countedModulus_15 0
abbrev p_X1_countedModulus (M : Mem) (a0 : Nat) : Option Value → Mem → Prop := fun r N => r = some (.long (f_X1_countedModulus M a0)) ∧ N = M
set_option maxRecDepth 100000 in
set_option maxHeartbeats 4000000 in
theorem c_X1_countedModulus (G : Ctx) (l : Launch) (M : Mem) (a0 : Nat) (o_a0 : isO M a0 1) : CT G l 1 mX1_countedModulus [.ref a0] M 0 0 (p_X1_countedModulus M a0) := by
  refine CT.of (by decide) (Nat.le_of_ble_eq_true rfl) ?_
  intro X d hd hl hRm hnm F
  subst hl
  have E : f_X1_countedModulus M a0 = f_X1_countedModulus M a0 := rfl
  show V G X 1 0 0 (Qx G X 0 0 (p_X1_countedModulus M a0)) 0 [(0, .ref a0)] [] M
  refine V.seg F floX1 cjoX1 [.aload_n 0] (by decide +kernel) (pc2 := 1) (lv2 := [(0, .ref a0)]) (st2 := [.ref a0]) (M2 := M) rfl ⟨trivial, trivial⟩ ?_
  refine V.callV (as := []) (rest := []) F (by decide +kernel) lX1_48 bX1_isConstant ⟨1, _, o_a0, rfl, rfl⟩ (c_X1_isConstant G X.2.1 M a0 o_a0) (rm_ok hRm hd (by decide) (by decide)) ⟨Nat.zero_le _, Nat.zero_le _⟩ (Nat.le_of_ble_eq_true rfl) (fun r_ N_ p_ => ?_)
  obtain ⟨rfl, hN_, z1⟩ := p_
  rw [hN_]
  clear hN_
  have hJ15 : ∀ (w0_15 : Int64), f_X1_countedModulus M a0 = f_X1_countedModulus_15 w0_15 → V G X 1 0 0 (Qx G X 0 0 (p_X1_countedModulus M a0)) 15 [] [.long w0_15] M := by
    intro w0_15 E
    exact V.lret F (by decide +kernel) ⟨congrArg (fun z => some (Value.long z)) E.symm, rfl⟩
  refine V.if_eq (off := 7) F (by decide +kernel) (tgt := 11) (by decide) (fun h4 => ?_) (fun h4 => ?_)
  · replace E := E.trans (if_pos h4)
    refine V.seg F floX1 cjoX1 [.aload_n 0, .getfield 22] (by decide +kernel) (pc2 := 15) (lv2 := [(0, .ref a0)]) (st2 := [.long (mL M a0 5)]) (M2 := M) rfl ⟨trivial, o_a0, trivial⟩ ?_
    refine V.pick [] rfl ?_
    exact hJ15 (mL M a0 5)  E
  · replace E := E.trans (if_neg h4)
    refine V.seg F floX1 cjoX1 [.lconst 0, .goto 7] (by decide +kernel) (pc2 := 15) (lv2 := [(0, .ref a0)]) (st2 := [.long 0]) (M2 := M) rfl ⟨trivial, (by decide), trivial⟩ ?_
    refine V.pick [] rfl ?_
    exact hJ15 0  E
def f_X1_countedRest_18  (w0_18 : Int64) : Int64 := w0_18
def f_X1_countedRest (M : Mem) (a0 : Nat) : Int64 := if (f_X1_isConstant M a0) = 0 then f_X1_countedRest_18 (mL M a0 6) else f_X1_countedRest_18 (mL M a0 1)
abbrev p_X1_countedRest (M : Mem) (a0 : Nat) : Option Value → Mem → Prop := fun r N => r = some (.long (f_X1_countedRest M a0)) ∧ N = M
set_option maxRecDepth 100000 in
set_option maxHeartbeats 4000000 in
theorem c_X1_countedRest (G : Ctx) (l : Launch) (M : Mem) (a0 : Nat) (o_a0 : isO M a0 1) : CT G l 1 mX1_countedRest [.ref a0] M 0 0 (p_X1_countedRest M a0) := by
  refine CT.of (by decide) (Nat.le_of_ble_eq_true rfl) ?_
  intro X d hd hl hRm hnm F
  subst hl
  have E : f_X1_countedRest M a0 = f_X1_countedRest M a0 := rfl
  show V G X 1 0 0 (Qx G X 0 0 (p_X1_countedRest M a0)) 0 [(0, .ref a0)] [] M
  refine V.seg F floX1 cjoX1 [.aload_n 0] (by decide +kernel) (pc2 := 1) (lv2 := [(0, .ref a0)]) (st2 := [.ref a0]) (M2 := M) rfl ⟨trivial, trivial⟩ ?_
  refine V.callV (as := []) (rest := []) F (by decide +kernel) lX1_48 bX1_isConstant ⟨1, _, o_a0, rfl, rfl⟩ (c_X1_isConstant G X.2.1 M a0 o_a0) (rm_ok hRm hd (by decide) (by decide)) ⟨Nat.zero_le _, Nat.zero_le _⟩ (Nat.le_of_ble_eq_true rfl) (fun r_ N_ p_ => ?_)
  obtain ⟨rfl, hN_, z1⟩ := p_
  rw [hN_]
  clear hN_
  have hJ18 : ∀ (w0_18 : Int64), f_X1_countedRest M a0 = f_X1_countedRest_18 w0_18 → V G X 1 0 0 (Qx G X 0 0 (p_X1_countedRest M a0)) 18 [] [.long w0_18] M := by
    intro w0_18 E
    exact V.lret F (by decide +kernel) ⟨congrArg (fun z => some (Value.long z)) E.symm, rfl⟩
  refine V.if_eq (off := 10) F (by decide +kernel) (tgt := 14) (by decide) (fun h4 => ?_) (fun h4 => ?_)
  · replace E := E.trans (if_pos h4)
    refine V.seg F floX1 cjoX1 [.aload_n 0, .getfield 41] (by decide +kernel) (pc2 := 18) (lv2 := [(0, .ref a0)]) (st2 := [.long (mL M a0 6)]) (M2 := M) rfl ⟨trivial, o_a0, trivial⟩ ?_
    refine V.pick [] rfl ?_
    exact hJ18 (mL M a0 6)  E
  · replace E := E.trans (if_neg h4)
    refine V.seg F floX1 cjoX1 [.aload_n 0, .getfield 11, .goto 7] (by decide +kernel) (pc2 := 18) (lv2 := [(0, .ref a0)]) (st2 := [.long (mL M a0 1)]) (M2 := M) rfl ⟨trivial, o_a0, (by decide), trivial⟩ ?_
    refine V.pick [] rfl ?_
    exact hJ18 (mL M a0 1)  E
def f_X1_fitBits_100  (w0_100 : Int32) (M100 : Mem) : Int32 × Mem := (w0_100, M100)
def f_X1_fitBits_99  (M99 : Mem) : Int32 × Mem := f_X1_fitBits_100 0 M99
def f_X1_fitBits_c65 (a0 : Nat) (M : Mem) (M65 : Mem) : Int32 × Mem := if (mL M65 a0 1) < (mL M a0 1) then f_X1_fitBits_99 M65 else if (mL M a0 2) < (mL M65 a0 2) then f_X1_fitBits_99 M65 else if (mL M65 a0 2) < (mL M65 a0 1) then f_X1_fitBits_99 M65 else f_X1_fitBits_100 1 M65
def f_X1_fitBits (M : Mem) (a0 : Nat) : Int32 × Mem := f_X1_fitBits_c65 a0 M (uL (uL M a0 1 (f_X6_leastWithBits (mL M a0 1) (mL M a0 3) (mL M a0 4))) a0 2 ((f_X6_leastWithBits ((mL (uL M a0 1 (f_X6_leastWithBits (mL M a0 1) (mL M a0 3) (mL M a0 4))) a0 2) ^^^ ((-1))) (mL (uL M a0 1 (f_X6_leastWithBits (mL M a0 1) (mL M a0 3) (mL M a0 4))) a0 3) ((mL (uL M a0 1 (f_X6_leastWithBits (mL M a0 1) (mL M a0 3) (mL M a0 4))) a0 3) &&& ((mL (uL M a0 1 (f_X6_leastWithBits (mL M a0 1) (mL M a0 3) (mL M a0 4))) a0 4) ^^^ ((-1))))) ^^^ ((-1))))
abbrev p_X1_fitBits (M : Mem) (a0 : Nat) : Option Value → Mem → Prop := fun r N => r = some (.int (f_X1_fitBits M a0).1) ∧ N = (f_X1_fitBits M a0).2 ∧ Sf M N ∧ ((f_X1_fitBits M a0).1 = 0 ∨ (f_X1_fitBits M a0).1 = 1)
set_option maxRecDepth 100000 in
set_option maxHeartbeats 4000000 in
theorem c_X1_fitBits (G : Ctx) (l : Launch) (M : Mem) (a0 : Nat) (o_a0 : isO M a0 1) : CT G l 1 mX1_fitBits [.ref a0] M 0 0 (p_X1_fitBits M a0) := by
  refine CT.of (by decide) (Nat.le_of_ble_eq_true rfl) ?_
  intro X d hd hl hRm hnm F
  subst hl
  have E : f_X1_fitBits M a0 = f_X1_fitBits M a0 := rfl
  show V G X 5 0 0 (Qx G X 0 0 (p_X1_fitBits M a0)) 0 [(0, .ref a0)] [] M
  refine V.seg F floX1 cjoX1 [.aload_n 0, .getfield 11, .lstore_n 1, .aload_n 0, .getfield 19, .lstore_n 3, .aload_n 0, .aload_n 0, .getfield 11, .aload_n 0, .getfield 35, .aload_n 0, .getfield 38] (by decide +kernel) (pc2 := 23) (lv2 := [(3, .long (mL M a0 2)), (1, .long (mL M a0 1)), (0, .ref a0)]) (st2 := [.long (mL M a0 4), .long (mL M a0 3), .long (mL M a0 1), .ref a0]) (M2 := M) rfl ⟨trivial, o_a0, (by decide), trivial, o_a0, (by decide), trivial, trivial, o_a0, trivial, o_a0, trivial, o_a0, trivial⟩ ?_
  refine V.callSN (as := [.long (mL M a0 1), .long (mL M a0 3), .long (mL M a0 4)]) (rest := [.ref a0]) F (by decide +kernel) lX1_68 bX6_leastWithBits (c_X6_leastWithBits G X.2.1 M (mL M a0 1) (mL M a0 3) (mL M a0 4)) (rm_ok hRm hd (by decide) (by decide)) ⟨Nat.zero_le _, Nat.zero_le _⟩ (Nat.le_of_ble_eq_true rfl) (fun r_ N_ p_ => ?_)
  obtain ⟨rfl, hN_⟩ := p_
  rw [hN_]
  clear hN_
  refine V.seg F floX1 cjoX1 [.putfield 11, .aload_n 0, .aload_n 0, .getfield 19, .ldc2_w 33, .lxor, .aload_n 0, .getfield 35, .aload_n 0, .getfield 35, .aload_n 0, .getfield 38, .ldc2_w 33, .lxor, .land] (by decide +kernel) (pc2 := 55) (lv2 := [(3, .long (mL M a0 2)), (1, .long (mL M a0 1)), (0, .ref a0)]) (st2 := [.long ((mL (uL M a0 1 (f_X6_leastWithBits (mL M a0 1) (mL M a0 3) (mL M a0 4))) a0 3) &&& ((mL (uL M a0 1 (f_X6_leastWithBits (mL M a0 1) (mL M a0 3) (mL M a0 4))) a0 4) ^^^ ((-1)))), .long (mL (uL M a0 1 (f_X6_leastWithBits (mL M a0 1) (mL M a0 3) (mL M a0 4))) a0 3), .long ((mL (uL M a0 1 (f_X6_leastWithBits (mL M a0 1) (mL M a0 3) (mL M a0 4))) a0 2) ^^^ ((-1))), .ref a0]) (M2 := uL M a0 1 (f_X6_leastWithBits (mL M a0 1) (mL M a0 3) (mL M a0 4))) rfl ⟨o_a0, trivial, trivial, (o_a0.sm (Sf.pL Sf.rf o_a0.1).1), trivial, trivial, trivial, (o_a0.sm (Sf.pL Sf.rf o_a0.1).1), trivial, (o_a0.sm (Sf.pL Sf.rf o_a0.1).1), trivial, (o_a0.sm (Sf.pL Sf.rf o_a0.1).1), trivial, trivial, trivial, trivial⟩ ?_
  refine V.callSN (as := [.long ((mL (uL M a0 1 (f_X6_leastWithBits (mL M a0 1) (mL M a0 3) (mL M a0 4))) a0 2) ^^^ ((-1))), .long (mL (uL M a0 1 (f_X6_leastWithBits (mL M a0 1) (mL M a0 3) (mL M a0 4))) a0 3), .long ((mL (uL M a0 1 (f_X6_leastWithBits (mL M a0 1) (mL M a0 3) (mL M a0 4))) a0 3) &&& ((mL (uL M a0 1 (f_X6_leastWithBits (mL M a0 1) (mL M a0 3) (mL M a0 4))) a0 4) ^^^ ((-1))))]) (rest := [.ref a0]) F (by decide +kernel) lX1_68 bX6_leastWithBits (c_X6_leastWithBits G X.2.1 (uL M a0 1 (f_X6_leastWithBits (mL M a0 1) (mL M a0 3) (mL M a0 4))) ((mL (uL M a0 1 (f_X6_leastWithBits (mL M a0 1) (mL M a0 3) (mL M a0 4))) a0 2) ^^^ ((-1))) (mL (uL M a0 1 (f_X6_leastWithBits (mL M a0 1) (mL M a0 3) (mL M a0 4))) a0 3) ((mL (uL M a0 1 (f_X6_leastWithBits (mL M a0 1) (mL M a0 3) (mL M a0 4))) a0 3) &&& ((mL (uL M a0 1 (f_X6_leastWithBits (mL M a0 1) (mL M a0 3) (mL M a0 4))) a0 4) ^^^ ((-1))))) (rm_ok hRm hd (by decide) (by decide)) ⟨Nat.zero_le _, Nat.zero_le _⟩ (Nat.le_of_ble_eq_true rfl) (fun r_ N_ p_ => ?_)
  obtain ⟨rfl, hN_⟩ := p_
  rw [hN_]
  clear hN_
  refine V.seg F floX1 cjoX1 [.ldc2_w 33, .lxor, .putfield 19] (by decide +kernel) (pc2 := 65) (lv2 := [(3, .long (mL M a0 2)), (1, .long (mL M a0 1)), (0, .ref a0)]) (st2 := []) (M2 := uL (uL M a0 1 (f_X6_leastWithBits (mL M a0 1) (mL M a0 3) (mL M a0 4))) a0 2 ((f_X6_leastWithBits ((mL (uL M a0 1 (f_X6_leastWithBits (mL M a0 1) (mL M a0 3) (mL M a0 4))) a0 2) ^^^ ((-1))) (mL (uL M a0 1 (f_X6_leastWithBits (mL M a0 1) (mL M a0 3) (mL M a0 4))) a0 3) ((mL (uL M a0 1 (f_X6_leastWithBits (mL M a0 1) (mL M a0 3) (mL M a0 4))) a0 3) &&& ((mL (uL M a0 1 (f_X6_leastWithBits (mL M a0 1) (mL M a0 3) (mL M a0 4))) a0 4) ^^^ ((-1))))) ^^^ ((-1)))) rfl ⟨trivial, trivial, (o_a0.sm (Sf.pL Sf.rf o_a0.1).1), trivial⟩ ?_
  refine (?_ : ∀ (M65 : Mem), (Sf M M65) → f_X1_fitBits M a0 = f_X1_fitBits_c65 a0 M M65 → V G X 5 0 0 (Qx G X 0 0 (p_X1_fitBits M a0)) 65 [(3, .long (mL M a0 2)), (1, .long (mL M a0 1)), (0, .ref a0)] [] M65) _ (Sf.pL (Sf.pL Sf.rf o_a0.1) o_a0.1) E
  intro M65 s65 E
  refine V.seg F floX1 cjoX1 [.aload_n 0, .getfield 11, .lload_n 1, .lcmp] (by decide +kernel) (pc2 := 71) (lv2 := [(3, .long (mL M a0 2)), (1, .long (mL M a0 1)), (0, .ref a0)]) (st2 := [.int (lg_cmp (mL M65 a0 1) (mL M a0 1))]) (M2 := M65) rfl ⟨trivial, (o_a0.sm s65.1), trivial, trivial, trivial⟩ ?_
  have hJ100 : ∀ (w0_100 : Int32) (M100 : Mem), (Sf M M100) → (w0_100 = 0 ∨ w0_100 = 1) → f_X1_fitBits M a0 = f_X1_fitBits_100 w0_100 M100 → V G X 5 0 0 (Qx G X 0 0 (p_X1_fitBits M a0)) 100 [] [.int w0_100] M100 := by
    intro w0_100 M100 s100 zw0_100 E
    exact V.zret F (zw0_100) (by decide +kernel) ⟨congrArg (fun z => some (Value.int z.1)) E.symm, congrArg Prod.snd E.symm, s100, by rw [E]; exact zw0_100⟩
  have hJ99 : ∀ (M99 : Mem), (Sf M M99) → f_X1_fitBits M a0 = f_X1_fitBits_99 M99 → V G X 5 0 0 (Qx G X 0 0 (p_X1_fitBits M a0)) 99 [] [] M99 := by
    intro M99 s99 E
    refine V.seg F floX1 cjoX1 [.iconst 0] (by decide +kernel) (pc2 := 100) (lv2 := []) (st2 := [.int 0]) (M2 := M99) rfl ⟨trivial, trivial⟩ ?_
    refine V.pick [] rfl ?_
    exact hJ100 0 M99 s99 (Or.inl rfl) E
  refine V.lc_lt (off := 28) F (by decide +kernel) (tgt := 99) (by decide) (fun h71 => ?_) (fun h71 => ?_)
  · replace E := E.trans (if_pos h71)
    refine V.pick [] rfl ?_
    exact hJ99 M65 s65 E
  · replace E := E.trans (if_neg h71)
    refine V.seg F floX1 cjoX1 [.aload_n 0, .getfield 19, .lload_n 3, .lcmp] (by decide +kernel) (pc2 := 80) (lv2 := [(3, .long (mL M a0 2)), (1, .long (mL M a0 1)), (0, .ref a0)]) (st2 := [.int (lg_cmp (mL M65 a0 2) (mL M a0 2))]) (M2 := M65) rfl ⟨trivial, (o_a0.sm s65.1), trivial, trivial, trivial⟩ ?_
    refine V.lc_gt (off := 19) F (by decide +kernel) (tgt := 99) (by decide) (fun h80 => ?_) (fun h80 => ?_)
    · replace E := E.trans (if_pos h80)
      refine V.pick [] rfl ?_
      exact hJ99 M65 s65 E
    · replace E := E.trans (if_neg h80)
      refine V.seg F floX1 cjoX1 [.aload_n 0, .getfield 11, .aload_n 0, .getfield 19, .lcmp] (by decide +kernel) (pc2 := 92) (lv2 := [(3, .long (mL M a0 2)), (1, .long (mL M a0 1)), (0, .ref a0)]) (st2 := [.int (lg_cmp (mL M65 a0 1) (mL M65 a0 2))]) (M2 := M65) rfl ⟨trivial, (o_a0.sm s65.1), trivial, (o_a0.sm s65.1), trivial, trivial⟩ ?_
      refine V.lc_gt (off := 7) F (by decide +kernel) (tgt := 99) (by decide) (fun h92 => ?_) (fun h92 => ?_)
      · replace E := E.trans (if_pos h92)
        refine V.pick [] rfl ?_
        exact hJ99 M65 s65 E
      · replace E := E.trans (if_neg h92)
        refine V.seg F floX1 cjoX1 [.iconst 1, .goto 4] (by decide +kernel) (pc2 := 100) (lv2 := [(3, .long (mL M a0 2)), (1, .long (mL M a0 1)), (0, .ref a0)]) (st2 := [.int 1]) (M2 := M65) rfl ⟨trivial, (by decide), trivial⟩ ?_
        refine V.pick [] rfl ?_
        exact hJ100 1 M65 s65 (Or.inr rfl) E
def f_X1_fitRest_74  (M74 : Mem) : Int32 × Mem := (0, M74)
def f_X1_fitRest_113  (w0_113 : Int32) (M113 : Mem) : Int32 × Mem := (w0_113, M113)
def f_X1_fitRest_c48 (a0 : Nat) (M : Mem) (x24 : Int64) (x48 : Int64) : Int32 × Mem := if (9223372036854775807 - x24) < (mL M a0 1) then f_X1_fitRest_74 M else if (((-9223372036854775808)) + x48) ≤ (mL M a0 2) then if (mL (uL (uL M a0 1 ((mL M a0 1) + x24)) a0 2 ((mL (uL M a0 1 ((mL M a0 1) + x24)) a0 2) - x48)) a0 2) < (mL (uL (uL M a0 1 ((mL M a0 1) + x24)) a0 2 ((mL (uL M a0 1 ((mL M a0 1) + x24)) a0 2) - x48)) a0 1) then f_X1_fitRest_113 0 (uL (uL M a0 1 ((mL M a0 1) + x24)) a0 2 ((mL (uL M a0 1 ((mL M a0 1) + x24)) a0 2) - x48)) else f_X1_fitRest_113 1 (uL (uL M a0 1 ((mL M a0 1) + x24)) a0 2 ((mL (uL M a0 1 ((mL M a0 1) + x24)) a0 2) - x48)) else f_X1_fitRest_74 M
def f_X1_fitRest_c24 (a0 : Nat) (M : Mem) (x24 : Int64) : Int32 × Mem := f_X1_fitRest_c48 a0 M x24 (f_X6_restBy ((f_X6_restBy (mL M a0 2) (mL M a0 5)) - (mL M a0 6)) (mL M a0 5))
def f_X1_fitRest (M : Mem) (a0 : Nat) : Int32 × Mem := f_X1_fitRest_c24 a0 M (f_X6_restBy ((mL M a0 6) - (f_X6_restBy (mL M a0 1) (mL M a0 5))) (mL M a0 5))
abbrev p_X1_fitRest (M : Mem) (a0 : Nat) : Option Value → Mem → Prop := fun r N => r = some (.int (f_X1_fitRest M a0).1) ∧ N = (f_X1_fitRest M a0).2 ∧ Sf M N ∧ ((f_X1_fitRest M a0).1 = 0 ∨ (f_X1_fitRest M a0).1 = 1)
set_option maxRecDepth 100000 in
set_option maxHeartbeats 4000000 in
theorem c_X1_fitRest (G : Ctx) (l : Launch) (M : Mem) (a0 : Nat) (o_a0 : isO M a0 1) : CT G l 1 mX1_fitRest [.ref a0] M 0 0 (p_X1_fitRest M a0) := by
  refine CT.of (by decide) (Nat.le_of_ble_eq_true rfl) ?_
  intro X d hd hl hRm hnm F
  subst hl
  have E : f_X1_fitRest M a0 = f_X1_fitRest M a0 := rfl
  show V G X 5 0 0 (Qx G X 0 0 (p_X1_fitRest M a0)) 0 [(0, .ref a0)] [] M
  refine V.seg F floX1 cjoX1 [.aload_n 0, .getfield 41, .aload_n 0, .getfield 11, .aload_n 0, .getfield 22] (by decide +kernel) (pc2 := 12) (lv2 := [(0, .ref a0)]) (st2 := [.long (mL M a0 5), .long (mL M a0 1), .long (mL M a0 6)]) (M2 := M) rfl ⟨trivial, o_a0, trivial, o_a0, trivial, o_a0, trivial⟩ ?_
  refine V.callSN (as := [.long (mL M a0 1), .long (mL M a0 5)]) (rest := [.long (mL M a0 6)]) F (by decide +kernel) lX1_44 bX6_restBy (c_X6_restBy G X.2.1 M (mL M a0 1) (mL M a0 5)) (rm_ok hRm hd (by decide) (by decide)) ⟨Nat.zero_le _, Nat.zero_le _⟩ (Nat.le_of_ble_eq_true rfl) (fun r_ N_ p_ => ?_)
  obtain ⟨rfl, hN_⟩ := p_
  rw [hN_]
  clear hN_
  refine V.seg F floX1 cjoX1 [.lsub, .aload_n 0, .getfield 22] (by decide +kernel) (pc2 := 20) (lv2 := [(0, .ref a0)]) (st2 := [.long (mL M a0 5), .long ((mL M a0 6) - (f_X6_restBy (mL M a0 1) (mL M a0 5)))]) (M2 := M) rfl ⟨trivial, trivial, o_a0, trivial⟩ ?_
  refine V.callSN (as := [.long ((mL M a0 6) - (f_X6_restBy (mL M a0 1) (mL M a0 5))), .long (mL M a0 5)]) (rest := []) F (by decide +kernel) lX1_44 bX6_restBy (c_X6_restBy G X.2.1 M ((mL M a0 6) - (f_X6_restBy (mL M a0 1) (mL M a0 5))) (mL M a0 5)) (rm_ok hRm hd (by decide) (by decide)) ⟨Nat.zero_le _, Nat.zero_le _⟩ (Nat.le_of_ble_eq_true rfl) (fun r_ N_ p_ => ?_)
  obtain ⟨rfl, hN_⟩ := p_
  rw [hN_]
  clear hN_
  refine V.seg F floX1 cjoX1 [.lstore_n 1] (by decide +kernel) (pc2 := 24) (lv2 := [(1, .long (f_X6_restBy ((mL M a0 6) - (f_X6_restBy (mL M a0 1) (mL M a0 5))) (mL M a0 5))), (0, .ref a0)]) (st2 := []) (M2 := M) rfl ⟨(by decide), trivial⟩ ?_
  refine (?_ : ∀ (x24 : Int64), f_X1_fitRest M a0 = f_X1_fitRest_c24 a0 M x24 → V G X 5 0 0 (Qx G X 0 0 (p_X1_fitRest M a0)) 24 [(1, .long x24), (0, .ref a0)] [] M) _  E
  intro x24 E
  refine V.seg F floX1 cjoX1 [.aload_n 0, .getfield 19, .aload_n 0, .getfield 22] (by decide +kernel) (pc2 := 32) (lv2 := [(1, .long x24), (0, .ref a0)]) (st2 := [.long (mL M a0 5), .long (mL M a0 2)]) (M2 := M) rfl ⟨trivial, o_a0, trivial, o_a0, trivial⟩ ?_
  refine V.callSN (as := [.long (mL M a0 2), .long (mL M a0 5)]) (rest := []) F (by decide +kernel) lX1_44 bX6_restBy (c_X6_restBy G X.2.1 M (mL M a0 2) (mL M a0 5)) (rm_ok hRm hd (by decide) (by decide)) ⟨Nat.zero_le _, Nat.zero_le _⟩ (Nat.le_of_ble_eq_true rfl) (fun r_ N_ p_ => ?_)
  obtain ⟨rfl, hN_⟩ := p_
  rw [hN_]
  clear hN_
  refine V.seg F floX1 cjoX1 [.aload_n 0, .getfield 41, .lsub, .aload_n 0, .getfield 22] (by decide +kernel) (pc2 := 44) (lv2 := [(1, .long x24), (0, .ref a0)]) (st2 := [.long (mL M a0 5), .long ((f_X6_restBy (mL M a0 2) (mL M a0 5)) - (mL M a0 6))]) (M2 := M) rfl ⟨trivial, o_a0, trivial, trivial, o_a0, trivial⟩ ?_
  refine V.callSN (as := [.long ((f_X6_restBy (mL M a0 2) (mL M a0 5)) - (mL M a0 6)), .long (mL M a0 5)]) (rest := []) F (by decide +kernel) lX1_44 bX6_restBy (c_X6_restBy G X.2.1 M ((f_X6_restBy (mL M a0 2) (mL M a0 5)) - (mL M a0 6)) (mL M a0 5)) (rm_ok hRm hd (by decide) (by decide)) ⟨Nat.zero_le _, Nat.zero_le _⟩ (Nat.le_of_ble_eq_true rfl) (fun r_ N_ p_ => ?_)
  obtain ⟨rfl, hN_⟩ := p_
  rw [hN_]
  clear hN_
  refine V.seg F floX1 cjoX1 [.lstore_n 3] (by decide +kernel) (pc2 := 48) (lv2 := [(3, .long (f_X6_restBy ((f_X6_restBy (mL M a0 2) (mL M a0 5)) - (mL M a0 6)) (mL M a0 5))), (1, .long x24), (0, .ref a0)]) (st2 := []) (M2 := M) rfl ⟨(by decide), trivial⟩ ?_
  refine (?_ : ∀ (x48 : Int64), f_X1_fitRest M a0 = f_X1_fitRest_c48 a0 M x24 x48 → V G X 5 0 0 (Qx G X 0 0 (p_X1_fitRest M a0)) 48 [(3, .long x48), (1, .long x24), (0, .ref a0)] [] M) _  E
  intro x48 E
  refine V.seg F floX1 cjoX1 [.aload_n 0, .getfield 11, .ldc2_w 17, .lload_n 1, .lsub, .lcmp] (by decide +kernel) (pc2 := 58) (lv2 := [(3, .long x48), (1, .long x24), (0, .ref a0)]) (st2 := [.int (lg_cmp (mL M a0 1) (9223372036854775807 - x24))]) (M2 := M) rfl ⟨trivial, o_a0, trivial, trivial, trivial, trivial, trivial⟩ ?_
  have hJ74 : ∀ (M74 : Mem), (Sf M M74) → f_X1_fitRest M a0 = f_X1_fitRest_74 M74 → V G X 5 0 0 (Qx G X 0 0 (p_X1_fitRest M a0)) 74 [] [] M74 := by
    intro M74 s74 E
    refine V.seg F floX1 cjoX1 [.iconst 0] (by decide +kernel) (pc2 := 75) (lv2 := []) (st2 := [.int 0]) (M2 := M74) rfl ⟨trivial, trivial⟩ ?_
    exact V.zret F (Or.inl rfl) (by decide +kernel) ⟨congrArg (fun z => some (Value.int z.1)) E.symm, congrArg Prod.snd E.symm, s74, by rw [E]; exact Or.inl rfl⟩
  refine V.lc_gt (off := 16) F (by decide +kernel) (tgt := 74) (by decide) (fun h58 => ?_) (fun h58 => ?_)
  · replace E := E.trans (if_pos h58)
    refine V.pick [] rfl ?_
    exact hJ74 M Sf.rf E
  · replace E := E.trans (if_neg h58)
    refine V.seg F floX1 cjoX1 [.aload_n 0, .getfield 19, .ldc2_w 9, .lload_n 3, .ladd, .lcmp] (by decide +kernel) (pc2 := 71) (lv2 := [(3, .long x48), (1, .long x24), (0, .ref a0)]) (st2 := [.int (lg_cmp (mL M a0 2) (((-9223372036854775808)) + x48))]) (M2 := M) rfl ⟨trivial, o_a0, trivial, trivial, trivial, trivial, trivial⟩ ?_
    refine V.lc_ge (off := 5) F (by decide +kernel) (tgt := 76) (by decide) (fun h71 => ?_) (fun h71 => ?_)
    · replace E := E.trans (if_pos h71)
      refine V.seg F floX1 cjoX1 [.aload_n 0, .dup, .getfield 11, .lload_n 1, .ladd, .putfield 11, .aload_n 0, .dup, .getfield 19, .lload_n 3, .lsub, .putfield 19, .aload_n 0, .getfield 11, .aload_n 0, .getfield 19, .lcmp] (by decide +kernel) (pc2 := 105) (lv2 := [(3, .long x48), (1, .long x24), (0, .ref a0)]) (st2 := [.int (lg_cmp (mL (uL (uL M a0 1 ((mL M a0 1) + x24)) a0 2 ((mL (uL M a0 1 ((mL M a0 1) + x24)) a0 2) - x48)) a0 1) (mL (uL (uL M a0 1 ((mL M a0 1) + x24)) a0 2 ((mL (uL M a0 1 ((mL M a0 1) + x24)) a0 2) - x48)) a0 2))]) (M2 := uL (uL M a0 1 ((mL M a0 1) + x24)) a0 2 ((mL (uL M a0 1 ((mL M a0 1) + x24)) a0 2) - x48)) rfl ⟨trivial, trivial, o_a0, trivial, trivial, o_a0, trivial, trivial, (o_a0.sm (Sf.pL Sf.rf o_a0.1).1), trivial, trivial, (o_a0.sm (Sf.pL Sf.rf o_a0.1).1), trivial, (o_a0.sm (Sf.pL (Sf.pL Sf.rf o_a0.1) o_a0.1).1), trivial, (o_a0.sm (Sf.pL (Sf.pL Sf.rf o_a0.1) o_a0.1).1), trivial, trivial⟩ ?_
      have hJ113 : ∀ (w0_113 : Int32) (M113 : Mem), (Sf M M113) → (w0_113 = 0 ∨ w0_113 = 1) → f_X1_fitRest M a0 = f_X1_fitRest_113 w0_113 M113 → V G X 5 0 0 (Qx G X 0 0 (p_X1_fitRest M a0)) 113 [] [.int w0_113] M113 := by
        intro w0_113 M113 s113 zw0_113 E
        exact V.zret F (zw0_113) (by decide +kernel) ⟨congrArg (fun z => some (Value.int z.1)) E.symm, congrArg Prod.snd E.symm, s113, by rw [E]; exact zw0_113⟩
      refine V.lc_gt (off := 7) F (by decide +kernel) (tgt := 112) (by decide) (fun h105 => ?_) (fun h105 => ?_)
      · replace E := E.trans (if_pos h105)
        refine V.seg F floX1 cjoX1 [.iconst 0] (by decide +kernel) (pc2 := 113) (lv2 := [(3, .long x48), (1, .long x24), (0, .ref a0)]) (st2 := [.int 0]) (M2 := uL (uL M a0 1 ((mL M a0 1) + x24)) a0 2 ((mL (uL M a0 1 ((mL M a0 1) + x24)) a0 2) - x48)) rfl ⟨trivial, trivial⟩ ?_
        refine V.pick [] rfl ?_
        exact hJ113 0 (uL (uL M a0 1 ((mL M a0 1) + x24)) a0 2 ((mL (uL M a0 1 ((mL M a0 1) + x24)) a0 2) - x48)) (Sf.pL (Sf.pL Sf.rf o_a0.1) o_a0.1) (Or.inl rfl) E
      · replace E := E.trans (if_neg h105)
        refine V.seg F floX1 cjoX1 [.iconst 1, .goto 4] (by decide +kernel) (pc2 := 113) (lv2 := [(3, .long x48), (1, .long x24), (0, .ref a0)]) (st2 := [.int 1]) (M2 := uL (uL M a0 1 ((mL M a0 1) + x24)) a0 2 ((mL (uL M a0 1 ((mL M a0 1) + x24)) a0 2) - x48)) rfl ⟨trivial, (by decide), trivial⟩ ?_
        refine V.pick [] rfl ?_
        exact hJ113 1 (uL (uL M a0 1 ((mL M a0 1) + x24)) a0 2 ((mL (uL M a0 1 ((mL M a0 1) + x24)) a0 2) - x48)) (Sf.pL (Sf.pL Sf.rf o_a0.1) o_a0.1) (Or.inr rfl) E
    · replace E := E.trans (if_neg h71)
      refine V.pick [] rfl ?_
      exact hJ74 M Sf.rf E
def f_X1_learnBits_c103  (M103 : Mem) : Int32 × Mem := (1, M103)
def f_X1_learnBits_c42 (a0 : Nat) (M : Mem) (x42 : Int64) : Int32 × Mem := if ((((mL M a0 1) ^^^ (mL M a0 4)) &&& (mL M a0 3)) &&& ((x42 ||| (jushr x42 32)) ^^^ ((-1)))) = 0 then f_X1_learnBits_c103 (uL (uL M a0 3 ((mL M a0 3) ||| ((x42 ||| (jushr x42 32)) ^^^ ((-1))))) a0 4 ((mL (uL M a0 3 ((mL M a0 3) ||| ((x42 ||| (jushr x42 32)) ^^^ ((-1))))) a0 4) ||| ((mL (uL M a0 3 ((mL M a0 3) ||| ((x42 ||| (jushr x42 32)) ^^^ ((-1))))) a0 1) &&& ((x42 ||| (jushr x42 32)) ^^^ ((-1)))))) else (0, M)
def f_X1_learnBits_c28 (a0 : Nat) (M : Mem) (x28 : Int64) : Int32 × Mem := f_X1_learnBits_c42 a0 M ((x28 ||| (jushr x28 8)) ||| (jushr (x28 ||| (jushr x28 8)) 16))
def f_X1_learnBits_c16 (a0 : Nat) (M : Mem) (x16 : Int64) : Int32 × Mem := f_X1_learnBits_c28 a0 M ((x16 ||| (jushr x16 2)) ||| (jushr (x16 ||| (jushr x16 2)) 4))
def f_X1_learnBits (M : Mem) (a0 : Nat) : Int32 × Mem := f_X1_learnBits_c16 a0 M (((mL M a0 1) ^^^ (mL M a0 2)) ||| (jushr ((mL M a0 1) ^^^ (mL M a0 2)) 1))
abbrev p_X1_learnBits (M : Mem) (a0 : Nat) : Option Value → Mem → Prop := fun r N => r = some (.int (f_X1_learnBits M a0).1) ∧ N = (f_X1_learnBits M a0).2 ∧ Sf M N ∧ ((f_X1_learnBits M a0).1 = 0 ∨ (f_X1_learnBits M a0).1 = 1)
set_option maxRecDepth 100000 in
set_option maxHeartbeats 4000000 in
theorem c_X1_learnBits (G : Ctx) (l : Launch) (M : Mem) (a0 : Nat) (o_a0 : isO M a0 1) : CT G l 0 mX1_learnBits [.ref a0] M 0 0 (p_X1_learnBits M a0) := by
  refine CT.of (by decide) (Nat.le_of_ble_eq_true rfl) ?_
  intro X d hd hl hRm hnm F
  subst hl
  have E : f_X1_learnBits M a0 = f_X1_learnBits M a0 := rfl
  show V G X 5 0 0 (Qx G X 0 0 (p_X1_learnBits M a0)) 0 [(0, .ref a0)] [] M
  refine V.seg F floX1 cjoX1 [.aload_n 0, .getfield 11, .aload_n 0, .getfield 19, .lxor, .lstore_n 1, .lload_n 1, .lload_n 1, .iconst 1, .lushr, .lor, .lstore_n 1] (by decide +kernel) (pc2 := 16) (lv2 := [(1, .long (((mL M a0 1) ^^^ (mL M a0 2)) ||| (jushr ((mL M a0 1) ^^^ (mL M a0 2)) 1))), (0, .ref a0)]) (st2 := []) (M2 := M) rfl ⟨trivial, o_a0, trivial, o_a0, trivial, (by decide), trivial, trivial, trivial, trivial, trivial, (by decide), trivial⟩ ?_
  refine (?_ : ∀ (x16 : Int64), f_X1_learnBits M a0 = f_X1_learnBits_c16 a0 M x16 → V G X 5 0 0 (Qx G X 0 0 (p_X1_learnBits M a0)) 16 [(1, .long x16), (0, .ref a0)] [] M) _  E
  intro x16 E
  refine V.seg F floX1 cjoX1 [.lload_n 1, .lload_n 1, .iconst 2, .lushr, .lor, .lstore_n 1, .lload_n 1, .lload_n 1, .iconst 4, .lushr, .lor, .lstore_n 1] (by decide +kernel) (pc2 := 28) (lv2 := [(1, .long ((x16 ||| (jushr x16 2)) ||| (jushr (x16 ||| (jushr x16 2)) 4))), (0, .ref a0)]) (st2 := []) (M2 := M) rfl ⟨trivial, trivial, trivial, trivial, trivial, (by decide), trivial, trivial, trivial, trivial, trivial, (by decide), trivial⟩ ?_
  refine (?_ : ∀ (x28 : Int64), f_X1_learnBits M a0 = f_X1_learnBits_c28 a0 M x28 → V G X 5 0 0 (Qx G X 0 0 (p_X1_learnBits M a0)) 28 [(1, .long x28), (0, .ref a0)] [] M) _  E
  intro x28 E
  refine V.seg F floX1 cjoX1 [.lload_n 1, .lload_n 1, .bipush 8, .lushr, .lor, .lstore_n 1, .lload_n 1, .lload_n 1, .bipush 16, .lushr, .lor, .lstore_n 1] (by decide +kernel) (pc2 := 42) (lv2 := [(1, .long ((x28 ||| (jushr x28 8)) ||| (jushr (x28 ||| (jushr x28 8)) 16))), (0, .ref a0)]) (st2 := []) (M2 := M) rfl ⟨trivial, trivial, trivial, trivial, trivial, (by decide), trivial, trivial, trivial, trivial, trivial, (by decide), trivial⟩ ?_
  refine (?_ : ∀ (x42 : Int64), f_X1_learnBits M a0 = f_X1_learnBits_c42 a0 M x42 → V G X 5 0 0 (Qx G X 0 0 (p_X1_learnBits M a0)) 42 [(1, .long x42), (0, .ref a0)] [] M) _  E
  intro x42 E
  refine V.seg F floX1 cjoX1 [.lload_n 1, .lload_n 1, .bipush 32, .lushr, .lor, .lstore_n 1, .lload_n 1, .ldc2_w 33, .lxor, .lstore_n 3, .aload_n 0, .getfield 11, .aload_n 0, .getfield 38, .lxor, .aload_n 0, .getfield 35, .land, .lload_n 3, .land, .lconst 0, .lcmp] (by decide +kernel) (pc2 := 73) (lv2 := [(3, .long ((x42 ||| (jushr x42 32)) ^^^ ((-1)))), (1, .long (x42 ||| (jushr x42 32))), (0, .ref a0)]) (st2 := [.int (lg_cmp ((((mL M a0 1) ^^^ (mL M a0 4)) &&& (mL M a0 3)) &&& ((x42 ||| (jushr x42 32)) ^^^ ((-1)))) 0)]) (M2 := M) rfl ⟨trivial, trivial, trivial, trivial, trivial, (by decide), trivial, trivial, trivial, (by decide), trivial, o_a0, trivial, o_a0, trivial, trivial, o_a0, trivial, trivial, trivial, trivial, trivial, trivial⟩ ?_
  refine V.lc_eq (off := 5) F (by decide +kernel) (tgt := 78) (by decide) (fun h73 => ?_) (fun h73 => ?_)
  · replace E := E.trans (if_pos h73)
    refine V.seg F floX1 cjoX1 [.aload_n 0, .dup, .getfield 35, .lload_n 3, .lor, .putfield 35, .aload_n 0, .dup, .getfield 38, .aload_n 0, .getfield 11, .lload_n 3, .land, .lor, .putfield 38] (by decide +kernel) (pc2 := 103) (lv2 := [(3, .long ((x42 ||| (jushr x42 32)) ^^^ ((-1)))), (1, .long (x42 ||| (jushr x42 32))), (0, .ref a0)]) (st2 := []) (M2 := uL (uL M a0 3 ((mL M a0 3) ||| ((x42 ||| (jushr x42 32)) ^^^ ((-1))))) a0 4 ((mL (uL M a0 3 ((mL M a0 3) ||| ((x42 ||| (jushr x42 32)) ^^^ ((-1))))) a0 4) ||| ((mL (uL M a0 3 ((mL M a0 3) ||| ((x42 ||| (jushr x42 32)) ^^^ ((-1))))) a0 1) &&& ((x42 ||| (jushr x42 32)) ^^^ ((-1)))))) rfl ⟨trivial, trivial, o_a0, trivial, trivial, o_a0, trivial, trivial, (o_a0.sm (Sf.pL Sf.rf o_a0.1).1), trivial, (o_a0.sm (Sf.pL Sf.rf o_a0.1).1), trivial, trivial, trivial, (o_a0.sm (Sf.pL Sf.rf o_a0.1).1), trivial⟩ ?_
    refine (?_ : ∀ (M103 : Mem), (Sf M M103) → f_X1_learnBits M a0 = f_X1_learnBits_c103 M103 → V G X 5 0 0 (Qx G X 0 0 (p_X1_learnBits M a0)) 103 [(3, .long ((x42 ||| (jushr x42 32)) ^^^ ((-1)))), (1, .long (x42 ||| (jushr x42 32))), (0, .ref a0)] [] M103) _ (Sf.pL (Sf.pL Sf.rf o_a0.1) o_a0.1) E
    intro M103 s103 E
    refine V.seg F floX1 cjoX1 [.iconst 1] (by decide +kernel) (pc2 := 104) (lv2 := [(3, .long ((x42 ||| (jushr x42 32)) ^^^ ((-1)))), (1, .long (x42 ||| (jushr x42 32))), (0, .ref a0)]) (st2 := [.int 1]) (M2 := M103) rfl ⟨trivial, trivial⟩ ?_
    exact V.zret F (Or.inr rfl) (by decide +kernel) ⟨congrArg (fun z => some (Value.int z.1)) E.symm, congrArg Prod.snd E.symm, s103, by rw [E]; exact Or.inr rfl⟩
  · replace E := E.trans (if_neg h73)
    refine V.seg F floX1 cjoX1 [.iconst 0] (by decide +kernel) (pc2 := 77) (lv2 := [(3, .long ((x42 ||| (jushr x42 32)) ^^^ ((-1)))), (1, .long (x42 ||| (jushr x42 32))), (0, .ref a0)]) (st2 := [.int 0]) (M2 := M) rfl ⟨trivial, trivial⟩ ?_
    exact V.zret F (Or.inl rfl) (by decide +kernel) ⟨congrArg (fun z => some (Value.int z.1)) E.symm, congrArg Prod.snd E.symm, Sf.rf, by rw [E]; exact Or.inl rfl⟩
def f_X1_sharpen_117  (M117 : Mem) : Mem := M117
def f_X1_sharpen_111 (j2 : Nat) (R2_ : Nat → Mem → Mem) (M111 : Mem) : Mem := R2_ (j2 + 1) M111
def f_X1_sharpen_c57 (j2 : Nat) (R2_ : Nat → Mem → Mem) (M57 : Mem) : Mem := f_X1_sharpen_111 j2 R2_ M57
def f_X1_sharpen_53 (a0 : Nat) (j2 : Nat) (R2_ : Nat → Mem → Mem) (M53 : Mem) : Mem := f_X1_sharpen_c57 j2 R2_ (f_X1_makeNone M53 a0)
def f_X1_sharpen_c80  (M80 : Mem) : Mem := M80
def f_X1_sharpen_c50 (a0 : Nat) (j2 : Nat) (M2 : Mem) (R2_ : Nat → Mem → Mem) (x50 : Int32) (M50 : Mem) : Mem := if x50 = 0 then f_X1_sharpen_53 a0 j2 R2_ M50 else if (mL M50 a0 1) = (mL M50 a0 2) then f_X1_sharpen_c80 (f_X1_makeConstant M50 a0 (mL M50 a0 1)) else if (mL M50 a0 1) = (mL M2 a0 1) then if (mL M50 a0 2) = (mL M2 a0 2) then if (mL M50 a0 3) = (mL M2 a0 3) then M50 else f_X1_sharpen_111 j2 R2_ M50 else f_X1_sharpen_111 j2 R2_ M50 else f_X1_sharpen_111 j2 R2_ M50
def f_X1_sharpen_c43 (a0 : Nat) (j2 : Nat) (M2 : Mem) (R2_ : Nat → Mem → Mem) (x43 : Int32) (M43 : Mem) : Mem := if x43 = 0 then f_X1_sharpen_53 a0 j2 R2_ M43 else f_X1_sharpen_c50 a0 j2 M2 R2_ ((f_X1_learnBits M43 a0).1) ((f_X1_learnBits M43 a0).2)
def f_X1_sharpen_c36 (a0 : Nat) (j2 : Nat) (M2 : Mem) (R2_ : Nat → Mem → Mem) (x36 : Int32) (M36 : Mem) : Mem := if x36 = 0 then f_X1_sharpen_53 a0 j2 R2_ M36 else f_X1_sharpen_c43 a0 j2 M2 R2_ ((f_X1_fitRest M36 a0).1) ((f_X1_fitRest M36 a0).2)
def f_X1_sharpen_2 (a0 : Nat) : Nat → Nat → Mem → Mem
  | 0, _, M2 => M2
  | n_ + 1, j2, M2 => if 6 ≤ (nI j2) then f_X1_sharpen_117 M2 else if (mI M2 a0 0) = 0 then f_X1_sharpen_c36 a0 j2 M2 (f_X1_sharpen_2 a0 n_) ((f_X1_fitBits M2 a0).1) ((f_X1_fitBits M2 a0).2) else f_X1_sharpen_117 M2
def f_X1_sharpen (M : Mem) (a0 : Nat) : Mem := f_X1_sharpen_2 a0 7 0 M
abbrev p_X1_sharpen (M : Mem) (a0 : Nat) : Option Value → Mem → Prop := fun r N => r = none ∧ N = f_X1_sharpen M a0 ∧ Sf M N
set_option maxRecDepth 100000 in
set_option maxHeartbeats 4000000 in
theorem c_X1_sharpen (G : Ctx) (l : Launch) (M : Mem) (a0 : Nat) (o_a0 : isO M a0 1) : CT G l 2 mX1_sharpen [.ref a0] M 0 0 (p_X1_sharpen M a0) := by
  refine CT.of (by decide) (Nat.le_of_ble_eq_true rfl) ?_
  intro X d hd hl hRm hnm F
  subst hl
  have E : f_X1_sharpen M a0 = f_X1_sharpen M a0 := rfl
  show V G X 8 0 0 (Qx G X 0 0 (p_X1_sharpen M a0)) 0 [(0, .ref a0)] [] M
  refine V.seg F floX1 cjoX1 [.iconst 0] (by decide +kernel) (pc2 := 1) (lv2 := [(0, .ref a0)]) (st2 := [.int 0]) (M2 := M) rfl ⟨trivial, trivial⟩ ?_
  refine V.seg F floX1 cjoX1 [.istore_n 1] (by decide +kernel) (pc2 := 2) (lv2 := [(1, .int 0), (0, .ref a0)]) (st2 := []) (M2 := M) rfl ⟨(by decide), trivial⟩ ?_
  have hJ2 : ∀ (n_ : Nat) (j2 : Nat) (M2 : Mem), (Sf M M2) → (j2 ≤ 6) → (6 - j2 < n_) → f_X1_sharpen M a0 = f_X1_sharpen_2 a0 n_ j2 M2 → V G X 8 0 0 (Qx G X 0 0 (p_X1_sharpen M a0)) 2 [(0, .ref a0), (1, .int (nI j2))] [] M2 := by
    intro n_
    induction n_ with
    | zero => intro j2 M2 s2 b2 m2 E; omega
    | succ n_ ih_2 =>
      intro j2 M2 s2 b2 m2 E
      rw [f_X1_sharpen_2] at E
      refine V.seg F floX1 cjoX1 [.iload_n 1, .bipush 6] (by decide +kernel) (pc2 := 5) (lv2 := [(0, .ref a0), (1, .int (nI j2))]) (st2 := [.int 6, .int (nI j2)]) (M2 := M2) rfl ⟨trivial, trivial, trivial⟩ ?_
      have hJ117 : ∀ (M117 : Mem), (Sf M M117) → f_X1_sharpen M a0 = f_X1_sharpen_117 M117 → V G X 8 0 0 (Qx G X 0 0 (p_X1_sharpen M a0)) 117 [] [] M117 := by
        intro M117 s117 E
        exact V.vret F (by decide +kernel) ⟨rfl, E.symm, s117⟩
      refine V.ic_ge (off := 112) F (by decide +kernel) (tgt := 117) (by decide) (fun h5 => ?_) (fun h5 => ?_)
      · replace E := E.trans (if_pos h5)
        refine V.pick [] rfl ?_
        exact hJ117 M2 s2 E
      · replace E := E.trans (if_neg h5)
        refine V.seg F floX1 cjoX1 [.aload_n 0, .getfield 29] (by decide +kernel) (pc2 := 12) (lv2 := [(0, .ref a0), (1, .int (nI j2))]) (st2 := [.int (mI M2 a0 0)]) (M2 := M2) rfl ⟨trivial, (o_a0.sm s2.1), trivial⟩ ?_
        refine V.if_ne (off := 105) F (by decide +kernel) (tgt := 117) (by decide) (fun h12 => ?_) (fun h12 => ?_)
        · replace E := E.trans (if_neg h12)
          refine V.pick [] rfl ?_
          exact hJ117 M2 s2 E
        · replace E := E.trans (if_pos h12)
          refine V.seg F floX1 cjoX1 [.aload_n 0, .getfield 11, .lstore_n 2, .aload_n 0, .getfield 19, .lstore 4, .aload_n 0, .getfield 35, .lstore 6, .aload_n 0] (by decide +kernel) (pc2 := 33) (lv2 := [(6, .long (mL M2 a0 3)), (4, .long (mL M2 a0 2)), (2, .long (mL M2 a0 1)), (0, .ref a0), (1, .int (nI j2))]) (st2 := [.ref a0]) (M2 := M2) rfl ⟨trivial, (o_a0.sm s2.1), (by decide), trivial, (o_a0.sm s2.1), (by decide), trivial, (o_a0.sm s2.1), (by decide), trivial, trivial⟩ ?_
          refine V.callV (as := []) (rest := []) F (by decide +kernel) lX1_52 bX1_fitBits ⟨1, _, (o_a0.sm s2.1), rfl, rfl⟩ (c_X1_fitBits G X.2.1 M2 a0 (o_a0.sm s2.1)) (rm_ok hRm hd (by decide) (by decide)) ⟨Nat.zero_le _, Nat.zero_le _⟩ (Nat.le_of_ble_eq_true rfl) (fun r_ N_ p_ => ?_)
          obtain ⟨rfl, rfl, t33, z33⟩ := p_
          refine (?_ : ∀ (x36 : Int32) (M36 : Mem), (x36 = 0 ∨ x36 = 1) → Sf M M36 → f_X1_sharpen M a0 = f_X1_sharpen_c36 a0 j2 M2 (f_X1_sharpen_2 a0 n_) x36 M36 → V G X 8 0 0 (Qx G X 0 0 (p_X1_sharpen M a0)) 36 [(6, .long (mL M2 a0 3)), (4, .long (mL M2 a0 2)), (2, .long (mL M2 a0 1)), (0, .ref a0), (1, .int (nI j2))] [.int x36] M36) _ _ z33 (Sf.tr s2 t33)  E
          intro x36 M36 z36 s36  E
          have hJ111 : ∀ (M111 : Mem), (Sf M M111) → f_X1_sharpen M a0 = f_X1_sharpen_111 j2 (f_X1_sharpen_2 a0 n_) M111 → V G X 8 0 0 (Qx G X 0 0 (p_X1_sharpen M a0)) 111 [(0, .ref a0), (1, .int (nI j2))] [] M111 := by
            intro M111 s111 E
            refine V.seg F floX1 cjoX1 [.iinc 1 1, .goto (-112)] (by decide +kernel) (pc2 := 2) (lv2 := [(1, .int ((nI j2) + 1)), (0, .ref a0)]) (st2 := []) (M2 := M111) rfl ⟨(by decide), (by decide), trivial⟩ ?_
            refine V.pick [1, 0] rfl ?_
            rw [nI_1]
            exact ih_2 (j2 + 1) M111 s111 (by have hlt_ := cnt_lt (n := 6) h5 rfl (by omega) (by decide); omega) (by have hlt_ := cnt_lt (n := 6) h5 rfl (by omega) (by decide); omega) E
          have hJ53 : ∀ (M53 : Mem), (Sf M M53) → f_X1_sharpen M a0 = f_X1_sharpen_53 a0 j2 (f_X1_sharpen_2 a0 n_) M53 → V G X 8 0 0 (Qx G X 0 0 (p_X1_sharpen M a0)) 53 [(0, .ref a0), (1, .int (nI j2))] [] M53 := by
            intro M53 s53 E
            refine V.seg F floX1 cjoX1 [.aload_n 0] (by decide +kernel) (pc2 := 54) (lv2 := [(0, .ref a0), (1, .int (nI j2))]) (st2 := [.ref a0]) (M2 := M53) rfl ⟨trivial, trivial⟩ ?_
            refine V.callV (as := []) (rest := []) F (by decide +kernel) lX1_61 bX1_makeNone ⟨1, _, (o_a0.sm s53.1), rfl, rfl⟩ (c_X1_makeNone G X.2.1 M53 a0 (o_a0.sm s53.1)) (rm_ok hRm hd (by decide) (by decide)) ⟨Nat.zero_le _, Nat.zero_le _⟩ (Nat.le_of_ble_eq_true rfl) (fun r_ N_ p_ => ?_)
            obtain ⟨rfl, rfl, t54⟩ := p_
            refine (?_ : ∀ (M57 : Mem), (Sf M M57) → f_X1_sharpen M a0 = f_X1_sharpen_c57 j2 (f_X1_sharpen_2 a0 n_) M57 → V G X 8 0 0 (Qx G X 0 0 (p_X1_sharpen M a0)) 57 [(0, .ref a0), (1, .int (nI j2))] [] M57) _ (Sf.tr s53 t54) E
            intro M57 s57 E
            refine V.seg F floX1 cjoX1 [.goto 54] (by decide +kernel) (pc2 := 111) (lv2 := [(0, .ref a0), (1, .int (nI j2))]) (st2 := []) (M2 := M57) rfl ⟨(by decide), trivial⟩ ?_
            refine V.pick [0, 1] rfl ?_
            exact hJ111 M57 s57 E
          refine V.if_eq (off := 17) F (by decide +kernel) (tgt := 53) (by decide) (fun h36 => ?_) (fun h36 => ?_)
          · replace E := E.trans (if_pos h36)
            refine V.pick [3, 4] rfl ?_
            exact hJ53 M36 s36 E
          · replace E := E.trans (if_neg h36)
            refine V.seg F floX1 cjoX1 [.aload_n 0] (by decide +kernel) (pc2 := 40) (lv2 := [(6, .long (mL M2 a0 3)), (4, .long (mL M2 a0 2)), (2, .long (mL M2 a0 1)), (0, .ref a0), (1, .int (nI j2))]) (st2 := [.ref a0]) (M2 := M36) rfl ⟨trivial, trivial⟩ ?_
            refine V.callV (as := []) (rest := []) F (by decide +kernel) lX1_55 bX1_fitRest ⟨1, _, (o_a0.sm s36.1), rfl, rfl⟩ (c_X1_fitRest G X.2.1 M36 a0 (o_a0.sm s36.1)) (rm_ok hRm hd (by decide) (by decide)) ⟨Nat.zero_le _, Nat.zero_le _⟩ (Nat.le_of_ble_eq_true rfl) (fun r_ N_ p_ => ?_)
            obtain ⟨rfl, rfl, t40, z40⟩ := p_
            refine (?_ : ∀ (x43 : Int32) (M43 : Mem), (x43 = 0 ∨ x43 = 1) → Sf M M43 → f_X1_sharpen M a0 = f_X1_sharpen_c43 a0 j2 M2 (f_X1_sharpen_2 a0 n_) x43 M43 → V G X 8 0 0 (Qx G X 0 0 (p_X1_sharpen M a0)) 43 [(6, .long (mL M2 a0 3)), (4, .long (mL M2 a0 2)), (2, .long (mL M2 a0 1)), (0, .ref a0), (1, .int (nI j2))] [.int x43] M43) _ _ z40 (Sf.tr s36 t40)  E
            intro x43 M43 z43 s43  E
            refine V.if_eq (off := 10) F (by decide +kernel) (tgt := 53) (by decide) (fun h43 => ?_) (fun h43 => ?_)
            · replace E := E.trans (if_pos h43)
              refine V.pick [3, 4] rfl ?_
              exact hJ53 M43 s43 E
            · replace E := E.trans (if_neg h43)
              refine V.seg F floX1 cjoX1 [.aload_n 0] (by decide +kernel) (pc2 := 47) (lv2 := [(6, .long (mL M2 a0 3)), (4, .long (mL M2 a0 2)), (2, .long (mL M2 a0 1)), (0, .ref a0), (1, .int (nI j2))]) (st2 := [.ref a0]) (M2 := M43) rfl ⟨trivial, trivial⟩ ?_
              refine V.callV (as := []) (rest := []) F (by decide +kernel) lX1_58 bX1_learnBits ⟨1, _, (o_a0.sm s43.1), rfl, rfl⟩ (c_X1_learnBits G X.2.1 M43 a0 (o_a0.sm s43.1)) (rm_ok hRm hd (by decide) (by decide)) ⟨Nat.zero_le _, Nat.zero_le _⟩ (Nat.le_of_ble_eq_true rfl) (fun r_ N_ p_ => ?_)
              obtain ⟨rfl, rfl, t47, z47⟩ := p_
              refine (?_ : ∀ (x50 : Int32) (M50 : Mem), (x50 = 0 ∨ x50 = 1) → Sf M M50 → f_X1_sharpen M a0 = f_X1_sharpen_c50 a0 j2 M2 (f_X1_sharpen_2 a0 n_) x50 M50 → V G X 8 0 0 (Qx G X 0 0 (p_X1_sharpen M a0)) 50 [(6, .long (mL M2 a0 3)), (4, .long (mL M2 a0 2)), (2, .long (mL M2 a0 1)), (0, .ref a0), (1, .int (nI j2))] [.int x50] M50) _ _ z47 (Sf.tr s43 t47)  E
              intro x50 M50 z50 s50  E
              refine V.if_ne (off := 10) F (by decide +kernel) (tgt := 60) (by decide) (fun h50 => ?_) (fun h50 => ?_)
              · replace E := E.trans (if_neg h50)
                refine V.seg F floX1 cjoX1 [.aload_n 0, .getfield 11, .aload_n 0, .getfield 19, .lcmp] (by decide +kernel) (pc2 := 69) (lv2 := [(6, .long (mL M2 a0 3)), (4, .long (mL M2 a0 2)), (2, .long (mL M2 a0 1)), (0, .ref a0), (1, .int (nI j2))]) (st2 := [.int (lg_cmp (mL M50 a0 1) (mL M50 a0 2))]) (M2 := M50) rfl ⟨trivial, (o_a0.sm s50.1), trivial, (o_a0.sm s50.1), trivial, trivial⟩ ?_
                refine V.lc_ne (off := 12) F (by decide +kernel) (tgt := 81) (by decide) (fun h69 => ?_) (fun h69 => ?_)
                · replace E := E.trans (if_neg h69)
                  refine V.seg F floX1 cjoX1 [.aload_n 0, .getfield 11, .lload_n 2, .lcmp] (by decide +kernel) (pc2 := 87) (lv2 := [(6, .long (mL M2 a0 3)), (4, .long (mL M2 a0 2)), (2, .long (mL M2 a0 1)), (0, .ref a0), (1, .int (nI j2))]) (st2 := [.int (lg_cmp (mL M50 a0 1) (mL M2 a0 1))]) (M2 := M50) rfl ⟨trivial, (o_a0.sm s50.1), trivial, trivial, trivial⟩ ?_
                  refine V.lc_ne (off := 24) F (by decide +kernel) (tgt := 111) (by decide) (fun h87 => ?_) (fun h87 => ?_)
                  · replace E := E.trans (if_neg h87)
                    refine V.pick [3, 4] rfl ?_
                    exact hJ111 M50 s50 E
                  · replace E := E.trans (if_pos h87)
                    refine V.seg F floX1 cjoX1 [.aload_n 0, .getfield 19, .lload 4, .lcmp] (by decide +kernel) (pc2 := 97) (lv2 := [(6, .long (mL M2 a0 3)), (4, .long (mL M2 a0 2)), (2, .long (mL M2 a0 1)), (0, .ref a0), (1, .int (nI j2))]) (st2 := [.int (lg_cmp (mL M50 a0 2) (mL M2 a0 2))]) (M2 := M50) rfl ⟨trivial, (o_a0.sm s50.1), trivial, trivial, trivial⟩ ?_
                    refine V.lc_ne (off := 14) F (by decide +kernel) (tgt := 111) (by decide) (fun h97 => ?_) (fun h97 => ?_)
                    · replace E := E.trans (if_neg h97)
                      refine V.pick [3, 4] rfl ?_
                      exact hJ111 M50 s50 E
                    · replace E := E.trans (if_pos h97)
                      refine V.seg F floX1 cjoX1 [.aload_n 0, .getfield 35, .lload 6, .lcmp] (by decide +kernel) (pc2 := 107) (lv2 := [(6, .long (mL M2 a0 3)), (4, .long (mL M2 a0 2)), (2, .long (mL M2 a0 1)), (0, .ref a0), (1, .int (nI j2))]) (st2 := [.int (lg_cmp (mL M50 a0 3) (mL M2 a0 3))]) (M2 := M50) rfl ⟨trivial, (o_a0.sm s50.1), trivial, trivial, trivial⟩ ?_
                      refine V.lc_ne (off := 4) F (by decide +kernel) (tgt := 111) (by decide) (fun h107 => ?_) (fun h107 => ?_)
                      · replace E := E.trans (if_neg h107)
                        refine V.pick [3, 4] rfl ?_
                        exact hJ111 M50 s50 E
                      · replace E := E.trans (if_pos h107)
                        exact V.vret F (by decide +kernel) ⟨rfl, E.symm, s50⟩
                · replace E := E.trans (if_pos h69)
                  refine V.seg F floX1 cjoX1 [.aload_n 0, .aload_n 0, .getfield 11] (by decide +kernel) (pc2 := 77) (lv2 := [(6, .long (mL M2 a0 3)), (4, .long (mL M2 a0 2)), (2, .long (mL M2 a0 1)), (0, .ref a0), (1, .int (nI j2))]) (st2 := [.long (mL M50 a0 1), .ref a0]) (M2 := M50) rfl ⟨trivial, trivial, (o_a0.sm s50.1), trivial⟩ ?_
                  refine V.callV (as := [.long (mL M50 a0 1)]) (rest := []) F (by decide +kernel) lX1_64 bX1_makeConstant ⟨1, _, (o_a0.sm s50.1), rfl, rfl⟩ (c_X1_makeConstant G X.2.1 M50 a0 (mL M50 a0 1) (o_a0.sm s50.1)) (rm_ok hRm hd (by decide) (by decide)) ⟨Nat.zero_le _, Nat.zero_le _⟩ (Nat.le_of_ble_eq_true rfl) (fun r_ N_ p_ => ?_)
                  obtain ⟨rfl, rfl, t77⟩ := p_
                  refine (?_ : ∀ (M80 : Mem), (Sf M M80) → f_X1_sharpen M a0 = f_X1_sharpen_c80 M80 → V G X 8 0 0 (Qx G X 0 0 (p_X1_sharpen M a0)) 80 [(6, .long (mL M2 a0 3)), (4, .long (mL M2 a0 2)), (2, .long (mL M2 a0 1)), (0, .ref a0), (1, .int (nI j2))] [] M80) _ (Sf.tr s50 t77) E
                  intro M80 s80 E
                  exact V.vret F (by decide +kernel) ⟨rfl, E.symm, s80⟩
              · replace E := E.trans (if_pos h50)
                refine V.pick [3, 4] rfl ?_
                exact hJ53 M50 s50 E
  refine V.pick [1, 0] rfl ?_
  exact hJ2 _ 0 M Sf.rf (by omega) (by omega) E
def f_X1_limit (M : Mem) (a0 : Nat) (pl : Int64) (ph : Int64) (m : Int64) (pr : Int64) : Mem := uL (uL (uL (uL M a0 1 pl) a0 2 ph) a0 5 m) a0 6 pr
abbrev p_X1_limit (M : Mem) (a0 : Nat) (pl : Int64) (ph : Int64) (m : Int64) (pr : Int64) : Option Value → Mem → Prop := fun r N => r = none ∧ N = f_X1_limit M a0 pl ph m pr ∧ Sf M N
set_option maxRecDepth 100000 in
set_option maxHeartbeats 4000000 in
theorem c_X1_limit (G : Ctx) (l : Launch) (M : Mem) (a0 : Nat) (pl : Int64) (ph : Int64) (m : Int64) (pr : Int64) (o_a0 : isO M a0 1) : CT G l 0 mX1_limit [.ref a0, .long pl, .long ph, .long m, .long pr] M 0 0 (p_X1_limit M a0 pl ph m pr) := by
  refine CT.of (by decide) (Nat.le_of_ble_eq_true rfl) ?_
  intro X d hd hl hRm hnm F
  subst hl
  have E : f_X1_limit M a0 pl ph m pr = f_X1_limit M a0 pl ph m pr := rfl
  show V G X 9 0 0 (Qx G X 0 0 (p_X1_limit M a0 pl ph m pr)) 0 [(0, .ref a0), (1, .long pl), (3, .long ph), (5, .long m), (7, .long pr)] [] M
  refine V.seg F floX1 cjoX1 [.aload_n 0, .lload_n 1, .putfield 11, .aload_n 0, .lload_n 3, .putfield 19, .aload_n 0, .lload 5, .putfield 22, .aload_n 0, .lload 7, .putfield 41] (by decide +kernel) (pc2 := 22) (lv2 := [(0, .ref a0), (1, .long pl), (3, .long ph), (5, .long m), (7, .long pr)]) (st2 := []) (M2 := uL (uL (uL (uL M a0 1 pl) a0 2 ph) a0 5 m) a0 6 pr) rfl ⟨trivial, trivial, o_a0, trivial, trivial, (o_a0.sm (Sf.pL Sf.rf o_a0.1).1), trivial, trivial, (o_a0.sm (Sf.pL (Sf.pL Sf.rf o_a0.1) o_a0.1).1), trivial, trivial, (o_a0.sm (Sf.pL (Sf.pL (Sf.pL Sf.rf o_a0.1) o_a0.1) o_a0.1).1), trivial⟩ ?_
  exact V.vret F (by decide +kernel) ⟨rfl, E.symm, (Sf.pL (Sf.pL (Sf.pL (Sf.pL Sf.rf o_a0.1) o_a0.1) o_a0.1) o_a0.1)⟩
def f_X1_becomeBitSum_c83  (M83 : Mem) : Mem := M83
def f_X1_becomeBitSum_c54 (a0 : Nat) (k1 : Int64) (v1 : Int64) (k2 : Int64) (v2 : Int64) (c : Int64) (M : Mem) (x54 : Int64) : Mem := f_X1_becomeBitSum_c83 (uL (uL M a0 3 ((k1 &&& k2) &&& ((((((v1 + v2) + c) ^^^ v1) ^^^ v2) ^^^ x54) ^^^ ((-1))))) a0 4 (((v1 + v2) + c) &&& (mL (uL M a0 3 ((k1 &&& k2) &&& ((((((v1 + v2) + c) ^^^ v1) ^^^ v2) ^^^ x54) ^^^ ((-1))))) a0 3)))
def f_X1_becomeBitSum (M : Mem) (a0 : Nat) (k1 : Int64) (v1 : Int64) (k2 : Int64) (v2 : Int64) (c : Int64) : Mem := f_X1_becomeBitSum_c54 a0 k1 v1 k2 v2 c M (((((v1 ||| (k1 ^^^ ((-1)))) + (v2 ||| (k2 ^^^ ((-1))))) + c) ^^^ (v1 ||| (k1 ^^^ ((-1))))) ^^^ (v2 ||| (k2 ^^^ ((-1)))))
abbrev p_X1_becomeBitSum (M : Mem) (a0 : Nat) (k1 : Int64) (v1 : Int64) (k2 : Int64) (v2 : Int64) (c : Int64) : Option Value → Mem → Prop := fun r N => r = none ∧ N = f_X1_becomeBitSum M a0 k1 v1 k2 v2 c ∧ Sf M N
set_option maxRecDepth 100000 in
set_option maxHeartbeats 4000000 in
theorem c_X1_becomeBitSum (G : Ctx) (l : Launch) (M : Mem) (a0 : Nat) (k1 : Int64) (v1 : Int64) (k2 : Int64) (v2 : Int64) (c : Int64) (o_a0 : isO M a0 1) : CT G l 0 mX1_becomeBitSum [.ref a0, .long k1, .long v1, .long k2, .long v2, .long c] M 0 0 (p_X1_becomeBitSum M a0 k1 v1 k2 v2 c) := by
  refine CT.of (by decide) (Nat.le_of_ble_eq_true rfl) ?_
  intro X d hd hl hRm hnm F
  subst hl
  have E : f_X1_becomeBitSum M a0 k1 v1 k2 v2 c = f_X1_becomeBitSum M a0 k1 v1 k2 v2 c := rfl
  show V G X 21 0 0 (Qx G X 0 0 (p_X1_becomeBitSum M a0 k1 v1 k2 v2 c)) 0 [(0, .ref a0), (1, .long k1), (3, .long v1), (5, .long k2), (7, .long v2), (9, .long c)] [] M
  refine V.seg F floX1 cjoX1 [.lload_n 3, .lload_n 1, .ldc2_w 33, .lxor, .lor, .lstore 11, .lload 7, .lload 5, .ldc2_w 33, .lxor, .lor, .lstore 13, .lload_n 3, .lload 7, .ladd, .lload 9, .ladd, .lstore 15, .lload 15, .lload_n 3, .lxor, .lload 7, .lxor, .lstore 17, .lload 11, .lload 13, .ladd, .lload 9, .ladd, .lload 11, .lxor, .lload 13, .lxor, .lstore 19] (by decide +kernel) (pc2 := 54) (lv2 := [(19, .long (((((v1 ||| (k1 ^^^ ((-1)))) + (v2 ||| (k2 ^^^ ((-1))))) + c) ^^^ (v1 ||| (k1 ^^^ ((-1))))) ^^^ (v2 ||| (k2 ^^^ ((-1)))))), (17, .long ((((v1 + v2) + c) ^^^ v1) ^^^ v2)), (15, .long ((v1 + v2) + c)), (13, .long (v2 ||| (k2 ^^^ ((-1))))), (11, .long (v1 ||| (k1 ^^^ ((-1))))), (0, .ref a0), (1, .long k1), (3, .long v1), (5, .long k2), (7, .long v2), (9, .long c)]) (st2 := []) (M2 := M) rfl ⟨trivial, trivial, trivial, trivial, trivial, (by decide), trivial, trivial, trivial, trivial, trivial, (by decide), trivial, trivial, trivial, trivial, trivial, (by decide), trivial, trivial, trivial, trivial, trivial, (by decide), trivial, trivial, trivial, trivial, trivial, trivial, trivial, trivial, trivial, (by decide), trivial⟩ ?_
  refine (?_ : ∀ (x54 : Int64), f_X1_becomeBitSum M a0 k1 v1 k2 v2 c = f_X1_becomeBitSum_c54 a0 k1 v1 k2 v2 c M x54 → V G X 21 0 0 (Qx G X 0 0 (p_X1_becomeBitSum M a0 k1 v1 k2 v2 c)) 54 [(19, .long x54), (17, .long ((((v1 + v2) + c) ^^^ v1) ^^^ v2)), (15, .long ((v1 + v2) + c)), (13, .long (v2 ||| (k2 ^^^ ((-1))))), (11, .long (v1 ||| (k1 ^^^ ((-1))))), (0, .ref a0), (1, .long k1), (3, .long v1), (5, .long k2), (7, .long v2), (9, .long c)] [] M) _  E
  intro x54 E
  refine V.seg F floX1 cjoX1 [.aload_n 0, .lload_n 1, .lload 5, .land, .lload 17, .lload 19, .lxor, .ldc2_w 33, .lxor, .land, .putfield 35, .aload_n 0, .lload 15, .aload_n 0, .getfield 35, .land, .putfield 38] (by decide +kernel) (pc2 := 83) (lv2 := [(19, .long x54), (17, .long ((((v1 + v2) + c) ^^^ v1) ^^^ v2)), (15, .long ((v1 + v2) + c)), (13, .long (v2 ||| (k2 ^^^ ((-1))))), (11, .long (v1 ||| (k1 ^^^ ((-1))))), (0, .ref a0), (1, .long k1), (3, .long v1), (5, .long k2), (7, .long v2), (9, .long c)]) (st2 := []) (M2 := uL (uL M a0 3 ((k1 &&& k2) &&& ((((((v1 + v2) + c) ^^^ v1) ^^^ v2) ^^^ x54) ^^^ ((-1))))) a0 4 (((v1 + v2) + c) &&& (mL (uL M a0 3 ((k1 &&& k2) &&& ((((((v1 + v2) + c) ^^^ v1) ^^^ v2) ^^^ x54) ^^^ ((-1))))) a0 3))) rfl ⟨trivial, trivial, trivial, trivial, trivial, trivial, trivial, trivial, trivial, trivial, o_a0, trivial, trivial, trivial, (o_a0.sm (Sf.pL Sf.rf o_a0.1).1), trivial, (o_a0.sm (Sf.pL Sf.rf o_a0.1).1), trivial⟩ ?_
  refine (?_ : ∀ (M83 : Mem), (Sf M M83) → f_X1_becomeBitSum M a0 k1 v1 k2 v2 c = f_X1_becomeBitSum_c83 M83 → V G X 21 0 0 (Qx G X 0 0 (p_X1_becomeBitSum M a0 k1 v1 k2 v2 c)) 83 [(19, .long x54), (17, .long ((((v1 + v2) + c) ^^^ v1) ^^^ v2)), (15, .long ((v1 + v2) + c)), (13, .long (v2 ||| (k2 ^^^ ((-1))))), (11, .long (v1 ||| (k1 ^^^ ((-1))))), (0, .ref a0), (1, .long k1), (3, .long v1), (5, .long k2), (7, .long v2), (9, .long c)] [] M83) _ (Sf.pL (Sf.pL Sf.rf o_a0.1) o_a0.1) E
  intro M83 s83 E
  exact V.vret F (by decide +kernel) ⟨rfl, E.symm, s83⟩
def f_X1_joinModulus_c64 (x12 : Int64) (x64 : Int64) : Int64 := f_X6_oddPart (f_X6_commonDivisor x12 (jabs x64))
def f_X1_joinModulus_c12 (a : Nat) (b : Nat) (M : Mem) (x12 : Int64) : Int64 := if x12 = 0 then f_X6_oddPart ((jmax (mL M a 1) (mL M b 1)) - (jmin (mL M a 1) (mL M b 1))) else f_X1_joinModulus_c64 x12 ((f_X6_restBy (f_X1_countedRest M a) x12) - (f_X6_restBy (f_X1_countedRest M b) x12))
def f_X1_joinModulus (M : Mem) (a : Nat) (b : Nat) : Int64 := f_X1_joinModulus_c12 a b M (f_X6_commonDivisor (f_X1_countedModulus M a) (f_X1_countedModulus M b))
abbrev p_X1_joinModulus (M : Mem) (a : Nat) (b : Nat) : Option Value → Mem → Prop := fun r N => r = some (.long (f_X1_joinModulus M a b)) ∧ N = M
set_option maxRecDepth 100000 in
set_option maxHeartbeats 4000000 in
theorem c_X1_joinModulus (G : Ctx) (l : Launch) (M : Mem) (a : Nat) (b : Nat) (o_a : isO M a 1) (o_b : isO M b 1) : CT G l 2 mX1_joinModulus [.ref a, .ref b] M 0 0 (p_X1_joinModulus M a b) := by
  refine CT.of (by decide) (Nat.le_of_ble_eq_true rfl) ?_
  intro X d hd hl hRm hnm F
  subst hl
  have E : f_X1_joinModulus M a b = f_X1_joinModulus M a b := rfl
  show V G X 6 0 0 (Qx G X 0 0 (p_X1_joinModulus M a b)) 0 [(0, .ref a), (1, .ref b)] [] M
  refine V.seg F floX1 cjoX1 [.aload_n 0] (by decide +kernel) (pc2 := 1) (lv2 := [(0, .ref a), (1, .ref b)]) (st2 := [.ref a]) (M2 := M) rfl ⟨trivial, trivial⟩ ?_
  refine V.callV (as := []) (rest := []) F (by decide +kernel) lX1_95 bX1_countedModulus ⟨1, _, o_a, rfl, rfl⟩ (c_X1_countedModulus G X.2.1 M a o_a) (rm_ok hRm hd (by decide) (by decide)) ⟨Nat.zero_le _, Nat.zero_le _⟩ (Nat.le_of_ble_eq_true rfl) (fun r_ N_ p_ => ?_)
  obtain ⟨rfl, hN_⟩ := p_
  rw [hN_]
  clear hN_
  refine V.seg F floX1 cjoX1 [.aload_n 1] (by decide +kernel) (pc2 := 5) (lv2 := [(0, .ref a), (1, .ref b)]) (st2 := [.ref b, .long (f_X1_countedModulus M a)]) (M2 := M) rfl ⟨trivial, trivial⟩ ?_
  refine V.callV (as := []) (rest := [.long (f_X1_countedModulus M a)]) F (by decide +kernel) lX1_95 bX1_countedModulus ⟨1, _, o_b, rfl, rfl⟩ (c_X1_countedModulus G X.2.1 M b o_b) (rm_ok hRm hd (by decide) (by decide)) ⟨Nat.zero_le _, Nat.zero_le _⟩ (Nat.le_of_ble_eq_true rfl) (fun r_ N_ p_ => ?_)
  obtain ⟨rfl, hN_⟩ := p_
  rw [hN_]
  clear hN_
  refine V.callSN (as := [.long (f_X1_countedModulus M a), .long (f_X1_countedModulus M b)]) (rest := []) F (by decide +kernel) lX1_98 bX6_commonDivisor (c_X6_commonDivisor G X.2.1 M (f_X1_countedModulus M a) (f_X1_countedModulus M b)) (rm_ok hRm hd (by decide) (by decide)) ⟨Nat.zero_le _, Nat.zero_le _⟩ (Nat.le_of_ble_eq_true rfl) (fun r_ N_ p_ => ?_)
  obtain ⟨rfl, hN_⟩ := p_
  rw [hN_]
  clear hN_
  refine V.seg F floX1 cjoX1 [.lstore_n 2] (by decide +kernel) (pc2 := 12) (lv2 := [(2, .long (f_X6_commonDivisor (f_X1_countedModulus M a) (f_X1_countedModulus M b))), (0, .ref a), (1, .ref b)]) (st2 := []) (M2 := M) rfl ⟨(by decide), trivial⟩ ?_
  refine (?_ : ∀ (x12 : Int64), f_X1_joinModulus M a b = f_X1_joinModulus_c12 a b M x12 → V G X 6 0 0 (Qx G X 0 0 (p_X1_joinModulus M a b)) 12 [(2, .long x12), (0, .ref a), (1, .ref b)] [] M) _  E
  intro x12 E
  refine V.seg F floX1 cjoX1 [.lload_n 2, .lconst 0, .lcmp] (by decide +kernel) (pc2 := 15) (lv2 := [(2, .long x12), (0, .ref a), (1, .ref b)]) (st2 := [.int (lg_cmp x12 0)]) (M2 := M) rfl ⟨trivial, trivial, trivial, trivial⟩ ?_
  refine V.lc_ne (off := 30) F (by decide +kernel) (tgt := 45) (by decide) (fun h15 => ?_) (fun h15 => ?_)
  · replace E := E.trans (if_neg h15)
    refine V.seg F floX1 cjoX1 [.aload_n 0] (by decide +kernel) (pc2 := 46) (lv2 := [(2, .long x12), (0, .ref a), (1, .ref b)]) (st2 := [.ref a]) (M2 := M) rfl ⟨trivial, trivial⟩ ?_
    refine V.callV (as := []) (rest := []) F (by decide +kernel) lX1_88 bX1_countedRest ⟨1, _, o_a, rfl, rfl⟩ (c_X1_countedRest G X.2.1 M a o_a) (rm_ok hRm hd (by decide) (by decide)) ⟨Nat.zero_le _, Nat.zero_le _⟩ (Nat.le_of_ble_eq_true rfl) (fun r_ N_ p_ => ?_)
    obtain ⟨rfl, hN_⟩ := p_
    rw [hN_]
    clear hN_
    refine V.seg F floX1 cjoX1 [.lload_n 2] (by decide +kernel) (pc2 := 50) (lv2 := [(2, .long x12), (0, .ref a), (1, .ref b)]) (st2 := [.long x12, .long (f_X1_countedRest M a)]) (M2 := M) rfl ⟨trivial, trivial⟩ ?_
    refine V.callSN (as := [.long (f_X1_countedRest M a), .long x12]) (rest := []) F (by decide +kernel) lX1_44 bX6_restBy (c_X6_restBy G X.2.1 M (f_X1_countedRest M a) x12) (rm_ok hRm hd (by decide) (by decide)) ⟨Nat.zero_le _, Nat.zero_le _⟩ (Nat.le_of_ble_eq_true rfl) (fun r_ N_ p_ => ?_)
    obtain ⟨rfl, hN_⟩ := p_
    rw [hN_]
    clear hN_
    refine V.seg F floX1 cjoX1 [.aload_n 1] (by decide +kernel) (pc2 := 54) (lv2 := [(2, .long x12), (0, .ref a), (1, .ref b)]) (st2 := [.ref b, .long (f_X6_restBy (f_X1_countedRest M a) x12)]) (M2 := M) rfl ⟨trivial, trivial⟩ ?_
    refine V.callV (as := []) (rest := [.long (f_X6_restBy (f_X1_countedRest M a) x12)]) F (by decide +kernel) lX1_88 bX1_countedRest ⟨1, _, o_b, rfl, rfl⟩ (c_X1_countedRest G X.2.1 M b o_b) (rm_ok hRm hd (by decide) (by decide)) ⟨Nat.zero_le _, Nat.zero_le _⟩ (Nat.le_of_ble_eq_true rfl) (fun r_ N_ p_ => ?_)
    obtain ⟨rfl, hN_⟩ := p_
    rw [hN_]
    clear hN_
    refine V.seg F floX1 cjoX1 [.lload_n 2] (by decide +kernel) (pc2 := 58) (lv2 := [(2, .long x12), (0, .ref a), (1, .ref b)]) (st2 := [.long x12, .long (f_X1_countedRest M b), .long (f_X6_restBy (f_X1_countedRest M a) x12)]) (M2 := M) rfl ⟨trivial, trivial⟩ ?_
    refine V.callSN (as := [.long (f_X1_countedRest M b), .long x12]) (rest := [.long (f_X6_restBy (f_X1_countedRest M a) x12)]) F (by decide +kernel) lX1_44 bX6_restBy (c_X6_restBy G X.2.1 M (f_X1_countedRest M b) x12) (rm_ok hRm hd (by decide) (by decide)) ⟨Nat.zero_le _, Nat.zero_le _⟩ (Nat.le_of_ble_eq_true rfl) (fun r_ N_ p_ => ?_)
    obtain ⟨rfl, hN_⟩ := p_
    rw [hN_]
    clear hN_
    refine V.seg F floX1 cjoX1 [.lsub, .lstore 4] (by decide +kernel) (pc2 := 64) (lv2 := [(4, .long ((f_X6_restBy (f_X1_countedRest M a) x12) - (f_X6_restBy (f_X1_countedRest M b) x12))), (2, .long x12), (0, .ref a), (1, .ref b)]) (st2 := []) (M2 := M) rfl ⟨trivial, (by decide), trivial⟩ ?_
    refine (?_ : ∀ (x64 : Int64), f_X1_joinModulus M a b = f_X1_joinModulus_c64 x12 x64 → V G X 6 0 0 (Qx G X 0 0 (p_X1_joinModulus M a b)) 64 [(4, .long x64), (2, .long x12), (0, .ref a), (1, .ref b)] [] M) _  E
    intro x64 E
    refine V.seg F floX1 cjoX1 [.lload_n 2, .lload 4] (by decide +kernel) (pc2 := 67) (lv2 := [(4, .long x64), (2, .long x12), (0, .ref a), (1, .ref b)]) (st2 := [.long x64, .long x12]) (M2 := M) rfl ⟨trivial, trivial, trivial⟩ ?_
    refine V.mabsL (st := [.long x12]) F (by decide +kernel) lX1_105 (rm_ok hRm hd (by decide) (by decide)) ⟨Nat.zero_le _, Nat.zero_le _⟩ (Nat.le_of_ble_eq_true rfl) ?_
    refine V.callSN (as := [.long x12, .long (jabs x64)]) (rest := []) F (by decide +kernel) lX1_98 bX6_commonDivisor (c_X6_commonDivisor G X.2.1 M x12 (jabs x64)) (rm_ok hRm hd (by decide) (by decide)) ⟨Nat.zero_le _, Nat.zero_le _⟩ (Nat.le_of_ble_eq_true rfl) (fun r_ N_ p_ => ?_)
    obtain ⟨rfl, hN_⟩ := p_
    rw [hN_]
    clear hN_
    refine V.callSN (as := [.long (f_X6_commonDivisor x12 (jabs x64))]) (rest := []) F (by decide +kernel) lX1_101 bX6_oddPart (c_X6_oddPart G X.2.1 M (f_X6_commonDivisor x12 (jabs x64))) (rm_ok hRm hd (by decide) (by decide)) ⟨Nat.zero_le _, Nat.zero_le _⟩ (Nat.le_of_ble_eq_true rfl) (fun r_ N_ p_ => ?_)
    obtain ⟨rfl, hN_⟩ := p_
    rw [hN_]
    clear hN_
    exact V.lret F (by decide +kernel) ⟨congrArg (fun z => some (Value.long z)) E.symm, rfl⟩
  · replace E := E.trans (if_pos h15)
    refine V.seg F floX1 cjoX1 [.aload_n 0, .getfield 11, .aload_n 1, .getfield 11] (by decide +kernel) (pc2 := 26) (lv2 := [(2, .long x12), (0, .ref a), (1, .ref b)]) (st2 := [.long (mL M b 1), .long (mL M a 1)]) (M2 := M) rfl ⟨trivial, o_a, trivial, o_b, trivial⟩ ?_
    refine V.mmaxL (st := []) F (by decide +kernel) lX1_85 (rm_ok hRm hd (by decide) (by decide)) ⟨Nat.zero_le _, Nat.zero_le _⟩ (Nat.le_of_ble_eq_true rfl) ?_
    refine V.seg F floX1 cjoX1 [.aload_n 0, .getfield 11, .aload_n 1, .getfield 11] (by decide +kernel) (pc2 := 37) (lv2 := [(2, .long x12), (0, .ref a), (1, .ref b)]) (st2 := [.long (mL M b 1), .long (mL M a 1), .long (jmax (mL M a 1) (mL M b 1))]) (M2 := M) rfl ⟨trivial, o_a, trivial, o_b, trivial⟩ ?_
    refine V.mminL (st := [.long (jmax (mL M a 1) (mL M b 1))]) F (by decide +kernel) lX1_80 (rm_ok hRm hd (by decide) (by decide)) ⟨Nat.zero_le _, Nat.zero_le _⟩ (Nat.le_of_ble_eq_true rfl) ?_
    refine V.seg F floX1 cjoX1 [.lsub] (by decide +kernel) (pc2 := 41) (lv2 := [(2, .long x12), (0, .ref a), (1, .ref b)]) (st2 := [.long ((jmax (mL M a 1) (mL M b 1)) - (jmin (mL M a 1) (mL M b 1)))]) (M2 := M) rfl ⟨trivial, trivial⟩ ?_
    refine V.callSN (as := [.long ((jmax (mL M a 1) (mL M b 1)) - (jmin (mL M a 1) (mL M b 1)))]) (rest := []) F (by decide +kernel) lX1_101 bX6_oddPart (c_X6_oddPart G X.2.1 M ((jmax (mL M a 1) (mL M b 1)) - (jmin (mL M a 1) (mL M b 1)))) (rm_ok hRm hd (by decide) (by decide)) ⟨Nat.zero_le _, Nat.zero_le _⟩ (Nat.le_of_ble_eq_true rfl) (fun r_ N_ p_ => ?_)
    obtain ⟨rfl, hN_⟩ := p_
    rw [hN_]
    clear hN_
    exact V.lret F (by decide +kernel) ⟨congrArg (fun z => some (Value.long z)) E.symm, rfl⟩
def f_X1_becomeMeet_c42  (M42 : Mem) : Mem := M42
def f_X1_becomeMeet_38 (a0 : Nat) (M38 : Mem) : Mem := f_X1_becomeMeet_c42 (f_X1_makeNone M38 a0)
def f_X1_becomeMeet_c117  (M117 : Mem) : Mem := M117
def f_X1_becomeMeet_c113 (a0 : Nat) (M113 : Mem) : Mem := f_X1_becomeMeet_c117 (f_X1_sharpen M113 a0)
def f_X1_becomeMeet_60 (a0 : Nat) (a : Nat) (b : Nat) (w0_60 : Nat) (M60 : Mem) : Mem := f_X1_becomeMeet_c113 a0 (f_X1_become M60 a0 (jmax (mL M60 a 1) (mL M60 b 1)) (jmin (mL M60 a 2) (mL M60 b 2)) ((mL M60 a 3) ||| (mL M60 b 3)) ((mL M60 a 4) ||| (mL M60 b 4)) (mL M60 w0_60 5) (mL M60 w0_60 6))
def f_X1_becomeMeet (M : Mem) (a0 : Nat) (a : Nat) (b : Nat) : Mem := if (mI M a 0) = 0 then if (mI M b 0) = 0 then if ((((mL M a 4) ^^^ (mL M b 4)) &&& (mL M a 3)) &&& (mL M b 3)) = 0 then if (mL M b 5) ≤ (mL M a 5) then f_X1_becomeMeet_60 a0 a b a M else f_X1_becomeMeet_60 a0 a b b M else f_X1_becomeMeet_38 a0 M else f_X1_becomeMeet_38 a0 M else f_X1_becomeMeet_38 a0 M
abbrev p_X1_becomeMeet (M : Mem) (a0 : Nat) (a : Nat) (b : Nat) : Option Value → Mem → Prop := fun r N => r = none ∧ N = f_X1_becomeMeet M a0 a b ∧ Sf M N
set_option maxRecDepth 100000 in
set_option maxHeartbeats 4000000 in
theorem c_X1_becomeMeet (G : Ctx) (l : Launch) (M : Mem) (a0 : Nat) (a : Nat) (b : Nat) (o_a0 : isO M a0 1) (o_a : isO M a 1) (o_b : isO M b 1) : CT G l 3 mX1_becomeMeet [.ref a0, .ref a, .ref b] M 0 0 (p_X1_becomeMeet M a0 a b) := by
  refine CT.of (by decide) (Nat.le_of_ble_eq_true rfl) ?_
  intro X d hd hl hRm hnm F
  subst hl
  have E : f_X1_becomeMeet M a0 a b = f_X1_becomeMeet M a0 a b := rfl
  show V G X 4 0 0 (Qx G X 0 0 (p_X1_becomeMeet M a0 a b)) 0 [(0, .ref a0), (1, .ref a), (2, .ref b)] [] M
  refine V.seg F floX1 cjoX1 [.aload_n 1, .getfield 29] (by decide +kernel) (pc2 := 4) (lv2 := [(0, .ref a0), (1, .ref a), (2, .ref b)]) (st2 := [.int (mI M a 0)]) (M2 := M) rfl ⟨trivial, o_a, trivial⟩ ?_
  have hJ38 : ∀ (M38 : Mem), (Sf M M38) → f_X1_becomeMeet M a0 a b = f_X1_becomeMeet_38 a0 M38 → V G X 4 0 0 (Qx G X 0 0 (p_X1_becomeMeet M a0 a b)) 38 [(0, .ref a0)] [] M38 := by
    intro M38 s38 E
    refine V.seg F floX1 cjoX1 [.aload_n 0] (by decide +kernel) (pc2 := 39) (lv2 := [(0, .ref a0)]) (st2 := [.ref a0]) (M2 := M38) rfl ⟨trivial, trivial⟩ ?_
    refine V.callV (as := []) (rest := []) F (by decide +kernel) lX1_61 bX1_makeNone ⟨1, _, (o_a0.sm s38.1), rfl, rfl⟩ (c_X1_makeNone G X.2.1 M38 a0 (o_a0.sm s38.1)) (rm_ok hRm hd (by decide) (by decide)) ⟨Nat.zero_le _, Nat.zero_le _⟩ (Nat.le_of_ble_eq_true rfl) (fun r_ N_ p_ => ?_)
    obtain ⟨rfl, rfl, t39⟩ := p_
    refine (?_ : ∀ (M42 : Mem), (Sf M M42) → f_X1_becomeMeet M a0 a b = f_X1_becomeMeet_c42 M42 → V G X 4 0 0 (Qx G X 0 0 (p_X1_becomeMeet M a0 a b)) 42 [(0, .ref a0)] [] M42) _ (Sf.tr s38 t39) E
    intro M42 s42 E
    exact V.vret F (by decide +kernel) ⟨rfl, E.symm, s42⟩
  refine V.if_ne (off := 34) F (by decide +kernel) (tgt := 38) (by decide) (fun h4 => ?_) (fun h4 => ?_)
  · replace E := E.trans (if_neg h4)
    refine V.pick [0] rfl ?_
    exact hJ38 M Sf.rf E
  · replace E := E.trans (if_pos h4)
    refine V.seg F floX1 cjoX1 [.aload_n 2, .getfield 29] (by decide +kernel) (pc2 := 11) (lv2 := [(0, .ref a0), (1, .ref a), (2, .ref b)]) (st2 := [.int (mI M b 0)]) (M2 := M) rfl ⟨trivial, o_b, trivial⟩ ?_
    refine V.if_ne (off := 27) F (by decide +kernel) (tgt := 38) (by decide) (fun h11 => ?_) (fun h11 => ?_)
    · replace E := E.trans (if_neg h11)
      refine V.pick [0] rfl ?_
      exact hJ38 M Sf.rf E
    · replace E := E.trans (if_pos h11)
      refine V.seg F floX1 cjoX1 [.aload_n 1, .getfield 38, .aload_n 2, .getfield 38, .lxor, .aload_n 1, .getfield 35, .land, .aload_n 2, .getfield 35, .land, .lconst 0, .lcmp] (by decide +kernel) (pc2 := 35) (lv2 := [(0, .ref a0), (1, .ref a), (2, .ref b)]) (st2 := [.int (lg_cmp ((((mL M a 4) ^^^ (mL M b 4)) &&& (mL M a 3)) &&& (mL M b 3)) 0)]) (M2 := M) rfl ⟨trivial, o_a, trivial, o_b, trivial, trivial, o_a, trivial, trivial, o_b, trivial, trivial, trivial, trivial⟩ ?_
      refine V.lc_eq (off := 8) F (by decide +kernel) (tgt := 43) (by decide) (fun h35 => ?_) (fun h35 => ?_)
      · replace E := E.trans (if_pos h35)
        refine V.seg F floX1 cjoX1 [.aload_n 2, .getfield 22, .aload_n 1, .getfield 22, .lcmp] (by decide +kernel) (pc2 := 52) (lv2 := [(0, .ref a0), (1, .ref a), (2, .ref b)]) (st2 := [.int (lg_cmp (mL M b 5) (mL M a 5))]) (M2 := M) rfl ⟨trivial, o_b, trivial, o_a, trivial, trivial⟩ ?_
        have hJ60 : ∀ (w0_60 : Nat) (M60 : Mem), (isO M w0_60 1) → (Sf M M60) → f_X1_becomeMeet M a0 a b = f_X1_becomeMeet_60 a0 a b w0_60 M60 → V G X 4 0 0 (Qx G X 0 0 (p_X1_becomeMeet M a0 a b)) 60 [(0, .ref a0), (1, .ref a), (2, .ref b)] [.ref w0_60] M60 := by
          intro w0_60 M60 ow0_60 s60 E
          refine V.seg F floX1 cjoX1 [.astore_n 3, .aload_n 0, .aload_n 1, .getfield 11, .aload_n 2, .getfield 11] (by decide +kernel) (pc2 := 70) (lv2 := [(3, .ref w0_60), (0, .ref a0), (1, .ref a), (2, .ref b)]) (st2 := [.long (mL M60 b 1), .long (mL M60 a 1), .ref a0]) (M2 := M60) rfl ⟨(by decide), trivial, trivial, (o_a.sm s60.1), trivial, (o_b.sm s60.1), trivial⟩ ?_
          refine V.mmaxL (st := [.ref a0]) F (by decide +kernel) lX1_85 (rm_ok hRm hd (by decide) (by decide)) ⟨Nat.zero_le _, Nat.zero_le _⟩ (Nat.le_of_ble_eq_true rfl) ?_
          refine V.seg F floX1 cjoX1 [.aload_n 1, .getfield 19, .aload_n 2, .getfield 19] (by decide +kernel) (pc2 := 81) (lv2 := [(3, .ref w0_60), (0, .ref a0), (1, .ref a), (2, .ref b)]) (st2 := [.long (mL M60 b 2), .long (mL M60 a 2), .long (jmax (mL M60 a 1) (mL M60 b 1)), .ref a0]) (M2 := M60) rfl ⟨trivial, (o_a.sm s60.1), trivial, (o_b.sm s60.1), trivial⟩ ?_
          refine V.mminL (st := [.long (jmax (mL M60 a 1) (mL M60 b 1)), .ref a0]) F (by decide +kernel) lX1_80 (rm_ok hRm hd (by decide) (by decide)) ⟨Nat.zero_le _, Nat.zero_le _⟩ (Nat.le_of_ble_eq_true rfl) ?_
          refine V.seg F floX1 cjoX1 [.aload_n 1, .getfield 35, .aload_n 2, .getfield 35, .lor, .aload_n 1, .getfield 38, .aload_n 2, .getfield 38, .lor, .aload_n 3, .getfield 22, .aload_n 3, .getfield 41] (by decide +kernel) (pc2 := 110) (lv2 := [(3, .ref w0_60), (0, .ref a0), (1, .ref a), (2, .ref b)]) (st2 := [.long (mL M60 w0_60 6), .long (mL M60 w0_60 5), .long ((mL M60 a 4) ||| (mL M60 b 4)), .long ((mL M60 a 3) ||| (mL M60 b 3)), .long (jmin (mL M60 a 2) (mL M60 b 2)), .long (jmax (mL M60 a 1) (mL M60 b 1)), .ref a0]) (M2 := M60) rfl ⟨trivial, (o_a.sm s60.1), trivial, (o_b.sm s60.1), trivial, trivial, (o_a.sm s60.1), trivial, (o_b.sm s60.1), trivial, trivial, (ow0_60.sm s60.1), trivial, (ow0_60.sm s60.1), trivial⟩ ?_
          refine V.callV (as := [.long (jmax (mL M60 a 1) (mL M60 b 1)), .long (jmin (mL M60 a 2) (mL M60 b 2)), .long ((mL M60 a 3) ||| (mL M60 b 3)), .long ((mL M60 a 4) ||| (mL M60 b 4)), .long (mL M60 w0_60 5), .long (mL M60 w0_60 6)]) (rest := []) F (by decide +kernel) lX1_25 bX1_become ⟨1, _, (o_a0.sm s60.1), rfl, rfl⟩ (c_X1_become G X.2.1 M60 a0 (jmax (mL M60 a 1) (mL M60 b 1)) (jmin (mL M60 a 2) (mL M60 b 2)) ((mL M60 a 3) ||| (mL M60 b 3)) ((mL M60 a 4) ||| (mL M60 b 4)) (mL M60 w0_60 5) (mL M60 w0_60 6) (o_a0.sm s60.1)) (rm_ok hRm hd (by decide) (by decide)) ⟨Nat.zero_le _, Nat.zero_le _⟩ (Nat.le_of_ble_eq_true rfl) (fun r_ N_ p_ => ?_)
          obtain ⟨rfl, rfl, t110⟩ := p_
          refine (?_ : ∀ (M113 : Mem), (Sf M M113) → f_X1_becomeMeet M a0 a b = f_X1_becomeMeet_c113 a0 M113 → V G X 4 0 0 (Qx G X 0 0 (p_X1_becomeMeet M a0 a b)) 113 [(3, .ref w0_60), (0, .ref a0), (1, .ref a), (2, .ref b)] [] M113) _ (Sf.tr s60 t110) E
          intro M113 s113 E
          refine V.seg F floX1 cjoX1 [.aload_n 0] (by decide +kernel) (pc2 := 114) (lv2 := [(3, .ref w0_60), (0, .ref a0), (1, .ref a), (2, .ref b)]) (st2 := [.ref a0]) (M2 := M113) rfl ⟨trivial, trivial⟩ ?_
          refine V.callV (as := []) (rest := []) F (by decide +kernel) lX1_92 bX1_sharpen ⟨1, _, (o_a0.sm s113.1), rfl, rfl⟩ (c_X1_sharpen G X.2.1 M113 a0 (o_a0.sm s113.1)) (rm_ok hRm hd (by decide) (by decide)) ⟨Nat.zero_le _, Nat.zero_le _⟩ (Nat.le_of_ble_eq_true rfl) (fun r_ N_ p_ => ?_)
          obtain ⟨rfl, rfl, t114⟩ := p_
          refine (?_ : ∀ (M117 : Mem), (Sf M M117) → f_X1_becomeMeet M a0 a b = f_X1_becomeMeet_c117 M117 → V G X 4 0 0 (Qx G X 0 0 (p_X1_becomeMeet M a0 a b)) 117 [(3, .ref w0_60), (0, .ref a0), (1, .ref a), (2, .ref b)] [] M117) _ (Sf.tr s113 t114) E
          intro M117 s117 E
          exact V.vret F (by decide +kernel) ⟨rfl, E.symm, s117⟩
        refine V.lc_le (off := 7) F (by decide +kernel) (tgt := 59) (by decide) (fun h52 => ?_) (fun h52 => ?_)
        · replace E := E.trans (if_pos h52)
          refine V.seg F floX1 cjoX1 [.aload_n 1] (by decide +kernel) (pc2 := 60) (lv2 := [(0, .ref a0), (1, .ref a), (2, .ref b)]) (st2 := [.ref a]) (M2 := M) rfl ⟨trivial, trivial⟩ ?_
          refine V.pick [0, 1, 2] rfl ?_
          exact hJ60 a M o_a Sf.rf E
        · replace E := E.trans (if_neg h52)
          refine V.seg F floX1 cjoX1 [.aload_n 2, .goto 4] (by decide +kernel) (pc2 := 60) (lv2 := [(0, .ref a0), (1, .ref a), (2, .ref b)]) (st2 := [.ref b]) (M2 := M) rfl ⟨trivial, (by decide), trivial⟩ ?_
          refine V.pick [0, 1, 2] rfl ?_
          exact hJ60 b M o_b Sf.rf E
      · replace E := E.trans (if_neg h35)
        refine V.pick [0] rfl ?_
        exact hJ38 M Sf.rf E
def f_X1_becomeJoin_135  (M135 : Mem) : Mem := M135
def f_X1_becomeJoin_c53  (M53 : Mem) : Mem := f_X1_becomeJoin_135 M53
def f_X1_becomeJoin_48 (a0 : Nat) (a : Nat) (M48 : Mem) : Mem := f_X1_becomeJoin_c53 (f_X1_copy M48 a0 a)
def f_X1_becomeJoin_c135  (M135 : Mem) : Mem := f_X1_becomeJoin_135 M135
def f_X1_becomeJoin_c131 (a0 : Nat) (M131 : Mem) : Mem := f_X1_becomeJoin_c135 (f_X1_sharpen M131 a0)
def f_X1_becomeJoin_c87 (a0 : Nat) (a : Nat) (b : Nat) (M56 : Mem) (x87 : Int64) : Mem := f_X1_becomeJoin_c131 a0 (f_X1_become M56 a0 (jmin (mL M56 a 1) (mL M56 b 1)) (jmax (mL M56 a 2) (mL M56 b 2)) x87 ((mL M56 a 4) &&& x87) (f_X1_joinModulus M56 a b) (f_X6_restBy (f_X1_countedRest M56 a) (f_X1_joinModulus M56 a b)))
def f_X1_becomeJoin_56 (a0 : Nat) (a : Nat) (b : Nat) (M56 : Mem) : Mem := f_X1_becomeJoin_c87 a0 a b M56 (((mL M56 a 3) &&& (mL M56 b 3)) &&& (((mL M56 a 4) ^^^ (mL M56 b 4)) ^^^ ((-1))))
def f_X1_becomeJoin_c12  (M12 : Mem) : Mem := f_X1_becomeJoin_135 M12
def f_X1_becomeJoin (M : Mem) (a0 : Nat) (a : Nat) (b : Nat) : Mem := if (mI M a 0) = 0 then if (mI M b 0) = 0 then if (f_X1_isConstant M a) = 0 then f_X1_becomeJoin_56 a0 a b M else if (f_X1_isConstant M b) = 0 then f_X1_becomeJoin_56 a0 a b M else if (mL M a 1) = (mL M b 1) then f_X1_becomeJoin_48 a0 a M else f_X1_becomeJoin_56 a0 a b M else f_X1_becomeJoin_48 a0 a M else f_X1_becomeJoin_c12 (f_X1_copy M a0 b)
abbrev p_X1_becomeJoin (M : Mem) (a0 : Nat) (a : Nat) (b : Nat) : Option Value → Mem → Prop := fun r N => r = none ∧ N = f_X1_becomeJoin M a0 a b ∧ Sf M N
set_option maxRecDepth 100000 in
set_option maxHeartbeats 4000000 in
theorem c_X1_becomeJoin (G : Ctx) (l : Launch) (M : Mem) (a0 : Nat) (a : Nat) (b : Nat) (o_a0 : isO M a0 1) (o_a : isO M a 1) (o_b : isO M b 1) : CT G l 3 mX1_becomeJoin [.ref a0, .ref a, .ref b] M 0 0 (p_X1_becomeJoin M a0 a b) := by
  refine CT.of (by decide) (Nat.le_of_ble_eq_true rfl) ?_
  intro X d hd hl hRm hnm F
  subst hl
  have E : f_X1_becomeJoin M a0 a b = f_X1_becomeJoin M a0 a b := rfl
  show V G X 7 0 0 (Qx G X 0 0 (p_X1_becomeJoin M a0 a b)) 0 [(0, .ref a0), (1, .ref a), (2, .ref b)] [] M
  refine V.seg F floX1 cjoX1 [.aload_n 1, .getfield 29] (by decide +kernel) (pc2 := 4) (lv2 := [(0, .ref a0), (1, .ref a), (2, .ref b)]) (st2 := [.int (mI M a 0)]) (M2 := M) rfl ⟨trivial, o_a, trivial⟩ ?_
  have hJ135 : ∀ (M135 : Mem), (Sf M M135) → f_X1_becomeJoin M a0 a b = f_X1_becomeJoin_135 M135 → V G X 7 0 0 (Qx G X 0 0 (p_X1_becomeJoin M a0 a b)) 135 [] [] M135 := by
    intro M135 s135 E
    exact V.vret F (by decide +kernel) ⟨rfl, E.symm, s135⟩
  refine V.if_eq (off := 11) F (by decide +kernel) (tgt := 15) (by decide) (fun h4 => ?_) (fun h4 => ?_)
  · replace E := E.trans (if_pos h4)
    refine V.seg F floX1 cjoX1 [.aload_n 2, .getfield 29] (by decide +kernel) (pc2 := 19) (lv2 := [(0, .ref a0), (1, .ref a), (2, .ref b)]) (st2 := [.int (mI M b 0)]) (M2 := M) rfl ⟨trivial, o_b, trivial⟩ ?_
    have hJ48 : ∀ (M48 : Mem), (Sf M M48) → f_X1_becomeJoin M a0 a b = f_X1_becomeJoin_48 a0 a M48 → V G X 7 0 0 (Qx G X 0 0 (p_X1_becomeJoin M a0 a b)) 48 [(0, .ref a0), (1, .ref a)] [] M48 := by
      intro M48 s48 E
      refine V.seg F floX1 cjoX1 [.aload_n 0, .aload_n 1] (by decide +kernel) (pc2 := 50) (lv2 := [(0, .ref a0), (1, .ref a)]) (st2 := [.ref a, .ref a0]) (M2 := M48) rfl ⟨trivial, trivial, trivial⟩ ?_
      refine V.callV (as := [.ref a]) (rest := []) F (by decide +kernel) lX1_72 bX1_copy ⟨1, _, (o_a0.sm s48.1), rfl, rfl⟩ (c_X1_copy G X.2.1 M48 a0 a (o_a0.sm s48.1) (o_a.sm s48.1)) (rm_ok hRm hd (by decide) (by decide)) ⟨Nat.zero_le _, Nat.zero_le _⟩ (Nat.le_of_ble_eq_true rfl) (fun r_ N_ p_ => ?_)
      obtain ⟨rfl, rfl, t50⟩ := p_
      refine (?_ : ∀ (M53 : Mem), (Sf M M53) → f_X1_becomeJoin M a0 a b = f_X1_becomeJoin_c53 M53 → V G X 7 0 0 (Qx G X 0 0 (p_X1_becomeJoin M a0 a b)) 53 [(0, .ref a0), (1, .ref a)] [] M53) _ (Sf.tr s48 t50) E
      intro M53 s53 E
      refine V.seg F floX1 cjoX1 [.goto 82] (by decide +kernel) (pc2 := 135) (lv2 := [(0, .ref a0), (1, .ref a)]) (st2 := []) (M2 := M53) rfl ⟨(by decide), trivial⟩ ?_
      refine V.pick [] rfl ?_
      exact hJ135 M53 s53 E
    refine V.if_ne (off := 29) F (by decide +kernel) (tgt := 48) (by decide) (fun h19 => ?_) (fun h19 => ?_)
    · replace E := E.trans (if_neg h19)
      refine V.pick [0, 1] rfl ?_
      exact hJ48 M Sf.rf E
    · replace E := E.trans (if_pos h19)
      refine V.seg F floX1 cjoX1 [.aload_n 1] (by decide +kernel) (pc2 := 23) (lv2 := [(0, .ref a0), (1, .ref a), (2, .ref b)]) (st2 := [.ref a]) (M2 := M) rfl ⟨trivial, trivial⟩ ?_
      refine V.callV (as := []) (rest := []) F (by decide +kernel) lX1_48 bX1_isConstant ⟨1, _, o_a, rfl, rfl⟩ (c_X1_isConstant G X.2.1 M a o_a) (rm_ok hRm hd (by decide) (by decide)) ⟨Nat.zero_le _, Nat.zero_le _⟩ (Nat.le_of_ble_eq_true rfl) (fun r_ N_ p_ => ?_)
      obtain ⟨rfl, hN_, z23⟩ := p_
      rw [hN_]
      clear hN_
      have hJ56 : ∀ (M56 : Mem), (Sf M M56) → f_X1_becomeJoin M a0 a b = f_X1_becomeJoin_56 a0 a b M56 → V G X 7 0 0 (Qx G X 0 0 (p_X1_becomeJoin M a0 a b)) 56 [(0, .ref a0), (1, .ref a), (2, .ref b)] [] M56 := by
        intro M56 s56 E
        refine V.seg F floX1 cjoX1 [.aload_n 1, .aload_n 2] (by decide +kernel) (pc2 := 58) (lv2 := [(0, .ref a0), (1, .ref a), (2, .ref b)]) (st2 := [.ref b, .ref a]) (M2 := M56) rfl ⟨trivial, trivial, trivial⟩ ?_
        refine V.callS (as := [.ref a, .ref b]) (rest := []) F (by decide +kernel) lX1_76 bX1_joinModulus (c_X1_joinModulus G X.2.1 M56 a b (o_a.sm s56.1) (o_b.sm s56.1)) (rm_ok hRm hd (by decide) (by decide)) ⟨Nat.zero_le _, Nat.zero_le _⟩ (Nat.le_of_ble_eq_true rfl) (fun r_ N_ p_ => ?_)
        obtain ⟨rfl, hN_⟩ := p_
        rw [hN_]
        clear hN_
        refine V.seg F floX1 cjoX1 [.lstore_n 3, .aload_n 1, .getfield 35, .aload_n 2, .getfield 35, .land, .aload_n 1, .getfield 38, .aload_n 2, .getfield 38, .lxor, .ldc2_w 33, .lxor, .land, .lstore 5] (by decide +kernel) (pc2 := 87) (lv2 := [(5, .long (((mL M56 a 3) &&& (mL M56 b 3)) &&& (((mL M56 a 4) ^^^ (mL M56 b 4)) ^^^ ((-1))))), (3, .long (f_X1_joinModulus M56 a b)), (0, .ref a0), (1, .ref a), (2, .ref b)]) (st2 := []) (M2 := M56) rfl ⟨(by decide), trivial, (o_a.sm s56.1), trivial, (o_b.sm s56.1), trivial, trivial, (o_a.sm s56.1), trivial, (o_b.sm s56.1), trivial, trivial, trivial, trivial, (by decide), trivial⟩ ?_
        refine (?_ : ∀ (x87 : Int64), f_X1_becomeJoin M a0 a b = f_X1_becomeJoin_c87 a0 a b M56 x87 → V G X 7 0 0 (Qx G X 0 0 (p_X1_becomeJoin M a0 a b)) 87 [(5, .long x87), (3, .long (f_X1_joinModulus M56 a b)), (0, .ref a0), (1, .ref a), (2, .ref b)] [] M56) _  E
        intro x87 E
        refine V.seg F floX1 cjoX1 [.aload_n 0, .aload_n 1, .getfield 11, .aload_n 2, .getfield 11] (by decide +kernel) (pc2 := 96) (lv2 := [(5, .long x87), (3, .long (f_X1_joinModulus M56 a b)), (0, .ref a0), (1, .ref a), (2, .ref b)]) (st2 := [.long (mL M56 b 1), .long (mL M56 a 1), .ref a0]) (M2 := M56) rfl ⟨trivial, trivial, (o_a.sm s56.1), trivial, (o_b.sm s56.1), trivial⟩ ?_
        refine V.mminL (st := [.ref a0]) F (by decide +kernel) lX1_80 (rm_ok hRm hd (by decide) (by decide)) ⟨Nat.zero_le _, Nat.zero_le _⟩ (Nat.le_of_ble_eq_true rfl) ?_
        refine V.seg F floX1 cjoX1 [.aload_n 1, .getfield 19, .aload_n 2, .getfield 19] (by decide +kernel) (pc2 := 107) (lv2 := [(5, .long x87), (3, .long (f_X1_joinModulus M56 a b)), (0, .ref a0), (1, .ref a), (2, .ref b)]) (st2 := [.long (mL M56 b 2), .long (mL M56 a 2), .long (jmin (mL M56 a 1) (mL M56 b 1)), .ref a0]) (M2 := M56) rfl ⟨trivial, (o_a.sm s56.1), trivial, (o_b.sm s56.1), trivial⟩ ?_
        refine V.mmaxL (st := [.long (jmin (mL M56 a 1) (mL M56 b 1)), .ref a0]) F (by decide +kernel) lX1_85 (rm_ok hRm hd (by decide) (by decide)) ⟨Nat.zero_le _, Nat.zero_le _⟩ (Nat.le_of_ble_eq_true rfl) ?_
        refine V.seg F floX1 cjoX1 [.lload 5, .aload_n 1, .getfield 38, .lload 5, .land, .lload_n 3, .aload_n 1] (by decide +kernel) (pc2 := 121) (lv2 := [(5, .long x87), (3, .long (f_X1_joinModulus M56 a b)), (0, .ref a0), (1, .ref a), (2, .ref b)]) (st2 := [.ref a, .long (f_X1_joinModulus M56 a b), .long ((mL M56 a 4) &&& x87), .long x87, .long (jmax (mL M56 a 2) (mL M56 b 2)), .long (jmin (mL M56 a 1) (mL M56 b 1)), .ref a0]) (M2 := M56) rfl ⟨trivial, trivial, (o_a.sm s56.1), trivial, trivial, trivial, trivial, trivial⟩ ?_
        refine V.callV (as := []) (rest := [.long (f_X1_joinModulus M56 a b), .long ((mL M56 a 4) &&& x87), .long x87, .long (jmax (mL M56 a 2) (mL M56 b 2)), .long (jmin (mL M56 a 1) (mL M56 b 1)), .ref a0]) F (by decide +kernel) lX1_88 bX1_countedRest ⟨1, _, (o_a.sm s56.1), rfl, rfl⟩ (c_X1_countedRest G X.2.1 M56 a (o_a.sm s56.1)) (rm_ok hRm hd (by decide) (by decide)) ⟨Nat.zero_le _, Nat.zero_le _⟩ (Nat.le_of_ble_eq_true rfl) (fun r_ N_ p_ => ?_)
        obtain ⟨rfl, hN_⟩ := p_
        rw [hN_]
        clear hN_
        refine V.seg F floX1 cjoX1 [.lload_n 3] (by decide +kernel) (pc2 := 125) (lv2 := [(5, .long x87), (3, .long (f_X1_joinModulus M56 a b)), (0, .ref a0), (1, .ref a), (2, .ref b)]) (st2 := [.long (f_X1_joinModulus M56 a b), .long (f_X1_countedRest M56 a), .long (f_X1_joinModulus M56 a b), .long ((mL M56 a 4) &&& x87), .long x87, .long (jmax (mL M56 a 2) (mL M56 b 2)), .long (jmin (mL M56 a 1) (mL M56 b 1)), .ref a0]) (M2 := M56) rfl ⟨trivial, trivial⟩ ?_
        refine V.callSN (as := [.long (f_X1_countedRest M56 a), .long (f_X1_joinModulus M56 a b)]) (rest := [.long (f_X1_joinModulus M56 a b), .long ((mL M56 a 4) &&& x87), .long x87, .long (jmax (mL M56 a 2) (mL M56 b 2)), .long (jmin (mL M56 a 1) (mL M56 b 1)), .ref a0]) F (by decide +kernel) lX1_44 bX6_restBy (c_X6_restBy G X.2.1 M56 (f_X1_countedRest M56 a) (f_X1_joinModulus M56 a b)) (rm_ok hRm hd (by decide) (by decide)) ⟨Nat.zero_le _, Nat.zero_le _⟩ (Nat.le_of_ble_eq_true rfl) (fun r_ N_ p_ => ?_)
        obtain ⟨rfl, hN_⟩ := p_
        rw [hN_]
        clear hN_
        refine V.callV (as := [.long (jmin (mL M56 a 1) (mL M56 b 1)), .long (jmax (mL M56 a 2) (mL M56 b 2)), .long x87, .long ((mL M56 a 4) &&& x87), .long (f_X1_joinModulus M56 a b), .long (f_X6_restBy (f_X1_countedRest M56 a) (f_X1_joinModulus M56 a b))]) (rest := []) F (by decide +kernel) lX1_25 bX1_become ⟨1, _, (o_a0.sm s56.1), rfl, rfl⟩ (c_X1_become G X.2.1 M56 a0 (jmin (mL M56 a 1) (mL M56 b 1)) (jmax (mL M56 a 2) (mL M56 b 2)) x87 ((mL M56 a 4) &&& x87) (f_X1_joinModulus M56 a b) (f_X6_restBy (f_X1_countedRest M56 a) (f_X1_joinModulus M56 a b)) (o_a0.sm s56.1)) (rm_ok hRm hd (by decide) (by decide)) ⟨Nat.zero_le _, Nat.zero_le _⟩ (Nat.le_of_ble_eq_true rfl) (fun r_ N_ p_ => ?_)
        obtain ⟨rfl, rfl, t128⟩ := p_
        refine (?_ : ∀ (M131 : Mem), (Sf M M131) → f_X1_becomeJoin M a0 a b = f_X1_becomeJoin_c131 a0 M131 → V G X 7 0 0 (Qx G X 0 0 (p_X1_becomeJoin M a0 a b)) 131 [(5, .long x87), (3, .long (f_X1_joinModulus M56 a b)), (0, .ref a0), (1, .ref a), (2, .ref b)] [] M131) _ (Sf.tr s56 t128) E
        intro M131 s131 E
        refine V.seg F floX1 cjoX1 [.aload_n 0] (by decide +kernel) (pc2 := 132) (lv2 := [(5, .long x87), (3, .long (f_X1_joinModulus M56 a b)), (0, .ref a0), (1, .ref a), (2, .ref b)]) (st2 := [.ref a0]) (M2 := M131) rfl ⟨trivial, trivial⟩ ?_
        refine V.callV (as := []) (rest := []) F (by decide +kernel) lX1_92 bX1_sharpen ⟨1, _, (o_a0.sm s131.1), rfl, rfl⟩ (c_X1_sharpen G X.2.1 M131 a0 (o_a0.sm s131.1)) (rm_ok hRm hd (by decide) (by decide)) ⟨Nat.zero_le _, Nat.zero_le _⟩ (Nat.le_of_ble_eq_true rfl) (fun r_ N_ p_ => ?_)
        obtain ⟨rfl, rfl, t132⟩ := p_
        refine (?_ : ∀ (M135 : Mem), (Sf M M135) → f_X1_becomeJoin M a0 a b = f_X1_becomeJoin_c135 M135 → V G X 7 0 0 (Qx G X 0 0 (p_X1_becomeJoin M a0 a b)) 135 [(5, .long x87), (3, .long (f_X1_joinModulus M56 a b)), (0, .ref a0), (1, .ref a), (2, .ref b)] [] M135) _ (Sf.tr s131 t132) E
        intro M135 s135 E
        refine V.pick [] rfl ?_
        exact hJ135 M135 s135 E
      refine V.if_eq (off := 30) F (by decide +kernel) (tgt := 56) (by decide) (fun h26 => ?_) (fun h26 => ?_)
      · replace E := E.trans (if_pos h26)
        refine V.pick [0, 1, 2] rfl ?_
        exact hJ56 M Sf.rf E
      · replace E := E.trans (if_neg h26)
        refine V.seg F floX1 cjoX1 [.aload_n 2] (by decide +kernel) (pc2 := 30) (lv2 := [(0, .ref a0), (1, .ref a), (2, .ref b)]) (st2 := [.ref b]) (M2 := M) rfl ⟨trivial, trivial⟩ ?_
        refine V.callV (as := []) (rest := []) F (by decide +kernel) lX1_48 bX1_isConstant ⟨1, _, o_b, rfl, rfl⟩ (c_X1_isConstant G X.2.1 M b o_b) (rm_ok hRm hd (by decide) (by decide)) ⟨Nat.zero_le _, Nat.zero_le _⟩ (Nat.le_of_ble_eq_true rfl) (fun r_ N_ p_ => ?_)
        obtain ⟨rfl, hN_, z30⟩ := p_
        rw [hN_]
        clear hN_
        refine V.if_eq (off := 23) F (by decide +kernel) (tgt := 56) (by decide) (fun h33 => ?_) (fun h33 => ?_)
        · replace E := E.trans (if_pos h33)
          refine V.pick [0, 1, 2] rfl ?_
          exact hJ56 M Sf.rf E
        · replace E := E.trans (if_neg h33)
          refine V.seg F floX1 cjoX1 [.aload_n 1, .getfield 11, .aload_n 2, .getfield 11, .lcmp] (by decide +kernel) (pc2 := 45) (lv2 := [(0, .ref a0), (1, .ref a), (2, .ref b)]) (st2 := [.int (lg_cmp (mL M a 1) (mL M b 1))]) (M2 := M) rfl ⟨trivial, o_a, trivial, o_b, trivial, trivial⟩ ?_
          refine V.lc_ne (off := 11) F (by decide +kernel) (tgt := 56) (by decide) (fun h45 => ?_) (fun h45 => ?_)
          · replace E := E.trans (if_neg h45)
            refine V.pick [0, 1, 2] rfl ?_
            exact hJ56 M Sf.rf E
          · replace E := E.trans (if_pos h45)
            refine V.pick [0, 1] rfl ?_
            exact hJ48 M Sf.rf E
  · replace E := E.trans (if_neg h4)
    refine V.seg F floX1 cjoX1 [.aload_n 0, .aload_n 2] (by decide +kernel) (pc2 := 9) (lv2 := [(0, .ref a0), (1, .ref a), (2, .ref b)]) (st2 := [.ref b, .ref a0]) (M2 := M) rfl ⟨trivial, trivial, trivial⟩ ?_
    refine V.callV (as := [.ref b]) (rest := []) F (by decide +kernel) lX1_72 bX1_copy ⟨1, _, o_a0, rfl, rfl⟩ (c_X1_copy G X.2.1 M a0 b o_a0 o_b) (rm_ok hRm hd (by decide) (by decide)) ⟨Nat.zero_le _, Nat.zero_le _⟩ (Nat.le_of_ble_eq_true rfl) (fun r_ N_ p_ => ?_)
    obtain ⟨rfl, rfl, t9⟩ := p_
    refine (?_ : ∀ (M12 : Mem), (Sf M M12) → f_X1_becomeJoin M a0 a b = f_X1_becomeJoin_c12 M12 → V G X 7 0 0 (Qx G X 0 0 (p_X1_becomeJoin M a0 a b)) 12 [(0, .ref a0), (1, .ref a), (2, .ref b)] [] M12) _ t9 E
    intro M12 s12 E
    refine V.seg F floX1 cjoX1 [.goto 123] (by decide +kernel) (pc2 := 135) (lv2 := [(0, .ref a0), (1, .ref a), (2, .ref b)]) (st2 := []) (M2 := M12) rfl ⟨(by decide), trivial⟩ ?_
    refine V.pick [] rfl ?_
    exact hJ135 M12 s12 E
