/-- the class's and the reference's own objects and arrays are made, their references set -/
def rfB (a k : Nat) : Bool := (decide ((SH a).1 < 9) && decide ((ft ((SH a).1 - 1) k).1 = 2)) || ((decide ((SH a).1 = 23) || decide ((SH a).1 = 24) || decide ((SH a).1 = 28)) && decide (k < (SH a).2))
def Ok (M : Mem) : Prop := 73 ≤ mK M ∧ ∀ a k, a ≤ 73 → rfB a k = true → mB M a k = true
def okO (a c : Nat) : Bool := decide ((SH a).1 = c + 1) && decide (0 < a) && decide (a ≤ 73)
def okA (a kd n : Nat) : Bool := decide (SH a = (kd, n)) && decide (0 < a) && decide (a ≤ 73)
theorem Ok.o {M : Mem} (h : Ok M) (a c : Nat) (hc : okO a c = true) : isO M a c := by
  simp only [okO, Bool.and_eq_true, decide_eq_true_eq] at hc
  exact ⟨hc.1.1, hc.1.2, Nat.le_trans hc.2 h.1⟩
theorem Ok.f {M : Mem} (h : Ok M) (a c k : Nat) (hc : (okO a c && rfB a k) = true) : isO M a c ∧ mB M a k = true := by
  simp only [Bool.and_eq_true] at hc
  refine ⟨h.o a c hc.1, h.2 a k ?_ hc.2⟩
  have h1 := hc.1
  simp only [okO, Bool.and_eq_true, decide_eq_true_eq] at h1
  exact h1.2
theorem Ok.a {M : Mem} (h : Ok M) (a kd n : Nat) (hc : okA a kd n = true) {i : Int32} (hi : vp_in i n) : isA M a kd i := by
  simp only [okA, Bool.and_eq_true, decide_eq_true_eq] at hc
  refine ⟨by rw [hc.1.1], hc.1.2, Nat.le_trans hc.2 h.1, by rw [hc.1.1]; exact hi⟩
theorem Ok.sm {M N : Mem} (h : Ok M) (s : Sm M N) : Ok N := ⟨by show 73 ≤ N.1; rw [s.1]; exact h.1, fun a k h1 h2 => by show N.2.1 a k = true; rw [s.2]; exact h.2 a k h1 h2⟩
/-- the reference's moduli are never 0 -/
def Gb (M : Mem) : Prop := ∀ f, f < 1648 → ¬ mL M 58 f = 0
/-- what stays: nothing made, the moduli good, all else than 'w' names as it was -/
def SK (w : Nat → Nat → Bool) (M N : Mem) : Prop := Sm M N ∧ Gb N ∧ ∀ a k, w a k = false → mI N a k = mI M a k ∧ mL N a k = mL M a k
/-- the reference's work on its facts writes its fact arrays, and its own two flags -/
def wg (a k : Nat) : Bool := (decide (53 ≤ a) && decide (a ≤ 59)) || (decide (a = 52) && (decide (k = 7) || decide (k = 8)))
theorem SK.rf {w : Nat → Nat → Bool} {M : Mem} (h : Gb M) : SK w M M := ⟨Sm.rf, h, fun _ _ _ => ⟨rfl, rfl⟩⟩
theorem SK.tr {w : Nat → Nat → Bool} {M N O : Mem} (h : SK w M N) (h2 : SK w N O) : SK w M O := ⟨h.1.tr h2.1, h2.2.1, fun a k ha => ⟨(h2.2.2 a k ha).1.trans (h.2.2 a k ha).1, (h2.2.2 a k ha).2.trans (h.2.2 a k ha).2⟩⟩
theorem SK.mono {w w' : Nat → Nat → Bool} {M N : Mem} (h : SK w M N) (hs : ∀ a k, w a k = true → w' a k = true) : SK w' M N := ⟨h.1, h.2.1, fun a k ha => h.2.2 a k (by
  cases e : w a k with
  | false => rfl
  | true => rw [hs a k e] at ha; cases ha)⟩
theorem SK.ne {w : Nat → Nat → Bool} {a k b j : Nat} (ha : w a k = true) (hb : w b j = false) : b ≠ a ∨ j ≠ k := by
  by_cases e : b = a
  · refine Or.inr (fun z => ?_)
    rw [e, z, ha] at hb
    cases hb
  · exact Or.inl e
theorem SK.pI {w : Nat → Nat → Bool} {M N : Mem} {a k : Nat} {v : Int32} (h : SK w M N) (ha : w a k = true) : SK w M (uI N a k v) := ⟨h.1, h.2.1, fun b j hb => ⟨by rw [(SK.ne ha hb).elim mI_uI_ne mI_uI_nk]; exact (h.2.2 b j hb).1, (h.2.2 b j hb).2⟩⟩
theorem SK.pL {w : Nat → Nat → Bool} {M N : Mem} {a k : Nat} {v : Int64} (h : SK w M N) (ha : w a k = true) (h58 : 58 ≠ a) : SK w M (uL N a k v) := ⟨h.1, fun f hf => by rw [mL_uL_ne h58]; exact h.2.1 f hf, fun b j hb => ⟨(h.2.2 b j hb).1, by rw [(SK.ne ha hb).elim mL_uL_ne mL_uL_nk]; exact (h.2.2 b j hb).2⟩⟩
theorem SK.by {w : Nat → Nat → Bool} {M N : Mem} {k : Nat} {v : Int64} (h : SK w M N) (ha : w 58 k = true) (hv : ¬ v = 0) : SK w M (uL N 58 k v) := ⟨h.1, fun f hf => by
  by_cases e : f = k
  · rw [e, mL_uL]; exact hv
  · rw [mL_uL_nk e]; exact h.2.1 f hf, fun b j hb => ⟨(h.2.2 b j hb).1, by rw [(SK.ne ha hb).elim mL_uL_ne mL_uL_nk]; exact (h.2.2 b j hb).2⟩⟩
def vinb (i : Int32) (n : Nat) : Bool := decide (¬ (i < 0 ∨ n ≤ i.toNatClampNeg))
theorem vinc {i : Int32} {n : Nat} (h : vinb i n = true) : vp_in i n := of_decide_eq_true (p := ¬ (i < 0 ∨ n ≤ i.toNatClampNeg)) h
def f_X7_in_18  (w0_18 : Int32) : Int32 := w0_18
def f_X7_in_17   : Int32 := f_X7_in_18 0
def f_X7_in (v : Int64) (a : Int64) (b : Int64) : Int32 := if v < a then f_X7_in_17  else if b < v then f_X7_in_17  else f_X7_in_18 1
abbrev p_X7_in (M : Mem) (v : Int64) (a : Int64) (b : Int64) : Option Value → Mem → Prop := fun r N => r = some (.int (f_X7_in v a b)) ∧ N = M ∧ ((f_X7_in v a b) = 0 ∨ (f_X7_in v a b) = 1)
set_option maxRecDepth 100000 in
set_option maxHeartbeats 4000000 in
theorem c_X7_in (G : Ctx) (l : Launch) (M : Mem) (v : Int64) (a : Int64) (b : Int64)  : CT G l 0 mX7_in [.long v, .long a, .long b] M 0 0 (p_X7_in M v a b) := by
  refine CT.of (by decide) (Nat.le_of_ble_eq_true rfl) ?_
  intro X d hd hl hRm hnm F
  subst hl
  have E : f_X7_in v a b = f_X7_in v a b := rfl
  show V G X 6 0 0 (Qx G X 0 0 (p_X7_in M v a b)) 0 [(0, .long v), (2, .long a), (4, .long b)] [] M
  refine V.seg F floX7 cjoX7 [.lload_n 0, .lload_n 2, .lcmp] (by decide +kernel) (pc2 := 3) (lv2 := [(0, .long v), (2, .long a), (4, .long b)]) (st2 := [.int (lg_cmp v a)]) (M2 := M) rfl ⟨trivial, trivial, trivial, trivial⟩ ?_
  have hJ18 : ∀ (w0_18 : Int32), (w0_18 = 0 ∨ w0_18 = 1) → f_X7_in v a b = f_X7_in_18 w0_18 → V G X 6 0 0 (Qx G X 0 0 (p_X7_in M v a b)) 18 [] [.int w0_18] M := by
    intro w0_18 zw0_18 E
    exact V.zret F (zw0_18) (by decide +kernel) ⟨congrArg (fun z => some (Value.int z)) E.symm, rfl, by rw [E]; exact zw0_18⟩
  have hJ17 : f_X7_in v a b = f_X7_in_17 → V G X 6 0 0 (Qx G X 0 0 (p_X7_in M v a b)) 17 [] [] M := by
    intro E
    refine V.seg F floX7 cjoX7 [.iconst 0] (by decide +kernel) (pc2 := 18) (lv2 := []) (st2 := [.int 0]) (M2 := M) rfl ⟨trivial, trivial⟩ ?_
    refine V.pick [] rfl ?_
    exact hJ18 0 (Or.inl rfl) E
  refine V.lc_lt (off := 14) F (by decide +kernel) (tgt := 17) (by decide) (fun h3 => ?_) (fun h3 => ?_)
  · replace E := E.trans (if_pos h3)
    refine V.pick [] rfl ?_
    exact hJ17   E
  · replace E := E.trans (if_neg h3)
    refine V.seg F floX7 cjoX7 [.lload_n 0, .lload 4, .lcmp] (by decide +kernel) (pc2 := 10) (lv2 := [(0, .long v), (2, .long a), (4, .long b)]) (st2 := [.int (lg_cmp v b)]) (M2 := M) rfl ⟨trivial, trivial, trivial, trivial⟩ ?_
    refine V.lc_gt (off := 7) F (by decide +kernel) (tgt := 17) (by decide) (fun h10 => ?_) (fun h10 => ?_)
    · replace E := E.trans (if_pos h10)
      refine V.pick [] rfl ?_
      exact hJ17   E
    · replace E := E.trans (if_neg h10)
      refine V.seg F floX7 cjoX7 [.iconst 1, .goto 4] (by decide +kernel) (pc2 := 18) (lv2 := [(0, .long v), (2, .long a), (4, .long b)]) (st2 := [.int 1]) (M2 := M) rfl ⟨trivial, (by decide), trivial⟩ ?_
      refine V.pick [] rfl ?_
      exact hJ18 1 (Or.inr rfl) E
def f_X7_rem_21  (w0_21 : Int64) : Int64 := w0_21
def f_X7_rem (v : Int64) (m : Int64) : Int64 := if 0 ≤ (jrem v m) then f_X7_rem_21 (jrem v m) else f_X7_rem_21 ((jrem v m) + m)
abbrev p_X7_rem (M : Mem) (v : Int64) (m : Int64) : Option Value → Mem → Prop := fun r N => r = some (.long (f_X7_rem v m)) ∧ N = M
set_option maxRecDepth 100000 in
set_option maxHeartbeats 4000000 in
theorem c_X7_rem (G : Ctx) (l : Launch) (M : Mem) (v : Int64) (m : Int64) (hm : ¬ m = 0) : CT G l 0 mX7_rem [.long v, .long m] M 0 0 (p_X7_rem M v m) := by
  refine CT.of (by decide) (Nat.le_of_ble_eq_true rfl) ?_
  intro X d hd hl hRm hnm F
  subst hl
  have E : f_X7_rem v m = f_X7_rem v m := rfl
  show V G X 6 0 0 (Qx G X 0 0 (p_X7_rem M v m)) 0 [(0, .long v), (2, .long m)] [] M
  refine V.seg F floX7 cjoX7 [.lload_n 0, .lload_n 2, .lrem, .lstore 4, .lload 4, .lconst 0, .lcmp] (by decide +kernel) (pc2 := 9) (lv2 := [(4, .long (jrem v m)), (0, .long v), (2, .long m)]) (st2 := [.int (lg_cmp (jrem v m) 0)]) (M2 := M) rfl ⟨trivial, trivial, (by assumption), (by decide), trivial, trivial, trivial, trivial⟩ ?_
  have hJ21 : ∀ (w0_21 : Int64), f_X7_rem v m = f_X7_rem_21 w0_21 → V G X 6 0 0 (Qx G X 0 0 (p_X7_rem M v m)) 21 [] [.long w0_21] M := by
    intro w0_21 E
    exact V.lret F (by decide +kernel) ⟨congrArg (fun z => some (Value.long z)) E.symm, rfl⟩
  refine V.lc_ge (off := 10) F (by decide +kernel) (tgt := 19) (by decide) (fun h9 => ?_) (fun h9 => ?_)
  · replace E := E.trans (if_pos h9)
    refine V.seg F floX7 cjoX7 [.lload 4] (by decide +kernel) (pc2 := 21) (lv2 := [(4, .long (jrem v m)), (0, .long v), (2, .long m)]) (st2 := [.long (jrem v m)]) (M2 := M) rfl ⟨trivial, trivial⟩ ?_
    refine V.pick [] rfl ?_
    exact hJ21 (jrem v m)  E
  · replace E := E.trans (if_neg h9)
    refine V.seg F floX7 cjoX7 [.lload 4, .lload_n 2, .ladd, .goto 5] (by decide +kernel) (pc2 := 21) (lv2 := [(4, .long (jrem v m)), (0, .long v), (2, .long m)]) (st2 := [.long ((jrem v m) + m)]) (M2 := M) rfl ⟨trivial, trivial, trivial, (by decide), trivial⟩ ?_
    refine V.pick [] rfl ?_
    exact hJ21 ((jrem v m) + m)  E
def f_X7_more_11  (w0_11 : Int64) : Int64 := w0_11
def f_X7_more (a : Int64) (b : Int64) : Int64 := if a ≤ b then f_X7_more_11 b else f_X7_more_11 a
abbrev p_X7_more (M : Mem) (a : Int64) (b : Int64) : Option Value → Mem → Prop := fun r N => r = some (.long (f_X7_more a b)) ∧ N = M
set_option maxRecDepth 100000 in
set_option maxHeartbeats 4000000 in
theorem c_X7_more (G : Ctx) (l : Launch) (M : Mem) (a : Int64) (b : Int64)  : CT G l 0 mX7_more [.long a, .long b] M 0 0 (p_X7_more M a b) := by
  refine CT.of (by decide) (Nat.le_of_ble_eq_true rfl) ?_
  intro X d hd hl hRm hnm F
  subst hl
  have E : f_X7_more a b = f_X7_more a b := rfl
  show V G X 4 0 0 (Qx G X 0 0 (p_X7_more M a b)) 0 [(0, .long a), (2, .long b)] [] M
  refine V.seg F floX7 cjoX7 [.lload_n 0, .lload_n 2, .lcmp] (by decide +kernel) (pc2 := 3) (lv2 := [(0, .long a), (2, .long b)]) (st2 := [.int (lg_cmp a b)]) (M2 := M) rfl ⟨trivial, trivial, trivial, trivial⟩ ?_
  have hJ11 : ∀ (w0_11 : Int64), f_X7_more a b = f_X7_more_11 w0_11 → V G X 4 0 0 (Qx G X 0 0 (p_X7_more M a b)) 11 [] [.long w0_11] M := by
    intro w0_11 E
    exact V.lret F (by decide +kernel) ⟨congrArg (fun z => some (Value.long z)) E.symm, rfl⟩
  refine V.lc_le (off := 7) F (by decide +kernel) (tgt := 10) (by decide) (fun h3 => ?_) (fun h3 => ?_)
  · replace E := E.trans (if_pos h3)
    refine V.seg F floX7 cjoX7 [.lload_n 2] (by decide +kernel) (pc2 := 11) (lv2 := [(0, .long a), (2, .long b)]) (st2 := [.long b]) (M2 := M) rfl ⟨trivial, trivial⟩ ?_
    refine V.pick [] rfl ?_
    exact hJ11 b  E
  · replace E := E.trans (if_neg h3)
    refine V.seg F floX7 cjoX7 [.lload_n 0, .goto 4] (by decide +kernel) (pc2 := 11) (lv2 := [(0, .long a), (2, .long b)]) (st2 := [.long a]) (M2 := M) rfl ⟨trivial, (by decide), trivial⟩ ?_
    refine V.pick [] rfl ?_
    exact hJ11 a  E
def f_X7_less_11  (w0_11 : Int64) : Int64 := w0_11
def f_X7_less (a : Int64) (b : Int64) : Int64 := if b ≤ a then f_X7_less_11 b else f_X7_less_11 a
abbrev p_X7_less (M : Mem) (a : Int64) (b : Int64) : Option Value → Mem → Prop := fun r N => r = some (.long (f_X7_less a b)) ∧ N = M
set_option maxRecDepth 100000 in
set_option maxHeartbeats 4000000 in
theorem c_X7_less (G : Ctx) (l : Launch) (M : Mem) (a : Int64) (b : Int64)  : CT G l 0 mX7_less [.long a, .long b] M 0 0 (p_X7_less M a b) := by
  refine CT.of (by decide) (Nat.le_of_ble_eq_true rfl) ?_
  intro X d hd hl hRm hnm F
  subst hl
  have E : f_X7_less a b = f_X7_less a b := rfl
  show V G X 4 0 0 (Qx G X 0 0 (p_X7_less M a b)) 0 [(0, .long a), (2, .long b)] [] M
  refine V.seg F floX7 cjoX7 [.lload_n 0, .lload_n 2, .lcmp] (by decide +kernel) (pc2 := 3) (lv2 := [(0, .long a), (2, .long b)]) (st2 := [.int (lg_cmp a b)]) (M2 := M) rfl ⟨trivial, trivial, trivial, trivial⟩ ?_
  have hJ11 : ∀ (w0_11 : Int64), f_X7_less a b = f_X7_less_11 w0_11 → V G X 4 0 0 (Qx G X 0 0 (p_X7_less M a b)) 11 [] [.long w0_11] M := by
    intro w0_11 E
    exact V.lret F (by decide +kernel) ⟨congrArg (fun z => some (Value.long z)) E.symm, rfl⟩
  refine V.lc_ge (off := 7) F (by decide +kernel) (tgt := 10) (by decide) (fun h3 => ?_) (fun h3 => ?_)
  · replace E := E.trans (if_pos h3)
    refine V.seg F floX7 cjoX7 [.lload_n 2] (by decide +kernel) (pc2 := 11) (lv2 := [(0, .long a), (2, .long b)]) (st2 := [.long b]) (M2 := M) rfl ⟨trivial, trivial⟩ ?_
    refine V.pick [] rfl ?_
    exact hJ11 b  E
  · replace E := E.trans (if_neg h3)
    refine V.seg F floX7 cjoX7 [.lload_n 0, .goto 4] (by decide +kernel) (pc2 := 11) (lv2 := [(0, .long a), (2, .long b)]) (st2 := [.long a]) (M2 := M) rfl ⟨trivial, (by decide), trivial⟩ ?_
    refine V.pick [] rfl ?_
    exact hJ11 a  E
def f_X7_isOver_56  (w0_56 : Int32) : Int32 := w0_56
def f_X7_isOver_55   : Int32 := f_X7_isOver_56 0
def f_X7_isOver_48 (w0_37 : Int32) (w0_48 : Int32) : Int32 := if w0_37 = w0_48 then f_X7_isOver_55  else f_X7_isOver_56 1
def f_X7_isOver_37 (a : Int64) (w0_37 : Int32) : Int32 := if 0 ≤ a then f_X7_isOver_48 w0_37 0 else f_X7_isOver_48 w0_37 1
def f_X7_isOver_22 (a : Int64) (s : Int64) (w0_11 : Int32) (w0_22 : Int32) : Int32 := if w0_11 = w0_22 then if 0 ≤ s then f_X7_isOver_37 a 0 else f_X7_isOver_37 a 1 else f_X7_isOver_55 
def f_X7_isOver_11 (a : Int64) (b : Int64) (s : Int64) (w0_11 : Int32) : Int32 := if 0 ≤ b then f_X7_isOver_22 a s w0_11 0 else f_X7_isOver_22 a s w0_11 1
def f_X7_isOver (a : Int64) (b : Int64) (s : Int64) : Int32 := if 0 ≤ a then f_X7_isOver_11 a b s 0 else f_X7_isOver_11 a b s 1
abbrev p_X7_isOver (M : Mem) (a : Int64) (b : Int64) (s : Int64) : Option Value → Mem → Prop := fun r N => r = some (.int (f_X7_isOver a b s)) ∧ N = M ∧ ((f_X7_isOver a b s) = 0 ∨ (f_X7_isOver a b s) = 1)
set_option maxRecDepth 100000 in
set_option maxHeartbeats 4000000 in
theorem c_X7_isOver (G : Ctx) (l : Launch) (M : Mem) (a : Int64) (b : Int64) (s : Int64)  : CT G l 0 mX7_isOver [.long a, .long b, .long s] M 0 0 (p_X7_isOver M a b s) := by
  refine CT.of (by decide) (Nat.le_of_ble_eq_true rfl) ?_
  intro X d hd hl hRm hnm F
  subst hl
  have E : f_X7_isOver a b s = f_X7_isOver a b s := rfl
  show V G X 6 0 0 (Qx G X 0 0 (p_X7_isOver M a b s)) 0 [(0, .long a), (2, .long b), (4, .long s)] [] M
  refine V.seg F floX7 cjoX7 [.lload_n 0, .lconst 0, .lcmp] (by decide +kernel) (pc2 := 3) (lv2 := [(0, .long a), (2, .long b), (4, .long s)]) (st2 := [.int (lg_cmp a 0)]) (M2 := M) rfl ⟨trivial, trivial, trivial, trivial⟩ ?_
  have hJ11 : ∀ (w0_11 : Int32), f_X7_isOver a b s = f_X7_isOver_11 a b s w0_11 → V G X 6 0 0 (Qx G X 0 0 (p_X7_isOver M a b s)) 11 [(0, .long a), (2, .long b), (4, .long s)] [.int w0_11] M := by
    intro w0_11 E
    refine V.seg F floX7 cjoX7 [.lload_n 2, .lconst 0, .lcmp] (by decide +kernel) (pc2 := 14) (lv2 := [(0, .long a), (2, .long b), (4, .long s)]) (st2 := [.int (lg_cmp b 0), .int w0_11]) (M2 := M) rfl ⟨trivial, trivial, trivial, trivial⟩ ?_
    have hJ22 : ∀ (w0_22 : Int32), f_X7_isOver a b s = f_X7_isOver_22 a s w0_11 w0_22 → V G X 6 0 0 (Qx G X 0 0 (p_X7_isOver M a b s)) 22 [(0, .long a), (4, .long s)] [.int w0_22, .int w0_11] M := by
      intro w0_22 E
      have hJ56 : ∀ (w0_56 : Int32), (w0_56 = 0 ∨ w0_56 = 1) → f_X7_isOver a b s = f_X7_isOver_56 w0_56 → V G X 6 0 0 (Qx G X 0 0 (p_X7_isOver M a b s)) 56 [] [.int w0_56] M := by
        intro w0_56 zw0_56 E
        exact V.zret F (zw0_56) (by decide +kernel) ⟨congrArg (fun z => some (Value.int z)) E.symm, rfl, by rw [E]; exact zw0_56⟩
      have hJ55 : f_X7_isOver a b s = f_X7_isOver_55 → V G X 6 0 0 (Qx G X 0 0 (p_X7_isOver M a b s)) 55 [] [] M := by
        intro E
        refine V.seg F floX7 cjoX7 [.iconst 0] (by decide +kernel) (pc2 := 56) (lv2 := []) (st2 := [.int 0]) (M2 := M) rfl ⟨trivial, trivial⟩ ?_
        refine V.pick [] rfl ?_
        exact hJ56 0 (Or.inl rfl) E
      refine V.ic_ne (off := 33) F (by decide +kernel) (tgt := 55) (by decide) (fun h22 => ?_) (fun h22 => ?_)
      · replace E := E.trans (if_neg h22)
        refine V.pick [] rfl ?_
        exact hJ55   E
      · replace E := E.trans (if_pos h22)
        refine V.seg F floX7 cjoX7 [.lload 4, .lconst 0, .lcmp] (by decide +kernel) (pc2 := 29) (lv2 := [(0, .long a), (4, .long s)]) (st2 := [.int (lg_cmp s 0)]) (M2 := M) rfl ⟨trivial, trivial, trivial, trivial⟩ ?_
        have hJ37 : ∀ (w0_37 : Int32), f_X7_isOver a b s = f_X7_isOver_37 a w0_37 → V G X 6 0 0 (Qx G X 0 0 (p_X7_isOver M a b s)) 37 [(0, .long a)] [.int w0_37] M := by
          intro w0_37 E
          refine V.seg F floX7 cjoX7 [.lload_n 0, .lconst 0, .lcmp] (by decide +kernel) (pc2 := 40) (lv2 := [(0, .long a)]) (st2 := [.int (lg_cmp a 0), .int w0_37]) (M2 := M) rfl ⟨trivial, trivial, trivial, trivial⟩ ?_
          have hJ48 : ∀ (w0_48 : Int32), f_X7_isOver a b s = f_X7_isOver_48 w0_37 w0_48 → V G X 6 0 0 (Qx G X 0 0 (p_X7_isOver M a b s)) 48 [] [.int w0_48, .int w0_37] M := by
            intro w0_48 E
            refine V.ic_eq (off := 7) F (by decide +kernel) (tgt := 55) (by decide) (fun h48 => ?_) (fun h48 => ?_)
            · replace E := E.trans (if_pos h48)
              refine V.pick [] rfl ?_
              exact hJ55   E
            · replace E := E.trans (if_neg h48)
              refine V.seg F floX7 cjoX7 [.iconst 1, .goto 4] (by decide +kernel) (pc2 := 56) (lv2 := []) (st2 := [.int 1]) (M2 := M) rfl ⟨trivial, (by decide), trivial⟩ ?_
              refine V.pick [] rfl ?_
              exact hJ56 1 (Or.inr rfl) E
          refine V.lc_ge (off := 7) F (by decide +kernel) (tgt := 47) (by decide) (fun h40 => ?_) (fun h40 => ?_)
          · replace E := E.trans (if_pos h40)
            refine V.seg F floX7 cjoX7 [.iconst 0] (by decide +kernel) (pc2 := 48) (lv2 := [(0, .long a)]) (st2 := [.int 0, .int w0_37]) (M2 := M) rfl ⟨trivial, trivial⟩ ?_
            refine V.pick [] rfl ?_
            exact hJ48 0  E
          · replace E := E.trans (if_neg h40)
            refine V.seg F floX7 cjoX7 [.iconst 1, .goto 4] (by decide +kernel) (pc2 := 48) (lv2 := [(0, .long a)]) (st2 := [.int 1, .int w0_37]) (M2 := M) rfl ⟨trivial, (by decide), trivial⟩ ?_
            refine V.pick [] rfl ?_
            exact hJ48 1  E
        refine V.lc_ge (off := 7) F (by decide +kernel) (tgt := 36) (by decide) (fun h29 => ?_) (fun h29 => ?_)
        · replace E := E.trans (if_pos h29)
          refine V.seg F floX7 cjoX7 [.iconst 0] (by decide +kernel) (pc2 := 37) (lv2 := [(0, .long a), (4, .long s)]) (st2 := [.int 0]) (M2 := M) rfl ⟨trivial, trivial⟩ ?_
          refine V.pick [0] rfl ?_
          exact hJ37 0  E
        · replace E := E.trans (if_neg h29)
          refine V.seg F floX7 cjoX7 [.iconst 1, .goto 4] (by decide +kernel) (pc2 := 37) (lv2 := [(0, .long a), (4, .long s)]) (st2 := [.int 1]) (M2 := M) rfl ⟨trivial, (by decide), trivial⟩ ?_
          refine V.pick [0] rfl ?_
          exact hJ37 1  E
    refine V.lc_ge (off := 7) F (by decide +kernel) (tgt := 21) (by decide) (fun h14 => ?_) (fun h14 => ?_)
    · replace E := E.trans (if_pos h14)
      refine V.seg F floX7 cjoX7 [.iconst 0] (by decide +kernel) (pc2 := 22) (lv2 := [(0, .long a), (2, .long b), (4, .long s)]) (st2 := [.int 0, .int w0_11]) (M2 := M) rfl ⟨trivial, trivial⟩ ?_
      refine V.pick [0, 2] rfl ?_
      exact hJ22 0  E
    · replace E := E.trans (if_neg h14)
      refine V.seg F floX7 cjoX7 [.iconst 1, .goto 4] (by decide +kernel) (pc2 := 22) (lv2 := [(0, .long a), (2, .long b), (4, .long s)]) (st2 := [.int 1, .int w0_11]) (M2 := M) rfl ⟨trivial, (by decide), trivial⟩ ?_
      refine V.pick [0, 2] rfl ?_
      exact hJ22 1  E
  refine V.lc_ge (off := 7) F (by decide +kernel) (tgt := 10) (by decide) (fun h3 => ?_) (fun h3 => ?_)
  · replace E := E.trans (if_pos h3)
    refine V.seg F floX7 cjoX7 [.iconst 0] (by decide +kernel) (pc2 := 11) (lv2 := [(0, .long a), (2, .long b), (4, .long s)]) (st2 := [.int 0]) (M2 := M) rfl ⟨trivial, trivial⟩ ?_
    refine V.pick [0, 1, 2] rfl ?_
    exact hJ11 0  E
  · replace E := E.trans (if_neg h3)
    refine V.seg F floX7 cjoX7 [.iconst 1, .goto 4] (by decide +kernel) (pc2 := 11) (lv2 := [(0, .long a), (2, .long b), (4, .long s)]) (st2 := [.int 1]) (M2 := M) rfl ⟨trivial, (by decide), trivial⟩ ?_
    refine V.pick [0, 1, 2] rfl ?_
    exact hJ11 1  E
def f_X7_all (M : Mem) (f : Int32) : Mem := uL (uL (uL (uL (uL (uL (uI M 53 (ix f) 0) 54 (ix f) ((-9223372036854775808))) 55 (ix f) 9223372036854775807) 56 (ix f) 0) 57 (ix f) 0) 58 (ix f) 1) 59 (ix f) 0
abbrev p_X7_all (M : Mem) (f : Int32) : Option Value → Mem → Prop := fun r N => r = none ∧ N = f_X7_all M f ∧ SK wg M N
set_option maxRecDepth 100000 in
set_option maxHeartbeats 4000000 in
theorem c_X7_all (G : Ctx) (l : Launch) (M : Mem) (f : Int32) (q : Ok M) (gb : Gb M) (i_f : vp_in f 1648) : CT G l 0 mX7_all [.ref 52, .int f] M 0 0 (p_X7_all M f) := by
  refine CT.of (by decide) (Nat.le_of_ble_eq_true rfl) ?_
  intro X d hd hl hRm hnm F
  subst hl
  have E : f_X7_all M f = f_X7_all M f := rfl
  show V G X 2 0 0 (Qx G X 0 0 (p_X7_all M f)) 0 [(0, .ref 52), (1, .int f)] [] M
  refine V.seg F floX7 cjoX7 [.aload_n 0, .getfield 9, .iload_n 1, .iconst 0, .bastore, .aload_n 0, .getfield 13, .iload_n 1, .ldc2_w 83, .lastore, .aload_n 0, .getfield 17, .iload_n 1, .ldc2_w 85, .lastore, .aload_n 0, .getfield 20, .iload_n 1, .lconst 0, .lastore, .aload_n 0, .getfield 23, .iload_n 1, .lconst 0, .lastore, .aload_n 0, .getfield 26, .iload_n 1, .lconst 1, .lastore, .aload_n 0, .getfield 29, .iload_n 1, .lconst 0, .lastore] (by decide +kernel) (pc2 := 53) (lv2 := [(0, .ref 52), (1, .int f)]) (st2 := []) (M2 := uL (uL (uL (uL (uL (uL (uI M 53 (ix f) 0) 54 (ix f) ((-9223372036854775808))) 55 (ix f) 9223372036854775807) 56 (ix f) 0) 57 (ix f) 0) 58 (ix f) 1) 59 (ix f) 0) rfl ⟨trivial, (q.f 52 7 0 rfl), trivial, trivial, ⟨(q.a 53 21 1648 rfl (by first | assumption | exact vinc (by decide))), Or.inl rfl⟩, trivial, ((q.sm (SK.pI (SK.rf (w := wg) gb) rfl).1).f 52 7 1 rfl), trivial, trivial, ((q.sm (SK.pI (SK.rf (w := wg) gb) rfl).1).a 54 22 1648 rfl (by first | assumption | exact vinc (by decide))), trivial, ((q.sm (SK.pL (SK.pI (SK.rf (w := wg) gb) rfl) rfl (by decide)).1).f 52 7 2 rfl), trivial, trivial, ((q.sm (SK.pL (SK.pI (SK.rf (w := wg) gb) rfl) rfl (by decide)).1).a 55 22 1648 rfl (by first | assumption | exact vinc (by decide))), trivial, ((q.sm (SK.pL (SK.pL (SK.pI (SK.rf (w := wg) gb) rfl) rfl (by decide)) rfl (by decide)).1).f 52 7 3 rfl), trivial, trivial, ((q.sm (SK.pL (SK.pL (SK.pI (SK.rf (w := wg) gb) rfl) rfl (by decide)) rfl (by decide)).1).a 56 22 1648 rfl (by first | assumption | exact vinc (by decide))), trivial, ((q.sm (SK.pL (SK.pL (SK.pL (SK.pI (SK.rf (w := wg) gb) rfl) rfl (by decide)) rfl (by decide)) rfl (by decide)).1).f 52 7 4 rfl), trivial, trivial, ((q.sm (SK.pL (SK.pL (SK.pL (SK.pI (SK.rf (w := wg) gb) rfl) rfl (by decide)) rfl (by decide)) rfl (by decide)).1).a 57 22 1648 rfl (by first | assumption | exact vinc (by decide))), trivial, ((q.sm (SK.pL (SK.pL (SK.pL (SK.pL (SK.pI (SK.rf (w := wg) gb) rfl) rfl (by decide)) rfl (by decide)) rfl (by decide)) rfl (by decide)).1).f 52 7 5 rfl), trivial, trivial, ((q.sm (SK.pL (SK.pL (SK.pL (SK.pL (SK.pI (SK.rf (w := wg) gb) rfl) rfl (by decide)) rfl (by decide)) rfl (by decide)) rfl (by decide)).1).a 58 22 1648 rfl (by first | assumption | exact vinc (by decide))), trivial, ((q.sm (SK.by (SK.pL (SK.pL (SK.pL (SK.pL (SK.pI (SK.rf (w := wg) gb) rfl) rfl (by decide)) rfl (by decide)) rfl (by decide)) rfl (by decide)) rfl (by decide)).1).f 52 7 6 rfl), trivial, trivial, ((q.sm (SK.by (SK.pL (SK.pL (SK.pL (SK.pL (SK.pI (SK.rf (w := wg) gb) rfl) rfl (by decide)) rfl (by decide)) rfl (by decide)) rfl (by decide)) rfl (by decide)).1).a 59 22 1648 rfl (by first | assumption | exact vinc (by decide))), trivial⟩ ?_
  exact V.vret F (by decide +kernel) ⟨rfl, E.symm, (SK.pL (SK.by (SK.pL (SK.pL (SK.pL (SK.pL (SK.pI (SK.rf (w := wg) gb) rfl) rfl (by decide)) rfl (by decide)) rfl (by decide)) rfl (by decide)) rfl (by decide)) rfl (by decide))⟩
def f_X7_nothing_c5 (f : Int32) (M5 : Mem) : Mem := uI M5 53 (ix f) 1
def f_X7_nothing (M : Mem) (f : Int32) : Mem := f_X7_nothing_c5 f (f_X7_all M f)
abbrev p_X7_nothing (M : Mem) (f : Int32) : Option Value → Mem → Prop := fun r N => r = none ∧ N = f_X7_nothing M f ∧ SK wg M N
set_option maxRecDepth 100000 in
set_option maxHeartbeats 4000000 in
theorem c_X7_nothing (G : Ctx) (l : Launch) (M : Mem) (f : Int32) (q : Ok M) (gb : Gb M) (i_f : vp_in f 1648) : CT G l 1 mX7_nothing [.ref 52, .int f] M 0 0 (p_X7_nothing M f) := by
  refine CT.of (by decide) (Nat.le_of_ble_eq_true rfl) ?_
  intro X d hd hl hRm hnm F
  subst hl
  have E : f_X7_nothing M f = f_X7_nothing M f := rfl
  show V G X 2 0 0 (Qx G X 0 0 (p_X7_nothing M f)) 0 [(0, .ref 52), (1, .int f)] [] M
  refine V.seg F floX7 cjoX7 [.aload_n 0, .iload_n 1] (by decide +kernel) (pc2 := 2) (lv2 := [(0, .ref 52), (1, .int f)]) (st2 := [.int f, .ref 52]) (M2 := M) rfl ⟨trivial, trivial, trivial⟩ ?_
  refine V.callV (as := [.int f]) (rest := []) F (by decide +kernel) lX7_79 bX7_all ⟨7, _, (q.o 52 7 rfl), rfl, rfl⟩ (c_X7_all G X.2.1 M f q gb (by first | assumption | exact vinc (by decide))) (rm_ok hRm hd (by decide) (by decide)) ⟨Nat.zero_le _, Nat.zero_le _⟩ (Nat.le_of_ble_eq_true rfl) (fun r_ N_ p_ => ?_)
  obtain ⟨rfl, rfl, t2⟩ := p_
  refine (?_ : ∀ (M5 : Mem), (SK wg M M5) → f_X7_nothing M f = f_X7_nothing_c5 f M5 → V G X 2 0 0 (Qx G X 0 0 (p_X7_nothing M f)) 5 [(0, .ref 52), (1, .int f)] [] M5) _ t2 E
  intro M5 s5 E
  refine V.seg F floX7 cjoX7 [.aload_n 0, .getfield 9, .iload_n 1, .iconst 1, .bastore] (by decide +kernel) (pc2 := 12) (lv2 := [(0, .ref 52), (1, .int f)]) (st2 := []) (M2 := uI M5 53 (ix f) 1) rfl ⟨trivial, ((q.sm s5.1).f 52 7 0 rfl), trivial, trivial, ⟨((q.sm s5.1).a 53 21 1648 rfl (by first | assumption | exact vinc (by decide))), Or.inr rfl⟩, trivial⟩ ?_
  exact V.vret F (by decide +kernel) ⟨rfl, E.symm, (SK.pI s5 rfl)⟩
def f_X7_number (M : Mem) (f : Int32) (v : Int64) : Mem := uL (uL (uL (uL (uL (uL (uI M 53 (ix f) 0) 54 (ix f) v) 55 (ix f) v) 56 (ix f) ((-1))) 57 (ix f) v) 58 (ix f) 1) 59 (ix f) 0
abbrev p_X7_number (M : Mem) (f : Int32) (v : Int64) : Option Value → Mem → Prop := fun r N => r = none ∧ N = f_X7_number M f v ∧ SK wg M N
set_option maxRecDepth 100000 in
set_option maxHeartbeats 4000000 in
theorem c_X7_number (G : Ctx) (l : Launch) (M : Mem) (f : Int32) (v : Int64) (q : Ok M) (gb : Gb M) (i_f : vp_in f 1648) : CT G l 0 mX7_number [.ref 52, .int f, .long v] M 0 0 (p_X7_number M f v) := by
  refine CT.of (by decide) (Nat.le_of_ble_eq_true rfl) ?_
  intro X d hd hl hRm hnm F
  subst hl
  have E : f_X7_number M f v = f_X7_number M f v := rfl
  show V G X 4 0 0 (Qx G X 0 0 (p_X7_number M f v)) 0 [(0, .ref 52), (1, .int f), (2, .long v)] [] M
  refine V.seg F floX7 cjoX7 [.aload_n 0, .getfield 9, .iload_n 1, .iconst 0, .bastore, .aload_n 0, .getfield 13, .iload_n 1, .lload_n 2, .lastore, .aload_n 0, .getfield 17, .iload_n 1, .lload_n 2, .lastore, .aload_n 0, .getfield 20, .iload_n 1, .ldc2_w 87, .lastore, .aload_n 0, .getfield 23, .iload_n 1, .lload_n 2, .lastore, .aload_n 0, .getfield 26, .iload_n 1, .lconst 1, .lastore, .aload_n 0, .getfield 29, .iload_n 1, .lconst 0, .lastore] (by decide +kernel) (pc2 := 51) (lv2 := [(0, .ref 52), (1, .int f), (2, .long v)]) (st2 := []) (M2 := uL (uL (uL (uL (uL (uL (uI M 53 (ix f) 0) 54 (ix f) v) 55 (ix f) v) 56 (ix f) ((-1))) 57 (ix f) v) 58 (ix f) 1) 59 (ix f) 0) rfl ⟨trivial, (q.f 52 7 0 rfl), trivial, trivial, ⟨(q.a 53 21 1648 rfl (by first | assumption | exact vinc (by decide))), Or.inl rfl⟩, trivial, ((q.sm (SK.pI (SK.rf (w := wg) gb) rfl).1).f 52 7 1 rfl), trivial, trivial, ((q.sm (SK.pI (SK.rf (w := wg) gb) rfl).1).a 54 22 1648 rfl (by first | assumption | exact vinc (by decide))), trivial, ((q.sm (SK.pL (SK.pI (SK.rf (w := wg) gb) rfl) rfl (by decide)).1).f 52 7 2 rfl), trivial, trivial, ((q.sm (SK.pL (SK.pI (SK.rf (w := wg) gb) rfl) rfl (by decide)).1).a 55 22 1648 rfl (by first | assumption | exact vinc (by decide))), trivial, ((q.sm (SK.pL (SK.pL (SK.pI (SK.rf (w := wg) gb) rfl) rfl (by decide)) rfl (by decide)).1).f 52 7 3 rfl), trivial, trivial, ((q.sm (SK.pL (SK.pL (SK.pI (SK.rf (w := wg) gb) rfl) rfl (by decide)) rfl (by decide)).1).a 56 22 1648 rfl (by first | assumption | exact vinc (by decide))), trivial, ((q.sm (SK.pL (SK.pL (SK.pL (SK.pI (SK.rf (w := wg) gb) rfl) rfl (by decide)) rfl (by decide)) rfl (by decide)).1).f 52 7 4 rfl), trivial, trivial, ((q.sm (SK.pL (SK.pL (SK.pL (SK.pI (SK.rf (w := wg) gb) rfl) rfl (by decide)) rfl (by decide)) rfl (by decide)).1).a 57 22 1648 rfl (by first | assumption | exact vinc (by decide))), trivial, ((q.sm (SK.pL (SK.pL (SK.pL (SK.pL (SK.pI (SK.rf (w := wg) gb) rfl) rfl (by decide)) rfl (by decide)) rfl (by decide)) rfl (by decide)).1).f 52 7 5 rfl), trivial, trivial, ((q.sm (SK.pL (SK.pL (SK.pL (SK.pL (SK.pI (SK.rf (w := wg) gb) rfl) rfl (by decide)) rfl (by decide)) rfl (by decide)) rfl (by decide)).1).a 58 22 1648 rfl (by first | assumption | exact vinc (by decide))), trivial, ((q.sm (SK.by (SK.pL (SK.pL (SK.pL (SK.pL (SK.pI (SK.rf (w := wg) gb) rfl) rfl (by decide)) rfl (by decide)) rfl (by decide)) rfl (by decide)) rfl (by decide)).1).f 52 7 6 rfl), trivial, trivial, ((q.sm (SK.by (SK.pL (SK.pL (SK.pL (SK.pL (SK.pI (SK.rf (w := wg) gb) rfl) rfl (by decide)) rfl (by decide)) rfl (by decide)) rfl (by decide)) rfl (by decide)).1).a 59 22 1648 rfl (by first | assumption | exact vinc (by decide))), trivial⟩ ?_
  exact V.vret F (by decide +kernel) ⟨rfl, E.symm, (SK.pL (SK.by (SK.pL (SK.pL (SK.pL (SK.pL (SK.pI (SK.rf (w := wg) gb) rfl) rfl (by decide)) rfl (by decide)) rfl (by decide)) rfl (by decide)) rfl (by decide)) rfl (by decide))⟩
def f_X7_copy_c72 (f : Int32) (g : Int32) (M72 : Mem) : Mem := uL M72 59 (ix f) (mL M72 59 (ix g))
def f_X7_copy_c36 (f : Int32) (g : Int32) (M36 : Mem) : Mem := f_X7_copy_c72 f g (uL (uL (uL M36 56 (ix f) (mL M36 56 (ix g))) 57 (ix f) (mL (uL M36 56 (ix f) (mL M36 56 (ix g))) 57 (ix g))) 58 (ix f) (mL (uL (uL M36 56 (ix f) (mL M36 56 (ix g))) 57 (ix f) (mL (uL M36 56 (ix f) (mL M36 56 (ix g))) 57 (ix g))) 58 (ix g)))
def f_X7_copy (M : Mem) (f : Int32) (g : Int32) : Mem := f_X7_copy_c36 f g (uL (uL (uI M 53 (ix f) (mI M 53 (ix g))) 54 (ix f) (mL (uI M 53 (ix f) (mI M 53 (ix g))) 54 (ix g))) 55 (ix f) (mL (uL (uI M 53 (ix f) (mI M 53 (ix g))) 54 (ix f) (mL (uI M 53 (ix f) (mI M 53 (ix g))) 54 (ix g))) 55 (ix g)))
abbrev p_X7_copy (M : Mem) (f : Int32) (g : Int32) : Option Value → Mem → Prop := fun r N => r = none ∧ N = f_X7_copy M f g ∧ SK wg M N
set_option maxRecDepth 100000 in
set_option maxHeartbeats 4000000 in
theorem c_X7_copy (G : Ctx) (l : Launch) (M : Mem) (f : Int32) (g : Int32) (q : Ok M) (gb : Gb M) (i_f : vp_in f 1648) (i_g : vp_in g 1648) : CT G l 0 mX7_copy [.ref 52, .int f, .int g] M 0 0 (p_X7_copy M f g) := by
  refine CT.of (by decide) (Nat.le_of_ble_eq_true rfl) ?_
  intro X d hd hl hRm hnm F
  subst hl
  have E : f_X7_copy M f g = f_X7_copy M f g := rfl
  show V G X 3 0 0 (Qx G X 0 0 (p_X7_copy M f g)) 0 [(0, .ref 52), (1, .int f), (2, .int g)] [] M
  refine V.bool 53 (ix g) (bl_a (q.a 53 21 1648 rfl (by first | assumption | exact vinc (by decide)))) (fun bz11 => ?_)
  refine V.seg F floX7 cjoX7 [.aload_n 0, .getfield 9, .iload_n 1, .aload_n 0, .getfield 9, .iload_n 2, .baload, .bastore, .aload_n 0, .getfield 13, .iload_n 1, .aload_n 0, .getfield 13, .iload_n 2, .laload, .lastore, .aload_n 0, .getfield 17, .iload_n 1, .aload_n 0, .getfield 17, .iload_n 2, .laload, .lastore] (by decide +kernel) (pc2 := 36) (lv2 := [(0, .ref 52), (1, .int f), (2, .int g)]) (st2 := []) (M2 := uL (uL (uI M 53 (ix f) (mI M 53 (ix g))) 54 (ix f) (mL (uI M 53 (ix f) (mI M 53 (ix g))) 54 (ix g))) 55 (ix f) (mL (uL (uI M 53 (ix f) (mI M 53 (ix g))) 54 (ix f) (mL (uI M 53 (ix f) (mI M 53 (ix g))) 54 (ix g))) 55 (ix g))) rfl ⟨trivial, (q.f 52 7 0 rfl), trivial, trivial, (q.f 52 7 0 rfl), trivial, (q.a 53 21 1648 rfl (by first | assumption | exact vinc (by decide))), ⟨(q.a 53 21 1648 rfl (by first | assumption | exact vinc (by decide))), bz11⟩, trivial, ((q.sm (SK.pI (SK.rf (w := wg) gb) rfl).1).f 52 7 1 rfl), trivial, trivial, ((q.sm (SK.pI (SK.rf (w := wg) gb) rfl).1).f 52 7 1 rfl), trivial, ((q.sm (SK.pI (SK.rf (w := wg) gb) rfl).1).a 54 22 1648 rfl (by first | assumption | exact vinc (by decide))), ((q.sm (SK.pI (SK.rf (w := wg) gb) rfl).1).a 54 22 1648 rfl (by first | assumption | exact vinc (by decide))), trivial, ((q.sm (SK.pL (SK.pI (SK.rf (w := wg) gb) rfl) rfl (by decide)).1).f 52 7 2 rfl), trivial, trivial, ((q.sm (SK.pL (SK.pI (SK.rf (w := wg) gb) rfl) rfl (by decide)).1).f 52 7 2 rfl), trivial, ((q.sm (SK.pL (SK.pI (SK.rf (w := wg) gb) rfl) rfl (by decide)).1).a 55 22 1648 rfl (by first | assumption | exact vinc (by decide))), ((q.sm (SK.pL (SK.pI (SK.rf (w := wg) gb) rfl) rfl (by decide)).1).a 55 22 1648 rfl (by first | assumption | exact vinc (by decide))), trivial⟩ ?_
  refine (?_ : ∀ (M36 : Mem), (SK wg M M36) → f_X7_copy M f g = f_X7_copy_c36 f g M36 → V G X 3 0 0 (Qx G X 0 0 (p_X7_copy M f g)) 36 [(0, .ref 52), (1, .int f), (2, .int g)] [] M36) _ (SK.pL (SK.pL (SK.pI (SK.rf (w := wg) gb) rfl) rfl (by decide)) rfl (by decide)) E
  intro M36 s36 E
  refine V.seg F floX7 cjoX7 [.aload_n 0, .getfield 20, .iload_n 1, .aload_n 0, .getfield 20, .iload_n 2, .laload, .lastore, .aload_n 0, .getfield 23, .iload_n 1, .aload_n 0, .getfield 23, .iload_n 2, .laload, .lastore, .aload_n 0, .getfield 26, .iload_n 1, .aload_n 0, .getfield 26, .iload_n 2, .laload, .lastore] (by decide +kernel) (pc2 := 72) (lv2 := [(0, .ref 52), (1, .int f), (2, .int g)]) (st2 := []) (M2 := uL (uL (uL M36 56 (ix f) (mL M36 56 (ix g))) 57 (ix f) (mL (uL M36 56 (ix f) (mL M36 56 (ix g))) 57 (ix g))) 58 (ix f) (mL (uL (uL M36 56 (ix f) (mL M36 56 (ix g))) 57 (ix f) (mL (uL M36 56 (ix f) (mL M36 56 (ix g))) 57 (ix g))) 58 (ix g))) rfl ⟨trivial, ((q.sm s36.1).f 52 7 3 rfl), trivial, trivial, ((q.sm s36.1).f 52 7 3 rfl), trivial, ((q.sm s36.1).a 56 22 1648 rfl (by first | assumption | exact vinc (by decide))), ((q.sm s36.1).a 56 22 1648 rfl (by first | assumption | exact vinc (by decide))), trivial, ((q.sm (SK.pL s36 rfl (by decide)).1).f 52 7 4 rfl), trivial, trivial, ((q.sm (SK.pL s36 rfl (by decide)).1).f 52 7 4 rfl), trivial, ((q.sm (SK.pL s36 rfl (by decide)).1).a 57 22 1648 rfl (by first | assumption | exact vinc (by decide))), ((q.sm (SK.pL s36 rfl (by decide)).1).a 57 22 1648 rfl (by first | assumption | exact vinc (by decide))), trivial, ((q.sm (SK.pL (SK.pL s36 rfl (by decide)) rfl (by decide)).1).f 52 7 5 rfl), trivial, trivial, ((q.sm (SK.pL (SK.pL s36 rfl (by decide)) rfl (by decide)).1).f 52 7 5 rfl), trivial, ((q.sm (SK.pL (SK.pL s36 rfl (by decide)) rfl (by decide)).1).a 58 22 1648 rfl (by first | assumption | exact vinc (by decide))), ((q.sm (SK.pL (SK.pL s36 rfl (by decide)) rfl (by decide)).1).a 58 22 1648 rfl (by first | assumption | exact vinc (by decide))), trivial⟩ ?_
  refine (?_ : ∀ (M72 : Mem), (SK wg M M72) → f_X7_copy M f g = f_X7_copy_c72 f g M72 → V G X 3 0 0 (Qx G X 0 0 (p_X7_copy M f g)) 72 [(0, .ref 52), (1, .int f), (2, .int g)] [] M72) _ (SK.by (SK.pL (SK.pL s36 rfl (by decide)) rfl (by decide)) rfl ((SK.pL (SK.pL s36 rfl (by decide)) rfl (by decide)).2.1 _ (vin_lt (by first | assumption | exact vinc (by decide))))) E
  intro M72 s72 E
  refine V.seg F floX7 cjoX7 [.aload_n 0, .getfield 29, .iload_n 1, .aload_n 0, .getfield 29, .iload_n 2, .laload, .lastore] (by decide +kernel) (pc2 := 84) (lv2 := [(0, .ref 52), (1, .int f), (2, .int g)]) (st2 := []) (M2 := uL M72 59 (ix f) (mL M72 59 (ix g))) rfl ⟨trivial, ((q.sm s72.1).f 52 7 6 rfl), trivial, trivial, ((q.sm s72.1).f 52 7 6 rfl), trivial, ((q.sm s72.1).a 59 22 1648 rfl (by first | assumption | exact vinc (by decide))), ((q.sm s72.1).a 59 22 1648 rfl (by first | assumption | exact vinc (by decide))), trivial⟩ ?_
  exact V.vret F (by decide +kernel) ⟨rfl, E.symm, (SK.pL s72 rfl (by decide))⟩
def f_X7_isNumber_30  (w0_30 : Int32) : Int32 := w0_30
def f_X7_isNumber_29   : Int32 := f_X7_isNumber_30 0
def f_X7_isNumber (M : Mem) (f : Int32) : Int32 := if (mI M 53 (ix f)) = 0 then if (mL M 54 (ix f)) = (mL M 55 (ix f)) then f_X7_isNumber_30 1 else f_X7_isNumber_29  else f_X7_isNumber_29 
abbrev p_X7_isNumber (M : Mem) (f : Int32) : Option Value → Mem → Prop := fun r N => r = some (.int (f_X7_isNumber M f)) ∧ N = M ∧ ((f_X7_isNumber M f) = 0 ∨ (f_X7_isNumber M f) = 1)
set_option maxRecDepth 100000 in
set_option maxHeartbeats 4000000 in
theorem c_X7_isNumber (G : Ctx) (l : Launch) (M : Mem) (f : Int32) (q : Ok M) (gb : Gb M) (i_f : vp_in f 1648) : CT G l 0 mX7_isNumber [.ref 52, .int f] M 0 0 (p_X7_isNumber M f) := by
  refine CT.of (by decide) (Nat.le_of_ble_eq_true rfl) ?_
  intro X d hd hl hRm hnm F
  subst hl
  have E : f_X7_isNumber M f = f_X7_isNumber M f := rfl
  show V G X 2 0 0 (Qx G X 0 0 (p_X7_isNumber M f)) 0 [(0, .ref 52), (1, .int f)] [] M
  refine V.seg F floX7 cjoX7 [.aload_n 0, .getfield 9, .iload_n 1, .baload] (by decide +kernel) (pc2 := 6) (lv2 := [(0, .ref 52), (1, .int f)]) (st2 := [.int (mI M 53 (ix f))]) (M2 := M) rfl ⟨trivial, (q.f 52 7 0 rfl), trivial, (q.a 53 21 1648 rfl (by first | assumption | exact vinc (by decide))), trivial⟩ ?_
  have hJ30 : ∀ (w0_30 : Int32), (w0_30 = 0 ∨ w0_30 = 1) → f_X7_isNumber M f = f_X7_isNumber_30 w0_30 → V G X 2 0 0 (Qx G X 0 0 (p_X7_isNumber M f)) 30 [] [.int w0_30] M := by
    intro w0_30 zw0_30 E
    exact V.zret F (zw0_30) (by decide +kernel) ⟨congrArg (fun z => some (Value.int z)) E.symm, rfl, by rw [E]; exact zw0_30⟩
  have hJ29 : f_X7_isNumber M f = f_X7_isNumber_29 → V G X 2 0 0 (Qx G X 0 0 (p_X7_isNumber M f)) 29 [] [] M := by
    intro E
    refine V.seg F floX7 cjoX7 [.iconst 0] (by decide +kernel) (pc2 := 30) (lv2 := []) (st2 := [.int 0]) (M2 := M) rfl ⟨trivial, trivial⟩ ?_
    refine V.pick [] rfl ?_
    exact hJ30 0 (Or.inl rfl) E
  refine V.if_ne (off := 23) F (by decide +kernel) (tgt := 29) (by decide) (fun h6 => ?_) (fun h6 => ?_)
  · replace E := E.trans (if_neg h6)
    refine V.pick [] rfl ?_
    exact hJ29   E
  · replace E := E.trans (if_pos h6)
    refine V.seg F floX7 cjoX7 [.aload_n 0, .getfield 13, .iload_n 1, .laload, .aload_n 0, .getfield 17, .iload_n 1, .laload, .lcmp] (by decide +kernel) (pc2 := 22) (lv2 := [(0, .ref 52), (1, .int f)]) (st2 := [.int (lg_cmp (mL M 54 (ix f)) (mL M 55 (ix f)))]) (M2 := M) rfl ⟨trivial, (q.f 52 7 1 rfl), trivial, (q.a 54 22 1648 rfl (by first | assumption | exact vinc (by decide))), trivial, (q.f 52 7 2 rfl), trivial, (q.a 55 22 1648 rfl (by first | assumption | exact vinc (by decide))), trivial, trivial⟩ ?_
    refine V.lc_ne (off := 7) F (by decide +kernel) (tgt := 29) (by decide) (fun h22 => ?_) (fun h22 => ?_)
    · replace E := E.trans (if_neg h22)
      refine V.pick [] rfl ?_
      exact hJ29   E
    · replace E := E.trans (if_pos h22)
      refine V.seg F floX7 cjoX7 [.iconst 1, .goto 4] (by decide +kernel) (pc2 := 30) (lv2 := [(0, .ref 52), (1, .int f)]) (st2 := [.int 1]) (M2 := M) rfl ⟨trivial, (by decide), trivial⟩ ?_
      refine V.pick [] rfl ?_
      exact hJ30 1 (Or.inr rfl) E
def f_X7_alike_116  (w0_116 : Int32) : Int32 := w0_116
def f_X7_alike_115   : Int32 := f_X7_alike_116 0
def f_X7_alike (M : Mem) (f : Int32) (g : Int32) : Int32 := if (mI M 53 (ix f)) = (mI M 53 (ix g)) then if (mL M 54 (ix f)) = (mL M 54 (ix g)) then if (mL M 55 (ix f)) = (mL M 55 (ix g)) then if (mL M 56 (ix f)) = (mL M 56 (ix g)) then if (mL M 57 (ix f)) = (mL M 57 (ix g)) then if (mL M 58 (ix f)) = (mL M 58 (ix g)) then if (mL M 59 (ix f)) = (mL M 59 (ix g)) then f_X7_alike_116 1 else f_X7_alike_115  else f_X7_alike_115  else f_X7_alike_115  else f_X7_alike_115  else f_X7_alike_115  else f_X7_alike_115  else f_X7_alike_115 
abbrev p_X7_alike (M : Mem) (f : Int32) (g : Int32) : Option Value → Mem → Prop := fun r N => r = some (.int (f_X7_alike M f g)) ∧ N = M ∧ ((f_X7_alike M f g) = 0 ∨ (f_X7_alike M f g) = 1)
set_option maxRecDepth 100000 in
set_option maxHeartbeats 4000000 in
theorem c_X7_alike (G : Ctx) (l : Launch) (M : Mem) (f : Int32) (g : Int32) (q : Ok M) (gb : Gb M) (i_f : vp_in f 1648) (i_g : vp_in g 1648) : CT G l 0 mX7_alike [.ref 52, .int f, .int g] M 0 0 (p_X7_alike M f g) := by
  refine CT.of (by decide) (Nat.le_of_ble_eq_true rfl) ?_
  intro X d hd hl hRm hnm F
  subst hl
  have E : f_X7_alike M f g = f_X7_alike M f g := rfl
  show V G X 3 0 0 (Qx G X 0 0 (p_X7_alike M f g)) 0 [(0, .ref 52), (1, .int f), (2, .int g)] [] M
  refine V.seg F floX7 cjoX7 [.aload_n 0, .getfield 9, .iload_n 1, .baload, .aload_n 0, .getfield 9, .iload_n 2, .baload] (by decide +kernel) (pc2 := 12) (lv2 := [(0, .ref 52), (1, .int f), (2, .int g)]) (st2 := [.int (mI M 53 (ix g)), .int (mI M 53 (ix f))]) (M2 := M) rfl ⟨trivial, (q.f 52 7 0 rfl), trivial, (q.a 53 21 1648 rfl (by first | assumption | exact vinc (by decide))), trivial, (q.f 52 7 0 rfl), trivial, (q.a 53 21 1648 rfl (by first | assumption | exact vinc (by decide))), trivial⟩ ?_
  have hJ116 : ∀ (w0_116 : Int32), (w0_116 = 0 ∨ w0_116 = 1) → f_X7_alike M f g = f_X7_alike_116 w0_116 → V G X 3 0 0 (Qx G X 0 0 (p_X7_alike M f g)) 116 [] [.int w0_116] M := by
    intro w0_116 zw0_116 E
    exact V.zret F (zw0_116) (by decide +kernel) ⟨congrArg (fun z => some (Value.int z)) E.symm, rfl, by rw [E]; exact zw0_116⟩
  have hJ115 : f_X7_alike M f g = f_X7_alike_115 → V G X 3 0 0 (Qx G X 0 0 (p_X7_alike M f g)) 115 [] [] M := by
    intro E
    refine V.seg F floX7 cjoX7 [.iconst 0] (by decide +kernel) (pc2 := 116) (lv2 := []) (st2 := [.int 0]) (M2 := M) rfl ⟨trivial, trivial⟩ ?_
    refine V.pick [] rfl ?_
    exact hJ116 0 (Or.inl rfl) E
  refine V.ic_ne (off := 103) F (by decide +kernel) (tgt := 115) (by decide) (fun h12 => ?_) (fun h12 => ?_)
  · replace E := E.trans (if_neg h12)
    refine V.pick [] rfl ?_
    exact hJ115   E
  · replace E := E.trans (if_pos h12)
    refine V.seg F floX7 cjoX7 [.aload_n 0, .getfield 13, .iload_n 1, .laload, .aload_n 0, .getfield 13, .iload_n 2, .laload, .lcmp] (by decide +kernel) (pc2 := 28) (lv2 := [(0, .ref 52), (1, .int f), (2, .int g)]) (st2 := [.int (lg_cmp (mL M 54 (ix f)) (mL M 54 (ix g)))]) (M2 := M) rfl ⟨trivial, (q.f 52 7 1 rfl), trivial, (q.a 54 22 1648 rfl (by first | assumption | exact vinc (by decide))), trivial, (q.f 52 7 1 rfl), trivial, (q.a 54 22 1648 rfl (by first | assumption | exact vinc (by decide))), trivial, trivial⟩ ?_
    refine V.lc_ne (off := 87) F (by decide +kernel) (tgt := 115) (by decide) (fun h28 => ?_) (fun h28 => ?_)
    · replace E := E.trans (if_neg h28)
      refine V.pick [] rfl ?_
      exact hJ115   E
    · replace E := E.trans (if_pos h28)
      refine V.seg F floX7 cjoX7 [.aload_n 0, .getfield 17, .iload_n 1, .laload, .aload_n 0, .getfield 17, .iload_n 2, .laload, .lcmp] (by decide +kernel) (pc2 := 44) (lv2 := [(0, .ref 52), (1, .int f), (2, .int g)]) (st2 := [.int (lg_cmp (mL M 55 (ix f)) (mL M 55 (ix g)))]) (M2 := M) rfl ⟨trivial, (q.f 52 7 2 rfl), trivial, (q.a 55 22 1648 rfl (by first | assumption | exact vinc (by decide))), trivial, (q.f 52 7 2 rfl), trivial, (q.a 55 22 1648 rfl (by first | assumption | exact vinc (by decide))), trivial, trivial⟩ ?_
      refine V.lc_ne (off := 71) F (by decide +kernel) (tgt := 115) (by decide) (fun h44 => ?_) (fun h44 => ?_)
      · replace E := E.trans (if_neg h44)
        refine V.pick [] rfl ?_
        exact hJ115   E
      · replace E := E.trans (if_pos h44)
        refine V.seg F floX7 cjoX7 [.aload_n 0, .getfield 20, .iload_n 1, .laload, .aload_n 0, .getfield 20, .iload_n 2, .laload, .lcmp] (by decide +kernel) (pc2 := 60) (lv2 := [(0, .ref 52), (1, .int f), (2, .int g)]) (st2 := [.int (lg_cmp (mL M 56 (ix f)) (mL M 56 (ix g)))]) (M2 := M) rfl ⟨trivial, (q.f 52 7 3 rfl), trivial, (q.a 56 22 1648 rfl (by first | assumption | exact vinc (by decide))), trivial, (q.f 52 7 3 rfl), trivial, (q.a 56 22 1648 rfl (by first | assumption | exact vinc (by decide))), trivial, trivial⟩ ?_
        refine V.lc_ne (off := 55) F (by decide +kernel) (tgt := 115) (by decide) (fun h60 => ?_) (fun h60 => ?_)
        · replace E := E.trans (if_neg h60)
          refine V.pick [] rfl ?_
          exact hJ115   E
        · replace E := E.trans (if_pos h60)
          refine V.seg F floX7 cjoX7 [.aload_n 0, .getfield 23, .iload_n 1, .laload, .aload_n 0, .getfield 23, .iload_n 2, .laload, .lcmp] (by decide +kernel) (pc2 := 76) (lv2 := [(0, .ref 52), (1, .int f), (2, .int g)]) (st2 := [.int (lg_cmp (mL M 57 (ix f)) (mL M 57 (ix g)))]) (M2 := M) rfl ⟨trivial, (q.f 52 7 4 rfl), trivial, (q.a 57 22 1648 rfl (by first | assumption | exact vinc (by decide))), trivial, (q.f 52 7 4 rfl), trivial, (q.a 57 22 1648 rfl (by first | assumption | exact vinc (by decide))), trivial, trivial⟩ ?_
          refine V.lc_ne (off := 39) F (by decide +kernel) (tgt := 115) (by decide) (fun h76 => ?_) (fun h76 => ?_)
          · replace E := E.trans (if_neg h76)
            refine V.pick [] rfl ?_
            exact hJ115   E
          · replace E := E.trans (if_pos h76)
            refine V.seg F floX7 cjoX7 [.aload_n 0, .getfield 26, .iload_n 1, .laload, .aload_n 0, .getfield 26, .iload_n 2, .laload, .lcmp] (by decide +kernel) (pc2 := 92) (lv2 := [(0, .ref 52), (1, .int f), (2, .int g)]) (st2 := [.int (lg_cmp (mL M 58 (ix f)) (mL M 58 (ix g)))]) (M2 := M) rfl ⟨trivial, (q.f 52 7 5 rfl), trivial, (q.a 58 22 1648 rfl (by first | assumption | exact vinc (by decide))), trivial, (q.f 52 7 5 rfl), trivial, (q.a 58 22 1648 rfl (by first | assumption | exact vinc (by decide))), trivial, trivial⟩ ?_
            refine V.lc_ne (off := 23) F (by decide +kernel) (tgt := 115) (by decide) (fun h92 => ?_) (fun h92 => ?_)
            · replace E := E.trans (if_neg h92)
              refine V.pick [] rfl ?_
              exact hJ115   E
            · replace E := E.trans (if_pos h92)
              refine V.seg F floX7 cjoX7 [.aload_n 0, .getfield 29, .iload_n 1, .laload, .aload_n 0, .getfield 29, .iload_n 2, .laload, .lcmp] (by decide +kernel) (pc2 := 108) (lv2 := [(0, .ref 52), (1, .int f), (2, .int g)]) (st2 := [.int (lg_cmp (mL M 59 (ix f)) (mL M 59 (ix g)))]) (M2 := M) rfl ⟨trivial, (q.f 52 7 6 rfl), trivial, (q.a 59 22 1648 rfl (by first | assumption | exact vinc (by decide))), trivial, (q.f 52 7 6 rfl), trivial, (q.a 59 22 1648 rfl (by first | assumption | exact vinc (by decide))), trivial, trivial⟩ ?_
              refine V.lc_ne (off := 7) F (by decide +kernel) (tgt := 115) (by decide) (fun h108 => ?_) (fun h108 => ?_)
              · replace E := E.trans (if_neg h108)
                refine V.pick [] rfl ?_
                exact hJ115   E
              · replace E := E.trans (if_pos h108)
                refine V.seg F floX7 cjoX7 [.iconst 1, .goto 4] (by decide +kernel) (pc2 := 116) (lv2 := [(0, .ref 52), (1, .int f), (2, .int g)]) (st2 := [.int 1]) (M2 := M) rfl ⟨trivial, (by decide), trivial⟩ ?_
                refine V.pick [] rfl ?_
                exact hJ116 1 (Or.inr rfl) E
def f_X7_isIn_71  (w0_71 : Int32) : Int32 := w0_71
def f_X7_isIn_70   : Int32 := f_X7_isIn_71 0
def f_X7_isIn (M : Mem) (f : Int32) (v : Int64) : Int32 := if (mI M 53 (ix f)) = 0 then if (f_X7_in v (mL M 54 (ix f)) (mL M 55 (ix f))) = 0 then f_X7_isIn_70  else if (v &&& (mL M 56 (ix f))) = (mL M 57 (ix f)) then if (f_X7_rem v (mL M 58 (ix f))) = (mL M 59 (ix f)) then f_X7_isIn_71 1 else f_X7_isIn_70  else f_X7_isIn_70  else f_X7_isIn_70 
abbrev p_X7_isIn (M : Mem) (f : Int32) (v : Int64) : Option Value → Mem → Prop := fun r N => r = some (.int (f_X7_isIn M f v)) ∧ N = M ∧ ((f_X7_isIn M f v) = 0 ∨ (f_X7_isIn M f v) = 1)
set_option maxRecDepth 100000 in
set_option maxHeartbeats 4000000 in
theorem c_X7_isIn (G : Ctx) (l : Launch) (M : Mem) (f : Int32) (v : Int64) (q : Ok M) (gb : Gb M) (i_f : vp_in f 1648) : CT G l 1 mX7_isIn [.ref 52, .int f, .long v] M 0 0 (p_X7_isIn M f v) := by
  refine CT.of (by decide) (Nat.le_of_ble_eq_true rfl) ?_
  intro X d hd hl hRm hnm F
  subst hl
  have E : f_X7_isIn M f v = f_X7_isIn M f v := rfl
  show V G X 4 0 0 (Qx G X 0 0 (p_X7_isIn M f v)) 0 [(0, .ref 52), (1, .int f), (2, .long v)] [] M
  refine V.seg F floX7 cjoX7 [.aload_n 0, .getfield 9, .iload_n 1, .baload] (by decide +kernel) (pc2 := 6) (lv2 := [(0, .ref 52), (1, .int f), (2, .long v)]) (st2 := [.int (mI M 53 (ix f))]) (M2 := M) rfl ⟨trivial, (q.f 52 7 0 rfl), trivial, (q.a 53 21 1648 rfl (by first | assumption | exact vinc (by decide))), trivial⟩ ?_
  have hJ71 : ∀ (w0_71 : Int32), (w0_71 = 0 ∨ w0_71 = 1) → f_X7_isIn M f v = f_X7_isIn_71 w0_71 → V G X 4 0 0 (Qx G X 0 0 (p_X7_isIn M f v)) 71 [] [.int w0_71] M := by
    intro w0_71 zw0_71 E
    exact V.zret F (zw0_71) (by decide +kernel) ⟨congrArg (fun z => some (Value.int z)) E.symm, rfl, by rw [E]; exact zw0_71⟩
  have hJ70 : f_X7_isIn M f v = f_X7_isIn_70 → V G X 4 0 0 (Qx G X 0 0 (p_X7_isIn M f v)) 70 [] [] M := by
    intro E
    refine V.seg F floX7 cjoX7 [.iconst 0] (by decide +kernel) (pc2 := 71) (lv2 := []) (st2 := [.int 0]) (M2 := M) rfl ⟨trivial, trivial⟩ ?_
    refine V.pick [] rfl ?_
    exact hJ71 0 (Or.inl rfl) E
  refine V.if_ne (off := 64) F (by decide +kernel) (tgt := 70) (by decide) (fun h6 => ?_) (fun h6 => ?_)
  · replace E := E.trans (if_neg h6)
    refine V.pick [] rfl ?_
    exact hJ70   E
  · replace E := E.trans (if_pos h6)
    refine V.seg F floX7 cjoX7 [.lload_n 2, .aload_n 0, .getfield 13, .iload_n 1, .laload, .aload_n 0, .getfield 17, .iload_n 1, .laload] (by decide +kernel) (pc2 := 22) (lv2 := [(0, .ref 52), (1, .int f), (2, .long v)]) (st2 := [.long (mL M 55 (ix f)), .long (mL M 54 (ix f)), .long v]) (M2 := M) rfl ⟨trivial, trivial, (q.f 52 7 1 rfl), trivial, (q.a 54 22 1648 rfl (by first | assumption | exact vinc (by decide))), trivial, (q.f 52 7 2 rfl), trivial, (q.a 55 22 1648 rfl (by first | assumption | exact vinc (by decide))), trivial⟩ ?_
    refine V.callS (as := [.long v, .long (mL M 54 (ix f)), .long (mL M 55 (ix f))]) (rest := []) F (by decide +kernel) lX7_89 bX7_in (c_X7_in G X.2.1 M v (mL M 54 (ix f)) (mL M 55 (ix f))) (rm_ok hRm hd (by decide) (by decide)) ⟨Nat.zero_le _, Nat.zero_le _⟩ (Nat.le_of_ble_eq_true rfl) (fun r_ N_ p_ => ?_)
    obtain ⟨rfl, hN_, z22⟩ := p_
    rw [hN_]
    clear hN_
    refine V.if_eq (off := 45) F (by decide +kernel) (tgt := 70) (by decide) (fun h25 => ?_) (fun h25 => ?_)
    · replace E := E.trans (if_pos h25)
      refine V.pick [] rfl ?_
      exact hJ70   E
    · replace E := E.trans (if_neg h25)
      refine V.seg F floX7 cjoX7 [.lload_n 2, .aload_n 0, .getfield 20, .iload_n 1, .laload, .land, .aload_n 0, .getfield 23, .iload_n 1, .laload, .lcmp] (by decide +kernel) (pc2 := 43) (lv2 := [(0, .ref 52), (1, .int f), (2, .long v)]) (st2 := [.int (lg_cmp (v &&& (mL M 56 (ix f))) (mL M 57 (ix f)))]) (M2 := M) rfl ⟨trivial, trivial, (q.f 52 7 3 rfl), trivial, (q.a 56 22 1648 rfl (by first | assumption | exact vinc (by decide))), trivial, trivial, (q.f 52 7 4 rfl), trivial, (q.a 57 22 1648 rfl (by first | assumption | exact vinc (by decide))), trivial, trivial⟩ ?_
      refine V.lc_ne (off := 27) F (by decide +kernel) (tgt := 70) (by decide) (fun h43 => ?_) (fun h43 => ?_)
      · replace E := E.trans (if_neg h43)
        refine V.pick [] rfl ?_
        exact hJ70   E
      · replace E := E.trans (if_pos h43)
        refine V.seg F floX7 cjoX7 [.lload_n 2, .aload_n 0, .getfield 26, .iload_n 1, .laload] (by decide +kernel) (pc2 := 53) (lv2 := [(0, .ref 52), (1, .int f), (2, .long v)]) (st2 := [.long (mL M 58 (ix f)), .long v]) (M2 := M) rfl ⟨trivial, trivial, (q.f 52 7 5 rfl), trivial, (q.a 58 22 1648 rfl (by first | assumption | exact vinc (by decide))), trivial⟩ ?_
        refine V.callS (as := [.long v, .long (mL M 58 (ix f))]) (rest := []) F (by decide +kernel) lX7_93 bX7_rem (c_X7_rem G X.2.1 M v (mL M 58 (ix f)) (gb _ (vin_lt (by first | assumption | exact vinc (by decide))))) (rm_ok hRm hd (by decide) (by decide)) ⟨Nat.zero_le _, Nat.zero_le _⟩ (Nat.le_of_ble_eq_true rfl) (fun r_ N_ p_ => ?_)
        obtain ⟨rfl, hN_⟩ := p_
        rw [hN_]
        clear hN_
        refine V.seg F floX7 cjoX7 [.aload_n 0, .getfield 29, .iload_n 1, .laload, .lcmp] (by decide +kernel) (pc2 := 63) (lv2 := [(0, .ref 52), (1, .int f), (2, .long v)]) (st2 := [.int (lg_cmp (f_X7_rem v (mL M 58 (ix f))) (mL M 59 (ix f)))]) (M2 := M) rfl ⟨trivial, (q.f 52 7 6 rfl), trivial, (q.a 59 22 1648 rfl (by first | assumption | exact vinc (by decide))), trivial, trivial⟩ ?_
        refine V.lc_ne (off := 7) F (by decide +kernel) (tgt := 70) (by decide) (fun h63 => ?_) (fun h63 => ?_)
        · replace E := E.trans (if_neg h63)
          refine V.pick [] rfl ?_
          exact hJ70   E
        · replace E := E.trans (if_pos h63)
          refine V.seg F floX7 cjoX7 [.iconst 1, .goto 4] (by decide +kernel) (pc2 := 71) (lv2 := [(0, .ref 52), (1, .int f), (2, .long v)]) (st2 := [.int 1]) (M2 := M) rfl ⟨trivial, (by decide), trivial⟩ ?_
          refine V.pick [] rfl ?_
          exact hJ71 1 (Or.inr rfl) E
def uN (x : Int64) : Nat := x.toUInt64.toNat
theorem uN_lt (x : Int64) : uN x < 18446744073709551616 := x.toUInt64.toNat_lt
theorem uN_inj {x y : Int64} (h : uN x = uN y) : x = y := congrArg UInt64.toInt64 (UInt64.toNat_inj.mp h)
theorem uN_add (x y : Int64) : uN (x + y) = (uN x + uN y) % 18446744073709551616 := by
  show (x.toUInt64 + y.toUInt64).toNat = _
  exact UInt64.toNat_add _ _
theorem uN_mul (x y : Int64) : uN (x * y) = (uN x * uN y) % 18446744073709551616 := by
  show (x.toUInt64 * y.toUInt64).toNat = _
  exact UInt64.toNat_mul _ _
theorem uN_shl (x : Int64) : uN (x <<< ((1 : Int32).toInt64 &&& 63)) = (2 * uN x) % 18446744073709551616 := by
  have h : (((1 : Int32).toInt64 &&& 63).toBitVec.smod 64).toNat = 1 := by decide
  show (x.toBitVec <<< (((1 : Int32).toInt64 &&& 63).toBitVec.smod 64).toNat).toNat = _
  rw [h, BitVec.toNat_shiftLeft, Nat.shiftLeft_eq, Nat.mul_comm]
  rfl
theorem uN_shr (x : Int64) (s : UInt64) : uN (x.toUInt64 >>> s).toInt64 = uN x / 2 ^ (s.toNat % 64) := by
  show (x.toUInt64 >>> s).toNat = _
  rw [UInt64.toNat_shiftRight, Nat.shiftRight_eq_div_pow]
  rfl
theorem uN_s32 (x : Int64) : uN (x.toUInt64 >>> ((32 : Int32).toInt64.toUInt64 &&& Int64.toUInt64 63)).toInt64 = uN x / 4294967296 := by
  have h : ((32 : Int32).toInt64.toUInt64 &&& Int64.toUInt64 63).toNat % 64 = 32 := by decide
  rw [uN_shr, h]
theorem uN_s63 (x : Int64) : uN (x.toUInt64 >>> ((63 : Int32).toInt64.toUInt64 &&& Int64.toUInt64 63)).toInt64 = uN x / 9223372036854775808 := by
  have h : ((63 : Int32).toInt64.toUInt64 &&& Int64.toUInt64 63).toNat % 64 = 63 := by decide
  rw [uN_shr, h]
theorem uN_lo (x : Int64) : uN (x &&& 4294967295) = uN x % 4294967296 := by
  show (x.toUInt64 &&& Int64.toUInt64 4294967295).toNat = _
  rw [UInt64.toNat_and]
  exact Nat.and_two_pow_sub_one_eq_mod _ 32
theorem uN_bit (x : Int64) : (x &&& 1) = 0 ↔ uN x % 2 = 0 := by
  have h : uN (x &&& 1) = uN x % 2 := by
    show (x.toUInt64 &&& Int64.toUInt64 1).toNat = _
    rw [UInt64.toNat_and]
    exact Nat.and_two_pow_sub_one_eq_mod _ 1
  rw [← h]
  exact ⟨fun z => by rw [z]; rfl, fun z => uN_inj (z.trans rfl)⟩
theorem uN_or {x y : Int64} (hy : uN y < 2) : uN ((x <<< ((1 : Int32).toInt64 &&& 63)) ||| y) = (2 * uN x) % 18446744073709551616 + uN y := by
  have h1 : uN ((x <<< ((1 : Int32).toInt64 &&& 63)) ||| y) = uN (x <<< ((1 : Int32).toInt64 &&& 63)) ||| uN y := UInt64.toNat_or _ _
  have h2 : (2 * uN x) % 18446744073709551616 = 2 ^ 1 * (uN x % 9223372036854775808) := by omega
  rw [h1, uN_shl, h2]
  exact (Nat.two_pow_add_eq_or_of_lt (i := 1) hy _).symm
theorem nat_xor {a : Nat} (h : a < 18446744073709551616) : a ^^^ 2 ^ 63 = (a + 9223372036854775808) % 18446744073709551616 := by
  have h1 : (a ^^^ 2 ^ 63) % 2 ^ 63 = a % 2 ^ 63 := by rw [Nat.xor_mod_two_pow, Nat.mod_self, Nat.xor_zero]
  have h2 : (a ^^^ 2 ^ 63) / 2 ^ 63 = (a / 2 ^ 63) ^^^ 1 := by rw [Nat.xor_div_two_pow, Nat.div_self (Nat.two_pow_pos 63)]
  have h3 : a / 2 ^ 63 = 0 ∨ a / 2 ^ 63 = 1 := by omega
  generalize a ^^^ 2 ^ 63 = t at h1 h2
  rcases h3 with h3 | h3
  · rw [h3] at h2
    have h2 : t / 2 ^ 63 = 1 := h2
    omega
  · rw [h3] at h2
    have h2 : t / 2 ^ 63 = 0 := h2
    omega
theorem uN_xor (x : Int64) : uN (x ^^^ (-9223372036854775808)) = (uN x + 9223372036854775808) % 18446744073709551616 := by
  rw [← nat_xor (uN_lt x)]
  exact UInt64.toNat_xor _ _
theorem uN_int (x : Int64) : x.toInt = if 2 * uN x < 18446744073709551616 then (uN x : Int) else (uN x : Int) - 18446744073709551616 := BitVec.toInt_eq_toNat_cond _
theorem uN_le (x y : Int64) : (x ^^^ (-9223372036854775808)) ≤ (y ^^^ (-9223372036854775808)) ↔ uN x ≤ uN y := by
  have hx := uN_lt x
  have hy := uN_lt y
  rw [Int64.le_iff_toInt_le, uN_int, uN_int, uN_xor, uN_xor]
  omega
theorem uN_sk (x : Int64) {k : Nat} (hk : k < 64) : uN (x.toUInt64 >>> ((nI k).toInt64.toUInt64 &&& Int64.toUInt64 63)).toInt64 = uN x / 2 ^ k := by
  have h : ((nI k).toInt64.toUInt64 &&& Int64.toUInt64 63).toNat % 64 = k := by
    rw [nI_l (by omega), UInt64.toNat_and]
    have e : (lN k).toUInt64.toNat = k % 2 ^ 64 := rfl
    have e2 : (Int64.toUInt64 63).toNat = 2 ^ 6 - 1 := by decide
    rw [e, e2, Nat.and_two_pow_sub_one_eq_mod]
    omega
  rw [uN_shr, h]
def f_X7_left_65 (j7 : Nat) (R7_ : Int64 → Nat → Int64) (y4_65 : Int64) : Int64 := R7_ y4_65 (j7 - 1)
def f_X7_left_59 (a : Int64) (b : Int64) (y4_7 : Int64) (j7 : Nat) (R7_ : Int64 → Nat → Int64)  : Int64 := f_X7_left_65 j7 R7_ (((jshl y4_7 1) ||| ((jushr a (nI j7 - 1)) &&& 1)) - b)
def f_X7_left_24 (a : Int64) (b : Int64) (y4_7 : Int64) (j7 : Nat) (R7_ : Int64 → Nat → Int64) (w0_24 : Int32) : Int64 := if w0_24 = 0 then if (((jshl y4_7 1) ||| ((jushr a (nI j7 - 1)) &&& 1)) ^^^ ((-9223372036854775808))) < (b ^^^ ((-9223372036854775808))) then f_X7_left_65 j7 R7_ ((jshl y4_7 1) ||| ((jushr a (nI j7 - 1)) &&& 1)) else f_X7_left_59 a b y4_7 j7 R7_ else f_X7_left_59 a b y4_7 j7 R7_
def f_X7_left_7 (a : Int64) (b : Int64) : Nat → Int64 → Nat → Int64
  | 0, _, _ => 0
  | n_ + 1, y4_7, j7 => if (nI j7 - 1) < 0 then y4_7 else if 0 ≤ y4_7 then f_X7_left_24 a b y4_7 j7 (f_X7_left_7 a b n_) 0 else f_X7_left_24 a b y4_7 j7 (f_X7_left_7 a b n_) 1
def f_X7_left (a : Int64) (b : Int64) : Int64 := f_X7_left_7 a b 65 0 64
abbrev p_X7_left (M : Mem) (a : Int64) (b : Int64) : Option Value → Mem → Prop := fun r N => r = some (.long (f_X7_left a b)) ∧ N = M
set_option maxRecDepth 100000 in
set_option maxHeartbeats 4000000 in
theorem c_X7_left (G : Ctx) (l : Launch) (M : Mem) (a : Int64) (b : Int64)  : CT G l 0 mX7_left [.long a, .long b] M 0 0 (p_X7_left M a b) := by
  refine CT.of (by decide) (Nat.le_of_ble_eq_true rfl) ?_
  intro X d hd hl hRm hnm F
  subst hl
  have E : f_X7_left a b = f_X7_left a b := rfl
  show V G X 8 0 0 (Qx G X 0 0 (p_X7_left M a b)) 0 [(0, .long a), (2, .long b)] [] M
  refine V.seg F floX7 cjoX7 [.lconst 0, .lstore 4, .bipush 63] (by decide +kernel) (pc2 := 5) (lv2 := [(4, .long 0), (0, .long a), (2, .long b)]) (st2 := [.int 63]) (M2 := M) rfl ⟨trivial, (by decide), trivial, trivial⟩ ?_
  refine V.seg F floX7 cjoX7 [.istore 6] (by decide +kernel) (pc2 := 7) (lv2 := [(6, .int 63), (4, .long 0), (0, .long a), (2, .long b)]) (st2 := []) (M2 := M) rfl ⟨(by decide), trivial⟩ ?_
  have hJ7 : ∀ (n_ : Nat) (y4_7 : Int64) (j7 : Nat), (j7 ≤ 64) → (j7 < n_) → f_X7_left a b = f_X7_left_7 a b n_ y4_7 j7 → V G X 8 0 0 (Qx G X 0 0 (p_X7_left M a b)) 7 [(0, .long a), (2, .long b), (4, .long y4_7), (6, .int (nI j7 - 1))] [] M := by
    intro n_
    induction n_ with
    | zero => intro y4_7 j7 b7 m7 E; omega
    | succ n_ ih_7 =>
      intro y4_7 j7 b7 m7 E
      rw [f_X7_left_7] at E
      refine V.seg F floX7 cjoX7 [.iload 6] (by decide +kernel) (pc2 := 9) (lv2 := [(0, .long a), (2, .long b), (4, .long y4_7), (6, .int (nI j7 - 1))]) (st2 := [.int (nI j7 - 1)]) (M2 := M) rfl ⟨trivial, trivial⟩ ?_
      refine V.if_lt (off := 62) F (by decide +kernel) (tgt := 71) (by decide) (fun h9 => ?_) (fun h9 => ?_)
      · replace E := E.trans (if_pos h9)
        refine V.seg F floX7 cjoX7 [.lload 4] (by decide +kernel) (pc2 := 73) (lv2 := [(0, .long a), (2, .long b), (4, .long y4_7), (6, .int (nI j7 - 1))]) (st2 := [.long y4_7]) (M2 := M) rfl ⟨trivial, trivial⟩ ?_
        exact V.lret F (by decide +kernel) ⟨congrArg (fun z => some (Value.long z)) E.symm, rfl⟩
      · replace E := E.trans (if_neg h9)
        refine V.seg F floX7 cjoX7 [.lload 4, .lconst 0, .lcmp] (by decide +kernel) (pc2 := 16) (lv2 := [(0, .long a), (2, .long b), (4, .long y4_7), (6, .int (nI j7 - 1))]) (st2 := [.int (lg_cmp y4_7 0)]) (M2 := M) rfl ⟨trivial, trivial, trivial, trivial⟩ ?_
        have hJ24 : ∀ (w0_24 : Int32), f_X7_left a b = f_X7_left_24 a b y4_7 j7 (f_X7_left_7 a b n_) w0_24 → V G X 8 0 0 (Qx G X 0 0 (p_X7_left M a b)) 24 [(0, .long a), (2, .long b), (4, .long y4_7), (6, .int (nI j7 - 1))] [.int w0_24] M := by
          intro w0_24 E
          refine V.seg F floX7 cjoX7 [.istore 7, .lload 4, .iconst 1, .lshl, .lload_n 0, .iload 6, .lushr, .lconst 1, .land, .lor, .lstore 4, .iload 7] (by decide +kernel) (pc2 := 41) (lv2 := [(4, .long ((jshl y4_7 1) ||| ((jushr a (nI j7 - 1)) &&& 1))), (7, .int w0_24), (0, .long a), (2, .long b), (6, .int (nI j7 - 1))]) (st2 := [.int w0_24]) (M2 := M) rfl ⟨(by decide), trivial, trivial, trivial, trivial, trivial, trivial, trivial, trivial, trivial, (by decide), trivial, trivial⟩ ?_
          have hJ65 : ∀ (y4_65 : Int64), f_X7_left a b = f_X7_left_65 j7 (f_X7_left_7 a b n_) y4_65 → V G X 8 0 0 (Qx G X 0 0 (p_X7_left M a b)) 65 [(0, .long a), (2, .long b), (4, .long y4_65), (6, .int (nI j7 - 1))] [] M := by
            intro y4_65 E
            refine V.seg F floX7 cjoX7 [.iinc 6 (-1), .goto (-61)] (by decide +kernel) (pc2 := 7) (lv2 := [(6, .int ((nI j7 - 1) + (-1))), (0, .long a), (2, .long b), (4, .long y4_65)]) (st2 := []) (M2 := M) rfl ⟨(by decide), (by decide), trivial⟩ ?_
            refine V.pick [1, 2, 3, 0] rfl ?_
            rw [dn_1 (by have hlt_ := dn_pos h9 (by omega); omega)]
            exact ih_7 y4_65 (j7 - 1) (by have hlt_ := dn_pos h9 (by omega); omega) (by have hlt_ := dn_pos h9 (by omega); omega) E
          have hJ59 : f_X7_left a b = f_X7_left_59 a b y4_7 j7 (f_X7_left_7 a b n_) → V G X 8 0 0 (Qx G X 0 0 (p_X7_left M a b)) 59 [(0, .long a), (2, .long b), (4, .long ((jshl y4_7 1) ||| ((jushr a (nI j7 - 1)) &&& 1))), (6, .int (nI j7 - 1))] [] M := by
            intro E
            refine V.seg F floX7 cjoX7 [.lload 4, .lload_n 2, .lsub, .lstore 4] (by decide +kernel) (pc2 := 65) (lv2 := [(4, .long (((jshl y4_7 1) ||| ((jushr a (nI j7 - 1)) &&& 1)) - b)), (0, .long a), (2, .long b), (6, .int (nI j7 - 1))]) (st2 := []) (M2 := M) rfl ⟨trivial, trivial, trivial, (by decide), trivial⟩ ?_
            refine V.pick [1, 2, 0, 3] rfl ?_
            exact hJ65 (((jshl y4_7 1) ||| ((jushr a (nI j7 - 1)) &&& 1)) - b)  E
          refine V.if_ne (off := 18) F (by decide +kernel) (tgt := 59) (by decide) (fun h41 => ?_) (fun h41 => ?_)
          · replace E := E.trans (if_neg h41)
            refine V.pick [2, 3, 0, 4] rfl ?_
            exact hJ59   E
          · replace E := E.trans (if_pos h41)
            refine V.seg F floX7 cjoX7 [.lload 4, .ldc2_w 83, .lxor, .lload_n 2, .ldc2_w 83, .lxor, .lcmp] (by decide +kernel) (pc2 := 56) (lv2 := [(4, .long ((jshl y4_7 1) ||| ((jushr a (nI j7 - 1)) &&& 1))), (7, .int w0_24), (0, .long a), (2, .long b), (6, .int (nI j7 - 1))]) (st2 := [.int (lg_cmp (((jshl y4_7 1) ||| ((jushr a (nI j7 - 1)) &&& 1)) ^^^ ((-9223372036854775808))) (b ^^^ ((-9223372036854775808))))]) (M2 := M) rfl ⟨trivial, trivial, trivial, trivial, trivial, trivial, trivial, trivial⟩ ?_
            refine V.lc_lt (off := 9) F (by decide +kernel) (tgt := 65) (by decide) (fun h56 => ?_) (fun h56 => ?_)
            · replace E := E.trans (if_pos h56)
              refine V.pick [2, 3, 0, 4] rfl ?_
              exact hJ65 ((jshl y4_7 1) ||| ((jushr a (nI j7 - 1)) &&& 1))  E
            · replace E := E.trans (if_neg h56)
              refine V.pick [2, 3, 0, 4] rfl ?_
              exact hJ59   E
        refine V.lc_ge (off := 7) F (by decide +kernel) (tgt := 23) (by decide) (fun h16 => ?_) (fun h16 => ?_)
        · replace E := E.trans (if_pos h16)
          refine V.seg F floX7 cjoX7 [.iconst 0] (by decide +kernel) (pc2 := 24) (lv2 := [(0, .long a), (2, .long b), (4, .long y4_7), (6, .int (nI j7 - 1))]) (st2 := [.int 0]) (M2 := M) rfl ⟨trivial, trivial⟩ ?_
          refine V.pick [0, 1, 2, 3] rfl ?_
          exact hJ24 0  E
        · replace E := E.trans (if_neg h16)
          refine V.seg F floX7 cjoX7 [.iconst 1, .goto 4] (by decide +kernel) (pc2 := 24) (lv2 := [(0, .long a), (2, .long b), (4, .long y4_7), (6, .int (nI j7 - 1))]) (st2 := [.int 1]) (M2 := M) rfl ⟨trivial, (by decide), trivial⟩ ?_
          refine V.pick [0, 1, 2, 3] rfl ?_
          exact hJ24 1  E
  refine V.pick [2, 3, 1, 0] rfl ?_
  exact hJ7 _ 0 64 (by omega) (by omega) E
theorem uN_s1 (v : Int64) : uN (jushr v 1) = uN v / 2 := by
  have h : ((1 : Int32).toInt64.toUInt64 &&& Int64.toUInt64 63).toNat % 64 = 1 := by decide
  show uN (v.toUInt64 >>> _).toInt64 = _
  rw [uN_shr, h]
theorem uN_0 {v : Int64} : v = 0 ↔ uN v = 0 := ⟨fun h => by rw [h]; rfl, fun h => uN_inj (h.trans rfl)⟩
theorem odd_nz {v : Int64} (h : v &&& 1 = 0) (hz : ¬ v = 0) : ¬ jushr v 1 = 0 := by
  rw [uN_0, uN_s1]
  rw [uN_0] at hz
  have := (uN_bit v).mp h
  omega
theorem odd_lt {v : Int64} {n : Nat} (h : uN v < 2 ^ (n + 1)) : uN (jushr v 1) < 2 ^ n := by
  rw [uN_s1]
  rw [Nat.pow_succ] at h
  omega
def f_X7_odd_44  (w0_44 : Int64) : Int64 := w0_44
def f_X7_odd_39   : Int64 := f_X7_odd_44 1
def f_X7_odd_10  : Nat → Int64 → Int64
  | 0, _ => 0
  | n_ + 1, y2_10 => if (y2_10 &&& 1) = 0 then (f_X7_odd_10 n_) (jushr y2_10 1) else if y2_10 < 0 then f_X7_odd_39  else if y2_10 ≤ 2147483647 then f_X7_odd_44 y2_10 else f_X7_odd_39 
def f_X7_odd (g : Int64) : Int64 := if g = 0 then 1 else f_X7_odd_10  64 g
abbrev p_X7_odd (M : Mem) (g : Int64) : Option Value → Mem → Prop := fun r N => r = some (.long (f_X7_odd g)) ∧ N = M
set_option maxRecDepth 100000 in
set_option maxHeartbeats 4000000 in
theorem c_X7_odd (G : Ctx) (l : Launch) (M : Mem) (g : Int64)  : CT G l 0 mX7_odd [.long g] M 0 0 (p_X7_odd M g) := by
  refine CT.of (by decide) (Nat.le_of_ble_eq_true rfl) ?_
  intro X d hd hl hRm hnm F
  subst hl
  have E : f_X7_odd g = f_X7_odd g := rfl
  show V G X 4 0 0 (Qx G X 0 0 (p_X7_odd M g)) 0 [(0, .long g)] [] M
  refine V.seg F floX7 cjoX7 [.lload_n 0, .lconst 0, .lcmp] (by decide +kernel) (pc2 := 3) (lv2 := [(0, .long g)]) (st2 := [.int (lg_cmp g 0)]) (M2 := M) rfl ⟨trivial, trivial, trivial, trivial⟩ ?_
  refine V.lc_ne (off := 5) F (by decide +kernel) (tgt := 8) (by decide) (fun h3 => ?_) (fun h3 => ?_)
  · replace E := E.trans (if_neg h3)
    refine V.seg F floX7 cjoX7 [.lload_n 0] (by decide +kernel) (pc2 := 9) (lv2 := [(0, .long g)]) (st2 := [.long g]) (M2 := M) rfl ⟨trivial, trivial⟩ ?_
    refine V.seg F floX7 cjoX7 [.lstore_n 2] (by decide +kernel) (pc2 := 10) (lv2 := [(2, .long g), (0, .long g)]) (st2 := []) (M2 := M) rfl ⟨(by decide), trivial⟩ ?_
    have hJ10 : ∀ (n_ : Nat) (y2_10 : Int64), (¬ y2_10 = 0) → (uN y2_10 < 2 ^ n_) → f_X7_odd g = f_X7_odd_10 n_ y2_10 → V G X 4 0 0 (Qx G X 0 0 (p_X7_odd M g)) 10 [(2, .long y2_10)] [] M := by
      intro n_
      induction n_ with
      | zero => intro y2_10 z10 m10 E; exact absurd (uN_0.mpr (Nat.lt_one_iff.mp m10)) z10
      | succ n_ ih_10 =>
        intro y2_10 z10 m10 E
        rw [f_X7_odd_10] at E
        refine V.seg F floX7 cjoX7 [.lload_n 2, .lconst 1, .land, .lconst 0, .lcmp] (by decide +kernel) (pc2 := 15) (lv2 := [(2, .long y2_10)]) (st2 := [.int (lg_cmp (y2_10 &&& 1) 0)]) (M2 := M) rfl ⟨trivial, trivial, trivial, trivial, trivial, trivial⟩ ?_
        refine V.lc_ne (off := 10) F (by decide +kernel) (tgt := 25) (by decide) (fun h15 => ?_) (fun h15 => ?_)
        · replace E := E.trans (if_neg h15)
          refine V.seg F floX7 cjoX7 [.lload_n 2, .lconst 0, .lcmp] (by decide +kernel) (pc2 := 28) (lv2 := [(2, .long y2_10)]) (st2 := [.int (lg_cmp y2_10 0)]) (M2 := M) rfl ⟨trivial, trivial, trivial, trivial⟩ ?_
          have hJ44 : ∀ (w0_44 : Int64), f_X7_odd g = f_X7_odd_44 w0_44 → V G X 4 0 0 (Qx G X 0 0 (p_X7_odd M g)) 44 [] [.long w0_44] M := by
            intro w0_44 E
            exact V.lret F (by decide +kernel) ⟨congrArg (fun z => some (Value.long z)) E.symm, rfl⟩
          have hJ39 : f_X7_odd g = f_X7_odd_39 → V G X 4 0 0 (Qx G X 0 0 (p_X7_odd M g)) 39 [] [] M := by
            intro E
            refine V.seg F floX7 cjoX7 [.lconst 1, .goto 4] (by decide +kernel) (pc2 := 44) (lv2 := []) (st2 := [.long 1]) (M2 := M) rfl ⟨trivial, (by decide), trivial⟩ ?_
            refine V.pick [] rfl ?_
            exact hJ44 1  E
          refine V.lc_lt (off := 11) F (by decide +kernel) (tgt := 39) (by decide) (fun h28 => ?_) (fun h28 => ?_)
          · replace E := E.trans (if_pos h28)
            refine V.pick [] rfl ?_
            exact hJ39   E
          · replace E := E.trans (if_neg h28)
            refine V.seg F floX7 cjoX7 [.lload_n 2, .ldc2_w 125, .lcmp] (by decide +kernel) (pc2 := 36) (lv2 := [(2, .long y2_10)]) (st2 := [.int (lg_cmp y2_10 2147483647)]) (M2 := M) rfl ⟨trivial, trivial, trivial, trivial⟩ ?_
            refine V.lc_le (off := 7) F (by decide +kernel) (tgt := 43) (by decide) (fun h36 => ?_) (fun h36 => ?_)
            · replace E := E.trans (if_pos h36)
              refine V.seg F floX7 cjoX7 [.lload_n 2] (by decide +kernel) (pc2 := 44) (lv2 := [(2, .long y2_10)]) (st2 := [.long y2_10]) (M2 := M) rfl ⟨trivial, trivial⟩ ?_
              refine V.pick [] rfl ?_
              exact hJ44 y2_10  E
            · replace E := E.trans (if_neg h36)
              refine V.pick [] rfl ?_
              exact hJ39   E
        · replace E := E.trans (if_pos h15)
          refine V.seg F floX7 cjoX7 [.lload_n 2, .iconst 1, .lushr, .lstore_n 2, .goto (-12)] (by decide +kernel) (pc2 := 10) (lv2 := [(2, .long (jushr y2_10 1))]) (st2 := []) (M2 := M) rfl ⟨trivial, trivial, trivial, (by decide), (by decide), trivial⟩ ?_
          refine V.pick [0] rfl ?_
          exact ih_10 (jushr y2_10 1) (by exact odd_nz h15 z10) (by exact odd_lt m10) E
    refine V.pick [0] rfl ?_
    exact hJ10 _ g (by exact h3) (by exact uN_lt _) E
  · replace E := E.trans (if_pos h3)
    refine V.seg F floX7 cjoX7 [.lconst 1] (by decide +kernel) (pc2 := 7) (lv2 := [(0, .long g)]) (st2 := [.long 1]) (M2 := M) rfl ⟨trivial, trivial⟩ ?_
    exact V.lret F (by decide +kernel) ⟨congrArg (fun z => some (Value.long z)) E.symm, rfl⟩
def f_X7_up_163 (j36 : Nat) (R36_ : Nat → Mem → (Int64 × Mem)) (M163 : Mem) : Int64 × Mem := R36_ (j36 + 1) M163
def f_X7_up_111 (v : Int64) (b : Int64) (w : Int64) (j36 : Nat) (R36_ : Nat → Mem → (Int64 × Mem)) (w0_60 : Int32) (w0_90 : Int32) (w0_111 : Int64) (M111 : Mem) : Int64 × Mem := if w0_60 = 0 then f_X7_up_163 j36 R36_ M111 else if w0_90 = 0 then f_X7_up_163 j36 R36_ M111 else if ((((v ^^^ ((-9223372036854775808))) ^^^ (w ^^^ (b &&& ((-9223372036854775808))))) &&& b) &&& w0_111) = 0 then (((((v ^^^ ((-9223372036854775808))) &&& w0_111) ||| (jshl 1 (nI j36))) ||| ((w ^^^ (b &&& ((-9223372036854775808)))) &&& ((jshl 1 (nI j36)) - 1))) ^^^ ((-9223372036854775808)), M111) else f_X7_up_163 j36 R36_ M111
def f_X7_up_90 (v : Int64) (b : Int64) (w : Int64) (j36 : Nat) (R36_ : Nat → Mem → (Int64 × Mem)) (w0_60 : Int32) (w0_90 : Int32) (M90 : Mem) : Int64 × Mem := if (nI j36) = 63 then f_X7_up_111 v b w j36 R36_ w0_60 w0_90 0 M90 else f_X7_up_111 v b w j36 R36_ w0_60 w0_90 (jshl ((-1)) ((nI j36) + 1)) M90
def f_X7_up_85 (v : Int64) (b : Int64) (w : Int64) (j36 : Nat) (R36_ : Nat → Mem → (Int64 × Mem)) (w0_60 : Int32) (M85 : Mem) : Int64 × Mem := f_X7_up_90 v b w j36 R36_ w0_60 1 M85
def f_X7_up_60 (v : Int64) (b : Int64) (w : Int64) (j36 : Nat) (R36_ : Nat → Mem → (Int64 × Mem)) (w0_60 : Int32) (M60 : Mem) : Int64 × Mem := if ((jushr b (nI j36)) &&& 1) = 0 then f_X7_up_85 v b w j36 R36_ w0_60 M60 else if ((jushr (w ^^^ (b &&& ((-9223372036854775808)))) (nI j36)) &&& 1) = 1 then f_X7_up_85 v b w j36 R36_ w0_60 M60 else f_X7_up_90 v b w j36 R36_ w0_60 0 M60
def f_X7_up_36 (v : Int64) (b : Int64) (w : Int64) : Nat → Nat → Mem → (Int64 × Mem)
  | 0, _, M36 => (0, M36)
  | n_ + 1, j36, M36 => if 64 ≤ (nI j36) then (v, uI M36 52 7 0) else if ((jushr (v ^^^ ((-9223372036854775808))) (nI j36)) &&& 1) = 0 then f_X7_up_60 v b w j36 (f_X7_up_36 v b w n_) 1 M36 else f_X7_up_60 v b w j36 (f_X7_up_36 v b w n_) 0 M36
def f_X7_up (M : Mem) (v : Int64) (b : Int64) (w : Int64) : Int64 × Mem := if (v &&& b) = w then (v, uI M 52 7 1) else f_X7_up_36 v b w 65 0 (uI M 52 7 1)
abbrev p_X7_up (M : Mem) (v : Int64) (b : Int64) (w : Int64) : Option Value → Mem → Prop := fun r N => r = some (.long (f_X7_up M v b w).1) ∧ N = (f_X7_up M v b w).2 ∧ SK wg M N
set_option maxRecDepth 100000 in
set_option maxHeartbeats 4000000 in
theorem c_X7_up (G : Ctx) (l : Launch) (M : Mem) (v : Int64) (b : Int64) (w : Int64) (q : Ok M) (gb : Gb M) : CT G l 0 mX7_up [.ref 52, .long v, .long b, .long w] M 0 0 (p_X7_up M v b w) := by
  refine CT.of (by decide) (Nat.le_of_ble_eq_true rfl) ?_
  intro X d hd hl hRm hnm F
  subst hl
  have E : f_X7_up M v b w = f_X7_up M v b w := rfl
  show V G X 16 0 0 (Qx G X 0 0 (p_X7_up M v b w)) 0 [(0, .ref 52), (1, .long v), (3, .long b), (5, .long w)] [] M
  refine V.seg F floX7 cjoX7 [.aload_n 0, .iconst 1, .putfield 97, .lload_n 1, .lload_n 3, .land, .lload 5, .lcmp] (by decide +kernel) (pc2 := 11) (lv2 := [(0, .ref 52), (1, .long v), (3, .long b), (5, .long w)]) (st2 := [.int (lg_cmp (v &&& b) w)]) (M2 := uI M 52 7 1) rfl ⟨trivial, trivial, ⟨(q.o 52 7 rfl), Or.inr rfl⟩, trivial, trivial, trivial, trivial, trivial, trivial⟩ ?_
  refine V.lc_ne (off := 5) F (by decide +kernel) (tgt := 16) (by decide) (fun h11 => ?_) (fun h11 => ?_)
  · replace E := E.trans (if_neg h11)
    refine V.seg F floX7 cjoX7 [.lload_n 1, .ldc2_w 83, .lxor, .lstore 7, .lload 5, .lload_n 3, .ldc2_w 83, .land, .lxor, .lstore 9, .iconst 0] (by decide +kernel) (pc2 := 34) (lv2 := [(9, .long (w ^^^ (b &&& ((-9223372036854775808))))), (7, .long (v ^^^ ((-9223372036854775808)))), (0, .ref 52), (1, .long v), (3, .long b), (5, .long w)]) (st2 := [.int 0]) (M2 := uI M 52 7 1) rfl ⟨trivial, trivial, trivial, (by decide), trivial, trivial, trivial, trivial, trivial, (by decide), trivial, trivial⟩ ?_
    refine V.seg F floX7 cjoX7 [.istore 11] (by decide +kernel) (pc2 := 36) (lv2 := [(11, .int 0), (9, .long (w ^^^ (b &&& ((-9223372036854775808))))), (7, .long (v ^^^ ((-9223372036854775808)))), (0, .ref 52), (1, .long v), (3, .long b), (5, .long w)]) (st2 := []) (M2 := uI M 52 7 1) rfl ⟨(by decide), trivial⟩ ?_
    have hJ36 : ∀ (n_ : Nat) (j36 : Nat) (M36 : Mem), (SK wg M M36) → (j36 ≤ 64) → (64 - j36 < n_) → f_X7_up M v b w = f_X7_up_36 v b w n_ j36 M36 → V G X 16 0 0 (Qx G X 0 0 (p_X7_up M v b w)) 36 [(0, .ref 52), (1, .long v), (3, .long b), (7, .long (v ^^^ ((-9223372036854775808)))), (9, .long (w ^^^ (b &&& ((-9223372036854775808))))), (11, .int (nI j36))] [] M36 := by
      intro n_
      induction n_ with
      | zero => intro j36 M36 s36 b36 m36 E; omega
      | succ n_ ih_36 =>
        intro j36 M36 s36 b36 m36 E
        rw [f_X7_up_36] at E
        refine V.seg F floX7 cjoX7 [.iload 11, .bipush 64] (by decide +kernel) (pc2 := 40) (lv2 := [(0, .ref 52), (1, .long v), (3, .long b), (7, .long (v ^^^ ((-9223372036854775808)))), (9, .long (w ^^^ (b &&& ((-9223372036854775808))))), (11, .int (nI j36))]) (st2 := [.int 64, .int (nI j36)]) (M2 := M36) rfl ⟨trivial, trivial, trivial⟩ ?_
        refine V.ic_ge (off := 129) F (by decide +kernel) (tgt := 169) (by decide) (fun h40 => ?_) (fun h40 => ?_)
        · replace E := E.trans (if_pos h40)
          refine V.seg F floX7 cjoX7 [.aload_n 0, .iconst 0, .putfield 97, .lload_n 1] (by decide +kernel) (pc2 := 175) (lv2 := [(0, .ref 52), (1, .long v), (3, .long b), (7, .long (v ^^^ ((-9223372036854775808)))), (9, .long (w ^^^ (b &&& ((-9223372036854775808))))), (11, .int (nI j36))]) (st2 := [.long v]) (M2 := uI M36 52 7 0) rfl ⟨trivial, trivial, ⟨((q.sm s36.1).o 52 7 rfl), Or.inl rfl⟩, trivial, trivial⟩ ?_
          exact V.lret F (by decide +kernel) ⟨congrArg (fun z => some (Value.long z.1)) E.symm, congrArg Prod.snd E.symm, (SK.pI s36 rfl)⟩
        · replace E := E.trans (if_neg h40)
          refine V.seg F floX7 cjoX7 [.lload 7, .iload 11, .lushr, .lconst 1, .land, .lconst 0, .lcmp] (by decide +kernel) (pc2 := 52) (lv2 := [(0, .ref 52), (1, .long v), (3, .long b), (7, .long (v ^^^ ((-9223372036854775808)))), (9, .long (w ^^^ (b &&& ((-9223372036854775808))))), (11, .int (nI j36))]) (st2 := [.int (lg_cmp ((jushr (v ^^^ ((-9223372036854775808))) (nI j36)) &&& 1) 0)]) (M2 := M36) rfl ⟨trivial, trivial, trivial, trivial, trivial, trivial, trivial, trivial⟩ ?_
          have hJ60 : ∀ (w0_60 : Int32) (M60 : Mem), (SK wg M M60) → f_X7_up M v b w = f_X7_up_60 v b w j36 (f_X7_up_36 v b w n_) w0_60 M60 → V G X 16 0 0 (Qx G X 0 0 (p_X7_up M v b w)) 60 [(0, .ref 52), (1, .long v), (3, .long b), (7, .long (v ^^^ ((-9223372036854775808)))), (9, .long (w ^^^ (b &&& ((-9223372036854775808))))), (11, .int (nI j36))] [.int w0_60] M60 := by
            intro w0_60 M60 s60 E
            refine V.seg F floX7 cjoX7 [.istore 12, .lload_n 3, .iload 11, .lushr, .lconst 1, .land, .lconst 0, .lcmp] (by decide +kernel) (pc2 := 70) (lv2 := [(12, .int w0_60), (0, .ref 52), (1, .long v), (3, .long b), (7, .long (v ^^^ ((-9223372036854775808)))), (9, .long (w ^^^ (b &&& ((-9223372036854775808))))), (11, .int (nI j36))]) (st2 := [.int (lg_cmp ((jushr b (nI j36)) &&& 1) 0)]) (M2 := M60) rfl ⟨(by decide), trivial, trivial, trivial, trivial, trivial, trivial, trivial, trivial⟩ ?_
            have hJ90 : ∀ (w0_90 : Int32) (M90 : Mem), (SK wg M M90) → f_X7_up M v b w = f_X7_up_90 v b w j36 (f_X7_up_36 v b w n_) w0_60 w0_90 M90 → V G X 16 0 0 (Qx G X 0 0 (p_X7_up M v b w)) 90 [(0, .ref 52), (1, .long v), (3, .long b), (7, .long (v ^^^ ((-9223372036854775808)))), (9, .long (w ^^^ (b &&& ((-9223372036854775808))))), (11, .int (nI j36)), (12, .int w0_60)] [.int w0_90] M90 := by
              intro w0_90 M90 s90 E
              refine V.seg F floX7 cjoX7 [.istore 13, .iload 11, .bipush 63] (by decide +kernel) (pc2 := 96) (lv2 := [(13, .int w0_90), (0, .ref 52), (1, .long v), (3, .long b), (7, .long (v ^^^ ((-9223372036854775808)))), (9, .long (w ^^^ (b &&& ((-9223372036854775808))))), (11, .int (nI j36)), (12, .int w0_60)]) (st2 := [.int 63, .int (nI j36)]) (M2 := M90) rfl ⟨(by decide), trivial, trivial, trivial⟩ ?_
              have hJ111 : ∀ (w0_111 : Int64) (M111 : Mem), (SK wg M M111) → f_X7_up M v b w = f_X7_up_111 v b w j36 (f_X7_up_36 v b w n_) w0_60 w0_90 w0_111 M111 → V G X 16 0 0 (Qx G X 0 0 (p_X7_up M v b w)) 111 [(0, .ref 52), (1, .long v), (3, .long b), (7, .long (v ^^^ ((-9223372036854775808)))), (9, .long (w ^^^ (b &&& ((-9223372036854775808))))), (11, .int (nI j36)), (12, .int w0_60), (13, .int w0_90)] [.long w0_111] M111 := by
                intro w0_111 M111 s111 E
                refine V.seg F floX7 cjoX7 [.lstore 14, .iload 12] (by decide +kernel) (pc2 := 115) (lv2 := [(14, .long w0_111), (0, .ref 52), (1, .long v), (3, .long b), (7, .long (v ^^^ ((-9223372036854775808)))), (9, .long (w ^^^ (b &&& ((-9223372036854775808))))), (11, .int (nI j36)), (12, .int w0_60), (13, .int w0_90)]) (st2 := [.int w0_60]) (M2 := M111) rfl ⟨(by decide), trivial, trivial⟩ ?_
                have hJ163 : ∀ (M163 : Mem), (SK wg M M163) → f_X7_up M v b w = f_X7_up_163 j36 (f_X7_up_36 v b w n_) M163 → V G X 16 0 0 (Qx G X 0 0 (p_X7_up M v b w)) 163 [(0, .ref 52), (1, .long v), (3, .long b), (7, .long (v ^^^ ((-9223372036854775808)))), (9, .long (w ^^^ (b &&& ((-9223372036854775808))))), (11, .int (nI j36))] [] M163 := by
                  intro M163 s163 E
                  refine V.seg F floX7 cjoX7 [.iinc 11 1, .goto (-130)] (by decide +kernel) (pc2 := 36) (lv2 := [(11, .int ((nI j36) + 1)), (0, .ref 52), (1, .long v), (3, .long b), (7, .long (v ^^^ ((-9223372036854775808)))), (9, .long (w ^^^ (b &&& ((-9223372036854775808)))))]) (st2 := []) (M2 := M163) rfl ⟨(by decide), (by decide), trivial⟩ ?_
                  refine V.pick [1, 2, 3, 4, 5, 0] rfl ?_
                  rw [nI_1]
                  exact ih_36 (j36 + 1) M163 s163 (by have hlt_ := cnt_lt (n := 64) h40 rfl (by omega) (by decide); omega) (by have hlt_ := cnt_lt (n := 64) h40 rfl (by omega) (by decide); omega) E
                refine V.if_eq (off := 48) F (by decide +kernel) (tgt := 163) (by decide) (fun h115 => ?_) (fun h115 => ?_)
                · replace E := E.trans (if_pos h115)
                  refine V.pick [1, 2, 3, 4, 5, 6] rfl ?_
                  exact hJ163 M111 s111 E
                · replace E := E.trans (if_neg h115)
                  refine V.seg F floX7 cjoX7 [.iload 13] (by decide +kernel) (pc2 := 120) (lv2 := [(14, .long w0_111), (0, .ref 52), (1, .long v), (3, .long b), (7, .long (v ^^^ ((-9223372036854775808)))), (9, .long (w ^^^ (b &&& ((-9223372036854775808))))), (11, .int (nI j36)), (12, .int w0_60), (13, .int w0_90)]) (st2 := [.int w0_90]) (M2 := M111) rfl ⟨trivial, trivial⟩ ?_
                  refine V.if_eq (off := 43) F (by decide +kernel) (tgt := 163) (by decide) (fun h120 => ?_) (fun h120 => ?_)
                  · replace E := E.trans (if_pos h120)
                    refine V.pick [1, 2, 3, 4, 5, 6] rfl ?_
                    exact hJ163 M111 s111 E
                  · replace E := E.trans (if_neg h120)
                    refine V.seg F floX7 cjoX7 [.lload 7, .lload 9, .lxor, .lload_n 3, .land, .lload 14, .land, .lconst 0, .lcmp] (by decide +kernel) (pc2 := 135) (lv2 := [(14, .long w0_111), (0, .ref 52), (1, .long v), (3, .long b), (7, .long (v ^^^ ((-9223372036854775808)))), (9, .long (w ^^^ (b &&& ((-9223372036854775808))))), (11, .int (nI j36)), (12, .int w0_60), (13, .int w0_90)]) (st2 := [.int (lg_cmp ((((v ^^^ ((-9223372036854775808))) ^^^ (w ^^^ (b &&& ((-9223372036854775808))))) &&& b) &&& w0_111) 0)]) (M2 := M111) rfl ⟨trivial, trivial, trivial, trivial, trivial, trivial, trivial, trivial, trivial, trivial⟩ ?_
                    refine V.lc_ne (off := 28) F (by decide +kernel) (tgt := 163) (by decide) (fun h135 => ?_) (fun h135 => ?_)
                    · replace E := E.trans (if_neg h135)
                      refine V.pick [1, 2, 3, 4, 5, 6] rfl ?_
                      exact hJ163 M111 s111 E
                    · replace E := E.trans (if_pos h135)
                      refine V.seg F floX7 cjoX7 [.lload 7, .lload 14, .land, .lconst 1, .iload 11, .lshl, .lor, .lload 9, .lconst 1, .iload 11, .lshl, .lconst 1, .lsub, .land, .lor, .ldc2_w 83, .lxor] (by decide +kernel) (pc2 := 162) (lv2 := [(14, .long w0_111), (0, .ref 52), (1, .long v), (3, .long b), (7, .long (v ^^^ ((-9223372036854775808)))), (9, .long (w ^^^ (b &&& ((-9223372036854775808))))), (11, .int (nI j36)), (12, .int w0_60), (13, .int w0_90)]) (st2 := [.long (((((v ^^^ ((-9223372036854775808))) &&& w0_111) ||| (jshl 1 (nI j36))) ||| ((w ^^^ (b &&& ((-9223372036854775808)))) &&& ((jshl 1 (nI j36)) - 1))) ^^^ ((-9223372036854775808)))]) (M2 := M111) rfl ⟨trivial, trivial, trivial, trivial, trivial, trivial, trivial, trivial, trivial, trivial, trivial, trivial, trivial, trivial, trivial, trivial, trivial, trivial⟩ ?_
                      exact V.lret F (by decide +kernel) ⟨congrArg (fun z => some (Value.long z.1)) E.symm, congrArg Prod.snd E.symm, s111⟩
              refine V.ic_ne (off := 7) F (by decide +kernel) (tgt := 103) (by decide) (fun h96 => ?_) (fun h96 => ?_)
              · replace E := E.trans (if_neg h96)
                refine V.seg F floX7 cjoX7 [.ldc2_w 87, .iload 11, .iconst 1, .iadd, .lshl] (by decide +kernel) (pc2 := 111) (lv2 := [(13, .int w0_90), (0, .ref 52), (1, .long v), (3, .long b), (7, .long (v ^^^ ((-9223372036854775808)))), (9, .long (w ^^^ (b &&& ((-9223372036854775808))))), (11, .int (nI j36)), (12, .int w0_60)]) (st2 := [.long (jshl ((-1)) ((nI j36) + 1))]) (M2 := M90) rfl ⟨trivial, trivial, trivial, trivial, trivial, trivial⟩ ?_
                refine V.pick [1, 2, 3, 4, 5, 6, 7, 0] rfl ?_
                exact hJ111 (jshl ((-1)) ((nI j36) + 1)) M90 s90 E
              · replace E := E.trans (if_pos h96)
                refine V.seg F floX7 cjoX7 [.lconst 0, .goto 11] (by decide +kernel) (pc2 := 111) (lv2 := [(13, .int w0_90), (0, .ref 52), (1, .long v), (3, .long b), (7, .long (v ^^^ ((-9223372036854775808)))), (9, .long (w ^^^ (b &&& ((-9223372036854775808))))), (11, .int (nI j36)), (12, .int w0_60)]) (st2 := [.long 0]) (M2 := M90) rfl ⟨trivial, (by decide), trivial⟩ ?_
                refine V.pick [1, 2, 3, 4, 5, 6, 7, 0] rfl ?_
                exact hJ111 0 M90 s90 E
            have hJ85 : ∀ (M85 : Mem), (SK wg M M85) → f_X7_up M v b w = f_X7_up_85 v b w j36 (f_X7_up_36 v b w n_) w0_60 M85 → V G X 16 0 0 (Qx G X 0 0 (p_X7_up M v b w)) 85 [(0, .ref 52), (1, .long v), (3, .long b), (7, .long (v ^^^ ((-9223372036854775808)))), (9, .long (w ^^^ (b &&& ((-9223372036854775808))))), (11, .int (nI j36)), (12, .int w0_60)] [] M85 := by
              intro M85 s85 E
              refine V.seg F floX7 cjoX7 [.iconst 1, .goto 4] (by decide +kernel) (pc2 := 90) (lv2 := [(0, .ref 52), (1, .long v), (3, .long b), (7, .long (v ^^^ ((-9223372036854775808)))), (9, .long (w ^^^ (b &&& ((-9223372036854775808))))), (11, .int (nI j36)), (12, .int w0_60)]) (st2 := [.int 1]) (M2 := M85) rfl ⟨trivial, (by decide), trivial⟩ ?_
              refine V.pick [0, 1, 2, 3, 4, 5, 6] rfl ?_
              exact hJ90 1 M85 s85 E
            refine V.lc_eq (off := 15) F (by decide +kernel) (tgt := 85) (by decide) (fun h70 => ?_) (fun h70 => ?_)
            · replace E := E.trans (if_pos h70)
              refine V.pick [1, 2, 3, 4, 5, 6, 0] rfl ?_
              exact hJ85 M60 s60 E
            · replace E := E.trans (if_neg h70)
              refine V.seg F floX7 cjoX7 [.lload 9, .iload 11, .lushr, .lconst 1, .land, .lconst 1, .lcmp] (by decide +kernel) (pc2 := 82) (lv2 := [(12, .int w0_60), (0, .ref 52), (1, .long v), (3, .long b), (7, .long (v ^^^ ((-9223372036854775808)))), (9, .long (w ^^^ (b &&& ((-9223372036854775808))))), (11, .int (nI j36))]) (st2 := [.int (lg_cmp ((jushr (w ^^^ (b &&& ((-9223372036854775808)))) (nI j36)) &&& 1) 1)]) (M2 := M60) rfl ⟨trivial, trivial, trivial, trivial, trivial, trivial, trivial, trivial⟩ ?_
              refine V.lc_ne (off := 7) F (by decide +kernel) (tgt := 89) (by decide) (fun h82 => ?_) (fun h82 => ?_)
              · replace E := E.trans (if_neg h82)
                refine V.seg F floX7 cjoX7 [.iconst 0] (by decide +kernel) (pc2 := 90) (lv2 := [(12, .int w0_60), (0, .ref 52), (1, .long v), (3, .long b), (7, .long (v ^^^ ((-9223372036854775808)))), (9, .long (w ^^^ (b &&& ((-9223372036854775808))))), (11, .int (nI j36))]) (st2 := [.int 0]) (M2 := M60) rfl ⟨trivial, trivial⟩ ?_
                refine V.pick [1, 2, 3, 4, 5, 6, 0] rfl ?_
                exact hJ90 0 M60 s60 E
              · replace E := E.trans (if_pos h82)
                refine V.pick [1, 2, 3, 4, 5, 6, 0] rfl ?_
                exact hJ85 M60 s60 E
          refine V.lc_ne (off := 7) F (by decide +kernel) (tgt := 59) (by decide) (fun h52 => ?_) (fun h52 => ?_)
          · replace E := E.trans (if_neg h52)
            refine V.seg F floX7 cjoX7 [.iconst 0] (by decide +kernel) (pc2 := 60) (lv2 := [(0, .ref 52), (1, .long v), (3, .long b), (7, .long (v ^^^ ((-9223372036854775808)))), (9, .long (w ^^^ (b &&& ((-9223372036854775808))))), (11, .int (nI j36))]) (st2 := [.int 0]) (M2 := M36) rfl ⟨trivial, trivial⟩ ?_
            refine V.pick [0, 1, 2, 3, 4, 5] rfl ?_
            exact hJ60 0 M36 s36 E
          · replace E := E.trans (if_pos h52)
            refine V.seg F floX7 cjoX7 [.iconst 1, .goto 4] (by decide +kernel) (pc2 := 60) (lv2 := [(0, .ref 52), (1, .long v), (3, .long b), (7, .long (v ^^^ ((-9223372036854775808)))), (9, .long (w ^^^ (b &&& ((-9223372036854775808))))), (11, .int (nI j36))]) (st2 := [.int 1]) (M2 := M36) rfl ⟨trivial, (by decide), trivial⟩ ?_
            refine V.pick [0, 1, 2, 3, 4, 5] rfl ?_
            exact hJ60 1 M36 s36 E
    refine V.pick [3, 4, 5, 2, 1, 0] rfl ?_
    exact hJ36 _ 0 (uI M 52 7 1) (SK.pI (SK.rf (w := wg) gb) rfl) (by omega) (by omega) E
  · replace E := E.trans (if_pos h11)
    refine V.seg F floX7 cjoX7 [.lload_n 1] (by decide +kernel) (pc2 := 15) (lv2 := [(0, .ref 52), (1, .long v), (3, .long b), (5, .long w)]) (st2 := [.long v]) (M2 := uI M 52 7 1) rfl ⟨trivial, trivial⟩ ?_
    exact V.lret F (by decide +kernel) ⟨congrArg (fun z => some (Value.long z.1)) E.symm, congrArg Prod.snd E.symm, (SK.pI (SK.rf (w := wg) gb) rfl)⟩
def f_X7_down_c18  (x18 : Int64) (M18 : Mem) : Int64 × Mem := (x18 ^^^ ((-1)), M18)
def f_X7_down (M : Mem) (v : Int64) (b : Int64) (w : Int64) : Int64 × Mem := f_X7_down_c18 ((f_X7_up M (v ^^^ ((-1))) b ((w ^^^ ((-1))) &&& b)).1) ((f_X7_up M (v ^^^ ((-1))) b ((w ^^^ ((-1))) &&& b)).2)
abbrev p_X7_down (M : Mem) (v : Int64) (b : Int64) (w : Int64) : Option Value → Mem → Prop := fun r N => r = some (.long (f_X7_down M v b w).1) ∧ N = (f_X7_down M v b w).2 ∧ SK wg M N
set_option maxRecDepth 100000 in
set_option maxHeartbeats 4000000 in
theorem c_X7_down (G : Ctx) (l : Launch) (M : Mem) (v : Int64) (b : Int64) (w : Int64) (q : Ok M) (gb : Gb M) : CT G l 1 mX7_down [.ref 52, .long v, .long b, .long w] M 0 0 (p_X7_down M v b w) := by
  refine CT.of (by decide) (Nat.le_of_ble_eq_true rfl) ?_
  intro X d hd hl hRm hnm F
  subst hl
  have E : f_X7_down M v b w = f_X7_down M v b w := rfl
  show V G X 7 0 0 (Qx G X 0 0 (p_X7_down M v b w)) 0 [(0, .ref 52), (1, .long v), (3, .long b), (5, .long w)] [] M
  refine V.seg F floX7 cjoX7 [.aload_n 0, .lload_n 1, .ldc2_w 87, .lxor, .lload_n 3, .lload 5, .ldc2_w 87, .lxor, .lload_n 3, .land] (by decide +kernel) (pc2 := 15) (lv2 := [(0, .ref 52), (1, .long v), (3, .long b), (5, .long w)]) (st2 := [.long ((w ^^^ ((-1))) &&& b), .long b, .long (v ^^^ ((-1))), .ref 52]) (M2 := M) rfl ⟨trivial, trivial, trivial, trivial, trivial, trivial, trivial, trivial, trivial, trivial, trivial⟩ ?_
  refine V.callV (as := [.long (v ^^^ ((-1))), .long b, .long ((w ^^^ ((-1))) &&& b)]) (rest := []) F (by decide +kernel) lX7_101 bX7_up ⟨7, _, (q.o 52 7 rfl), rfl, rfl⟩ (c_X7_up G X.2.1 M (v ^^^ ((-1))) b ((w ^^^ ((-1))) &&& b) q gb) (rm_ok hRm hd (by decide) (by decide)) ⟨Nat.zero_le _, Nat.zero_le _⟩ (Nat.le_of_ble_eq_true rfl) (fun r_ N_ p_ => ?_)
  obtain ⟨rfl, rfl, t15⟩ := p_
  refine (?_ : ∀ (x18 : Int64) (M18 : Mem), (SK wg M M18) → f_X7_down M v b w = f_X7_down_c18 x18 M18 → V G X 7 0 0 (Qx G X 0 0 (p_X7_down M v b w)) 18 [(0, .ref 52), (1, .long v), (3, .long b), (5, .long w)] [.long x18] M18) _ _ t15 E
  intro x18 M18 s18 E
  refine V.seg F floX7 cjoX7 [.ldc2_w 87, .lxor] (by decide +kernel) (pc2 := 22) (lv2 := [(0, .ref 52), (1, .long v), (3, .long b), (5, .long w)]) (st2 := [.long (x18 ^^^ ((-1)))]) (M2 := M18) rfl ⟨trivial, trivial, trivial⟩ ?_
  exact V.lret F (by decide +kernel) ⟨congrArg (fun z => some (Value.long z.1)) E.symm, congrArg Prod.snd E.symm, s18⟩
def f_X7_byBits_93  (w0_93 : Int32) (M93 : Mem) : Int32 × Mem := (w0_93, M93)
def f_X7_byBits_92  (M92 : Mem) : Int32 × Mem := f_X7_byBits_93 0 M92
def f_X7_byBits_c60 (f : Int32) (x27 : Int64) (M27 : Mem) (x60 : Int64) (M60 : Mem) : Int32 × Mem := if (mI (uL M27 54 (ix f) x27) 52 7) = 0 then f_X7_byBits_92 (uL M60 55 (ix f) x60) else if (mI (uL M60 55 (ix f) x60) 52 7) = 0 then f_X7_byBits_92 (uL M60 55 (ix f) x60) else if (mL (uL M60 55 (ix f) x60) 55 (ix f)) < (mL (uL M60 55 (ix f) x60) 54 (ix f)) then f_X7_byBits_92 (uL M60 55 (ix f) x60) else f_X7_byBits_93 1 (uL M60 55 (ix f) x60)
def f_X7_byBits_c27 (f : Int32) (x27 : Int64) (M27 : Mem) : Int32 × Mem := f_X7_byBits_c60 f x27 M27 ((f_X7_down (uL M27 54 (ix f) x27) (mL (uL M27 54 (ix f) x27) 55 (ix f)) (mL (uL M27 54 (ix f) x27) 56 (ix f)) (mL (uL M27 54 (ix f) x27) 57 (ix f))).1) ((f_X7_down (uL M27 54 (ix f) x27) (mL (uL M27 54 (ix f) x27) 55 (ix f)) (mL (uL M27 54 (ix f) x27) 56 (ix f)) (mL (uL M27 54 (ix f) x27) 57 (ix f))).2)
def f_X7_byBits (M : Mem) (f : Int32) : Int32 × Mem := f_X7_byBits_c27 f ((f_X7_up M (mL M 54 (ix f)) (mL M 56 (ix f)) (mL M 57 (ix f))).1) ((f_X7_up M (mL M 54 (ix f)) (mL M 56 (ix f)) (mL M 57 (ix f))).2)
abbrev p_X7_byBits (M : Mem) (f : Int32) : Option Value → Mem → Prop := fun r N => r = some (.int (f_X7_byBits M f).1) ∧ N = (f_X7_byBits M f).2 ∧ SK wg M N ∧ ((f_X7_byBits M f).1 = 0 ∨ (f_X7_byBits M f).1 = 1)
set_option maxRecDepth 100000 in
set_option maxHeartbeats 4000000 in
theorem c_X7_byBits (G : Ctx) (l : Launch) (M : Mem) (f : Int32) (q : Ok M) (gb : Gb M) (i_f : vp_in f 1648) : CT G l 2 mX7_byBits [.ref 52, .int f] M 0 0 (p_X7_byBits M f) := by
  refine CT.of (by decide) (Nat.le_of_ble_eq_true rfl) ?_
  intro X d hd hl hRm hnm F
  subst hl
  have E : f_X7_byBits M f = f_X7_byBits M f := rfl
  show V G X 3 0 0 (Qx G X 0 0 (p_X7_byBits M f)) 0 [(0, .ref 52), (1, .int f)] [] M
  refine V.seg F floX7 cjoX7 [.aload_n 0, .getfield 13, .iload_n 1, .aload_n 0, .aload_n 0, .getfield 13, .iload_n 1, .laload, .aload_n 0, .getfield 20, .iload_n 1, .laload, .aload_n 0, .getfield 23, .iload_n 1, .laload] (by decide +kernel) (pc2 := 24) (lv2 := [(0, .ref 52), (1, .int f)]) (st2 := [.long (mL M 57 (ix f)), .long (mL M 56 (ix f)), .long (mL M 54 (ix f)), .ref 52, .int f, .ref 54]) (M2 := M) rfl ⟨trivial, (q.f 52 7 1 rfl), trivial, trivial, trivial, (q.f 52 7 1 rfl), trivial, (q.a 54 22 1648 rfl (by first | assumption | exact vinc (by decide))), trivial, (q.f 52 7 3 rfl), trivial, (q.a 56 22 1648 rfl (by first | assumption | exact vinc (by decide))), trivial, (q.f 52 7 4 rfl), trivial, (q.a 57 22 1648 rfl (by first | assumption | exact vinc (by decide))), trivial⟩ ?_
  refine V.callV (as := [.long (mL M 54 (ix f)), .long (mL M 56 (ix f)), .long (mL M 57 (ix f))]) (rest := [.int f, .ref 54]) F (by decide +kernel) lX7_101 bX7_up ⟨7, _, (q.o 52 7 rfl), rfl, rfl⟩ (c_X7_up G X.2.1 M (mL M 54 (ix f)) (mL M 56 (ix f)) (mL M 57 (ix f)) q gb) (rm_ok hRm hd (by decide) (by decide)) ⟨Nat.zero_le _, Nat.zero_le _⟩ (Nat.le_of_ble_eq_true rfl) (fun r_ N_ p_ => ?_)
  obtain ⟨rfl, rfl, t24⟩ := p_
  refine (?_ : ∀ (x27 : Int64) (M27 : Mem), (SK wg M M27) → f_X7_byBits M f = f_X7_byBits_c27 f x27 M27 → V G X 3 0 0 (Qx G X 0 0 (p_X7_byBits M f)) 27 [(0, .ref 52), (1, .int f)] [.long x27, .int f, .ref 54] M27) _ _ t24 E
  intro x27 M27 s27 E
  refine V.seg F floX7 cjoX7 [.lastore, .aload_n 0, .getfield 97, .istore_n 2, .aload_n 0, .getfield 17, .iload_n 1, .aload_n 0, .aload_n 0, .getfield 17, .iload_n 1, .laload, .aload_n 0, .getfield 20, .iload_n 1, .laload, .aload_n 0, .getfield 23, .iload_n 1, .laload] (by decide +kernel) (pc2 := 57) (lv2 := [(2, .int (mI (uL M27 54 (ix f) x27) 52 7)), (0, .ref 52), (1, .int f)]) (st2 := [.long (mL (uL M27 54 (ix f) x27) 57 (ix f)), .long (mL (uL M27 54 (ix f) x27) 56 (ix f)), .long (mL (uL M27 54 (ix f) x27) 55 (ix f)), .ref 52, .int f, .ref 55]) (M2 := uL M27 54 (ix f) x27) rfl ⟨((q.sm s27.1).a 54 22 1648 rfl (by first | assumption | exact vinc (by decide))), trivial, ((q.sm (SK.pL s27 rfl (by decide)).1).o 52 7 rfl), (by decide), trivial, ((q.sm (SK.pL s27 rfl (by decide)).1).f 52 7 2 rfl), trivial, trivial, trivial, ((q.sm (SK.pL s27 rfl (by decide)).1).f 52 7 2 rfl), trivial, ((q.sm (SK.pL s27 rfl (by decide)).1).a 55 22 1648 rfl (by first | assumption | exact vinc (by decide))), trivial, ((q.sm (SK.pL s27 rfl (by decide)).1).f 52 7 3 rfl), trivial, ((q.sm (SK.pL s27 rfl (by decide)).1).a 56 22 1648 rfl (by first | assumption | exact vinc (by decide))), trivial, ((q.sm (SK.pL s27 rfl (by decide)).1).f 52 7 4 rfl), trivial, ((q.sm (SK.pL s27 rfl (by decide)).1).a 57 22 1648 rfl (by first | assumption | exact vinc (by decide))), trivial⟩ ?_
  refine V.callV (as := [.long (mL (uL M27 54 (ix f) x27) 55 (ix f)), .long (mL (uL M27 54 (ix f) x27) 56 (ix f)), .long (mL (uL M27 54 (ix f) x27) 57 (ix f))]) (rest := [.int f, .ref 55]) F (by decide +kernel) lX7_122 bX7_down ⟨7, _, ((q.sm (SK.pL s27 rfl (by decide)).1).o 52 7 rfl), rfl, rfl⟩ (c_X7_down G X.2.1 (uL M27 54 (ix f) x27) (mL (uL M27 54 (ix f) x27) 55 (ix f)) (mL (uL M27 54 (ix f) x27) 56 (ix f)) (mL (uL M27 54 (ix f) x27) 57 (ix f)) (q.sm (SK.pL s27 rfl (by decide)).1) (SK.pL s27 rfl (by decide)).2.1) (rm_ok hRm hd (by decide) (by decide)) ⟨Nat.zero_le _, Nat.zero_le _⟩ (Nat.le_of_ble_eq_true rfl) (fun r_ N_ p_ => ?_)
  obtain ⟨rfl, rfl, t57⟩ := p_
  refine (?_ : ∀ (x60 : Int64) (M60 : Mem), (SK wg M M60) → f_X7_byBits M f = f_X7_byBits_c60 f x27 M27 x60 M60 → V G X 3 0 0 (Qx G X 0 0 (p_X7_byBits M f)) 60 [(2, .int (mI (uL M27 54 (ix f) x27) 52 7)), (0, .ref 52), (1, .int f)] [.long x60, .int f, .ref 55] M60) _ _ (SK.tr (SK.pL s27 rfl (by decide)) t57) E
  intro x60 M60 s60 E
  refine V.seg F floX7 cjoX7 [.lastore, .iload_n 2] (by decide +kernel) (pc2 := 62) (lv2 := [(2, .int (mI (uL M27 54 (ix f) x27) 52 7)), (0, .ref 52), (1, .int f)]) (st2 := [.int (mI (uL M27 54 (ix f) x27) 52 7)]) (M2 := uL M60 55 (ix f) x60) rfl ⟨((q.sm s60.1).a 55 22 1648 rfl (by first | assumption | exact vinc (by decide))), trivial, trivial⟩ ?_
  have hJ93 : ∀ (w0_93 : Int32) (M93 : Mem), (SK wg M M93) → (w0_93 = 0 ∨ w0_93 = 1) → f_X7_byBits M f = f_X7_byBits_93 w0_93 M93 → V G X 3 0 0 (Qx G X 0 0 (p_X7_byBits M f)) 93 [] [.int w0_93] M93 := by
    intro w0_93 M93 s93 zw0_93 E
    exact V.zret F (zw0_93) (by decide +kernel) ⟨congrArg (fun z => some (Value.int z.1)) E.symm, congrArg Prod.snd E.symm, s93, by rw [E]; exact zw0_93⟩
  have hJ92 : ∀ (M92 : Mem), (SK wg M M92) → f_X7_byBits M f = f_X7_byBits_92 M92 → V G X 3 0 0 (Qx G X 0 0 (p_X7_byBits M f)) 92 [] [] M92 := by
    intro M92 s92 E
    refine V.seg F floX7 cjoX7 [.iconst 0] (by decide +kernel) (pc2 := 93) (lv2 := []) (st2 := [.int 0]) (M2 := M92) rfl ⟨trivial, trivial⟩ ?_
    refine V.pick [] rfl ?_
    exact hJ93 0 M92 s92 (Or.inl rfl) E
  refine V.if_eq (off := 30) F (by decide +kernel) (tgt := 92) (by decide) (fun h62 => ?_) (fun h62 => ?_)
  · replace E := E.trans (if_pos h62)
    refine V.pick [] rfl ?_
    exact hJ92 (uL M60 55 (ix f) x60) (SK.pL s60 rfl (by decide)) E
  · replace E := E.trans (if_neg h62)
    refine V.seg F floX7 cjoX7 [.aload_n 0, .getfield 97] (by decide +kernel) (pc2 := 69) (lv2 := [(2, .int (mI (uL M27 54 (ix f) x27) 52 7)), (0, .ref 52), (1, .int f)]) (st2 := [.int (mI (uL M60 55 (ix f) x60) 52 7)]) (M2 := uL M60 55 (ix f) x60) rfl ⟨trivial, ((q.sm (SK.pL s60 rfl (by decide)).1).o 52 7 rfl), trivial⟩ ?_
    refine V.if_eq (off := 23) F (by decide +kernel) (tgt := 92) (by decide) (fun h69 => ?_) (fun h69 => ?_)
    · replace E := E.trans (if_pos h69)
      refine V.pick [] rfl ?_
      exact hJ92 (uL M60 55 (ix f) x60) (SK.pL s60 rfl (by decide)) E
    · replace E := E.trans (if_neg h69)
      refine V.seg F floX7 cjoX7 [.aload_n 0, .getfield 13, .iload_n 1, .laload, .aload_n 0, .getfield 17, .iload_n 1, .laload, .lcmp] (by decide +kernel) (pc2 := 85) (lv2 := [(2, .int (mI (uL M27 54 (ix f) x27) 52 7)), (0, .ref 52), (1, .int f)]) (st2 := [.int (lg_cmp (mL (uL M60 55 (ix f) x60) 54 (ix f)) (mL (uL M60 55 (ix f) x60) 55 (ix f)))]) (M2 := uL M60 55 (ix f) x60) rfl ⟨trivial, ((q.sm (SK.pL s60 rfl (by decide)).1).f 52 7 1 rfl), trivial, ((q.sm (SK.pL s60 rfl (by decide)).1).a 54 22 1648 rfl (by first | assumption | exact vinc (by decide))), trivial, ((q.sm (SK.pL s60 rfl (by decide)).1).f 52 7 2 rfl), trivial, ((q.sm (SK.pL s60 rfl (by decide)).1).a 55 22 1648 rfl (by first | assumption | exact vinc (by decide))), trivial, trivial⟩ ?_
      refine V.lc_gt (off := 7) F (by decide +kernel) (tgt := 92) (by decide) (fun h85 => ?_) (fun h85 => ?_)
      · replace E := E.trans (if_pos h85)
        refine V.pick [] rfl ?_
        exact hJ92 (uL M60 55 (ix f) x60) (SK.pL s60 rfl (by decide)) E
      · replace E := E.trans (if_neg h85)
        refine V.seg F floX7 cjoX7 [.iconst 1, .goto 4] (by decide +kernel) (pc2 := 93) (lv2 := [(2, .int (mI (uL M27 54 (ix f) x27) 52 7)), (0, .ref 52), (1, .int f)]) (st2 := [.int 1]) (M2 := uL M60 55 (ix f) x60) rfl ⟨trivial, (by decide), trivial⟩ ?_
        refine V.pick [] rfl ?_
        exact hJ93 1 (uL M60 55 (ix f) x60) (SK.pL s60 rfl (by decide)) (Or.inr rfl) E
def f_X7_byRest_85  (M85 : Mem) : Int32 × Mem := (0, M85)
def f_X7_byRest_130  (w0_130 : Int32) (M130 : Mem) : Int32 × Mem := (w0_130, M130)
def f_X7_byRest_c53 (f : Int32) (M : Mem) (x30 : Int64) (x53 : Int64) : Int32 × Mem := if (9223372036854775807 - x30) < (mL M 54 (ix f)) then f_X7_byRest_85 M else if (((-9223372036854775808)) + x53) ≤ (mL M 55 (ix f)) then if (mL (uL (uL M 54 (ix f) ((mL M 54 (ix f)) + x30)) 55 (ix f) ((mL (uL M 54 (ix f) ((mL M 54 (ix f)) + x30)) 55 (ix f)) - x53)) 55 (ix f)) < (mL (uL (uL M 54 (ix f) ((mL M 54 (ix f)) + x30)) 55 (ix f) ((mL (uL M 54 (ix f) ((mL M 54 (ix f)) + x30)) 55 (ix f)) - x53)) 54 (ix f)) then f_X7_byRest_130 0 (uL (uL M 54 (ix f) ((mL M 54 (ix f)) + x30)) 55 (ix f) ((mL (uL M 54 (ix f) ((mL M 54 (ix f)) + x30)) 55 (ix f)) - x53)) else f_X7_byRest_130 1 (uL (uL M 54 (ix f) ((mL M 54 (ix f)) + x30)) 55 (ix f) ((mL (uL M 54 (ix f) ((mL M 54 (ix f)) + x30)) 55 (ix f)) - x53)) else f_X7_byRest_85 M
def f_X7_byRest_c30 (f : Int32) (M : Mem) (x30 : Int64) : Int32 × Mem := f_X7_byRest_c53 f M x30 (f_X7_rem ((f_X7_rem (mL M 55 (ix f)) (mL M 58 (ix f))) - (mL M 59 (ix f))) (mL M 58 (ix f)))
def f_X7_byRest (M : Mem) (f : Int32) : Int32 × Mem := f_X7_byRest_c30 f M (f_X7_rem ((mL M 59 (ix f)) - (f_X7_rem (mL M 54 (ix f)) (mL M 58 (ix f)))) (mL M 58 (ix f)))
abbrev p_X7_byRest (M : Mem) (f : Int32) : Option Value → Mem → Prop := fun r N => r = some (.int (f_X7_byRest M f).1) ∧ N = (f_X7_byRest M f).2 ∧ SK wg M N ∧ ((f_X7_byRest M f).1 = 0 ∨ (f_X7_byRest M f).1 = 1)
set_option maxRecDepth 100000 in
set_option maxHeartbeats 4000000 in
theorem c_X7_byRest (G : Ctx) (l : Launch) (M : Mem) (f : Int32) (q : Ok M) (gb : Gb M) (i_f : vp_in f 1648) : CT G l 1 mX7_byRest [.ref 52, .int f] M 0 0 (p_X7_byRest M f) := by
  refine CT.of (by decide) (Nat.le_of_ble_eq_true rfl) ?_
  intro X d hd hl hRm hnm F
  subst hl
  have E : f_X7_byRest M f = f_X7_byRest M f := rfl
  show V G X 8 0 0 (Qx G X 0 0 (p_X7_byRest M f)) 0 [(0, .ref 52), (1, .int f)] [] M
  refine V.seg F floX7 cjoX7 [.aload_n 0, .getfield 26, .iload_n 1, .laload, .lstore_n 2, .aload_n 0, .getfield 29, .iload_n 1, .laload, .aload_n 0, .getfield 13, .iload_n 1, .laload, .lload_n 2] (by decide +kernel) (pc2 := 20) (lv2 := [(2, .long (mL M 58 (ix f))), (0, .ref 52), (1, .int f)]) (st2 := [.long (mL M 58 (ix f)), .long (mL M 54 (ix f)), .long (mL M 59 (ix f))]) (M2 := M) rfl ⟨trivial, (q.f 52 7 5 rfl), trivial, (q.a 58 22 1648 rfl (by first | assumption | exact vinc (by decide))), (by decide), trivial, (q.f 52 7 6 rfl), trivial, (q.a 59 22 1648 rfl (by first | assumption | exact vinc (by decide))), trivial, (q.f 52 7 1 rfl), trivial, (q.a 54 22 1648 rfl (by first | assumption | exact vinc (by decide))), trivial, trivial⟩ ?_
  refine V.callS (as := [.long (mL M 54 (ix f)), .long (mL M 58 (ix f))]) (rest := [.long (mL M 59 (ix f))]) F (by decide +kernel) lX7_93 bX7_rem (c_X7_rem G X.2.1 M (mL M 54 (ix f)) (mL M 58 (ix f)) (gb _ (vin_lt (by first | assumption | exact vinc (by decide))))) (rm_ok hRm hd (by decide) (by decide)) ⟨Nat.zero_le _, Nat.zero_le _⟩ (Nat.le_of_ble_eq_true rfl) (fun r_ N_ p_ => ?_)
  obtain ⟨rfl, hN_⟩ := p_
  rw [hN_]
  clear hN_
  refine V.seg F floX7 cjoX7 [.lsub, .lload_n 2] (by decide +kernel) (pc2 := 25) (lv2 := [(2, .long (mL M 58 (ix f))), (0, .ref 52), (1, .int f)]) (st2 := [.long (mL M 58 (ix f)), .long ((mL M 59 (ix f)) - (f_X7_rem (mL M 54 (ix f)) (mL M 58 (ix f))))]) (M2 := M) rfl ⟨trivial, trivial, trivial⟩ ?_
  refine V.callS (as := [.long ((mL M 59 (ix f)) - (f_X7_rem (mL M 54 (ix f)) (mL M 58 (ix f)))), .long (mL M 58 (ix f))]) (rest := []) F (by decide +kernel) lX7_93 bX7_rem (c_X7_rem G X.2.1 M ((mL M 59 (ix f)) - (f_X7_rem (mL M 54 (ix f)) (mL M 58 (ix f)))) (mL M 58 (ix f)) (gb _ (vin_lt (by first | assumption | exact vinc (by decide))))) (rm_ok hRm hd (by decide) (by decide)) ⟨Nat.zero_le _, Nat.zero_le _⟩ (Nat.le_of_ble_eq_true rfl) (fun r_ N_ p_ => ?_)
  obtain ⟨rfl, hN_⟩ := p_
  rw [hN_]
  clear hN_
  refine V.seg F floX7 cjoX7 [.lstore 4] (by decide +kernel) (pc2 := 30) (lv2 := [(4, .long (f_X7_rem ((mL M 59 (ix f)) - (f_X7_rem (mL M 54 (ix f)) (mL M 58 (ix f)))) (mL M 58 (ix f)))), (2, .long (mL M 58 (ix f))), (0, .ref 52), (1, .int f)]) (st2 := []) (M2 := M) rfl ⟨(by decide), trivial⟩ ?_
  refine (?_ : ∀ (x30 : Int64), f_X7_byRest M f = f_X7_byRest_c30 f M x30 → V G X 8 0 0 (Qx G X 0 0 (p_X7_byRest M f)) 30 [(4, .long x30), (2, .long (mL M 58 (ix f))), (0, .ref 52), (1, .int f)] [] M) _  E
  intro x30 E
  refine V.seg F floX7 cjoX7 [.aload_n 0, .getfield 17, .iload_n 1, .laload, .lload_n 2] (by decide +kernel) (pc2 := 37) (lv2 := [(4, .long x30), (2, .long (mL M 58 (ix f))), (0, .ref 52), (1, .int f)]) (st2 := [.long (mL M 58 (ix f)), .long (mL M 55 (ix f))]) (M2 := M) rfl ⟨trivial, (q.f 52 7 2 rfl), trivial, (q.a 55 22 1648 rfl (by first | assumption | exact vinc (by decide))), trivial, trivial⟩ ?_
  refine V.callS (as := [.long (mL M 55 (ix f)), .long (mL M 58 (ix f))]) (rest := []) F (by decide +kernel) lX7_93 bX7_rem (c_X7_rem G X.2.1 M (mL M 55 (ix f)) (mL M 58 (ix f)) (gb _ (vin_lt (by first | assumption | exact vinc (by decide))))) (rm_ok hRm hd (by decide) (by decide)) ⟨Nat.zero_le _, Nat.zero_le _⟩ (Nat.le_of_ble_eq_true rfl) (fun r_ N_ p_ => ?_)
  obtain ⟨rfl, hN_⟩ := p_
  rw [hN_]
  clear hN_
  refine V.seg F floX7 cjoX7 [.aload_n 0, .getfield 29, .iload_n 1, .laload, .lsub, .lload_n 2] (by decide +kernel) (pc2 := 48) (lv2 := [(4, .long x30), (2, .long (mL M 58 (ix f))), (0, .ref 52), (1, .int f)]) (st2 := [.long (mL M 58 (ix f)), .long ((f_X7_rem (mL M 55 (ix f)) (mL M 58 (ix f))) - (mL M 59 (ix f)))]) (M2 := M) rfl ⟨trivial, (q.f 52 7 6 rfl), trivial, (q.a 59 22 1648 rfl (by first | assumption | exact vinc (by decide))), trivial, trivial, trivial⟩ ?_
  refine V.callS (as := [.long ((f_X7_rem (mL M 55 (ix f)) (mL M 58 (ix f))) - (mL M 59 (ix f))), .long (mL M 58 (ix f))]) (rest := []) F (by decide +kernel) lX7_93 bX7_rem (c_X7_rem G X.2.1 M ((f_X7_rem (mL M 55 (ix f)) (mL M 58 (ix f))) - (mL M 59 (ix f))) (mL M 58 (ix f)) (gb _ (vin_lt (by first | assumption | exact vinc (by decide))))) (rm_ok hRm hd (by decide) (by decide)) ⟨Nat.zero_le _, Nat.zero_le _⟩ (Nat.le_of_ble_eq_true rfl) (fun r_ N_ p_ => ?_)
  obtain ⟨rfl, hN_⟩ := p_
  rw [hN_]
  clear hN_
  refine V.seg F floX7 cjoX7 [.lstore 6] (by decide +kernel) (pc2 := 53) (lv2 := [(6, .long (f_X7_rem ((f_X7_rem (mL M 55 (ix f)) (mL M 58 (ix f))) - (mL M 59 (ix f))) (mL M 58 (ix f)))), (4, .long x30), (2, .long (mL M 58 (ix f))), (0, .ref 52), (1, .int f)]) (st2 := []) (M2 := M) rfl ⟨(by decide), trivial⟩ ?_
  refine (?_ : ∀ (x53 : Int64), f_X7_byRest M f = f_X7_byRest_c53 f M x30 x53 → V G X 8 0 0 (Qx G X 0 0 (p_X7_byRest M f)) 53 [(6, .long x53), (4, .long x30), (2, .long (mL M 58 (ix f))), (0, .ref 52), (1, .int f)] [] M) _  E
  intro x53 E
  refine V.seg F floX7 cjoX7 [.aload_n 0, .getfield 13, .iload_n 1, .laload, .ldc2_w 85, .lload 4, .lsub, .lcmp] (by decide +kernel) (pc2 := 66) (lv2 := [(6, .long x53), (4, .long x30), (2, .long (mL M 58 (ix f))), (0, .ref 52), (1, .int f)]) (st2 := [.int (lg_cmp (mL M 54 (ix f)) (9223372036854775807 - x30))]) (M2 := M) rfl ⟨trivial, (q.f 52 7 1 rfl), trivial, (q.a 54 22 1648 rfl (by first | assumption | exact vinc (by decide))), trivial, trivial, trivial, trivial, trivial⟩ ?_
  have hJ85 : ∀ (M85 : Mem), (SK wg M M85) → f_X7_byRest M f = f_X7_byRest_85 M85 → V G X 8 0 0 (Qx G X 0 0 (p_X7_byRest M f)) 85 [] [] M85 := by
    intro M85 s85 E
    refine V.seg F floX7 cjoX7 [.iconst 0] (by decide +kernel) (pc2 := 86) (lv2 := []) (st2 := [.int 0]) (M2 := M85) rfl ⟨trivial, trivial⟩ ?_
    exact V.zret F (Or.inl rfl) (by decide +kernel) ⟨congrArg (fun z => some (Value.int z.1)) E.symm, congrArg Prod.snd E.symm, s85, by rw [E]; exact Or.inl rfl⟩
  refine V.lc_gt (off := 19) F (by decide +kernel) (tgt := 85) (by decide) (fun h66 => ?_) (fun h66 => ?_)
  · replace E := E.trans (if_pos h66)
    refine V.pick [] rfl ?_
    exact hJ85 M (SK.rf (w := wg) gb) E
  · replace E := E.trans (if_neg h66)
    refine V.seg F floX7 cjoX7 [.aload_n 0, .getfield 17, .iload_n 1, .laload, .ldc2_w 83, .lload 6, .ladd, .lcmp] (by decide +kernel) (pc2 := 82) (lv2 := [(6, .long x53), (4, .long x30), (2, .long (mL M 58 (ix f))), (0, .ref 52), (1, .int f)]) (st2 := [.int (lg_cmp (mL M 55 (ix f)) (((-9223372036854775808)) + x53))]) (M2 := M) rfl ⟨trivial, (q.f 52 7 2 rfl), trivial, (q.a 55 22 1648 rfl (by first | assumption | exact vinc (by decide))), trivial, trivial, trivial, trivial, trivial⟩ ?_
    refine V.lc_ge (off := 5) F (by decide +kernel) (tgt := 87) (by decide) (fun h82 => ?_) (fun h82 => ?_)
    · replace E := E.trans (if_pos h82)
      refine V.seg F floX7 cjoX7 [.aload_n 0, .getfield 13, .iload_n 1, .dup2, .laload, .lload 4, .ladd, .lastore, .aload_n 0, .getfield 17, .iload_n 1, .dup2, .laload, .lload 6, .lsub, .lastore, .aload_n 0, .getfield 13, .iload_n 1, .laload, .aload_n 0, .getfield 17, .iload_n 1, .laload, .lcmp] (by decide +kernel) (pc2 := 122) (lv2 := [(6, .long x53), (4, .long x30), (2, .long (mL M 58 (ix f))), (0, .ref 52), (1, .int f)]) (st2 := [.int (lg_cmp (mL (uL (uL M 54 (ix f) ((mL M 54 (ix f)) + x30)) 55 (ix f) ((mL (uL M 54 (ix f) ((mL M 54 (ix f)) + x30)) 55 (ix f)) - x53)) 54 (ix f)) (mL (uL (uL M 54 (ix f) ((mL M 54 (ix f)) + x30)) 55 (ix f) ((mL (uL M 54 (ix f) ((mL M 54 (ix f)) + x30)) 55 (ix f)) - x53)) 55 (ix f)))]) (M2 := uL (uL M 54 (ix f) ((mL M 54 (ix f)) + x30)) 55 (ix f) ((mL (uL M 54 (ix f) ((mL M 54 (ix f)) + x30)) 55 (ix f)) - x53)) rfl ⟨trivial, (q.f 52 7 1 rfl), trivial, trivial, (q.a 54 22 1648 rfl (by first | assumption | exact vinc (by decide))), trivial, trivial, (q.a 54 22 1648 rfl (by first | assumption | exact vinc (by decide))), trivial, ((q.sm (SK.pL (SK.rf (w := wg) gb) rfl (by decide)).1).f 52 7 2 rfl), trivial, trivial, ((q.sm (SK.pL (SK.rf (w := wg) gb) rfl (by decide)).1).a 55 22 1648 rfl (by first | assumption | exact vinc (by decide))), trivial, trivial, ((q.sm (SK.pL (SK.rf (w := wg) gb) rfl (by decide)).1).a 55 22 1648 rfl (by first | assumption | exact vinc (by decide))), trivial, ((q.sm (SK.pL (SK.pL (SK.rf (w := wg) gb) rfl (by decide)) rfl (by decide)).1).f 52 7 1 rfl), trivial, ((q.sm (SK.pL (SK.pL (SK.rf (w := wg) gb) rfl (by decide)) rfl (by decide)).1).a 54 22 1648 rfl (by first | assumption | exact vinc (by decide))), trivial, ((q.sm (SK.pL (SK.pL (SK.rf (w := wg) gb) rfl (by decide)) rfl (by decide)).1).f 52 7 2 rfl), trivial, ((q.sm (SK.pL (SK.pL (SK.rf (w := wg) gb) rfl (by decide)) rfl (by decide)).1).a 55 22 1648 rfl (by first | assumption | exact vinc (by decide))), trivial, trivial⟩ ?_
      have hJ130 : ∀ (w0_130 : Int32) (M130 : Mem), (SK wg M M130) → (w0_130 = 0 ∨ w0_130 = 1) → f_X7_byRest M f = f_X7_byRest_130 w0_130 M130 → V G X 8 0 0 (Qx G X 0 0 (p_X7_byRest M f)) 130 [] [.int w0_130] M130 := by
        intro w0_130 M130 s130 zw0_130 E
        exact V.zret F (zw0_130) (by decide +kernel) ⟨congrArg (fun z => some (Value.int z.1)) E.symm, congrArg Prod.snd E.symm, s130, by rw [E]; exact zw0_130⟩
      refine V.lc_gt (off := 7) F (by decide +kernel) (tgt := 129) (by decide) (fun h122 => ?_) (fun h122 => ?_)
      · replace E := E.trans (if_pos h122)
        refine V.seg F floX7 cjoX7 [.iconst 0] (by decide +kernel) (pc2 := 130) (lv2 := [(6, .long x53), (4, .long x30), (2, .long (mL M 58 (ix f))), (0, .ref 52), (1, .int f)]) (st2 := [.int 0]) (M2 := uL (uL M 54 (ix f) ((mL M 54 (ix f)) + x30)) 55 (ix f) ((mL (uL M 54 (ix f) ((mL M 54 (ix f)) + x30)) 55 (ix f)) - x53)) rfl ⟨trivial, trivial⟩ ?_
        refine V.pick [] rfl ?_
        exact hJ130 0 (uL (uL M 54 (ix f) ((mL M 54 (ix f)) + x30)) 55 (ix f) ((mL (uL M 54 (ix f) ((mL M 54 (ix f)) + x30)) 55 (ix f)) - x53)) (SK.pL (SK.pL (SK.rf (w := wg) gb) rfl (by decide)) rfl (by decide)) (Or.inl rfl) E
      · replace E := E.trans (if_neg h122)
        refine V.seg F floX7 cjoX7 [.iconst 1, .goto 4] (by decide +kernel) (pc2 := 130) (lv2 := [(6, .long x53), (4, .long x30), (2, .long (mL M 58 (ix f))), (0, .ref 52), (1, .int f)]) (st2 := [.int 1]) (M2 := uL (uL M 54 (ix f) ((mL M 54 (ix f)) + x30)) 55 (ix f) ((mL (uL M 54 (ix f) ((mL M 54 (ix f)) + x30)) 55 (ix f)) - x53)) rfl ⟨trivial, (by decide), trivial⟩ ?_
        refine V.pick [] rfl ?_
        exact hJ130 1 (uL (uL M 54 (ix f) ((mL M 54 (ix f)) + x30)) 55 (ix f) ((mL (uL M 54 (ix f) ((mL M 54 (ix f)) + x30)) 55 (ix f)) - x53)) (SK.pL (SK.pL (SK.rf (w := wg) gb) rfl (by decide)) rfl (by decide)) (Or.inr rfl) E
    · replace E := E.trans (if_neg h82)
      refine V.pick [] rfl ?_
      exact hJ85 M (SK.rf (w := wg) gb) E
def f_X7_byEnds_c116  (M116 : Mem) : Int32 × Mem := (1, M116)
def f_X7_byEnds_50 (f : Int32) (y2_6 : Int64) (M50 : Mem) : Int32 × Mem := if (((mL M50 56 (ix f)) &&& y2_6) &&& ((mL M50 57 (ix f)) ^^^ (mL M50 54 (ix f)))) = 0 then f_X7_byEnds_c116 (uL (uL M50 56 (ix f) ((mL M50 56 (ix f)) ||| y2_6)) 57 (ix f) (((mL (uL M50 56 (ix f) ((mL M50 56 (ix f)) ||| y2_6)) 57 (ix f)) &&& (y2_6 ^^^ ((-1)))) ||| ((mL (uL M50 56 (ix f) ((mL M50 56 (ix f)) ||| y2_6)) 54 (ix f)) &&& y2_6))) else (0, M50)
def f_X7_byEnds_6 (f : Int32) : Nat → Int64 → Nat → Mem → (Int32 × Mem)
  | 0, _, _, M6 => (0, M6)
  | n_ + 1, y2_6, j6, M6 => if (nI j6 - 1) < 0 then f_X7_byEnds_50 f y2_6 M6 else if ((jushr (mL M6 54 (ix f)) (nI j6 - 1)) &&& 1) = ((jushr (mL M6 55 (ix f)) (nI j6 - 1)) &&& 1) then (f_X7_byEnds_6 f n_) (y2_6 ||| (jshl 1 (nI j6 - 1))) (j6 - 1) M6 else f_X7_byEnds_50 f y2_6 M6
def f_X7_byEnds (M : Mem) (f : Int32) : Int32 × Mem := f_X7_byEnds_6 f 65 0 64 M
abbrev p_X7_byEnds (M : Mem) (f : Int32) : Option Value → Mem → Prop := fun r N => r = some (.int (f_X7_byEnds M f).1) ∧ N = (f_X7_byEnds M f).2 ∧ SK wg M N ∧ ((f_X7_byEnds M f).1 = 0 ∨ (f_X7_byEnds M f).1 = 1)
set_option maxRecDepth 100000 in
set_option maxHeartbeats 4000000 in
theorem c_X7_byEnds (G : Ctx) (l : Launch) (M : Mem) (f : Int32) (q : Ok M) (gb : Gb M) (i_f : vp_in f 1648) : CT G l 0 mX7_byEnds [.ref 52, .int f] M 0 0 (p_X7_byEnds M f) := by
  refine CT.of (by decide) (Nat.le_of_ble_eq_true rfl) ?_
  intro X d hd hl hRm hnm F
  subst hl
  have E : f_X7_byEnds M f = f_X7_byEnds M f := rfl
  show V G X 5 0 0 (Qx G X 0 0 (p_X7_byEnds M f)) 0 [(0, .ref 52), (1, .int f)] [] M
  refine V.seg F floX7 cjoX7 [.lconst 0, .lstore_n 2, .bipush 63] (by decide +kernel) (pc2 := 4) (lv2 := [(2, .long 0), (0, .ref 52), (1, .int f)]) (st2 := [.int 63]) (M2 := M) rfl ⟨trivial, (by decide), trivial, trivial⟩ ?_
  refine V.seg F floX7 cjoX7 [.istore 4] (by decide +kernel) (pc2 := 6) (lv2 := [(4, .int 63), (2, .long 0), (0, .ref 52), (1, .int f)]) (st2 := []) (M2 := M) rfl ⟨(by decide), trivial⟩ ?_
  have hJ6 : ∀ (n_ : Nat) (y2_6 : Int64) (j6 : Nat) (M6 : Mem), (SK wg M M6) → (j6 ≤ 64) → (j6 < n_) → f_X7_byEnds M f = f_X7_byEnds_6 f n_ y2_6 j6 M6 → V G X 5 0 0 (Qx G X 0 0 (p_X7_byEnds M f)) 6 [(0, .ref 52), (1, .int f), (2, .long y2_6), (4, .int (nI j6 - 1))] [] M6 := by
    intro n_
    induction n_ with
    | zero => intro y2_6 j6 M6 s6 b6 m6 E; omega
    | succ n_ ih_6 =>
      intro y2_6 j6 M6 s6 b6 m6 E
      rw [f_X7_byEnds_6] at E
      refine V.seg F floX7 cjoX7 [.iload 4] (by decide +kernel) (pc2 := 8) (lv2 := [(0, .ref 52), (1, .int f), (2, .long y2_6), (4, .int (nI j6 - 1))]) (st2 := [.int (nI j6 - 1)]) (M2 := M6) rfl ⟨trivial, trivial⟩ ?_
      have hJ50 : ∀ (M50 : Mem), (SK wg M M50) → f_X7_byEnds M f = f_X7_byEnds_50 f y2_6 M50 → V G X 5 0 0 (Qx G X 0 0 (p_X7_byEnds M f)) 50 [(0, .ref 52), (1, .int f), (2, .long y2_6)] [] M50 := by
        intro M50 s50 E
        refine V.seg F floX7 cjoX7 [.aload_n 0, .getfield 20, .iload_n 1, .laload, .lload_n 2, .land, .aload_n 0, .getfield 23, .iload_n 1, .laload, .aload_n 0, .getfield 13, .iload_n 1, .laload, .lxor, .land, .lconst 0, .lcmp] (by decide +kernel) (pc2 := 74) (lv2 := [(0, .ref 52), (1, .int f), (2, .long y2_6)]) (st2 := [.int (lg_cmp (((mL M50 56 (ix f)) &&& y2_6) &&& ((mL M50 57 (ix f)) ^^^ (mL M50 54 (ix f)))) 0)]) (M2 := M50) rfl ⟨trivial, ((q.sm s50.1).f 52 7 3 rfl), trivial, ((q.sm s50.1).a 56 22 1648 rfl (by first | assumption | exact vinc (by decide))), trivial, trivial, trivial, ((q.sm s50.1).f 52 7 4 rfl), trivial, ((q.sm s50.1).a 57 22 1648 rfl (by first | assumption | exact vinc (by decide))), trivial, ((q.sm s50.1).f 52 7 1 rfl), trivial, ((q.sm s50.1).a 54 22 1648 rfl (by first | assumption | exact vinc (by decide))), trivial, trivial, trivial, trivial, trivial⟩ ?_
        refine V.lc_eq (off := 5) F (by decide +kernel) (tgt := 79) (by decide) (fun h74 => ?_) (fun h74 => ?_)
        · replace E := E.trans (if_pos h74)
          refine V.seg F floX7 cjoX7 [.aload_n 0, .getfield 20, .iload_n 1, .dup2, .laload, .lload_n 2, .lor, .lastore, .aload_n 0, .getfield 23, .iload_n 1, .aload_n 0, .getfield 23, .iload_n 1, .laload, .lload_n 2, .ldc2_w 87, .lxor, .land, .aload_n 0, .getfield 13, .iload_n 1, .laload, .lload_n 2, .land, .lor, .lastore] (by decide +kernel) (pc2 := 116) (lv2 := [(0, .ref 52), (1, .int f), (2, .long y2_6)]) (st2 := []) (M2 := uL (uL M50 56 (ix f) ((mL M50 56 (ix f)) ||| y2_6)) 57 (ix f) (((mL (uL M50 56 (ix f) ((mL M50 56 (ix f)) ||| y2_6)) 57 (ix f)) &&& (y2_6 ^^^ ((-1)))) ||| ((mL (uL M50 56 (ix f) ((mL M50 56 (ix f)) ||| y2_6)) 54 (ix f)) &&& y2_6))) rfl ⟨trivial, ((q.sm s50.1).f 52 7 3 rfl), trivial, trivial, ((q.sm s50.1).a 56 22 1648 rfl (by first | assumption | exact vinc (by decide))), trivial, trivial, ((q.sm s50.1).a 56 22 1648 rfl (by first | assumption | exact vinc (by decide))), trivial, ((q.sm (SK.pL s50 rfl (by decide)).1).f 52 7 4 rfl), trivial, trivial, ((q.sm (SK.pL s50 rfl (by decide)).1).f 52 7 4 rfl), trivial, ((q.sm (SK.pL s50 rfl (by decide)).1).a 57 22 1648 rfl (by first | assumption | exact vinc (by decide))), trivial, trivial, trivial, trivial, trivial, ((q.sm (SK.pL s50 rfl (by decide)).1).f 52 7 1 rfl), trivial, ((q.sm (SK.pL s50 rfl (by decide)).1).a 54 22 1648 rfl (by first | assumption | exact vinc (by decide))), trivial, trivial, trivial, ((q.sm (SK.pL s50 rfl (by decide)).1).a 57 22 1648 rfl (by first | assumption | exact vinc (by decide))), trivial⟩ ?_
          refine (?_ : ∀ (M116 : Mem), (SK wg M M116) → f_X7_byEnds M f = f_X7_byEnds_c116 M116 → V G X 5 0 0 (Qx G X 0 0 (p_X7_byEnds M f)) 116 [(0, .ref 52), (1, .int f), (2, .long y2_6)] [] M116) _ (SK.pL (SK.pL s50 rfl (by decide)) rfl (by decide)) E
          intro M116 s116 E
          refine V.seg F floX7 cjoX7 [.iconst 1] (by decide +kernel) (pc2 := 117) (lv2 := [(0, .ref 52), (1, .int f), (2, .long y2_6)]) (st2 := [.int 1]) (M2 := M116) rfl ⟨trivial, trivial⟩ ?_
          exact V.zret F (Or.inr rfl) (by decide +kernel) ⟨congrArg (fun z => some (Value.int z.1)) E.symm, congrArg Prod.snd E.symm, s116, by rw [E]; exact Or.inr rfl⟩
        · replace E := E.trans (if_neg h74)
          refine V.seg F floX7 cjoX7 [.iconst 0] (by decide +kernel) (pc2 := 78) (lv2 := [(0, .ref 52), (1, .int f), (2, .long y2_6)]) (st2 := [.int 0]) (M2 := M50) rfl ⟨trivial, trivial⟩ ?_
          exact V.zret F (Or.inl rfl) (by decide +kernel) ⟨congrArg (fun z => some (Value.int z.1)) E.symm, congrArg Prod.snd E.symm, s50, by rw [E]; exact Or.inl rfl⟩
      refine V.if_lt (off := 42) F (by decide +kernel) (tgt := 50) (by decide) (fun h8 => ?_) (fun h8 => ?_)
      · replace E := E.trans (if_pos h8)
        refine V.pick [0, 1, 2] rfl ?_
        exact hJ50 M6 s6 E
      · replace E := E.trans (if_neg h8)
        refine V.seg F floX7 cjoX7 [.aload_n 0, .getfield 13, .iload_n 1, .laload, .iload 4, .lushr, .lconst 1, .land, .aload_n 0, .getfield 17, .iload_n 1, .laload, .iload 4, .lushr, .lconst 1, .land, .lcmp] (by decide +kernel) (pc2 := 34) (lv2 := [(0, .ref 52), (1, .int f), (2, .long y2_6), (4, .int (nI j6 - 1))]) (st2 := [.int (lg_cmp ((jushr (mL M6 54 (ix f)) (nI j6 - 1)) &&& 1) ((jushr (mL M6 55 (ix f)) (nI j6 - 1)) &&& 1))]) (M2 := M6) rfl ⟨trivial, ((q.sm s6.1).f 52 7 1 rfl), trivial, ((q.sm s6.1).a 54 22 1648 rfl (by first | assumption | exact vinc (by decide))), trivial, trivial, trivial, trivial, trivial, ((q.sm s6.1).f 52 7 2 rfl), trivial, ((q.sm s6.1).a 55 22 1648 rfl (by first | assumption | exact vinc (by decide))), trivial, trivial, trivial, trivial, trivial, trivial⟩ ?_
        refine V.lc_ne (off := 16) F (by decide +kernel) (tgt := 50) (by decide) (fun h34 => ?_) (fun h34 => ?_)
        · replace E := E.trans (if_neg h34)
          refine V.pick [0, 1, 2] rfl ?_
          exact hJ50 M6 s6 E
        · replace E := E.trans (if_pos h34)
          refine V.seg F floX7 cjoX7 [.lload_n 2, .lconst 1, .iload 4, .lshl, .lor, .lstore_n 2, .iinc 4 (-1), .goto (-41)] (by decide +kernel) (pc2 := 6) (lv2 := [(4, .int ((nI j6 - 1) + (-1))), (2, .long (y2_6 ||| (jshl 1 (nI j6 - 1)))), (0, .ref 52), (1, .int f)]) (st2 := []) (M2 := M6) rfl ⟨trivial, trivial, trivial, trivial, trivial, (by decide), (by decide), (by decide), trivial⟩ ?_
          refine V.pick [2, 3, 1, 0] rfl ?_
          rw [dn_1 (by have hlt_ := dn_pos h8 (by omega); omega)]
          exact ih_6 (y2_6 ||| (jshl 1 (nI j6 - 1))) (j6 - 1) M6 s6 (by have hlt_ := dn_pos h8 (by omega); omega) (by have hlt_ := dn_pos h8 (by omega); omega) E
  refine V.pick [2, 3, 1, 0] rfl ?_
  exact hJ6 _ 0 64 M (SK.rf (w := wg) gb) (by omega) (by omega) E
def f_X7_sharpen_177  (M177 : Mem) : Mem := M177
def f_X7_sharpen_170 (j17 : Nat) (R17_ : Int32 → Nat → Mem → Mem) (w0_170 : Int32) (M170 : Mem) : Mem := R17_ w0_170 (j17 + 1) M170
def f_X7_sharpen_165 (j17 : Nat) (R17_ : Int32 → Nat → Mem → Mem) (M165 : Mem) : Mem := f_X7_sharpen_170 j17 R17_ 1 M165
def f_X7_sharpen_c128  (M128 : Mem) : Mem := M128
def f_X7_sharpen_c100  (M100 : Mem) : Mem := M100
def f_X7_sharpen_88 (f : Int32) (j17 : Nat) (M17 : Mem) (R17_ : Int32 → Nat → Mem → Mem) (w0_88 : Int32) (M88 : Mem) : Mem := if w0_88 = 0 then f_X7_sharpen_c100 (f_X7_nothing M88 f) else if (mL M88 54 (ix f)) = (mL M88 55 (ix f)) then f_X7_sharpen_c128 (f_X7_number M88 f (mL M88 54 (ix f))) else if (mL M17 54 (ix f)) = (mL M88 54 (ix f)) then if (mL M17 55 (ix f)) = (mL M88 55 (ix f)) then if (mL M17 56 (ix f)) = (mL M88 56 (ix f)) then f_X7_sharpen_170 j17 R17_ 0 M88 else f_X7_sharpen_165 j17 R17_ M88 else f_X7_sharpen_165 j17 R17_ M88 else f_X7_sharpen_165 j17 R17_ M88
def f_X7_sharpen_87 (f : Int32) (j17 : Nat) (M17 : Mem) (R17_ : Int32 → Nat → Mem → Mem) (M87 : Mem) : Mem := f_X7_sharpen_88 f j17 M17 R17_ 0 M87
def f_X7_sharpen_c80 (f : Int32) (j17 : Nat) (M17 : Mem) (R17_ : Int32 → Nat → Mem → Mem) (x80 : Int32) (M80 : Mem) : Mem := if x80 = 0 then f_X7_sharpen_87 f j17 M17 R17_ M80 else f_X7_sharpen_88 f j17 M17 R17_ 1 M80
def f_X7_sharpen_c72 (f : Int32) (j17 : Nat) (M17 : Mem) (R17_ : Int32 → Nat → Mem → Mem) (x72 : Int32) (M72 : Mem) : Mem := if x72 = 0 then f_X7_sharpen_87 f j17 M17 R17_ M72 else f_X7_sharpen_c80 f j17 M17 R17_ ((f_X7_byEnds M72 f).1) ((f_X7_byEnds M72 f).2)
def f_X7_sharpen_c64 (f : Int32) (j17 : Nat) (M17 : Mem) (R17_ : Int32 → Nat → Mem → Mem) (x64 : Int32) (M64 : Mem) : Mem := if x64 = 0 then f_X7_sharpen_87 f j17 M17 R17_ M64 else f_X7_sharpen_c72 f j17 M17 R17_ ((f_X7_byRest M64 f).1) ((f_X7_byRest M64 f).2)
def f_X7_sharpen_17 (f : Int32) : Nat → Int32 → Nat → Mem → Mem
  | 0, _, _, M17 => M17
  | n_ + 1, y2_17, j17, M17 => if 6 ≤ (nI j17) then f_X7_sharpen_177 M17 else if y2_17 = 0 then f_X7_sharpen_177 M17 else if (mL M17 55 (ix f)) < (mL M17 54 (ix f)) then f_X7_sharpen_87 f j17 M17 (f_X7_sharpen_17 f n_) M17 else f_X7_sharpen_c64 f j17 M17 (f_X7_sharpen_17 f n_) ((f_X7_byBits M17 f).1) ((f_X7_byBits M17 f).2)
def f_X7_sharpen_14 (f : Int32) (w0_14 : Int32) (M14 : Mem) : Mem := f_X7_sharpen_17 f 7 w0_14 0 M14
def f_X7_sharpen (M : Mem) (f : Int32) : Mem := if (mI M 53 (ix f)) = 0 then f_X7_sharpen_14 f 1 M else f_X7_sharpen_14 f 0 M
abbrev p_X7_sharpen (M : Mem) (f : Int32) : Option Value → Mem → Prop := fun r N => r = none ∧ N = f_X7_sharpen M f ∧ SK wg M N
set_option maxRecDepth 100000 in
set_option maxHeartbeats 4000000 in
theorem c_X7_sharpen (G : Ctx) (l : Launch) (M : Mem) (f : Int32) (q : Ok M) (gb : Gb M) (i_f : vp_in f 1648) : CT G l 3 mX7_sharpen [.ref 52, .int f] M 0 0 (p_X7_sharpen M f) := by
  refine CT.of (by decide) (Nat.le_of_ble_eq_true rfl) ?_
  intro X d hd hl hRm hnm F
  subst hl
  have E : f_X7_sharpen M f = f_X7_sharpen M f := rfl
  show V G X 11 0 0 (Qx G X 0 0 (p_X7_sharpen M f)) 0 [(0, .ref 52), (1, .int f)] [] M
  refine V.seg F floX7 cjoX7 [.aload_n 0, .getfield 9, .iload_n 1, .baload] (by decide +kernel) (pc2 := 6) (lv2 := [(0, .ref 52), (1, .int f)]) (st2 := [.int (mI M 53 (ix f))]) (M2 := M) rfl ⟨trivial, (q.f 52 7 0 rfl), trivial, (q.a 53 21 1648 rfl (by first | assumption | exact vinc (by decide))), trivial⟩ ?_
  have hJ14 : ∀ (w0_14 : Int32) (M14 : Mem), (SK wg M M14) → f_X7_sharpen M f = f_X7_sharpen_14 f w0_14 M14 → V G X 11 0 0 (Qx G X 0 0 (p_X7_sharpen M f)) 14 [(0, .ref 52), (1, .int f)] [.int w0_14] M14 := by
    intro w0_14 M14 s14 E
    refine V.seg F floX7 cjoX7 [.istore_n 2, .iconst 0] (by decide +kernel) (pc2 := 16) (lv2 := [(2, .int w0_14), (0, .ref 52), (1, .int f)]) (st2 := [.int 0]) (M2 := M14) rfl ⟨(by decide), trivial, trivial⟩ ?_
    refine V.seg F floX7 cjoX7 [.istore_n 3] (by decide +kernel) (pc2 := 17) (lv2 := [(3, .int 0), (2, .int w0_14), (0, .ref 52), (1, .int f)]) (st2 := []) (M2 := M14) rfl ⟨(by decide), trivial⟩ ?_
    have hJ17 : ∀ (n_ : Nat) (y2_17 : Int32) (j17 : Nat) (M17 : Mem), (SK wg M M17) → (j17 ≤ 6) → (6 - j17 < n_) → f_X7_sharpen M f = f_X7_sharpen_17 f n_ y2_17 j17 M17 → V G X 11 0 0 (Qx G X 0 0 (p_X7_sharpen M f)) 17 [(0, .ref 52), (1, .int f), (2, .int y2_17), (3, .int (nI j17))] [] M17 := by
      intro n_
      induction n_ with
      | zero => intro y2_17 j17 M17 s17 b17 m17 E; omega
      | succ n_ ih_17 =>
        intro y2_17 j17 M17 s17 b17 m17 E
        rw [f_X7_sharpen_17] at E
        refine V.seg F floX7 cjoX7 [.iload_n 3, .bipush 6] (by decide +kernel) (pc2 := 20) (lv2 := [(0, .ref 52), (1, .int f), (2, .int y2_17), (3, .int (nI j17))]) (st2 := [.int 6, .int (nI j17)]) (M2 := M17) rfl ⟨trivial, trivial, trivial⟩ ?_
        have hJ177 : ∀ (M177 : Mem), (SK wg M M177) → f_X7_sharpen M f = f_X7_sharpen_177 M177 → V G X 11 0 0 (Qx G X 0 0 (p_X7_sharpen M f)) 177 [] [] M177 := by
          intro M177 s177 E
          exact V.vret F (by decide +kernel) ⟨rfl, E.symm, s177⟩
        refine V.ic_ge (off := 157) F (by decide +kernel) (tgt := 177) (by decide) (fun h20 => ?_) (fun h20 => ?_)
        · replace E := E.trans (if_pos h20)
          refine V.pick [] rfl ?_
          exact hJ177 M17 s17 E
        · replace E := E.trans (if_neg h20)
          refine V.seg F floX7 cjoX7 [.iload_n 2] (by decide +kernel) (pc2 := 24) (lv2 := [(0, .ref 52), (1, .int f), (2, .int y2_17), (3, .int (nI j17))]) (st2 := [.int y2_17]) (M2 := M17) rfl ⟨trivial, trivial⟩ ?_
          refine V.if_eq (off := 153) F (by decide +kernel) (tgt := 177) (by decide) (fun h24 => ?_) (fun h24 => ?_)
          · replace E := E.trans (if_pos h24)
            refine V.pick [] rfl ?_
            exact hJ177 M17 s17 E
          · replace E := E.trans (if_neg h24)
            refine V.seg F floX7 cjoX7 [.aload_n 0, .getfield 13, .iload_n 1, .laload, .lstore 4, .aload_n 0, .getfield 17, .iload_n 1, .laload, .lstore 6, .aload_n 0, .getfield 20, .iload_n 1, .laload, .lstore 8, .lload 4, .lload 6, .lcmp] (by decide +kernel) (pc2 := 56) (lv2 := [(8, .long (mL M17 56 (ix f))), (6, .long (mL M17 55 (ix f))), (4, .long (mL M17 54 (ix f))), (0, .ref 52), (1, .int f), (2, .int y2_17), (3, .int (nI j17))]) (st2 := [.int (lg_cmp (mL M17 54 (ix f)) (mL M17 55 (ix f)))]) (M2 := M17) rfl ⟨trivial, ((q.sm s17.1).f 52 7 1 rfl), trivial, ((q.sm s17.1).a 54 22 1648 rfl (by first | assumption | exact vinc (by decide))), (by decide), trivial, ((q.sm s17.1).f 52 7 2 rfl), trivial, ((q.sm s17.1).a 55 22 1648 rfl (by first | assumption | exact vinc (by decide))), (by decide), trivial, ((q.sm s17.1).f 52 7 3 rfl), trivial, ((q.sm s17.1).a 56 22 1648 rfl (by first | assumption | exact vinc (by decide))), (by decide), trivial, trivial, trivial, trivial⟩ ?_
            have hJ88 : ∀ (w0_88 : Int32) (M88 : Mem), (SK wg M M88) → f_X7_sharpen M f = f_X7_sharpen_88 f j17 M17 (f_X7_sharpen_17 f n_) w0_88 M88 → V G X 11 0 0 (Qx G X 0 0 (p_X7_sharpen M f)) 88 [(0, .ref 52), (1, .int f), (3, .int (nI j17)), (4, .long (mL M17 54 (ix f))), (6, .long (mL M17 55 (ix f))), (8, .long (mL M17 56 (ix f)))] [.int w0_88] M88 := by
              intro w0_88 M88 s88 E
              refine V.seg F floX7 cjoX7 [.istore 10, .iload 10] (by decide +kernel) (pc2 := 92) (lv2 := [(10, .int w0_88), (0, .ref 52), (1, .int f), (3, .int (nI j17)), (4, .long (mL M17 54 (ix f))), (6, .long (mL M17 55 (ix f))), (8, .long (mL M17 56 (ix f)))]) (st2 := [.int w0_88]) (M2 := M88) rfl ⟨(by decide), trivial, trivial⟩ ?_
              refine V.if_ne (off := 9) F (by decide +kernel) (tgt := 101) (by decide) (fun h92 => ?_) (fun h92 => ?_)
              · replace E := E.trans (if_neg h92)
                refine V.seg F floX7 cjoX7 [.aload_n 0, .getfield 13, .iload_n 1, .laload, .aload_n 0, .getfield 17, .iload_n 1, .laload, .lcmp] (by decide +kernel) (pc2 := 114) (lv2 := [(10, .int w0_88), (0, .ref 52), (1, .int f), (3, .int (nI j17)), (4, .long (mL M17 54 (ix f))), (6, .long (mL M17 55 (ix f))), (8, .long (mL M17 56 (ix f)))]) (st2 := [.int (lg_cmp (mL M88 54 (ix f)) (mL M88 55 (ix f)))]) (M2 := M88) rfl ⟨trivial, ((q.sm s88.1).f 52 7 1 rfl), trivial, ((q.sm s88.1).a 54 22 1648 rfl (by first | assumption | exact vinc (by decide))), trivial, ((q.sm s88.1).f 52 7 2 rfl), trivial, ((q.sm s88.1).a 55 22 1648 rfl (by first | assumption | exact vinc (by decide))), trivial, trivial⟩ ?_
                refine V.lc_ne (off := 15) F (by decide +kernel) (tgt := 129) (by decide) (fun h114 => ?_) (fun h114 => ?_)
                · replace E := E.trans (if_neg h114)
                  refine V.seg F floX7 cjoX7 [.lload 4, .aload_n 0, .getfield 13, .iload_n 1, .laload, .lcmp] (by decide +kernel) (pc2 := 138) (lv2 := [(10, .int w0_88), (0, .ref 52), (1, .int f), (3, .int (nI j17)), (4, .long (mL M17 54 (ix f))), (6, .long (mL M17 55 (ix f))), (8, .long (mL M17 56 (ix f)))]) (st2 := [.int (lg_cmp (mL M17 54 (ix f)) (mL M88 54 (ix f)))]) (M2 := M88) rfl ⟨trivial, trivial, ((q.sm s88.1).f 52 7 1 rfl), trivial, ((q.sm s88.1).a 54 22 1648 rfl (by first | assumption | exact vinc (by decide))), trivial, trivial⟩ ?_
                  have hJ170 : ∀ (w0_170 : Int32) (M170 : Mem), (SK wg M M170) → f_X7_sharpen M f = f_X7_sharpen_170 j17 (f_X7_sharpen_17 f n_) w0_170 M170 → V G X 11 0 0 (Qx G X 0 0 (p_X7_sharpen M f)) 170 [(0, .ref 52), (1, .int f), (3, .int (nI j17))] [.int w0_170] M170 := by
                    intro w0_170 M170 s170 E
                    refine V.seg F floX7 cjoX7 [.istore_n 2, .iinc 3 1, .goto (-157)] (by decide +kernel) (pc2 := 17) (lv2 := [(3, .int ((nI j17) + 1)), (2, .int w0_170), (0, .ref 52), (1, .int f)]) (st2 := []) (M2 := M170) rfl ⟨(by decide), (by decide), (by decide), trivial⟩ ?_
                    refine V.pick [2, 3, 1, 0] rfl ?_
                    rw [nI_1]
                    exact ih_17 w0_170 (j17 + 1) M170 s170 (by have hlt_ := cnt_lt (n := 6) h20 rfl (by omega) (by decide); omega) (by have hlt_ := cnt_lt (n := 6) h20 rfl (by omega) (by decide); omega) E
                  have hJ165 : ∀ (M165 : Mem), (SK wg M M165) → f_X7_sharpen M f = f_X7_sharpen_165 j17 (f_X7_sharpen_17 f n_) M165 → V G X 11 0 0 (Qx G X 0 0 (p_X7_sharpen M f)) 165 [(0, .ref 52), (1, .int f), (3, .int (nI j17))] [] M165 := by
                    intro M165 s165 E
                    refine V.seg F floX7 cjoX7 [.iconst 1, .goto 4] (by decide +kernel) (pc2 := 170) (lv2 := [(0, .ref 52), (1, .int f), (3, .int (nI j17))]) (st2 := [.int 1]) (M2 := M165) rfl ⟨trivial, (by decide), trivial⟩ ?_
                    refine V.pick [0, 1, 2] rfl ?_
                    exact hJ170 1 M165 s165 E
                  refine V.lc_ne (off := 27) F (by decide +kernel) (tgt := 165) (by decide) (fun h138 => ?_) (fun h138 => ?_)
                  · replace E := E.trans (if_neg h138)
                    refine V.pick [1, 2, 3] rfl ?_
                    exact hJ165 M88 s88 E
                  · replace E := E.trans (if_pos h138)
                    refine V.seg F floX7 cjoX7 [.lload 6, .aload_n 0, .getfield 17, .iload_n 1, .laload, .lcmp] (by decide +kernel) (pc2 := 150) (lv2 := [(10, .int w0_88), (0, .ref 52), (1, .int f), (3, .int (nI j17)), (4, .long (mL M17 54 (ix f))), (6, .long (mL M17 55 (ix f))), (8, .long (mL M17 56 (ix f)))]) (st2 := [.int (lg_cmp (mL M17 55 (ix f)) (mL M88 55 (ix f)))]) (M2 := M88) rfl ⟨trivial, trivial, ((q.sm s88.1).f 52 7 2 rfl), trivial, ((q.sm s88.1).a 55 22 1648 rfl (by first | assumption | exact vinc (by decide))), trivial, trivial⟩ ?_
                    refine V.lc_ne (off := 15) F (by decide +kernel) (tgt := 165) (by decide) (fun h150 => ?_) (fun h150 => ?_)
                    · replace E := E.trans (if_neg h150)
                      refine V.pick [1, 2, 3] rfl ?_
                      exact hJ165 M88 s88 E
                    · replace E := E.trans (if_pos h150)
                      refine V.seg F floX7 cjoX7 [.lload 8, .aload_n 0, .getfield 20, .iload_n 1, .laload, .lcmp] (by decide +kernel) (pc2 := 162) (lv2 := [(10, .int w0_88), (0, .ref 52), (1, .int f), (3, .int (nI j17)), (4, .long (mL M17 54 (ix f))), (6, .long (mL M17 55 (ix f))), (8, .long (mL M17 56 (ix f)))]) (st2 := [.int (lg_cmp (mL M17 56 (ix f)) (mL M88 56 (ix f)))]) (M2 := M88) rfl ⟨trivial, trivial, ((q.sm s88.1).f 52 7 3 rfl), trivial, ((q.sm s88.1).a 56 22 1648 rfl (by first | assumption | exact vinc (by decide))), trivial, trivial⟩ ?_
                      refine V.lc_eq (off := 7) F (by decide +kernel) (tgt := 169) (by decide) (fun h162 => ?_) (fun h162 => ?_)
                      · replace E := E.trans (if_pos h162)
                        refine V.seg F floX7 cjoX7 [.iconst 0] (by decide +kernel) (pc2 := 170) (lv2 := [(10, .int w0_88), (0, .ref 52), (1, .int f), (3, .int (nI j17)), (4, .long (mL M17 54 (ix f))), (6, .long (mL M17 55 (ix f))), (8, .long (mL M17 56 (ix f)))]) (st2 := [.int 0]) (M2 := M88) rfl ⟨trivial, trivial⟩ ?_
                        refine V.pick [1, 2, 3] rfl ?_
                        exact hJ170 0 M88 s88 E
                      · replace E := E.trans (if_neg h162)
                        refine V.pick [1, 2, 3] rfl ?_
                        exact hJ165 M88 s88 E
                · replace E := E.trans (if_pos h114)
                  refine V.seg F floX7 cjoX7 [.aload_n 0, .iload_n 1, .aload_n 0, .getfield 13, .iload_n 1, .laload] (by decide +kernel) (pc2 := 125) (lv2 := [(10, .int w0_88), (0, .ref 52), (1, .int f), (3, .int (nI j17)), (4, .long (mL M17 54 (ix f))), (6, .long (mL M17 55 (ix f))), (8, .long (mL M17 56 (ix f)))]) (st2 := [.long (mL M88 54 (ix f)), .int f, .ref 52]) (M2 := M88) rfl ⟨trivial, trivial, trivial, ((q.sm s88.1).f 52 7 1 rfl), trivial, ((q.sm s88.1).a 54 22 1648 rfl (by first | assumption | exact vinc (by decide))), trivial⟩ ?_
                  refine V.callV (as := [.int f, .long (mL M88 54 (ix f))]) (rest := []) F (by decide +kernel) lX7_118 bX7_number ⟨7, _, ((q.sm s88.1).o 52 7 rfl), rfl, rfl⟩ (c_X7_number G X.2.1 M88 f (mL M88 54 (ix f)) (q.sm s88.1) s88.2.1 (by first | assumption | exact vinc (by decide))) (rm_ok hRm hd (by decide) (by decide)) ⟨Nat.zero_le _, Nat.zero_le _⟩ (Nat.le_of_ble_eq_true rfl) (fun r_ N_ p_ => ?_)
                  obtain ⟨rfl, rfl, t125⟩ := p_
                  refine (?_ : ∀ (M128 : Mem), (SK wg M M128) → f_X7_sharpen M f = f_X7_sharpen_c128 M128 → V G X 11 0 0 (Qx G X 0 0 (p_X7_sharpen M f)) 128 [(10, .int w0_88), (0, .ref 52), (1, .int f), (3, .int (nI j17)), (4, .long (mL M17 54 (ix f))), (6, .long (mL M17 55 (ix f))), (8, .long (mL M17 56 (ix f)))] [] M128) _ (SK.tr s88 t125) E
                  intro M128 s128 E
                  exact V.vret F (by decide +kernel) ⟨rfl, E.symm, s128⟩
              · replace E := E.trans (if_pos h92)
                refine V.seg F floX7 cjoX7 [.aload_n 0, .iload_n 1] (by decide +kernel) (pc2 := 97) (lv2 := [(10, .int w0_88), (0, .ref 52), (1, .int f), (3, .int (nI j17)), (4, .long (mL M17 54 (ix f))), (6, .long (mL M17 55 (ix f))), (8, .long (mL M17 56 (ix f)))]) (st2 := [.int f, .ref 52]) (M2 := M88) rfl ⟨trivial, trivial, trivial⟩ ?_
                refine V.callV (as := [.int f]) (rest := []) F (by decide +kernel) lX7_115 bX7_nothing ⟨7, _, ((q.sm s88.1).o 52 7 rfl), rfl, rfl⟩ (c_X7_nothing G X.2.1 M88 f (q.sm s88.1) s88.2.1 (by first | assumption | exact vinc (by decide))) (rm_ok hRm hd (by decide) (by decide)) ⟨Nat.zero_le _, Nat.zero_le _⟩ (Nat.le_of_ble_eq_true rfl) (fun r_ N_ p_ => ?_)
                obtain ⟨rfl, rfl, t97⟩ := p_
                refine (?_ : ∀ (M100 : Mem), (SK wg M M100) → f_X7_sharpen M f = f_X7_sharpen_c100 M100 → V G X 11 0 0 (Qx G X 0 0 (p_X7_sharpen M f)) 100 [(10, .int w0_88), (0, .ref 52), (1, .int f), (3, .int (nI j17)), (4, .long (mL M17 54 (ix f))), (6, .long (mL M17 55 (ix f))), (8, .long (mL M17 56 (ix f)))] [] M100) _ (SK.tr s88 t97) E
                intro M100 s100 E
                exact V.vret F (by decide +kernel) ⟨rfl, E.symm, s100⟩
            have hJ87 : ∀ (M87 : Mem), (SK wg M M87) → f_X7_sharpen M f = f_X7_sharpen_87 f j17 M17 (f_X7_sharpen_17 f n_) M87 → V G X 11 0 0 (Qx G X 0 0 (p_X7_sharpen M f)) 87 [(0, .ref 52), (1, .int f), (3, .int (nI j17)), (4, .long (mL M17 54 (ix f))), (6, .long (mL M17 55 (ix f))), (8, .long (mL M17 56 (ix f)))] [] M87 := by
              intro M87 s87 E
              refine V.seg F floX7 cjoX7 [.iconst 0] (by decide +kernel) (pc2 := 88) (lv2 := [(0, .ref 52), (1, .int f), (3, .int (nI j17)), (4, .long (mL M17 54 (ix f))), (6, .long (mL M17 55 (ix f))), (8, .long (mL M17 56 (ix f)))]) (st2 := [.int 0]) (M2 := M87) rfl ⟨trivial, trivial⟩ ?_
              refine V.pick [0, 1, 2, 3, 4, 5] rfl ?_
              exact hJ88 0 M87 s87 E
            refine V.lc_gt (off := 31) F (by decide +kernel) (tgt := 87) (by decide) (fun h56 => ?_) (fun h56 => ?_)
            · replace E := E.trans (if_pos h56)
              refine V.pick [3, 4, 6, 2, 1, 0] rfl ?_
              exact hJ87 M17 s17 E
            · replace E := E.trans (if_neg h56)
              refine V.seg F floX7 cjoX7 [.aload_n 0, .iload_n 1] (by decide +kernel) (pc2 := 61) (lv2 := [(8, .long (mL M17 56 (ix f))), (6, .long (mL M17 55 (ix f))), (4, .long (mL M17 54 (ix f))), (0, .ref 52), (1, .int f), (2, .int y2_17), (3, .int (nI j17))]) (st2 := [.int f, .ref 52]) (M2 := M17) rfl ⟨trivial, trivial, trivial⟩ ?_
              refine V.callV (as := [.int f]) (rest := []) F (by decide +kernel) lX7_105 bX7_byBits ⟨7, _, ((q.sm s17.1).o 52 7 rfl), rfl, rfl⟩ (c_X7_byBits G X.2.1 M17 f (q.sm s17.1) s17.2.1 (by first | assumption | exact vinc (by decide))) (rm_ok hRm hd (by decide) (by decide)) ⟨Nat.zero_le _, Nat.zero_le _⟩ (Nat.le_of_ble_eq_true rfl) (fun r_ N_ p_ => ?_)
              obtain ⟨rfl, rfl, t61, z61⟩ := p_
              refine (?_ : ∀ (x64 : Int32) (M64 : Mem), (x64 = 0 ∨ x64 = 1) → SK wg M M64 → f_X7_sharpen M f = f_X7_sharpen_c64 f j17 M17 (f_X7_sharpen_17 f n_) x64 M64 → V G X 11 0 0 (Qx G X 0 0 (p_X7_sharpen M f)) 64 [(8, .long (mL M17 56 (ix f))), (6, .long (mL M17 55 (ix f))), (4, .long (mL M17 54 (ix f))), (0, .ref 52), (1, .int f), (2, .int y2_17), (3, .int (nI j17))] [.int x64] M64) _ _ z61 (SK.tr s17 t61)  E
              intro x64 M64 z64 s64  E
              refine V.if_eq (off := 23) F (by decide +kernel) (tgt := 87) (by decide) (fun h64 => ?_) (fun h64 => ?_)
              · replace E := E.trans (if_pos h64)
                refine V.pick [3, 4, 6, 2, 1, 0] rfl ?_
                exact hJ87 M64 s64 E
              · replace E := E.trans (if_neg h64)
                refine V.seg F floX7 cjoX7 [.aload_n 0, .iload_n 1] (by decide +kernel) (pc2 := 69) (lv2 := [(8, .long (mL M17 56 (ix f))), (6, .long (mL M17 55 (ix f))), (4, .long (mL M17 54 (ix f))), (0, .ref 52), (1, .int f), (2, .int y2_17), (3, .int (nI j17))]) (st2 := [.int f, .ref 52]) (M2 := M64) rfl ⟨trivial, trivial, trivial⟩ ?_
                refine V.callV (as := [.int f]) (rest := []) F (by decide +kernel) lX7_109 bX7_byRest ⟨7, _, ((q.sm s64.1).o 52 7 rfl), rfl, rfl⟩ (c_X7_byRest G X.2.1 M64 f (q.sm s64.1) s64.2.1 (by first | assumption | exact vinc (by decide))) (rm_ok hRm hd (by decide) (by decide)) ⟨Nat.zero_le _, Nat.zero_le _⟩ (Nat.le_of_ble_eq_true rfl) (fun r_ N_ p_ => ?_)
                obtain ⟨rfl, rfl, t69, z69⟩ := p_
                refine (?_ : ∀ (x72 : Int32) (M72 : Mem), (x72 = 0 ∨ x72 = 1) → SK wg M M72 → f_X7_sharpen M f = f_X7_sharpen_c72 f j17 M17 (f_X7_sharpen_17 f n_) x72 M72 → V G X 11 0 0 (Qx G X 0 0 (p_X7_sharpen M f)) 72 [(8, .long (mL M17 56 (ix f))), (6, .long (mL M17 55 (ix f))), (4, .long (mL M17 54 (ix f))), (0, .ref 52), (1, .int f), (2, .int y2_17), (3, .int (nI j17))] [.int x72] M72) _ _ z69 (SK.tr s64 t69)  E
                intro x72 M72 z72 s72  E
                refine V.if_eq (off := 15) F (by decide +kernel) (tgt := 87) (by decide) (fun h72 => ?_) (fun h72 => ?_)
                · replace E := E.trans (if_pos h72)
                  refine V.pick [3, 4, 6, 2, 1, 0] rfl ?_
                  exact hJ87 M72 s72 E
                · replace E := E.trans (if_neg h72)
                  refine V.seg F floX7 cjoX7 [.aload_n 0, .iload_n 1] (by decide +kernel) (pc2 := 77) (lv2 := [(8, .long (mL M17 56 (ix f))), (6, .long (mL M17 55 (ix f))), (4, .long (mL M17 54 (ix f))), (0, .ref 52), (1, .int f), (2, .int y2_17), (3, .int (nI j17))]) (st2 := [.int f, .ref 52]) (M2 := M72) rfl ⟨trivial, trivial, trivial⟩ ?_
                  refine V.callV (as := [.int f]) (rest := []) F (by decide +kernel) lX7_112 bX7_byEnds ⟨7, _, ((q.sm s72.1).o 52 7 rfl), rfl, rfl⟩ (c_X7_byEnds G X.2.1 M72 f (q.sm s72.1) s72.2.1 (by first | assumption | exact vinc (by decide))) (rm_ok hRm hd (by decide) (by decide)) ⟨Nat.zero_le _, Nat.zero_le _⟩ (Nat.le_of_ble_eq_true rfl) (fun r_ N_ p_ => ?_)
                  obtain ⟨rfl, rfl, t77, z77⟩ := p_
                  refine (?_ : ∀ (x80 : Int32) (M80 : Mem), (x80 = 0 ∨ x80 = 1) → SK wg M M80 → f_X7_sharpen M f = f_X7_sharpen_c80 f j17 M17 (f_X7_sharpen_17 f n_) x80 M80 → V G X 11 0 0 (Qx G X 0 0 (p_X7_sharpen M f)) 80 [(8, .long (mL M17 56 (ix f))), (6, .long (mL M17 55 (ix f))), (4, .long (mL M17 54 (ix f))), (0, .ref 52), (1, .int f), (2, .int y2_17), (3, .int (nI j17))] [.int x80] M80) _ _ z77 (SK.tr s72 t77)  E
                  intro x80 M80 z80 s80  E
                  refine V.if_eq (off := 7) F (by decide +kernel) (tgt := 87) (by decide) (fun h80 => ?_) (fun h80 => ?_)
                  · replace E := E.trans (if_pos h80)
                    refine V.pick [3, 4, 6, 2, 1, 0] rfl ?_
                    exact hJ87 M80 s80 E
                  · replace E := E.trans (if_neg h80)
                    refine V.seg F floX7 cjoX7 [.iconst 1, .goto 4] (by decide +kernel) (pc2 := 88) (lv2 := [(8, .long (mL M17 56 (ix f))), (6, .long (mL M17 55 (ix f))), (4, .long (mL M17 54 (ix f))), (0, .ref 52), (1, .int f), (2, .int y2_17), (3, .int (nI j17))]) (st2 := [.int 1]) (M2 := M80) rfl ⟨trivial, (by decide), trivial⟩ ?_
                    refine V.pick [3, 4, 6, 2, 1, 0] rfl ?_
                    exact hJ88 1 M80 s80 E
    refine V.pick [2, 3, 1, 0] rfl ?_
    exact hJ17 _ w0_14 0 M14 s14 (by omega) (by omega) E
  refine V.if_ne (off := 7) F (by decide +kernel) (tgt := 13) (by decide) (fun h6 => ?_) (fun h6 => ?_)
  · replace E := E.trans (if_neg h6)
    refine V.seg F floX7 cjoX7 [.iconst 0] (by decide +kernel) (pc2 := 14) (lv2 := [(0, .ref 52), (1, .int f)]) (st2 := [.int 0]) (M2 := M) rfl ⟨trivial, trivial⟩ ?_
    refine V.pick [0, 1] rfl ?_
    exact hJ14 0 M (SK.rf (w := wg) gb) E
  · replace E := E.trans (if_pos h6)
    refine V.seg F floX7 cjoX7 [.iconst 1, .goto 4] (by decide +kernel) (pc2 := 14) (lv2 := [(0, .ref 52), (1, .int f)]) (st2 := [.int 1]) (M2 := M) rfl ⟨trivial, (by decide), trivial⟩ ?_
    refine V.pick [0, 1] rfl ?_
    exact hJ14 1 M (SK.rf (w := wg) gb) E
