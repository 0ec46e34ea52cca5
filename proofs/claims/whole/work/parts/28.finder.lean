/-- the class's own labels -/
def cl (a : Nat) : Bool := decide (a < 52) || decide (73 < a)
/-- what stays over work of the class: nothing made, all else than 'w' names, by kind, as it was -/
def SC (w : Nat × Nat → Nat → Bool) (M N : Mem) : Prop := Sm M N ∧ ∀ a k, (cl a && w (SH a) k) = false → mI N a k = mI M a k ∧ mL N a k = mL M a k
theorem SC.rf {w : Nat × Nat → Nat → Bool} {M : Mem} : SC w M M := ⟨Sm.rf, fun _ _ _ => ⟨rfl, rfl⟩⟩
theorem SC.tr {w : Nat × Nat → Nat → Bool} {M N O : Mem} (h : SC w M N) (h2 : SC w N O) : SC w M O := ⟨h.1.tr h2.1, fun a k ha => ⟨(h2.2 a k ha).1.trans (h.2 a k ha).1, (h2.2 a k ha).2.trans (h.2 a k ha).2⟩⟩
theorem SC.ne {w : Nat × Nat → Nat → Bool} {a k b j : Nat} (ha : (cl a && w (SH a) k) = true) (hb : (cl b && w (SH b) j) = false) : b ≠ a ∨ j ≠ k := by
  by_cases e : b = a
  · refine Or.inr (fun z => ?_)
    rw [e, z, ha] at hb
    cases hb
  · exact Or.inl e
theorem SC.pI {w : Nat × Nat → Nat → Bool} {M N : Mem} {a k : Nat} {v : Int32} (h : SC w M N) (ha : (cl a && w (SH a) k) = true) : SC w M (uI N a k v) := ⟨h.1, fun b j hb => ⟨by rw [(SC.ne ha hb).elim mI_uI_ne mI_uI_nk]; exact (h.2 b j hb).1, (h.2 b j hb).2⟩⟩
theorem SC.pL {w : Nat × Nat → Nat → Bool} {M N : Mem} {a k : Nat} {v : Int64} (h : SC w M N) (ha : (cl a && w (SH a) k) = true) : SC w M (uL N a k v) := ⟨h.1, fun b j hb => ⟨(h.2 b j hb).1, by rw [(SC.ne ha hb).elim mL_uL_ne mL_uL_nk]; exact (h.2 b j hb).2⟩⟩
theorem cl_f {a : Nat} (h : (SH a).1 = 2) : cl a = true := by
  by_cases e : a < 52
  · simp [cl, e]
  · by_cases e2 : 73 < a
    · simp [cl, e2]
    · exfalso
      have hall : ∀ j, j < 22 → (SH (52 + j)).1 ≠ 2 := by decide
      have h9 := hall (a - 52) (by omega)
      rw [show 52 + (a - 52) = a by omega] at h9
      exact h9 h
theorem wC_f {w : Nat × Nat → Nat → Bool} {a k : Nat} (hw : ∀ n k, w (2, n) k = true) (h : (SH a).1 = 2) : (cl a && w (SH a) k) = true := by
  have e : SH a = (2, (SH a).2) := Prod.ext h rfl
  rw [cl_f h, e, hw]
  rfl
theorem Sf.sc {w : Nat × Nat → Nat → Bool} {M N : Mem} (h : Sf M N) (hw : ∀ n k, w (2, n) k = true) : SC w M N := ⟨h.1, fun a k ha => h.2 a k (fun e => by rw [wC_f hw e] at ha; cases ha)⟩
theorem cl_r {n o : Nat} : cl (74 + 271 * n + o) = true := by
  have h : 73 < 74 + 271 * n + o := by omega
  simp [cl, h]
theorem wC_a {w : Nat × Nat → Nat → Bool} {M : Mem} {r k : Nat} (h : Rt M r) (o : Nat) (ho : o < 271) (hw : w (SHr o) k = true) : (cl (r + o) && w (SH (r + o)) k) = true := by
  obtain ⟨n, h1, rfl, -⟩ := h
  rw [SH_rt h1 ho, hw, cl_r]
  rfl
theorem wC_r {w : Nat × Nat → Nat → Bool} {M : Mem} {r k : Nat} (h : Rt M r) (hw : w (4, 0) k = true) : (cl r && w (SH r) k) = true := wC_a h 0 (by decide) hw
theorem nC_a {w : Nat × Nat → Nat → Bool} {M : Mem} {r k : Nat} (h : Rt M r) (o : Nat) (ho : o < 271) (hw : w (SHr o) k = false) : (cl (r + o) && w (SH (r + o)) k) = false := by
  obtain ⟨n, h1, rfl, -⟩ := h
  rw [SH_rt h1 ho, hw, cl_r]
  rfl
theorem wC_n {w : Nat × Nat → Nat → Bool} {t : Int32} {k : Nat} (ht : vp_in t 4) (hw : w (22, 16) k = true) : (cl (5 + 1 + ix t) && w (SH (5 + 1 + ix t)) k) = true := by
  have hl : ix t < 4 := vin_lt ht
  have hall : ∀ j, j < 4 → SH (6 + j) = (22, 16) := by decide
  have h9 : SH (5 + 1 + ix t) = (22, 16) := hall _ hl
  have h8 : 5 + 1 + ix t < 52 := by omega
  rw [h9, hw]
  simp [cl, h8]
theorem SC.a {w : Nat × Nat → Nat → Bool} {M N L : Mem} {r : Nat} (s : SC w M N) (h : Rt L r) (o : Nat) (ho : o < 271) (k : Nat) (hw : w (SHr o) k = false) : mI N (r + o) k = mI M (r + o) k := (s.2 _ k (nC_a h o ho hw)).1
theorem SC.r {w : Nat × Nat → Nat → Bool} {M N L : Mem} {r : Nat} (s : SC w M N) (h : Rt L r) (k : Nat) (hw : w (4, 0) k = false) : mI N r k = mI M r k := (s.2 r k (nC_a h 0 (by decide) hw)).1
theorem Sf.a {M N L : Mem} {r : Nat} (s : Sf M N) (h : Rt L r) (o : Nat) (ho : o < 7) (k : Nat) : mI N (r + o) k = mI M (r + o) k := by
  refine (s.2 _ k ?_).1
  rw [(h.sh (o := o) (by omega)).1]
  rcases (show o = 0 ∨ o = 1 ∨ o = 2 ∨ o = 3 ∨ o = 4 ∨ o = 5 ∨ o = 6 by omega) with rfl | rfl | rfl | rfl | rfl | rfl | rfl <;> decide
theorem lnC {l x : Int32} (c : cn x 32) (h1 : ¬ l < 0) (h2 : ¬ x ≤ l) : vp_in l 32 := by
  obtain ⟨a, ha, rfl⟩ := nI_of h1
  have h9 := c.2
  exact vp_in_nI (Nat.lt_of_lt_of_le (cnt_lt (n := ix x) h2 c.1 ha (by omega)) c.2) (by decide)
theorem lpq {l p : Int32} (hl : vp_in l 32) (hp : vp_in p 8) : vp_in (l * 8 + p) 256 := by
  obtain ⟨a, ha, rfl⟩ := vp_in_of hl (by decide)
  obtain ⟨b, hb, rfl⟩ := vp_in_of hp (by decide)
  exact vpn (k := a * 8 + b) (addN (mulN rfl (rfl : (8 : Int32) = nI 8)) rfl) (by omega) (by decide)
/-- a line of the class's method -/
def LnC (op a b : Int32) : Prop := LnOK op a b ∧ vp_in op 28
theorem LnC.of {a b c a' b' c' : Int32} (h1 : a = a') (h2 : b = b') (h3 : c = c') (h : LnC a' b' c') : LnC a b c := by rw [h1, h2, h3]; exact h
theorem lnB {op a b : Int32} (h : op = 23 ∨ op = 24 ∨ op = 25) (hL : LnC op a b) (z : ¬ op = 25) : vp_in b 8 := by
  rcases h with h | h | h
  · exact ask23 hL.1 h
  · exact ask24 hL.1 h
  · exact absurd h z
theorem lnBx {op op1 op2 a b b1 : Int32} (h : op2 = 23 ∨ op2 = 24 ∨ op2 = 25) (e3 : op2 = op) (hL : LnC op a b) (eo : op1 = op) (eb : b1 = b) (z : ¬ op1 = 25) : vp_in b1 8 := by
  subst e3 eo eb
  exact lnB h hL z
theorem lnD {op a b : Int32} (hL : LnC op a b) (h0 : ¬ op = 20) (h1 : ¬ op = 21) (h2 : ¬ op = 22) (h3 : ¬ (op = 23 ∨ op = 24 ∨ op = 25)) (h4 : ¬ op = 26) (h5 : ¬ op = 27) : vp_in b 8 := by
  refine hL.1.2.1 (fun h20 => ?_)
  obtain ⟨k, hk, rfl⟩ := vp_in_of hL.2 (by decide)
  have h6 : nI 20 ≤ nI k := h20
  have h7 := (nI_leI (by decide) (by omega)).mp h6
  rcases (show k = 20 ∨ k = 21 ∨ k = 22 ∨ k = 23 ∨ k = 24 ∨ k = 25 ∨ k = 26 ∨ k = 27 by omega) with rfl | rfl | rfl | rfl | rfl | rfl | rfl | rfl
  · exact h0 rfl
  · exact h1 rfl
  · exact h2 rfl
  · exact h3 (Or.inl rfl)
  · exact h3 (Or.inr (Or.inl rfl))
  · exact h3 (Or.inr (Or.inr rfl))
  · exact h4 rfl
  · exact h5 rfl
/-- what finding writes -/
def wF (s : Nat × Nat) (k : Nat) : Bool := decide (s.1 = 2) || decide (s = (21, 32)) || decide (s = (20, 256)) || (decide (s.1 = 4) && (decide (k = 7) || decide (k = 8)))
def f_X2_someWait_2 (M : Mem) : Nat → Nat → Int32
  | 0, _ => 0
  | n_ + 1, j2 => if 32 ≤ (nI j2) then 0 else if (mI M 20 (ix (nI j2))) = 0 then (f_X2_someWait_2 M n_) (j2 + 1) else 1
def f_X2_someWait (M : Mem) : Int32 := f_X2_someWait_2 M 33 0
abbrev p_X2_someWait (M : Mem) : Option Value → Mem → Prop := fun r N => r = some (.int (f_X2_someWait M)) ∧ N = M ∧ ((f_X2_someWait M) = 0 ∨ (f_X2_someWait M) = 1)
set_option maxRecDepth 100000 in
set_option maxHeartbeats 4000000 in
theorem c_X2_someWait (G : Ctx) (l : Launch) (M : Mem) (q : Ok M) : CT G l 0 mX2_someWait [.ref 14] M 0 0 (p_X2_someWait M) := by
  refine CT.of (by decide) (Nat.le_of_ble_eq_true rfl) ?_
  intro X d hd hl hRm hnm F
  subst hl
  have E : f_X2_someWait M = f_X2_someWait M := rfl
  show V G X 2 0 0 (Qx G X 0 0 (p_X2_someWait M)) 0 [(0, .ref 14)] [] M
  refine V.seg F floX2 cjoX2 [.iconst 0] (by decide +kernel) (pc2 := 1) (lv2 := [(0, .ref 14)]) (st2 := [.int 0]) (M2 := M) rfl ⟨trivial, trivial⟩ ?_
  refine V.seg F floX2 cjoX2 [.istore_n 1] (by decide +kernel) (pc2 := 2) (lv2 := [(1, .int 0), (0, .ref 14)]) (st2 := []) (M2 := M) rfl ⟨(by decide), trivial⟩ ?_
  have hJ2 : ∀ (n_ : Nat) (j2 : Nat), (j2 ≤ 32) → (32 - j2 < n_) → f_X2_someWait M = f_X2_someWait_2 M n_ j2 → V G X 2 0 0 (Qx G X 0 0 (p_X2_someWait M)) 2 [(0, .ref 14), (1, .int (nI j2))] [] M := by
    intro n_
    induction n_ with
    | zero => intro j2 b2 m2 E; omega
    | succ n_ ih_2 =>
      intro j2 b2 m2 E
      rw [f_X2_someWait_2] at E
      refine V.seg F floX2 cjoX2 [.iload_n 1, .bipush 32] (by decide +kernel) (pc2 := 5) (lv2 := [(0, .ref 14), (1, .int (nI j2))]) (st2 := [.int 32, .int (nI j2)]) (M2 := M) rfl ⟨trivial, trivial, trivial⟩ ?_
      refine V.ic_ge (off := 20) F (by decide +kernel) (tgt := 25) (by decide) (fun h5 => ?_) (fun h5 => ?_)
      · replace E := E.trans (if_pos h5)
        refine V.seg F floX2 cjoX2 [.iconst 0] (by decide +kernel) (pc2 := 26) (lv2 := [(0, .ref 14), (1, .int (nI j2))]) (st2 := [.int 0]) (M2 := M) rfl ⟨trivial, trivial⟩ ?_
        exact V.zret F (Or.inl rfl) (by decide +kernel) ⟨congrArg (fun z => some (Value.int z)) E.symm, rfl, by rw [E]; exact Or.inl rfl⟩
      · replace E := E.trans (if_neg h5)
        refine V.seg F floX2 cjoX2 [.aload_n 0, .getfield 29, .iload_n 1, .baload] (by decide +kernel) (pc2 := 14) (lv2 := [(0, .ref 14), (1, .int (nI j2))]) (st2 := [.int (mI M 20 (ix (nI j2)))]) (M2 := M) rfl ⟨trivial, (q.f 14 2 3 rfl), trivial, (q.a 20 21 32 rfl (vnj (cnt_lt (n := 32) h5 rfl (by omega) (by decide)) (by decide) (by decide))), trivial⟩ ?_
        refine V.if_eq (off := 5) F (by decide +kernel) (tgt := 19) (by decide) (fun h14 => ?_) (fun h14 => ?_)
        · replace E := E.trans (if_pos h14)
          refine V.seg F floX2 cjoX2 [.iinc 1 1, .goto (-20)] (by decide +kernel) (pc2 := 2) (lv2 := [(1, .int ((nI j2) + 1)), (0, .ref 14)]) (st2 := []) (M2 := M) rfl ⟨(by decide), (by decide), trivial⟩ ?_
          refine V.pick [1, 0] rfl ?_
          rw [nI_1]
          exact ih_2 (j2 + 1) (by have hlt_ := cnt_lt (n := 32) h5 rfl (by omega) (by decide); omega) (by have hlt_ := cnt_lt (n := 32) h5 rfl (by omega) (by decide); omega) E
        · replace E := E.trans (if_neg h14)
          refine V.seg F floX2 cjoX2 [.iconst 1] (by decide +kernel) (pc2 := 18) (lv2 := [(0, .ref 14), (1, .int (nI j2))]) (st2 := [.int 1]) (M2 := M) rfl ⟨trivial, trivial⟩ ?_
          exact V.zret F (Or.inr rfl) (by decide +kernel) ⟨congrArg (fun z => some (Value.int z)) E.symm, rfl, by rw [E]; exact Or.inr rfl⟩
  refine V.pick [1, 0] rfl ?_
  exact hJ2 _ 0 (by omega) (by omega) E
def f_X2_someComeToNone_2 (M : Mem) : Nat → Nat → Int32
  | 0, _ => 0
  | n_ + 1, j2 => if 8 ≤ (nI j2) then 0 else if (mI M (18 + 5 + ix (nI j2)) 0) = 0 then (f_X2_someComeToNone_2 M n_) (j2 + 1) else 1
def f_X2_someComeToNone (M : Mem) : Int32 := f_X2_someComeToNone_2 M 9 0
abbrev p_X2_someComeToNone (M : Mem) : Option Value → Mem → Prop := fun r N => r = some (.int (f_X2_someComeToNone M)) ∧ N = M ∧ ((f_X2_someComeToNone M) = 0 ∨ (f_X2_someComeToNone M) = 1)
set_option maxRecDepth 100000 in
set_option maxHeartbeats 4000000 in
theorem c_X2_someComeToNone (G : Ctx) (l : Launch) (M : Mem) (q : Ok M) : CT G l 0 mX2_someComeToNone [.ref 14] M 0 0 (p_X2_someComeToNone M) := by
  refine CT.of (by decide) (Nat.le_of_ble_eq_true rfl) ?_
  intro X d hd hl hRm hnm F
  subst hl
  have E : f_X2_someComeToNone M = f_X2_someComeToNone M := rfl
  show V G X 2 0 0 (Qx G X 0 0 (p_X2_someComeToNone M)) 0 [(0, .ref 14)] [] M
  refine V.seg F floX2 cjoX2 [.iconst 0] (by decide +kernel) (pc2 := 1) (lv2 := [(0, .ref 14)]) (st2 := [.int 0]) (M2 := M) rfl ⟨trivial, trivial⟩ ?_
  refine V.seg F floX2 cjoX2 [.istore_n 1] (by decide +kernel) (pc2 := 2) (lv2 := [(1, .int 0), (0, .ref 14)]) (st2 := []) (M2 := M) rfl ⟨(by decide), trivial⟩ ?_
  have hJ2 : ∀ (n_ : Nat) (j2 : Nat), (j2 ≤ 8) → (8 - j2 < n_) → f_X2_someComeToNone M = f_X2_someComeToNone_2 M n_ j2 → V G X 2 0 0 (Qx G X 0 0 (p_X2_someComeToNone M)) 2 [(0, .ref 14), (1, .int (nI j2))] [] M := by
    intro n_
    induction n_ with
    | zero => intro j2 b2 m2 E; omega
    | succ n_ ih_2 =>
      intro j2 b2 m2 E
      rw [f_X2_someComeToNone_2] at E
      refine V.seg F floX2 cjoX2 [.iload_n 1, .bipush 8] (by decide +kernel) (pc2 := 5) (lv2 := [(0, .ref 14), (1, .int (nI j2))]) (st2 := [.int 8, .int (nI j2)]) (M2 := M) rfl ⟨trivial, trivial, trivial⟩ ?_
      refine V.ic_ge (off := 23) F (by decide +kernel) (tgt := 28) (by decide) (fun h5 => ?_) (fun h5 => ?_)
      · replace E := E.trans (if_pos h5)
        refine V.seg F floX2 cjoX2 [.iconst 0] (by decide +kernel) (pc2 := 29) (lv2 := [(0, .ref 14), (1, .int (nI j2))]) (st2 := [.int 0]) (M2 := M) rfl ⟨trivial, trivial⟩ ?_
        exact V.zret F (Or.inl rfl) (by decide +kernel) ⟨congrArg (fun z => some (Value.int z)) E.symm, rfl, by rw [E]; exact Or.inl rfl⟩
      · replace E := E.trans (if_neg h5)
        refine V.seg F floX2 cjoX2 [.aload_n 0, .getfield 20, .iload_n 1] (by decide +kernel) (pc2 := 13) (lv2 := [(0, .ref 14), (1, .int (nI j2))]) (st2 := [.int (nI j2), .ref 18]) (M2 := M) rfl ⟨trivial, (q.f 14 2 1 rfl), trivial, trivial⟩ ?_
        refine V.aald (kd := 24) F (by decide +kernel) (q.a 18 24 8 rfl (vnj (cnt_lt (n := 8) h5 rfl (by omega) (by decide)) (by decide) (by decide))) ⟨by decide, by decide⟩ (q.el 18 24 8 rfl rfl (vnj (cnt_lt (n := 8) h5 rfl (by omega) (by decide)) (by decide) (by decide))) ?_
        show V G X 2 0 0 (Qx G X 0 0 (p_X2_someComeToNone M)) 14 [(0, .ref 14), (1, .int (nI j2))] [.ref (18 + 5 + ix (nI j2))] M
        refine V.seg F floX2 cjoX2 [.getfield 192] (by decide +kernel) (pc2 := 17) (lv2 := [(0, .ref 14), (1, .int (nI j2))]) (st2 := [.int (mI M (18 + 5 + ix (nI j2)) 0)]) (M2 := M) rfl ⟨(q.co (vnj (cnt_lt (n := 8) h5 rfl (by omega) (by decide)) (by decide) (by decide))), trivial⟩ ?_
        refine V.if_eq (off := 5) F (by decide +kernel) (tgt := 22) (by decide) (fun h17 => ?_) (fun h17 => ?_)
        · replace E := E.trans (if_pos h17)
          refine V.seg F floX2 cjoX2 [.iinc 1 1, .goto (-23)] (by decide +kernel) (pc2 := 2) (lv2 := [(1, .int ((nI j2) + 1)), (0, .ref 14)]) (st2 := []) (M2 := M) rfl ⟨(by decide), (by decide), trivial⟩ ?_
          refine V.pick [1, 0] rfl ?_
          rw [nI_1]
          exact ih_2 (j2 + 1) (by have hlt_ := cnt_lt (n := 8) h5 rfl (by omega) (by decide); omega) (by have hlt_ := cnt_lt (n := 8) h5 rfl (by omega) (by decide); omega) E
        · replace E := E.trans (if_neg h17)
          refine V.seg F floX2 cjoX2 [.iconst 1] (by decide +kernel) (pc2 := 21) (lv2 := [(0, .ref 14), (1, .int (nI j2))]) (st2 := [.int 1]) (M2 := M) rfl ⟨trivial, trivial⟩ ?_
          exact V.zret F (Or.inr rfl) (by decide +kernel) ⟨congrArg (fun z => some (Value.int z)) E.symm, rfl, by rw [E]; exact Or.inr rfl⟩
  refine V.pick [1, 0] rfl ?_
  exact hJ2 _ 0 (by omega) (by omega) E
def f_X2_fetch_c28 (j2 : Nat) (R2_ : Nat → Mem → Mem) (M28 : Mem) : Mem := R2_ (j2 + 1) M28
def f_X2_fetch_2 (rt : Nat) (ln : Int32) : Nat → Nat → Mem → Mem
  | 0, _, M2 => M2
  | n_ + 1, j2, M2 => if 8 ≤ (nI j2) then M2 else f_X2_fetch_c28 j2 (f_X2_fetch_2 rt ln n_) (f_X1_copy M2 (18 + 5 + ix (nI j2)) (rt + 5 + 10 + ix ((ln * 8) + (nI j2))))
def f_X2_fetch (M : Mem) (rt : Nat) (ln : Int32) : Mem := f_X2_fetch_2 rt ln 9 0 M
abbrev p_X2_fetch (M : Mem) (rt : Nat) (ln : Int32) : Option Value → Mem → Prop := fun r N => r = none ∧ N = f_X2_fetch M rt ln ∧ Sf M N
set_option maxRecDepth 100000 in
set_option maxHeartbeats 4000000 in
theorem c_X2_fetch (G : Ctx) (l : Launch) (M : Mem) (rt : Nat) (ln : Int32) (hr_rt : Rt M rt) (q : Ok M) (i_ln : vp_in ln 32) : CT G l 1 mX2_fetch [.ref 14, .ref rt, .int ln] M 0 0 (p_X2_fetch M rt ln) := by
  refine CT.of (by decide) (Nat.le_of_ble_eq_true rfl) ?_
  intro X d hd hl hRm hnm F
  subst hl
  have E : f_X2_fetch M rt ln = f_X2_fetch M rt ln := rfl
  show V G X 4 0 0 (Qx G X 0 0 (p_X2_fetch M rt ln)) 0 [(0, .ref 14), (1, .ref rt), (2, .int ln)] [] M
  refine V.seg F floX2 cjoX2 [.iconst 0] (by decide +kernel) (pc2 := 1) (lv2 := [(0, .ref 14), (1, .ref rt), (2, .int ln)]) (st2 := [.int 0]) (M2 := M) rfl ⟨trivial, trivial⟩ ?_
  refine V.seg F floX2 cjoX2 [.istore_n 3] (by decide +kernel) (pc2 := 2) (lv2 := [(3, .int 0), (0, .ref 14), (1, .ref rt), (2, .int ln)]) (st2 := []) (M2 := M) rfl ⟨(by decide), trivial⟩ ?_
  have hJ2 : ∀ (n_ : Nat) (j2 : Nat) (M2 : Mem), (Sf M M2) → (j2 ≤ 8) → (8 - j2 < n_) → f_X2_fetch M rt ln = f_X2_fetch_2 rt ln n_ j2 M2 → V G X 4 0 0 (Qx G X 0 0 (p_X2_fetch M rt ln)) 2 [(0, .ref 14), (1, .ref rt), (2, .int ln), (3, .int (nI j2))] [] M2 := by
    intro n_
    induction n_ with
    | zero => intro j2 M2 s2 b2 m2 E; omega
    | succ n_ ih_2 =>
      intro j2 M2 s2 b2 m2 E
      rw [f_X2_fetch_2] at E
      refine V.seg F floX2 cjoX2 [.iload_n 3, .bipush 8] (by decide +kernel) (pc2 := 5) (lv2 := [(0, .ref 14), (1, .ref rt), (2, .int ln), (3, .int (nI j2))]) (st2 := [.int 8, .int (nI j2)]) (M2 := M2) rfl ⟨trivial, trivial, trivial⟩ ?_
      refine V.ic_ge (off := 29) F (by decide +kernel) (tgt := 34) (by decide) (fun h5 => ?_) (fun h5 => ?_)
      · replace E := E.trans (if_pos h5)
        exact V.vret F (by decide +kernel) ⟨rfl, E.symm, s2⟩
      · replace E := E.trans (if_neg h5)
        refine V.seg F floX2 cjoX2 [.aload_n 0, .getfield 20, .iload_n 3] (by decide +kernel) (pc2 := 13) (lv2 := [(0, .ref 14), (1, .ref rt), (2, .int ln), (3, .int (nI j2))]) (st2 := [.int (nI j2), .ref 18]) (M2 := M2) rfl ⟨trivial, ((q.sm s2.1).f 14 2 1 rfl), trivial, trivial⟩ ?_
        refine V.aald (kd := 24) F (by decide +kernel) ((q.sm s2.1).a 18 24 8 rfl (vnj (cnt_lt (n := 8) h5 rfl (by omega) (by decide)) (by decide) (by decide))) ⟨by decide, by decide⟩ ((q.sm s2.1).el 18 24 8 rfl rfl (vnj (cnt_lt (n := 8) h5 rfl (by omega) (by decide)) (by decide) (by decide))) ?_
        show V G X 4 0 0 (Qx G X 0 0 (p_X2_fetch M rt ln)) 14 [(0, .ref 14), (1, .ref rt), (2, .int ln), (3, .int (nI j2))] [.ref (18 + 5 + ix (nI j2))] M2
        refine V.seg F floX2 cjoX2 [.aload_n 1, .getfield 75, .iload_n 2, .bipush 8, .imul, .iload_n 3, .iadd] (by decide +kernel) (pc2 := 24) (lv2 := [(0, .ref 14), (1, .ref rt), (2, .int ln), (3, .int (nI j2))]) (st2 := [.int ((ln * 8) + (nI j2)), .ref (rt + 5), .ref (18 + 5 + ix (nI j2))]) (M2 := M2) rfl ⟨trivial, (Rt.f (hr_rt.sm s2.1) 5 rfl), trivial, trivial, trivial, trivial, trivial, trivial⟩ ?_
        refine V.aald (kd := 26) F (by decide +kernel) (Rt.a (hr_rt.sm s2.1) 5 26 256 rfl (lpq i_ln (vnj (cnt_lt (n := 8) h5 rfl (by omega) (by decide)) (by decide) (by decide)))) ⟨by decide, by decide⟩ (Rt.aB (hr_rt.sm s2.1) (lpq i_ln (vnj (cnt_lt (n := 8) h5 rfl (by omega) (by decide)) (by decide) (by decide)))) ?_
        show V G X 4 0 0 (Qx G X 0 0 (p_X2_fetch M rt ln)) 25 [(0, .ref 14), (1, .ref rt), (2, .int ln), (3, .int (nI j2))] [.ref (rt + 5 + 10 + ix ((ln * 8) + (nI j2))), .ref (18 + 5 + ix (nI j2))] M2
        refine V.callV (as := [.ref (rt + 5 + 10 + ix ((ln * 8) + (nI j2)))]) (rest := []) F (by decide +kernel) lX2_52 bX1_copy ⟨1, _, ((q.sm s2.1).co (vnj (cnt_lt (n := 8) h5 rfl (by omega) (by decide)) (by decide) (by decide))), rfl, rfl⟩ (c_X1_copy G X.2.1 M2 (18 + 5 + ix (nI j2)) (rt + 5 + 10 + ix ((ln * 8) + (nI j2))) ((q.sm s2.1).co (vnj (cnt_lt (n := 8) h5 rfl (by omega) (by decide)) (by decide) (by decide))) (Rt.ah (hr_rt.sm s2.1) (lpq i_ln (vnj (cnt_lt (n := 8) h5 rfl (by omega) (by decide)) (by decide) (by decide))))) (rm_ok hRm hd (by decide) (by decide)) ⟨Nat.zero_le _, Nat.zero_le _⟩ (Nat.le_of_ble_eq_true rfl) (fun r_ N_ p_ => ?_)
        obtain ⟨rfl, rfl, t25⟩ := p_
        refine (?_ : ∀ (M28 : Mem), (Sf M M28) → f_X2_fetch M rt ln = f_X2_fetch_c28 j2 (f_X2_fetch_2 rt ln n_) M28 → V G X 4 0 0 (Qx G X 0 0 (p_X2_fetch M rt ln)) 28 [(0, .ref 14), (1, .ref rt), (2, .int ln), (3, .int (nI j2))] [] M28) _ (Sf.tr s2 t25) E
        intro M28 s28 E
        refine V.seg F floX2 cjoX2 [.iinc 3 1, .goto (-29)] (by decide +kernel) (pc2 := 2) (lv2 := [(3, .int ((nI j2) + 1)), (0, .ref 14), (1, .ref rt), (2, .int ln)]) (st2 := []) (M2 := M28) rfl ⟨(by decide), (by decide), trivial⟩ ?_
        refine V.pick [1, 2, 3, 0] rfl ?_
        rw [nI_1]
        exact ih_2 (j2 + 1) M28 s28 (by have hlt_ := cnt_lt (n := 8) h5 rfl (by omega) (by decide); omega) (by have hlt_ := cnt_lt (n := 8) h5 rfl (by omega) (by decide); omega) E
  refine V.pick [1, 2, 3, 0] rfl ?_
  exact hJ2 _ 0 M Sf.rf (by omega) (by omega) E
def f_X2_lookUp_56 (j8 : Nat) (R8_ : Nat → Mem → Mem) (M56 : Mem) : Mem := R8_ (j8 + 1) M56
def f_X2_lookUp_c56 (j8 : Nat) (R8_ : Nat → Mem → Mem) (M56 : Mem) : Mem := f_X2_lookUp_56 j8 R8_ M56
def f_X2_lookUp_c45 (o : Nat) (j8 : Nat) (R8_ : Nat → Mem → Mem) (M45 : Mem) : Mem := f_X2_lookUp_c56 j8 R8_ (f_X1_becomeJoin M45 o o 19)
def f_X2_lookUp_8 (t : Int32) (a : Nat) (o : Nat) : Nat → Nat → Mem → Mem
  | 0, _, M8 => M8
  | n_ + 1, j8, M8 => if (mI M8 10 (ix t)) ≤ (nI j8) then M8 else if (f_X1_holds M8 a (Int32.toInt64 (nI j8))) = 0 then f_X2_lookUp_56 j8 (f_X2_lookUp_8 t a o n_) M8 else f_X2_lookUp_c45 o j8 (f_X2_lookUp_8 t a o n_) (f_X1_makeConstant M8 19 (mL M8 (5 + 1 + ix t) (ix (nI j8))))
def f_X2_lookUp_c5 (t : Int32) (a : Nat) (o : Nat) (M : Mem) (M5 : Mem) : Mem := f_X2_lookUp_8 t a o (ix (mI M 10 (ix t)) + 1) 0 M5
def f_X2_lookUp (M : Mem) (t : Int32) (a : Nat) (o : Nat) : Mem := f_X2_lookUp_c5 t a o M (f_X1_makeNone M o)
abbrev p_X2_lookUp (M : Mem) (t : Int32) (a : Nat) (o : Nat) : Option Value → Mem → Prop := fun r N => r = none ∧ N = f_X2_lookUp M t a o ∧ Sf M N
set_option maxRecDepth 100000 in
set_option maxHeartbeats 4000000 in
theorem c_X2_lookUp (G : Ctx) (l : Launch) (M : Mem) (t : Int32) (a : Nat) (o : Nat) (o_a : isO M a 1) (o_o : isO M o 1) (q : Ok M) (i_t : vp_in t 4) (cT : cn (mI M 10 (ix t)) 16) : CT G l 4 mX2_lookUp [.ref 14, .ref 4, .int t, .ref a, .ref o] M 0 0 (p_X2_lookUp M t a o) := by
  refine CT.of (by decide) (Nat.le_of_ble_eq_true rfl) ?_
  intro X d hd hl hRm hnm F
  subst hl
  have E : f_X2_lookUp M t a o = f_X2_lookUp M t a o := rfl
  show V G X 6 0 0 (Qx G X 0 0 (p_X2_lookUp M t a o)) 0 [(0, .ref 14), (1, .ref 4), (2, .int t), (3, .ref a), (4, .ref o)] [] M
  refine V.seg F floX2 cjoX2 [.aload 4] (by decide +kernel) (pc2 := 2) (lv2 := [(0, .ref 14), (1, .ref 4), (2, .int t), (3, .ref a), (4, .ref o)]) (st2 := [.ref o]) (M2 := M) rfl ⟨trivial, trivial⟩ ?_
  refine V.callV (as := []) (rest := []) F (by decide +kernel) lX2_109 bX1_makeNone ⟨1, _, o_o, rfl, rfl⟩ (c_X1_makeNone G X.2.1 M o o_o) (rm_ok hRm hd (by decide) (by decide)) ⟨Nat.zero_le _, Nat.zero_le _⟩ (Nat.le_of_ble_eq_true rfl) (fun r_ N_ p_ => ?_)
  obtain ⟨rfl, rfl, t2⟩ := p_
  refine (?_ : ∀ (M5 : Mem), (Sf M M5) → f_X2_lookUp M t a o = f_X2_lookUp_c5 t a o M M5 → V G X 6 0 0 (Qx G X 0 0 (p_X2_lookUp M t a o)) 5 [(0, .ref 14), (1, .ref 4), (2, .int t), (3, .ref a), (4, .ref o)] [] M5) _ t2 E
  intro M5 s5 E
  refine V.seg F floX2 cjoX2 [.iconst 0] (by decide +kernel) (pc2 := 6) (lv2 := [(0, .ref 14), (1, .ref 4), (2, .int t), (3, .ref a), (4, .ref o)]) (st2 := [.int 0]) (M2 := M5) rfl ⟨trivial, trivial⟩ ?_
  refine V.seg F floX2 cjoX2 [.istore 5] (by decide +kernel) (pc2 := 8) (lv2 := [(5, .int 0), (0, .ref 14), (1, .ref 4), (2, .int t), (3, .ref a), (4, .ref o)]) (st2 := []) (M2 := M5) rfl ⟨(by decide), trivial⟩ ?_
  have hJ8 : ∀ (n_ : Nat) (j8 : Nat) (M8 : Mem), (Sf M M8) → (j8 ≤ ix (mI M 10 (ix t))) → (ix (mI M 10 (ix t)) - j8 < n_) → f_X2_lookUp M t a o = f_X2_lookUp_8 t a o n_ j8 M8 → V G X 6 0 0 (Qx G X 0 0 (p_X2_lookUp M t a o)) 8 [(0, .ref 14), (1, .ref 4), (2, .int t), (3, .ref a), (4, .ref o), (5, .int (nI j8))] [] M8 := by
    intro n_
    induction n_ with
    | zero => intro j8 M8 s8 b8 m8 E; omega
    | succ n_ ih_8 =>
      intro j8 M8 s8 b8 m8 E
      rw [f_X2_lookUp_8] at E
      refine V.seg F floX2 cjoX2 [.iload 5, .aload_n 1, .getfield 112, .iload_n 2, .iaload] (by decide +kernel) (pc2 := 16) (lv2 := [(0, .ref 14), (1, .ref 4), (2, .int t), (3, .ref a), (4, .ref o), (5, .int (nI j8))]) (st2 := [.int (mI M8 10 (ix t)), .int (nI j8)]) (M2 := M8) rfl ⟨trivial, trivial, ((q.sm s8.1).f 4 5 1 rfl), trivial, ((q.sm s8.1).a 10 20 4 rfl i_t), trivial⟩ ?_
      refine V.ic_ge (off := 46) F (by decide +kernel) (tgt := 62) (by decide) (fun h16 => ?_) (fun h16 => ?_)
      · replace E := E.trans (if_pos h16)
        exact V.vret F (by decide +kernel) ⟨rfl, E.symm, s8⟩
      · replace E := E.trans (if_neg h16)
        refine V.seg F floX2 cjoX2 [.aload_n 3, .iload 5, .i2l] (by decide +kernel) (pc2 := 23) (lv2 := [(0, .ref 14), (1, .ref 4), (2, .int t), (3, .ref a), (4, .ref o), (5, .int (nI j8))]) (st2 := [.long (Int32.toInt64 (nI j8)), .ref a]) (M2 := M8) rfl ⟨trivial, trivial, trivial, trivial⟩ ?_
        refine V.callV (as := [.long (Int32.toInt64 (nI j8))]) (rest := []) F (by decide +kernel) lX2_117 bX1_holds ⟨1, _, (o_a.sm s8.1), rfl, rfl⟩ (c_X1_holds G X.2.1 M8 a (Int32.toInt64 (nI j8)) (o_a.sm s8.1)) (rm_ok hRm hd (by decide) (by decide)) ⟨Nat.zero_le _, Nat.zero_le _⟩ (Nat.le_of_ble_eq_true rfl) (fun r_ N_ p_ => ?_)
        obtain ⟨rfl, hN_, z23⟩ := p_
        rw [hN_]
        clear hN_
        have hJ56 : ∀ (M56 : Mem), (Sf M M56) → f_X2_lookUp M t a o = f_X2_lookUp_56 j8 (f_X2_lookUp_8 t a o n_) M56 → V G X 6 0 0 (Qx G X 0 0 (p_X2_lookUp M t a o)) 56 [(0, .ref 14), (1, .ref 4), (2, .int t), (3, .ref a), (4, .ref o), (5, .int (nI j8))] [] M56 := by
          intro M56 s56 E
          refine V.seg F floX2 cjoX2 [.iinc 5 1, .goto (-51)] (by decide +kernel) (pc2 := 8) (lv2 := [(5, .int ((nI j8) + 1)), (0, .ref 14), (1, .ref 4), (2, .int t), (3, .ref a), (4, .ref o)]) (st2 := []) (M2 := M56) rfl ⟨(by decide), (by decide), trivial⟩ ?_
          refine V.pick [1, 2, 3, 4, 5, 0] rfl ?_
          rw [nI_1]
          exact ih_8 (j8 + 1) M56 s56 (by have le_ := cT.2; have hlt_ := cnt_lt (n := ix (mI M 10 (ix t))) h16 ((s8.2 10 _ (by decide)).1.trans cT.1) (by omega) (by omega); omega) (by have le_ := cT.2; have hlt_ := cnt_lt (n := ix (mI M 10 (ix t))) h16 ((s8.2 10 _ (by decide)).1.trans cT.1) (by omega) (by omega); omega) E
        refine V.if_eq (off := 30) F (by decide +kernel) (tgt := 56) (by decide) (fun h26 => ?_) (fun h26 => ?_)
        · replace E := E.trans (if_pos h26)
          refine V.pick [0, 1, 2, 3, 4, 5] rfl ?_
          exact hJ56 M8 s8 E
        · replace E := E.trans (if_neg h26)
          refine V.seg F floX2 cjoX2 [.aload_n 0, .getfield 25, .aload_n 1, .getfield 121, .iload_n 2] (by decide +kernel) (pc2 := 38) (lv2 := [(0, .ref 14), (1, .ref 4), (2, .int t), (3, .ref a), (4, .ref o), (5, .int (nI j8))]) (st2 := [.int t, .ref 5, .ref 19]) (M2 := M8) rfl ⟨trivial, ((q.sm s8.1).f 14 2 2 rfl), trivial, ((q.sm s8.1).f 4 5 0 rfl), trivial, trivial⟩ ?_
          refine V.aald (kd := 28) F (by decide +kernel) ((q.sm s8.1).a 5 28 4 rfl i_t) ⟨by decide, by decide⟩ ((q.sm s8.1).el 5 28 4 rfl rfl i_t) ?_
          show V G X 6 0 0 (Qx G X 0 0 (p_X2_lookUp M t a o)) 39 [(0, .ref 14), (1, .ref 4), (2, .int t), (3, .ref a), (4, .ref o), (5, .int (nI j8))] [.ref (5 + 1 + ix t), .ref 19] M8
          refine V.seg F floX2 cjoX2 [.iload 5, .laload] (by decide +kernel) (pc2 := 42) (lv2 := [(0, .ref 14), (1, .ref 4), (2, .int t), (3, .ref a), (4, .ref o), (5, .int (nI j8))]) (st2 := [.long (mL M8 (5 + 1 + ix t) (ix (nI j8))), .ref 19]) (M2 := M8) rfl ⟨trivial, ((q.sm s8.1).nu i_t (vp_in_nI (by have le_ := cT.2; have hlt_ := cnt_lt (n := ix (mI M 10 (ix t))) h16 ((s8.2 10 _ (by decide)).1.trans cT.1) (by omega) (by omega); omega) (by decide))), trivial⟩ ?_
          refine V.callV (as := [.long (mL M8 (5 + 1 + ix t) (ix (nI j8)))]) (rest := []) F (by decide +kernel) lX2_93 bX1_makeConstant ⟨1, _, ((q.sm s8.1).o 19 1 rfl), rfl, rfl⟩ (c_X1_makeConstant G X.2.1 M8 19 (mL M8 (5 + 1 + ix t) (ix (nI j8))) ((q.sm s8.1).o 19 1 rfl)) (rm_ok hRm hd (by decide) (by decide)) ⟨Nat.zero_le _, Nat.zero_le _⟩ (Nat.le_of_ble_eq_true rfl) (fun r_ N_ p_ => ?_)
          obtain ⟨rfl, rfl, t42⟩ := p_
          refine (?_ : ∀ (M45 : Mem), (Sf M M45) → f_X2_lookUp M t a o = f_X2_lookUp_c45 o j8 (f_X2_lookUp_8 t a o n_) M45 → V G X 6 0 0 (Qx G X 0 0 (p_X2_lookUp M t a o)) 45 [(0, .ref 14), (1, .ref 4), (2, .int t), (3, .ref a), (4, .ref o), (5, .int (nI j8))] [] M45) _ (Sf.tr s8 t42) E
          intro M45 s45 E
          refine V.seg F floX2 cjoX2 [.aload 4, .aload 4, .aload_n 0, .getfield 25] (by decide +kernel) (pc2 := 53) (lv2 := [(0, .ref 14), (1, .ref 4), (2, .int t), (3, .ref a), (4, .ref o), (5, .int (nI j8))]) (st2 := [.ref 19, .ref o, .ref o]) (M2 := M45) rfl ⟨trivial, trivial, trivial, ((q.sm s45.1).f 14 2 2 rfl), trivial⟩ ?_
          refine V.callV (as := [.ref o, .ref 19]) (rest := []) F (by decide +kernel) lX2_125 bX1_becomeJoin ⟨1, _, (o_o.sm s45.1), rfl, rfl⟩ (c_X1_becomeJoin G X.2.1 M45 o o 19 (o_o.sm s45.1) (o_o.sm s45.1) ((q.sm s45.1).o 19 1 rfl)) (rm_ok hRm hd (by decide) (by decide)) ⟨Nat.zero_le _, Nat.zero_le _⟩ (Nat.le_of_ble_eq_true rfl) (fun r_ N_ p_ => ?_)
          obtain ⟨rfl, rfl, t53⟩ := p_
          refine (?_ : ∀ (M56 : Mem), (Sf M M56) → f_X2_lookUp M t a o = f_X2_lookUp_c56 j8 (f_X2_lookUp_8 t a o n_) M56 → V G X 6 0 0 (Qx G X 0 0 (p_X2_lookUp M t a o)) 56 [(0, .ref 14), (1, .ref 4), (2, .int t), (3, .ref a), (4, .ref o), (5, .int (nI j8))] [] M56) _ (Sf.tr s45 t53) E
          intro M56 s56 E
          refine V.pick [0, 1, 2, 3, 4, 5] rfl ?_
          exact hJ56 M56 s56 E
  refine V.pick [1, 2, 3, 4, 5, 0] rfl ?_
  exact hJ8 _ 0 M5 s5 (by omega) (by omega) E
def f_X2_learnBit_c60  (M60 : Mem) : Mem := M60
def f_X2_learnBit_c34  (M34 : Mem) : Mem := M34
def f_X2_learnBit_9 (t : Nat) (b : Int64) (w0_9 : Int64) (M9 : Mem) : Mem := if ((((mL M9 t 4) ^^^ w0_9) &&& (mL M9 t 3)) &&& b) = 0 then f_X2_learnBit_c60 (f_X1_sharpen (uL (uL M9 t 3 ((mL M9 t 3) ||| b)) t 4 ((mL (uL M9 t 3 ((mL M9 t 3) ||| b)) t 4) ||| w0_9)) t) else f_X2_learnBit_c34 (f_X1_makeNone M9 t)
def f_X2_learnBit (M : Mem) (t : Nat) (b : Int64) (z : Int32) : Mem := if z = 0 then f_X2_learnBit_9 t b 0 M else f_X2_learnBit_9 t b b M
abbrev p_X2_learnBit (M : Mem) (t : Nat) (b : Int64) (z : Int32) : Option Value → Mem → Prop := fun r N => r = none ∧ N = f_X2_learnBit M t b z ∧ Sf M N
set_option maxRecDepth 100000 in
set_option maxHeartbeats 4000000 in
theorem c_X2_learnBit (G : Ctx) (l : Launch) (M : Mem) (t : Nat) (b : Int64) (z : Int32) (o_t : isO M t 1) (z_z : z = 0 ∨ z = 1) : CT G l 3 mX2_learnBit [.ref t, .long b, .int z] M 0 0 (p_X2_learnBit M t b z) := by
  refine CT.of (by decide) (Nat.le_of_ble_eq_true rfl) ?_
  intro X d hd hl hRm hnm F
  subst hl
  have E : f_X2_learnBit M t b z = f_X2_learnBit M t b z := rfl
  show V G X 6 0 0 (Qx G X 0 0 (p_X2_learnBit M t b z)) 0 [(0, .ref t), (1, .long b), (3, .int z)] [] M
  refine V.seg F floX2 cjoX2 [.iload_n 3] (by decide +kernel) (pc2 := 1) (lv2 := [(0, .ref t), (1, .long b), (3, .int z)]) (st2 := [.int z]) (M2 := M) rfl ⟨trivial, trivial⟩ ?_
  have hJ9 : ∀ (w0_9 : Int64) (M9 : Mem), (Sf M M9) → f_X2_learnBit M t b z = f_X2_learnBit_9 t b w0_9 M9 → V G X 6 0 0 (Qx G X 0 0 (p_X2_learnBit M t b z)) 9 [(0, .ref t), (1, .long b)] [.long w0_9] M9 := by
    intro w0_9 M9 s9 E
    refine V.seg F floX2 cjoX2 [.lstore 4, .aload_n 0, .getfield 160, .lload 4, .lxor, .aload_n 0, .getfield 163, .land, .lload_n 1, .land, .lconst 0, .lcmp] (by decide +kernel) (pc2 := 27) (lv2 := [(4, .long w0_9), (0, .ref t), (1, .long b)]) (st2 := [.int (lg_cmp ((((mL M9 t 4) ^^^ w0_9) &&& (mL M9 t 3)) &&& b) 0)]) (M2 := M9) rfl ⟨(by decide), trivial, (o_t.sm s9.1), trivial, trivial, trivial, (o_t.sm s9.1), trivial, trivial, trivial, trivial, trivial, trivial⟩ ?_
    refine V.lc_eq (off := 8) F (by decide +kernel) (tgt := 35) (by decide) (fun h27 => ?_) (fun h27 => ?_)
    · replace E := E.trans (if_pos h27)
      refine V.seg F floX2 cjoX2 [.aload_n 0, .dup, .getfield 163, .lload_n 1, .lor, .putfield 163, .aload_n 0, .dup, .getfield 160, .lload 4, .lor, .putfield 160, .aload_n 0] (by decide +kernel) (pc2 := 57) (lv2 := [(4, .long w0_9), (0, .ref t), (1, .long b)]) (st2 := [.ref t]) (M2 := uL (uL M9 t 3 ((mL M9 t 3) ||| b)) t 4 ((mL (uL M9 t 3 ((mL M9 t 3) ||| b)) t 4) ||| w0_9)) rfl ⟨trivial, trivial, (o_t.sm s9.1), trivial, trivial, (o_t.sm s9.1), trivial, trivial, (o_t.sm (Sf.pL s9 o_t.1).1), trivial, trivial, (o_t.sm (Sf.pL s9 o_t.1).1), trivial, trivial⟩ ?_
      refine V.callV (as := []) (rest := []) F (by decide +kernel) lX2_166 bX1_sharpen ⟨1, _, (o_t.sm (Sf.pL (Sf.pL s9 o_t.1) o_t.1).1), rfl, rfl⟩ (c_X1_sharpen G X.2.1 (uL (uL M9 t 3 ((mL M9 t 3) ||| b)) t 4 ((mL (uL M9 t 3 ((mL M9 t 3) ||| b)) t 4) ||| w0_9)) t (o_t.sm (Sf.pL (Sf.pL s9 o_t.1) o_t.1).1)) (rm_ok hRm hd (by decide) (by decide)) ⟨Nat.zero_le _, Nat.zero_le _⟩ (Nat.le_of_ble_eq_true rfl) (fun r_ N_ p_ => ?_)
      obtain ⟨rfl, rfl, t57⟩ := p_
      refine (?_ : ∀ (M60 : Mem), (Sf M M60) → f_X2_learnBit M t b z = f_X2_learnBit_c60 M60 → V G X 6 0 0 (Qx G X 0 0 (p_X2_learnBit M t b z)) 60 [(4, .long w0_9), (0, .ref t), (1, .long b)] [] M60) _ (Sf.tr (Sf.pL (Sf.pL s9 o_t.1) o_t.1) t57) E
      intro M60 s60 E
      exact V.vret F (by decide +kernel) ⟨rfl, E.symm, s60⟩
    · replace E := E.trans (if_neg h27)
      refine V.seg F floX2 cjoX2 [.aload_n 0] (by decide +kernel) (pc2 := 31) (lv2 := [(4, .long w0_9), (0, .ref t), (1, .long b)]) (st2 := [.ref t]) (M2 := M9) rfl ⟨trivial, trivial⟩ ?_
      refine V.callV (as := []) (rest := []) F (by decide +kernel) lX2_109 bX1_makeNone ⟨1, _, (o_t.sm s9.1), rfl, rfl⟩ (c_X1_makeNone G X.2.1 M9 t (o_t.sm s9.1)) (rm_ok hRm hd (by decide) (by decide)) ⟨Nat.zero_le _, Nat.zero_le _⟩ (Nat.le_of_ble_eq_true rfl) (fun r_ N_ p_ => ?_)
      obtain ⟨rfl, rfl, t31⟩ := p_
      refine (?_ : ∀ (M34 : Mem), (Sf M M34) → f_X2_learnBit M t b z = f_X2_learnBit_c34 M34 → V G X 6 0 0 (Qx G X 0 0 (p_X2_learnBit M t b z)) 34 [(4, .long w0_9), (0, .ref t), (1, .long b)] [] M34) _ (Sf.tr s9 t31) E
      intro M34 s34 E
      exact V.vret F (by decide +kernel) ⟨rfl, E.symm, s34⟩
  refine V.if_eq (off := 7) F (by decide +kernel) (tgt := 8) (by decide) (fun h1 => ?_) (fun h1 => ?_)
  · replace E := E.trans (if_pos h1)
    refine V.seg F floX2 cjoX2 [.lconst 0] (by decide +kernel) (pc2 := 9) (lv2 := [(0, .ref t), (1, .long b), (3, .int z)]) (st2 := [.long 0]) (M2 := M) rfl ⟨trivial, trivial⟩ ?_
    refine V.pick [0, 1] rfl ?_
    exact hJ9 0 M Sf.rf E
  · replace E := E.trans (if_neg h1)
    refine V.seg F floX2 cjoX2 [.lload_n 1, .goto 4] (by decide +kernel) (pc2 := 9) (lv2 := [(0, .ref t), (1, .long b), (3, .int z)]) (st2 := [.long b]) (M2 := M) rfl ⟨trivial, (by decide), trivial⟩ ?_
    refine V.pick [0, 1] rfl ?_
    exact hJ9 b M Sf.rf E
def f_X2_keepApart_c85  (M85 : Mem) : Mem := M85
def f_X2_keepApart_81 (t : Nat) (M81 : Mem) : Mem := f_X2_keepApart_c85 (f_X1_sharpen M81 t)
def f_X2_keepApart_59 (a : Nat) (b : Nat) (t : Nat) (M59 : Mem) : Mem := if (mL M59 a 2) = (mL M59 b 1) then f_X2_keepApart_81 t (uL M59 t 2 ((mL M59 t 2) - 1)) else f_X2_keepApart_81 t M59
def f_X2_keepApart_36  (M36 : Mem) : Mem := M36
def f_X2_keepApart_c36  (M36 : Mem) : Mem := f_X2_keepApart_36 M36
def f_X2_keepApart_c5 (a : Nat) (b : Nat) (t : Nat) (M5 : Mem) : Mem := if (f_X1_isConstant M5 b) = 0 then M5 else if (f_X1_isConstant M5 a) = 0 then if (mL M5 a 1) = (mL M5 b 1) then f_X2_keepApart_59 a b t (uL M5 t 1 ((mL M5 t 1) + 1)) else f_X2_keepApart_59 a b t M5 else if (mL M5 a 1) = (mL M5 b 1) then f_X2_keepApart_c36 (f_X1_makeNone M5 t) else f_X2_keepApart_36 M5
def f_X2_keepApart (M : Mem) (a : Nat) (b : Nat) (t : Nat) : Mem := f_X2_keepApart_c5 a b t (f_X1_copy M t a)
abbrev p_X2_keepApart (M : Mem) (a : Nat) (b : Nat) (t : Nat) : Option Value → Mem → Prop := fun r N => r = none ∧ N = f_X2_keepApart M a b t ∧ Sf M N
set_option maxRecDepth 100000 in
set_option maxHeartbeats 4000000 in
theorem c_X2_keepApart (G : Ctx) (l : Launch) (M : Mem) (a : Nat) (b : Nat) (t : Nat) (o_a : isO M a 1) (o_b : isO M b 1) (o_t : isO M t 1) : CT G l 3 mX2_keepApart [.ref a, .ref b, .ref t] M 0 0 (p_X2_keepApart M a b t) := by
  refine CT.of (by decide) (Nat.le_of_ble_eq_true rfl) ?_
  intro X d hd hl hRm hnm F
  subst hl
  have E : f_X2_keepApart M a b t = f_X2_keepApart M a b t := rfl
  show V G X 3 0 0 (Qx G X 0 0 (p_X2_keepApart M a b t)) 0 [(0, .ref a), (1, .ref b), (2, .ref t)] [] M
  refine V.seg F floX2 cjoX2 [.aload_n 2, .aload_n 0] (by decide +kernel) (pc2 := 2) (lv2 := [(0, .ref a), (1, .ref b), (2, .ref t)]) (st2 := [.ref a, .ref t]) (M2 := M) rfl ⟨trivial, trivial, trivial⟩ ?_
  refine V.callV (as := [.ref a]) (rest := []) F (by decide +kernel) lX2_52 bX1_copy ⟨1, _, o_t, rfl, rfl⟩ (c_X1_copy G X.2.1 M t a o_t o_a) (rm_ok hRm hd (by decide) (by decide)) ⟨Nat.zero_le _, Nat.zero_le _⟩ (Nat.le_of_ble_eq_true rfl) (fun r_ N_ p_ => ?_)
  obtain ⟨rfl, rfl, t2⟩ := p_
  refine (?_ : ∀ (M5 : Mem), (Sf M M5) → f_X2_keepApart M a b t = f_X2_keepApart_c5 a b t M5 → V G X 3 0 0 (Qx G X 0 0 (p_X2_keepApart M a b t)) 5 [(0, .ref a), (1, .ref b), (2, .ref t)] [] M5) _ t2 E
  intro M5 s5 E
  refine V.seg F floX2 cjoX2 [.aload_n 1] (by decide +kernel) (pc2 := 6) (lv2 := [(0, .ref a), (1, .ref b), (2, .ref t)]) (st2 := [.ref b]) (M2 := M5) rfl ⟨trivial, trivial⟩ ?_
  refine V.callV (as := []) (rest := []) F (by decide +kernel) lX2_169 bX1_isConstant ⟨1, _, (o_b.sm s5.1), rfl, rfl⟩ (c_X1_isConstant G X.2.1 M5 b (o_b.sm s5.1)) (rm_ok hRm hd (by decide) (by decide)) ⟨Nat.zero_le _, Nat.zero_le _⟩ (Nat.le_of_ble_eq_true rfl) (fun r_ N_ p_ => ?_)
  obtain ⟨rfl, hN_, z6⟩ := p_
  rw [hN_]
  clear hN_
  refine V.if_ne (off := 4) F (by decide +kernel) (tgt := 13) (by decide) (fun h9 => ?_) (fun h9 => ?_)
  · replace E := E.trans (if_neg h9)
    refine V.seg F floX2 cjoX2 [.aload_n 0] (by decide +kernel) (pc2 := 14) (lv2 := [(0, .ref a), (1, .ref b), (2, .ref t)]) (st2 := [.ref a]) (M2 := M5) rfl ⟨trivial, trivial⟩ ?_
    refine V.callV (as := []) (rest := []) F (by decide +kernel) lX2_169 bX1_isConstant ⟨1, _, (o_a.sm s5.1), rfl, rfl⟩ (c_X1_isConstant G X.2.1 M5 a (o_a.sm s5.1)) (rm_ok hRm hd (by decide) (by decide)) ⟨Nat.zero_le _, Nat.zero_le _⟩ (Nat.le_of_ble_eq_true rfl) (fun r_ N_ p_ => ?_)
    obtain ⟨rfl, hN_, z14⟩ := p_
    rw [hN_]
    clear hN_
    refine V.if_eq (off := 20) F (by decide +kernel) (tgt := 37) (by decide) (fun h17 => ?_) (fun h17 => ?_)
    · replace E := E.trans (if_pos h17)
      refine V.seg F floX2 cjoX2 [.aload_n 0, .getfield 146, .aload_n 1, .getfield 146, .lcmp] (by decide +kernel) (pc2 := 46) (lv2 := [(0, .ref a), (1, .ref b), (2, .ref t)]) (st2 := [.int (lg_cmp (mL M5 a 1) (mL M5 b 1))]) (M2 := M5) rfl ⟨trivial, (o_a.sm s5.1), trivial, (o_b.sm s5.1), trivial, trivial⟩ ?_
      have hJ59 : ∀ (M59 : Mem), (Sf M M59) → f_X2_keepApart M a b t = f_X2_keepApart_59 a b t M59 → V G X 3 0 0 (Qx G X 0 0 (p_X2_keepApart M a b t)) 59 [(0, .ref a), (1, .ref b), (2, .ref t)] [] M59 := by
        intro M59 s59 E
        refine V.seg F floX2 cjoX2 [.aload_n 0, .getfield 154, .aload_n 1, .getfield 146, .lcmp] (by decide +kernel) (pc2 := 68) (lv2 := [(0, .ref a), (1, .ref b), (2, .ref t)]) (st2 := [.int (lg_cmp (mL M59 a 2) (mL M59 b 1))]) (M2 := M59) rfl ⟨trivial, (o_a.sm s59.1), trivial, (o_b.sm s59.1), trivial, trivial⟩ ?_
        have hJ81 : ∀ (M81 : Mem), (Sf M M81) → f_X2_keepApart M a b t = f_X2_keepApart_81 t M81 → V G X 3 0 0 (Qx G X 0 0 (p_X2_keepApart M a b t)) 81 [(2, .ref t)] [] M81 := by
          intro M81 s81 E
          refine V.seg F floX2 cjoX2 [.aload_n 2] (by decide +kernel) (pc2 := 82) (lv2 := [(2, .ref t)]) (st2 := [.ref t]) (M2 := M81) rfl ⟨trivial, trivial⟩ ?_
          refine V.callV (as := []) (rest := []) F (by decide +kernel) lX2_166 bX1_sharpen ⟨1, _, (o_t.sm s81.1), rfl, rfl⟩ (c_X1_sharpen G X.2.1 M81 t (o_t.sm s81.1)) (rm_ok hRm hd (by decide) (by decide)) ⟨Nat.zero_le _, Nat.zero_le _⟩ (Nat.le_of_ble_eq_true rfl) (fun r_ N_ p_ => ?_)
          obtain ⟨rfl, rfl, t82⟩ := p_
          refine (?_ : ∀ (M85 : Mem), (Sf M M85) → f_X2_keepApart M a b t = f_X2_keepApart_c85 M85 → V G X 3 0 0 (Qx G X 0 0 (p_X2_keepApart M a b t)) 85 [(2, .ref t)] [] M85) _ (Sf.tr s81 t82) E
          intro M85 s85 E
          exact V.vret F (by decide +kernel) ⟨rfl, E.symm, s85⟩
        refine V.lc_ne (off := 13) F (by decide +kernel) (tgt := 81) (by decide) (fun h68 => ?_) (fun h68 => ?_)
        · replace E := E.trans (if_neg h68)
          refine V.pick [2] rfl ?_
          exact hJ81 M59 s59 E
        · replace E := E.trans (if_pos h68)
          refine V.seg F floX2 cjoX2 [.aload_n 2, .dup, .getfield 154, .lconst 1, .lsub, .putfield 154] (by decide +kernel) (pc2 := 81) (lv2 := [(0, .ref a), (1, .ref b), (2, .ref t)]) (st2 := []) (M2 := uL M59 t 2 ((mL M59 t 2) - 1)) rfl ⟨trivial, trivial, (o_t.sm s59.1), trivial, trivial, (o_t.sm s59.1), trivial⟩ ?_
          refine V.pick [2] rfl ?_
          exact hJ81 (uL M59 t 2 ((mL M59 t 2) - 1)) (Sf.pL s59 o_t.1) E
      refine V.lc_ne (off := 13) F (by decide +kernel) (tgt := 59) (by decide) (fun h46 => ?_) (fun h46 => ?_)
      · replace E := E.trans (if_neg h46)
        refine V.pick [0, 1, 2] rfl ?_
        exact hJ59 M5 s5 E
      · replace E := E.trans (if_pos h46)
        refine V.seg F floX2 cjoX2 [.aload_n 2, .dup, .getfield 146, .lconst 1, .ladd, .putfield 146] (by decide +kernel) (pc2 := 59) (lv2 := [(0, .ref a), (1, .ref b), (2, .ref t)]) (st2 := []) (M2 := uL M5 t 1 ((mL M5 t 1) + 1)) rfl ⟨trivial, trivial, (o_t.sm s5.1), trivial, trivial, (o_t.sm s5.1), trivial⟩ ?_
        refine V.pick [0, 1, 2] rfl ?_
        exact hJ59 (uL M5 t 1 ((mL M5 t 1) + 1)) (Sf.pL s5 o_t.1) E
    · replace E := E.trans (if_neg h17)
      refine V.seg F floX2 cjoX2 [.aload_n 0, .getfield 146, .aload_n 1, .getfield 146, .lcmp] (by decide +kernel) (pc2 := 29) (lv2 := [(0, .ref a), (1, .ref b), (2, .ref t)]) (st2 := [.int (lg_cmp (mL M5 a 1) (mL M5 b 1))]) (M2 := M5) rfl ⟨trivial, (o_a.sm s5.1), trivial, (o_b.sm s5.1), trivial, trivial⟩ ?_
      have hJ36 : ∀ (M36 : Mem), (Sf M M36) → f_X2_keepApart M a b t = f_X2_keepApart_36 M36 → V G X 3 0 0 (Qx G X 0 0 (p_X2_keepApart M a b t)) 36 [] [] M36 := by
        intro M36 s36 E
        exact V.vret F (by decide +kernel) ⟨rfl, E.symm, s36⟩
      refine V.lc_ne (off := 7) F (by decide +kernel) (tgt := 36) (by decide) (fun h29 => ?_) (fun h29 => ?_)
      · replace E := E.trans (if_neg h29)
        refine V.pick [] rfl ?_
        exact hJ36 M5 s5 E
      · replace E := E.trans (if_pos h29)
        refine V.seg F floX2 cjoX2 [.aload_n 2] (by decide +kernel) (pc2 := 33) (lv2 := [(0, .ref a), (1, .ref b), (2, .ref t)]) (st2 := [.ref t]) (M2 := M5) rfl ⟨trivial, trivial⟩ ?_
        refine V.callV (as := []) (rest := []) F (by decide +kernel) lX2_109 bX1_makeNone ⟨1, _, (o_t.sm s5.1), rfl, rfl⟩ (c_X1_makeNone G X.2.1 M5 t (o_t.sm s5.1)) (rm_ok hRm hd (by decide) (by decide)) ⟨Nat.zero_le _, Nat.zero_le _⟩ (Nat.le_of_ble_eq_true rfl) (fun r_ N_ p_ => ?_)
        obtain ⟨rfl, rfl, t33⟩ := p_
        refine (?_ : ∀ (M36 : Mem), (Sf M M36) → f_X2_keepApart M a b t = f_X2_keepApart_c36 M36 → V G X 3 0 0 (Qx G X 0 0 (p_X2_keepApart M a b t)) 36 [(0, .ref a), (1, .ref b), (2, .ref t)] [] M36) _ (Sf.tr s5 t33) E
        intro M36 s36 E
        refine V.pick [] rfl ?_
        exact hJ36 M36 s36 E
  · replace E := E.trans (if_pos h9)
    exact V.vret F (by decide +kernel) ⟨rfl, E.symm, s5⟩
def f_X2_keepFrom_c21  (M21 : Mem) : Mem := M21
def f_X2_keepFrom_c5 (a : Nat) (v : Int64) (t : Nat) (M5 : Mem) : Mem := f_X2_keepFrom_c21 (f_X1_sharpen (uL M5 t 1 (jmax (mL M5 a 1) v)) t)
def f_X2_keepFrom (M : Mem) (a : Nat) (v : Int64) (t : Nat) : Mem := f_X2_keepFrom_c5 a v t (f_X1_copy M t a)
abbrev p_X2_keepFrom (M : Mem) (a : Nat) (v : Int64) (t : Nat) : Option Value → Mem → Prop := fun r N => r = none ∧ N = f_X2_keepFrom M a v t ∧ Sf M N
set_option maxRecDepth 100000 in
set_option maxHeartbeats 4000000 in
theorem c_X2_keepFrom (G : Ctx) (l : Launch) (M : Mem) (a : Nat) (v : Int64) (t : Nat) (o_a : isO M a 1) (o_t : isO M t 1) : CT G l 3 mX2_keepFrom [.ref a, .long v, .ref t] M 0 0 (p_X2_keepFrom M a v t) := by
  refine CT.of (by decide) (Nat.le_of_ble_eq_true rfl) ?_
  intro X d hd hl hRm hnm F
  subst hl
  have E : f_X2_keepFrom M a v t = f_X2_keepFrom M a v t := rfl
  show V G X 4 0 0 (Qx G X 0 0 (p_X2_keepFrom M a v t)) 0 [(0, .ref a), (1, .long v), (3, .ref t)] [] M
  refine V.seg F floX2 cjoX2 [.aload_n 3, .aload_n 0] (by decide +kernel) (pc2 := 2) (lv2 := [(0, .ref a), (1, .long v), (3, .ref t)]) (st2 := [.ref a, .ref t]) (M2 := M) rfl ⟨trivial, trivial, trivial⟩ ?_
  refine V.callV (as := [.ref a]) (rest := []) F (by decide +kernel) lX2_52 bX1_copy ⟨1, _, o_t, rfl, rfl⟩ (c_X1_copy G X.2.1 M t a o_t o_a) (rm_ok hRm hd (by decide) (by decide)) ⟨Nat.zero_le _, Nat.zero_le _⟩ (Nat.le_of_ble_eq_true rfl) (fun r_ N_ p_ => ?_)
  obtain ⟨rfl, rfl, t2⟩ := p_
  refine (?_ : ∀ (M5 : Mem), (Sf M M5) → f_X2_keepFrom M a v t = f_X2_keepFrom_c5 a v t M5 → V G X 4 0 0 (Qx G X 0 0 (p_X2_keepFrom M a v t)) 5 [(0, .ref a), (1, .long v), (3, .ref t)] [] M5) _ t2 E
  intro M5 s5 E
  refine V.seg F floX2 cjoX2 [.aload_n 3, .aload_n 0, .getfield 146, .lload_n 1] (by decide +kernel) (pc2 := 11) (lv2 := [(0, .ref a), (1, .long v), (3, .ref t)]) (st2 := [.long v, .long (mL M5 a 1), .ref t]) (M2 := M5) rfl ⟨trivial, trivial, (o_a.sm s5.1), trivial, trivial⟩ ?_
  refine V.mmaxL (st := [.ref t]) F (by decide +kernel) lX2_176 (rm_ok hRm hd (by decide) (by decide)) ⟨Nat.zero_le _, Nat.zero_le _⟩ (Nat.le_of_ble_eq_true rfl) ?_
  refine V.seg F floX2 cjoX2 [.putfield 146, .aload_n 3] (by decide +kernel) (pc2 := 18) (lv2 := [(0, .ref a), (1, .long v), (3, .ref t)]) (st2 := [.ref t]) (M2 := uL M5 t 1 (jmax (mL M5 a 1) v)) rfl ⟨(o_t.sm s5.1), trivial, trivial⟩ ?_
  refine V.callV (as := []) (rest := []) F (by decide +kernel) lX2_166 bX1_sharpen ⟨1, _, (o_t.sm (Sf.pL s5 o_t.1).1), rfl, rfl⟩ (c_X1_sharpen G X.2.1 (uL M5 t 1 (jmax (mL M5 a 1) v)) t (o_t.sm (Sf.pL s5 o_t.1).1)) (rm_ok hRm hd (by decide) (by decide)) ⟨Nat.zero_le _, Nat.zero_le _⟩ (Nat.le_of_ble_eq_true rfl) (fun r_ N_ p_ => ?_)
  obtain ⟨rfl, rfl, t18⟩ := p_
  refine (?_ : ∀ (M21 : Mem), (Sf M M21) → f_X2_keepFrom M a v t = f_X2_keepFrom_c21 M21 → V G X 4 0 0 (Qx G X 0 0 (p_X2_keepFrom M a v t)) 21 [(0, .ref a), (1, .long v), (3, .ref t)] [] M21) _ (Sf.tr (Sf.pL s5 o_t.1) t18) E
  intro M21 s21 E
  exact V.vret F (by decide +kernel) ⟨rfl, E.symm, s21⟩
def f_X2_keepUpTo_c21  (M21 : Mem) : Mem := M21
def f_X2_keepUpTo_c5 (a : Nat) (v : Int64) (t : Nat) (M5 : Mem) : Mem := f_X2_keepUpTo_c21 (f_X1_sharpen (uL M5 t 2 (jmin (mL M5 a 2) v)) t)
def f_X2_keepUpTo (M : Mem) (a : Nat) (v : Int64) (t : Nat) : Mem := f_X2_keepUpTo_c5 a v t (f_X1_copy M t a)
abbrev p_X2_keepUpTo (M : Mem) (a : Nat) (v : Int64) (t : Nat) : Option Value → Mem → Prop := fun r N => r = none ∧ N = f_X2_keepUpTo M a v t ∧ Sf M N
set_option maxRecDepth 100000 in
set_option maxHeartbeats 4000000 in
theorem c_X2_keepUpTo (G : Ctx) (l : Launch) (M : Mem) (a : Nat) (v : Int64) (t : Nat) (o_a : isO M a 1) (o_t : isO M t 1) : CT G l 3 mX2_keepUpTo [.ref a, .long v, .ref t] M 0 0 (p_X2_keepUpTo M a v t) := by
  refine CT.of (by decide) (Nat.le_of_ble_eq_true rfl) ?_
  intro X d hd hl hRm hnm F
  subst hl
  have E : f_X2_keepUpTo M a v t = f_X2_keepUpTo M a v t := rfl
  show V G X 4 0 0 (Qx G X 0 0 (p_X2_keepUpTo M a v t)) 0 [(0, .ref a), (1, .long v), (3, .ref t)] [] M
  refine V.seg F floX2 cjoX2 [.aload_n 3, .aload_n 0] (by decide +kernel) (pc2 := 2) (lv2 := [(0, .ref a), (1, .long v), (3, .ref t)]) (st2 := [.ref a, .ref t]) (M2 := M) rfl ⟨trivial, trivial, trivial⟩ ?_
  refine V.callV (as := [.ref a]) (rest := []) F (by decide +kernel) lX2_52 bX1_copy ⟨1, _, o_t, rfl, rfl⟩ (c_X1_copy G X.2.1 M t a o_t o_a) (rm_ok hRm hd (by decide) (by decide)) ⟨Nat.zero_le _, Nat.zero_le _⟩ (Nat.le_of_ble_eq_true rfl) (fun r_ N_ p_ => ?_)
  obtain ⟨rfl, rfl, t2⟩ := p_
  refine (?_ : ∀ (M5 : Mem), (Sf M M5) → f_X2_keepUpTo M a v t = f_X2_keepUpTo_c5 a v t M5 → V G X 4 0 0 (Qx G X 0 0 (p_X2_keepUpTo M a v t)) 5 [(0, .ref a), (1, .long v), (3, .ref t)] [] M5) _ t2 E
  intro M5 s5 E
  refine V.seg F floX2 cjoX2 [.aload_n 3, .aload_n 0, .getfield 154, .lload_n 1] (by decide +kernel) (pc2 := 11) (lv2 := [(0, .ref a), (1, .long v), (3, .ref t)]) (st2 := [.long v, .long (mL M5 a 2), .ref t]) (M2 := M5) rfl ⟨trivial, trivial, (o_a.sm s5.1), trivial, trivial⟩ ?_
  refine V.mminL (st := [.ref t]) F (by decide +kernel) lX2_182 (rm_ok hRm hd (by decide) (by decide)) ⟨Nat.zero_le _, Nat.zero_le _⟩ (Nat.le_of_ble_eq_true rfl) ?_
  refine V.seg F floX2 cjoX2 [.putfield 154, .aload_n 3] (by decide +kernel) (pc2 := 18) (lv2 := [(0, .ref a), (1, .long v), (3, .ref t)]) (st2 := [.ref t]) (M2 := uL M5 t 2 (jmin (mL M5 a 2) v)) rfl ⟨(o_t.sm s5.1), trivial, trivial⟩ ?_
  refine V.callV (as := []) (rest := []) F (by decide +kernel) lX2_166 bX1_sharpen ⟨1, _, (o_t.sm (Sf.pL s5 o_t.1).1), rfl, rfl⟩ (c_X1_sharpen G X.2.1 (uL M5 t 2 (jmin (mL M5 a 2) v)) t (o_t.sm (Sf.pL s5 o_t.1).1)) (rm_ok hRm hd (by decide) (by decide)) ⟨Nat.zero_le _, Nat.zero_le _⟩ (Nat.le_of_ble_eq_true rfl) (fun r_ N_ p_ => ?_)
  obtain ⟨rfl, rfl, t18⟩ := p_
  refine (?_ : ∀ (M21 : Mem), (Sf M M21) → f_X2_keepUpTo M a v t = f_X2_keepUpTo_c21 M21 → V G X 4 0 0 (Qx G X 0 0 (p_X2_keepUpTo M a v t)) 21 [(0, .ref a), (1, .long v), (3, .ref t)] [] M21) _ (Sf.tr (Sf.pL s5 o_t.1) t18) E
  intro M21 s21 E
  exact V.vret F (by decide +kernel) ⟨rfl, E.symm, s21⟩
def f_X2_keepBelow_29  (M29 : Mem) : Mem := M29
def f_X2_keepBelow_c29  (M29 : Mem) : Mem := f_X2_keepBelow_29 M29
def f_X2_keepBelow_c15  (M15 : Mem) : Mem := f_X2_keepBelow_29 M15
def f_X2_keepBelow (M : Mem) (a : Nat) (b : Nat) (t : Nat) : Mem := if (mL M b 2) = ((-9223372036854775808)) then f_X2_keepBelow_c15 (f_X1_makeNone M t) else f_X2_keepBelow_c29 (f_X2_keepUpTo M a ((mL M b 2) - 1) t)
abbrev p_X2_keepBelow (M : Mem) (a : Nat) (b : Nat) (t : Nat) : Option Value → Mem → Prop := fun r N => r = none ∧ N = f_X2_keepBelow M a b t ∧ Sf M N
set_option maxRecDepth 100000 in
set_option maxHeartbeats 4000000 in
theorem c_X2_keepBelow (G : Ctx) (l : Launch) (M : Mem) (a : Nat) (b : Nat) (t : Nat) (o_a : isO M a 1) (o_b : isO M b 1) (o_t : isO M t 1) : CT G l 4 mX2_keepBelow [.ref a, .ref b, .ref t] M 0 0 (p_X2_keepBelow M a b t) := by
  refine CT.of (by decide) (Nat.le_of_ble_eq_true rfl) ?_
  intro X d hd hl hRm hnm F
  subst hl
  have E : f_X2_keepBelow M a b t = f_X2_keepBelow M a b t := rfl
  show V G X 3 0 0 (Qx G X 0 0 (p_X2_keepBelow M a b t)) 0 [(0, .ref a), (1, .ref b), (2, .ref t)] [] M
  refine V.seg F floX2 cjoX2 [.aload_n 1, .getfield 154, .ldc2_w 172, .lcmp] (by decide +kernel) (pc2 := 8) (lv2 := [(0, .ref a), (1, .ref b), (2, .ref t)]) (st2 := [.int (lg_cmp (mL M b 2) ((-9223372036854775808)))]) (M2 := M) rfl ⟨trivial, o_b, trivial, trivial, trivial⟩ ?_
  have hJ29 : ∀ (M29 : Mem), (Sf M M29) → f_X2_keepBelow M a b t = f_X2_keepBelow_29 M29 → V G X 3 0 0 (Qx G X 0 0 (p_X2_keepBelow M a b t)) 29 [] [] M29 := by
    intro M29 s29 E
    exact V.vret F (by decide +kernel) ⟨rfl, E.symm, s29⟩
  refine V.lc_ne (off := 10) F (by decide +kernel) (tgt := 18) (by decide) (fun h8 => ?_) (fun h8 => ?_)
  · replace E := E.trans (if_neg h8)
    refine V.seg F floX2 cjoX2 [.aload_n 0, .aload_n 1, .getfield 154, .lconst 1, .lsub, .aload_n 2] (by decide +kernel) (pc2 := 26) (lv2 := [(0, .ref a), (1, .ref b), (2, .ref t)]) (st2 := [.ref t, .long ((mL M b 2) - 1), .ref a]) (M2 := M) rfl ⟨trivial, trivial, o_b, trivial, trivial, trivial, trivial⟩ ?_
    refine V.callS (as := [.ref a, .long ((mL M b 2) - 1), .ref t]) (rest := []) F (by decide +kernel) lX2_157 bX2_keepUpTo (c_X2_keepUpTo G X.2.1 M a ((mL M b 2) - 1) t o_a o_t) (rm_ok hRm hd (by decide) (by decide)) ⟨Nat.zero_le _, Nat.zero_le _⟩ (Nat.le_of_ble_eq_true rfl) (fun r_ N_ p_ => ?_)
    obtain ⟨rfl, rfl, t26⟩ := p_
    refine (?_ : ∀ (M29 : Mem), (Sf M M29) → f_X2_keepBelow M a b t = f_X2_keepBelow_c29 M29 → V G X 3 0 0 (Qx G X 0 0 (p_X2_keepBelow M a b t)) 29 [(0, .ref a), (1, .ref b), (2, .ref t)] [] M29) _ t26 E
    intro M29 s29 E
    refine V.pick [] rfl ?_
    exact hJ29 M29 s29 E
  · replace E := E.trans (if_pos h8)
    refine V.seg F floX2 cjoX2 [.aload_n 2] (by decide +kernel) (pc2 := 12) (lv2 := [(0, .ref a), (1, .ref b), (2, .ref t)]) (st2 := [.ref t]) (M2 := M) rfl ⟨trivial, trivial⟩ ?_
    refine V.callV (as := []) (rest := []) F (by decide +kernel) lX2_109 bX1_makeNone ⟨1, _, o_t, rfl, rfl⟩ (c_X1_makeNone G X.2.1 M t o_t) (rm_ok hRm hd (by decide) (by decide)) ⟨Nat.zero_le _, Nat.zero_le _⟩ (Nat.le_of_ble_eq_true rfl) (fun r_ N_ p_ => ?_)
    obtain ⟨rfl, rfl, t12⟩ := p_
    refine (?_ : ∀ (M15 : Mem), (Sf M M15) → f_X2_keepBelow M a b t = f_X2_keepBelow_c15 M15 → V G X 3 0 0 (Qx G X 0 0 (p_X2_keepBelow M a b t)) 15 [(0, .ref a), (1, .ref b), (2, .ref t)] [] M15) _ t12 E
    intro M15 s15 E
    refine V.seg F floX2 cjoX2 [.goto 14] (by decide +kernel) (pc2 := 29) (lv2 := [(0, .ref a), (1, .ref b), (2, .ref t)]) (st2 := []) (M2 := M15) rfl ⟨(by decide), trivial⟩ ?_
    refine V.pick [] rfl ?_
    exact hJ29 M15 s15 E
def f_X2_keepAbove_29  (M29 : Mem) : Mem := M29
def f_X2_keepAbove_c29  (M29 : Mem) : Mem := f_X2_keepAbove_29 M29
def f_X2_keepAbove_c15  (M15 : Mem) : Mem := f_X2_keepAbove_29 M15
def f_X2_keepAbove (M : Mem) (a : Nat) (b : Nat) (t : Nat) : Mem := if (mL M b 1) = 9223372036854775807 then f_X2_keepAbove_c15 (f_X1_makeNone M t) else f_X2_keepAbove_c29 (f_X2_keepFrom M a ((mL M b 1) + 1) t)
abbrev p_X2_keepAbove (M : Mem) (a : Nat) (b : Nat) (t : Nat) : Option Value → Mem → Prop := fun r N => r = none ∧ N = f_X2_keepAbove M a b t ∧ Sf M N
set_option maxRecDepth 100000 in
set_option maxHeartbeats 4000000 in
theorem c_X2_keepAbove (G : Ctx) (l : Launch) (M : Mem) (a : Nat) (b : Nat) (t : Nat) (o_a : isO M a 1) (o_b : isO M b 1) (o_t : isO M t 1) : CT G l 4 mX2_keepAbove [.ref a, .ref b, .ref t] M 0 0 (p_X2_keepAbove M a b t) := by
  refine CT.of (by decide) (Nat.le_of_ble_eq_true rfl) ?_
  intro X d hd hl hRm hnm F
  subst hl
  have E : f_X2_keepAbove M a b t = f_X2_keepAbove M a b t := rfl
  show V G X 3 0 0 (Qx G X 0 0 (p_X2_keepAbove M a b t)) 0 [(0, .ref a), (1, .ref b), (2, .ref t)] [] M
  refine V.seg F floX2 cjoX2 [.aload_n 1, .getfield 146, .ldc2_w 174, .lcmp] (by decide +kernel) (pc2 := 8) (lv2 := [(0, .ref a), (1, .ref b), (2, .ref t)]) (st2 := [.int (lg_cmp (mL M b 1) 9223372036854775807)]) (M2 := M) rfl ⟨trivial, o_b, trivial, trivial, trivial⟩ ?_
  have hJ29 : ∀ (M29 : Mem), (Sf M M29) → f_X2_keepAbove M a b t = f_X2_keepAbove_29 M29 → V G X 3 0 0 (Qx G X 0 0 (p_X2_keepAbove M a b t)) 29 [] [] M29 := by
    intro M29 s29 E
    exact V.vret F (by decide +kernel) ⟨rfl, E.symm, s29⟩
  refine V.lc_ne (off := 10) F (by decide +kernel) (tgt := 18) (by decide) (fun h8 => ?_) (fun h8 => ?_)
  · replace E := E.trans (if_neg h8)
    refine V.seg F floX2 cjoX2 [.aload_n 0, .aload_n 1, .getfield 146, .lconst 1, .ladd, .aload_n 2] (by decide +kernel) (pc2 := 26) (lv2 := [(0, .ref a), (1, .ref b), (2, .ref t)]) (st2 := [.ref t, .long ((mL M b 1) + 1), .ref a]) (M2 := M) rfl ⟨trivial, trivial, o_b, trivial, trivial, trivial, trivial⟩ ?_
    refine V.callS (as := [.ref a, .long ((mL M b 1) + 1), .ref t]) (rest := []) F (by decide +kernel) lX2_150 bX2_keepFrom (c_X2_keepFrom G X.2.1 M a ((mL M b 1) + 1) t o_a o_t) (rm_ok hRm hd (by decide) (by decide)) ⟨Nat.zero_le _, Nat.zero_le _⟩ (Nat.le_of_ble_eq_true rfl) (fun r_ N_ p_ => ?_)
    obtain ⟨rfl, rfl, t26⟩ := p_
    refine (?_ : ∀ (M29 : Mem), (Sf M M29) → f_X2_keepAbove M a b t = f_X2_keepAbove_c29 M29 → V G X 3 0 0 (Qx G X 0 0 (p_X2_keepAbove M a b t)) 29 [(0, .ref a), (1, .ref b), (2, .ref t)] [] M29) _ t26 E
    intro M29 s29 E
    refine V.pick [] rfl ?_
    exact hJ29 M29 s29 E
  · replace E := E.trans (if_pos h8)
    refine V.seg F floX2 cjoX2 [.aload_n 2] (by decide +kernel) (pc2 := 12) (lv2 := [(0, .ref a), (1, .ref b), (2, .ref t)]) (st2 := [.ref t]) (M2 := M) rfl ⟨trivial, trivial⟩ ?_
    refine V.callV (as := []) (rest := []) F (by decide +kernel) lX2_109 bX1_makeNone ⟨1, _, o_t, rfl, rfl⟩ (c_X1_makeNone G X.2.1 M t o_t) (rm_ok hRm hd (by decide) (by decide)) ⟨Nat.zero_le _, Nat.zero_le _⟩ (Nat.le_of_ble_eq_true rfl) (fun r_ N_ p_ => ?_)
    obtain ⟨rfl, rfl, t12⟩ := p_
    refine (?_ : ∀ (M15 : Mem), (Sf M M15) → f_X2_keepAbove M a b t = f_X2_keepAbove_c15 M15 → V G X 3 0 0 (Qx G X 0 0 (p_X2_keepAbove M a b t)) 15 [(0, .ref a), (1, .ref b), (2, .ref t)] [] M15) _ t12 E
    intro M15 s15 E
    refine V.seg F floX2 cjoX2 [.goto 14] (by decide +kernel) (pc2 := 29) (lv2 := [(0, .ref a), (1, .ref b), (2, .ref t)]) (st2 := []) (M2 := M15) rfl ⟨(by decide), trivial⟩ ?_
    refine V.pick [] rfl ?_
    exact hJ29 M15 s15 E
def f_X2_branch_197  (M197 : Mem) : Mem := M197
def f_X2_branch_c197  (M197 : Mem) : Mem := f_X2_branch_197 M197
def f_X2_branch_c185 (rt : Nat) (ln : Int32) (M : Mem) (M185 : Mem) : Mem := f_X2_branch_c197 (f_X2_keepUpTo M185 (rt + 5 + 10 + ix ((ln * 8) + (mI M (rt + 3) (ix ln)))) (mL M185 (rt + 5 + 10 + ix ((ln * 8) + (mI M (rt + 2) (ix ln)))) 2) (18 + 5 + ix (mI M (rt + 3) (ix ln))))
def f_X2_branch_c170  (M170 : Mem) : Mem := f_X2_branch_197 M170
def f_X2_branch_c161 (rt : Nat) (ln : Int32) (M : Mem) (M161 : Mem) : Mem := f_X2_branch_c170 (f_X2_keepAbove M161 (rt + 5 + 10 + ix ((ln * 8) + (mI M (rt + 3) (ix ln)))) (rt + 5 + 10 + ix ((ln * 8) + (mI M (rt + 2) (ix ln)))) (18 + 5 + ix (mI M (rt + 3) (ix ln))))
def f_X2_branch_c145  (M145 : Mem) : Mem := f_X2_branch_197 M145
def f_X2_branch_c136 (rt : Nat) (ln : Int32) (M : Mem) (M136 : Mem) : Mem := f_X2_branch_c145 (f_X2_keepApart M136 (rt + 5 + 10 + ix ((ln * 8) + (mI M (rt + 3) (ix ln)))) (rt + 5 + 10 + ix ((ln * 8) + (mI M (rt + 2) (ix ln)))) (18 + 5 + ix (mI M (rt + 3) (ix ln))))
def f_X2_branch_120 (rt : Nat) (ln : Int32) (z : Int32) (M : Mem) (M120 : Mem) : Mem := if (mI M (rt + 1) (ix ln)) = 23 then f_X2_branch_c136 rt ln M (f_X2_keepApart M120 (rt + 5 + 10 + ix ((ln * 8) + (mI M (rt + 2) (ix ln)))) (rt + 5 + 10 + ix ((ln * 8) + (mI M (rt + 3) (ix ln)))) (18 + 5 + ix (mI M (rt + 2) (ix ln)))) else if z = 0 then f_X2_branch_c185 rt ln M (f_X2_keepFrom M120 (rt + 5 + 10 + ix ((ln * 8) + (mI M (rt + 2) (ix ln)))) (mL M120 (rt + 5 + 10 + ix ((ln * 8) + (mI M (rt + 3) (ix ln)))) 1) (18 + 5 + ix (mI M (rt + 2) (ix ln)))) else f_X2_branch_c161 rt ln M (f_X2_keepBelow M120 (rt + 5 + 10 + ix ((ln * 8) + (mI M (rt + 2) (ix ln)))) (rt + 5 + 10 + ix ((ln * 8) + (mI M (rt + 3) (ix ln)))) (18 + 5 + ix (mI M (rt + 2) (ix ln))))
def f_X2_branch_c117  (M117 : Mem) : Mem := f_X2_branch_197 M117
def f_X2_branch_c110 (rt : Nat) (ln : Int32) (M : Mem) (M110 : Mem) : Mem := f_X2_branch_c117 (f_X1_copy M110 (18 + 5 + ix (mI M (rt + 3) (ix ln))) (18 + 5 + ix (mI M (rt + 2) (ix ln))))
def f_X2_branch_c68  (M68 : Mem) : Mem := M68
def f_X2_branch (M : Mem) (rt : Nat) (ln : Int32) (z : Int32) : Mem := if (mI M (rt + 1) (ix ln)) = 25 then f_X2_branch_c68 (f_X2_learnBit M (18 + 5 + ix (mI M (rt + 2) (ix ln))) (jshl 1 (mI M (rt + 3) (ix ln))) z) else if (mI M (rt + 1) (ix ln)) = 23 then if z = 0 then f_X2_branch_120 rt ln z M M else f_X2_branch_c110 rt ln M (f_X1_becomeMeet M (18 + 5 + ix (mI M (rt + 2) (ix ln))) (rt + 5 + 10 + ix ((ln * 8) + (mI M (rt + 2) (ix ln)))) (rt + 5 + 10 + ix ((ln * 8) + (mI M (rt + 3) (ix ln))))) else f_X2_branch_120 rt ln z M M
abbrev p_X2_branch (M : Mem) (rt : Nat) (ln : Int32) (z : Int32) : Option Value → Mem → Prop := fun r N => r = none ∧ N = f_X2_branch M rt ln z ∧ Sf M N
set_option maxRecDepth 100000 in
set_option maxHeartbeats 4000000 in
theorem c_X2_branch (G : Ctx) (l : Launch) (M : Mem) (rt : Nat) (ln : Int32) (z : Int32) (hr_rt : Rt M rt) (z_z : z = 0 ∨ z = 1) (q : Ok M) (i_ln : vp_in ln 32) (i_a : vp_in (mI M (rt + 2) (ix ln)) 8) (hb : ¬ mI M (rt + 1) (ix ln) = 25 → vp_in (mI M (rt + 3) (ix ln)) 8) : CT G l 5 mX2_branch [.ref 14, .ref rt, .int ln, .int z] M 0 0 (p_X2_branch M rt ln z) := by
  refine CT.of (by decide) (Nat.le_of_ble_eq_true rfl) ?_
  intro X d hd hl hRm hnm F
  subst hl
  have E : f_X2_branch M rt ln z = f_X2_branch M rt ln z := rfl
  show V G X 11 0 0 (Qx G X 0 0 (p_X2_branch M rt ln z)) 0 [(0, .ref 14), (1, .ref rt), (2, .int ln), (3, .int z)] [] M
  refine V.seg F floX2 cjoX2 [.aload_n 1, .getfield 84, .iload_n 2, .iaload, .istore 4, .aload_n 1, .getfield 87, .iload_n 2, .iaload, .istore 5, .iload_n 2, .bipush 8, .imul, .istore 6, .aload_n 1, .getfield 75, .iload 6, .aload_n 1, .getfield 90, .iload_n 2, .iaload, .iadd] (by decide +kernel) (pc2 := 35) (lv2 := [(6, .int (ln * 8)), (5, .int (mI M (rt + 3) (ix ln))), (4, .int (mI M (rt + 1) (ix ln))), (0, .ref 14), (1, .ref rt), (2, .int ln), (3, .int z)]) (st2 := [.int ((ln * 8) + (mI M (rt + 2) (ix ln))), .ref (rt + 5)]) (M2 := M) rfl ⟨trivial, (Rt.f hr_rt 0 rfl), trivial, (Rt.a hr_rt 1 20 32 rfl i_ln), (by decide), trivial, (Rt.f hr_rt 2 rfl), trivial, (Rt.a hr_rt 3 20 32 rfl i_ln), (by decide), trivial, trivial, trivial, (by decide), trivial, (Rt.f hr_rt 5 rfl), trivial, trivial, (Rt.f hr_rt 1 rfl), trivial, (Rt.a hr_rt 2 20 32 rfl i_ln), trivial, trivial⟩ ?_
  refine V.aald (kd := 26) F (by decide +kernel) (Rt.a hr_rt 5 26 256 rfl (lpq i_ln i_a)) ⟨by decide, by decide⟩ (Rt.aB hr_rt (lpq i_ln i_a)) ?_
  show V G X 11 0 0 (Qx G X 0 0 (p_X2_branch M rt ln z)) 36 [(6, .int (ln * 8)), (5, .int (mI M (rt + 3) (ix ln))), (4, .int (mI M (rt + 1) (ix ln))), (0, .ref 14), (1, .ref rt), (2, .int ln), (3, .int z)] [.ref (rt + 5 + 10 + ix ((ln * 8) + (mI M (rt + 2) (ix ln))))] M
  refine V.seg F floX2 cjoX2 [.astore 7, .aload_n 0, .getfield 20, .aload_n 1, .getfield 90, .iload_n 2, .iaload] (by decide +kernel) (pc2 := 48) (lv2 := [(7, .ref (rt + 5 + 10 + ix ((ln * 8) + (mI M (rt + 2) (ix ln))))), (6, .int (ln * 8)), (5, .int (mI M (rt + 3) (ix ln))), (4, .int (mI M (rt + 1) (ix ln))), (0, .ref 14), (1, .ref rt), (2, .int ln), (3, .int z)]) (st2 := [.int (mI M (rt + 2) (ix ln)), .ref 18]) (M2 := M) rfl ⟨(by decide), trivial, (q.f 14 2 1 rfl), trivial, (Rt.f hr_rt 1 rfl), trivial, (Rt.a hr_rt 2 20 32 rfl i_ln), trivial⟩ ?_
  refine V.aald (kd := 24) F (by decide +kernel) (q.a 18 24 8 rfl i_a) ⟨by decide, by decide⟩ (q.el 18 24 8 rfl rfl i_a) ?_
  show V G X 11 0 0 (Qx G X 0 0 (p_X2_branch M rt ln z)) 49 [(7, .ref (rt + 5 + 10 + ix ((ln * 8) + (mI M (rt + 2) (ix ln))))), (6, .int (ln * 8)), (5, .int (mI M (rt + 3) (ix ln))), (4, .int (mI M (rt + 1) (ix ln))), (0, .ref 14), (1, .ref rt), (2, .int ln), (3, .int z)] [.ref (18 + 5 + ix (mI M (rt + 2) (ix ln)))] M
  refine V.seg F floX2 cjoX2 [.astore 8, .iload 4, .bipush 25] (by decide +kernel) (pc2 := 55) (lv2 := [(8, .ref (18 + 5 + ix (mI M (rt + 2) (ix ln)))), (7, .ref (rt + 5 + 10 + ix ((ln * 8) + (mI M (rt + 2) (ix ln))))), (6, .int (ln * 8)), (5, .int (mI M (rt + 3) (ix ln))), (4, .int (mI M (rt + 1) (ix ln))), (0, .ref 14), (1, .ref rt), (2, .int ln), (3, .int z)]) (st2 := [.int 25, .int (mI M (rt + 1) (ix ln))]) (M2 := M) rfl ⟨(by decide), trivial, trivial, trivial⟩ ?_
  refine V.ic_ne (off := 14) F (by decide +kernel) (tgt := 69) (by decide) (fun h55 => ?_) (fun h55 => ?_)
  · replace E := E.trans (if_neg h55)
    refine V.seg F floX2 cjoX2 [.aload_n 1, .getfield 75, .iload 6, .iload 5, .iadd] (by decide +kernel) (pc2 := 78) (lv2 := [(8, .ref (18 + 5 + ix (mI M (rt + 2) (ix ln)))), (7, .ref (rt + 5 + 10 + ix ((ln * 8) + (mI M (rt + 2) (ix ln))))), (6, .int (ln * 8)), (5, .int (mI M (rt + 3) (ix ln))), (4, .int (mI M (rt + 1) (ix ln))), (0, .ref 14), (1, .ref rt), (2, .int ln), (3, .int z)]) (st2 := [.int ((ln * 8) + (mI M (rt + 3) (ix ln))), .ref (rt + 5)]) (M2 := M) rfl ⟨trivial, (Rt.f hr_rt 5 rfl), trivial, trivial, trivial, trivial⟩ ?_
    refine V.aald (kd := 26) F (by decide +kernel) (Rt.a hr_rt 5 26 256 rfl (lpq i_ln (hb h55))) ⟨by decide, by decide⟩ (Rt.aB hr_rt (lpq i_ln (hb h55))) ?_
    show V G X 11 0 0 (Qx G X 0 0 (p_X2_branch M rt ln z)) 79 [(8, .ref (18 + 5 + ix (mI M (rt + 2) (ix ln)))), (7, .ref (rt + 5 + 10 + ix ((ln * 8) + (mI M (rt + 2) (ix ln))))), (6, .int (ln * 8)), (5, .int (mI M (rt + 3) (ix ln))), (4, .int (mI M (rt + 1) (ix ln))), (0, .ref 14), (1, .ref rt), (2, .int ln), (3, .int z)] [.ref (rt + 5 + 10 + ix ((ln * 8) + (mI M (rt + 3) (ix ln))))] M
    refine V.seg F floX2 cjoX2 [.astore 9, .aload_n 0, .getfield 20, .iload 5] (by decide +kernel) (pc2 := 87) (lv2 := [(9, .ref (rt + 5 + 10 + ix ((ln * 8) + (mI M (rt + 3) (ix ln))))), (8, .ref (18 + 5 + ix (mI M (rt + 2) (ix ln)))), (7, .ref (rt + 5 + 10 + ix ((ln * 8) + (mI M (rt + 2) (ix ln))))), (6, .int (ln * 8)), (5, .int (mI M (rt + 3) (ix ln))), (4, .int (mI M (rt + 1) (ix ln))), (0, .ref 14), (1, .ref rt), (2, .int ln), (3, .int z)]) (st2 := [.int (mI M (rt + 3) (ix ln)), .ref 18]) (M2 := M) rfl ⟨(by decide), trivial, (q.f 14 2 1 rfl), trivial, trivial⟩ ?_
    refine V.aald (kd := 24) F (by decide +kernel) (q.a 18 24 8 rfl (hb h55)) ⟨by decide, by decide⟩ (q.el 18 24 8 rfl rfl (hb h55)) ?_
    show V G X 11 0 0 (Qx G X 0 0 (p_X2_branch M rt ln z)) 88 [(9, .ref (rt + 5 + 10 + ix ((ln * 8) + (mI M (rt + 3) (ix ln))))), (8, .ref (18 + 5 + ix (mI M (rt + 2) (ix ln)))), (7, .ref (rt + 5 + 10 + ix ((ln * 8) + (mI M (rt + 2) (ix ln))))), (6, .int (ln * 8)), (5, .int (mI M (rt + 3) (ix ln))), (4, .int (mI M (rt + 1) (ix ln))), (0, .ref 14), (1, .ref rt), (2, .int ln), (3, .int z)] [.ref (18 + 5 + ix (mI M (rt + 3) (ix ln)))] M
    refine V.seg F floX2 cjoX2 [.astore 10, .iload 4, .bipush 23] (by decide +kernel) (pc2 := 94) (lv2 := [(10, .ref (18 + 5 + ix (mI M (rt + 3) (ix ln)))), (9, .ref (rt + 5 + 10 + ix ((ln * 8) + (mI M (rt + 3) (ix ln))))), (8, .ref (18 + 5 + ix (mI M (rt + 2) (ix ln)))), (7, .ref (rt + 5 + 10 + ix ((ln * 8) + (mI M (rt + 2) (ix ln))))), (6, .int (ln * 8)), (5, .int (mI M (rt + 3) (ix ln))), (4, .int (mI M (rt + 1) (ix ln))), (0, .ref 14), (1, .ref rt), (2, .int ln), (3, .int z)]) (st2 := [.int 23, .int (mI M (rt + 1) (ix ln))]) (M2 := M) rfl ⟨(by decide), trivial, trivial, trivial⟩ ?_
    have hJ197 : ∀ (M197 : Mem), (Sf M M197) → f_X2_branch M rt ln z = f_X2_branch_197 M197 → V G X 11 0 0 (Qx G X 0 0 (p_X2_branch M rt ln z)) 197 [] [] M197 := by
      intro M197 s197 E
      exact V.vret F (by decide +kernel) ⟨rfl, E.symm, s197⟩
    have hJ120 : ∀ (M120 : Mem), (Sf M M120) → f_X2_branch M rt ln z = f_X2_branch_120 rt ln z M M120 → V G X 11 0 0 (Qx G X 0 0 (p_X2_branch M rt ln z)) 120 [(3, .int z), (4, .int (mI M (rt + 1) (ix ln))), (7, .ref (rt + 5 + 10 + ix ((ln * 8) + (mI M (rt + 2) (ix ln))))), (8, .ref (18 + 5 + ix (mI M (rt + 2) (ix ln)))), (9, .ref (rt + 5 + 10 + ix ((ln * 8) + (mI M (rt + 3) (ix ln))))), (10, .ref (18 + 5 + ix (mI M (rt + 3) (ix ln))))] [] M120 := by
      intro M120 s120 E
      refine V.seg F floX2 cjoX2 [.iload 4, .bipush 23] (by decide +kernel) (pc2 := 124) (lv2 := [(3, .int z), (4, .int (mI M (rt + 1) (ix ln))), (7, .ref (rt + 5 + 10 + ix ((ln * 8) + (mI M (rt + 2) (ix ln))))), (8, .ref (18 + 5 + ix (mI M (rt + 2) (ix ln)))), (9, .ref (rt + 5 + 10 + ix ((ln * 8) + (mI M (rt + 3) (ix ln))))), (10, .ref (18 + 5 + ix (mI M (rt + 3) (ix ln))))]) (st2 := [.int 23, .int (mI M (rt + 1) (ix ln))]) (M2 := M120) rfl ⟨trivial, trivial, trivial⟩ ?_
      refine V.ic_ne (off := 24) F (by decide +kernel) (tgt := 148) (by decide) (fun h124 => ?_) (fun h124 => ?_)
      · replace E := E.trans (if_neg h124)
        refine V.seg F floX2 cjoX2 [.iload_n 3] (by decide +kernel) (pc2 := 149) (lv2 := [(3, .int z), (4, .int (mI M (rt + 1) (ix ln))), (7, .ref (rt + 5 + 10 + ix ((ln * 8) + (mI M (rt + 2) (ix ln))))), (8, .ref (18 + 5 + ix (mI M (rt + 2) (ix ln)))), (9, .ref (rt + 5 + 10 + ix ((ln * 8) + (mI M (rt + 3) (ix ln))))), (10, .ref (18 + 5 + ix (mI M (rt + 3) (ix ln))))]) (st2 := [.int z]) (M2 := M120) rfl ⟨trivial, trivial⟩ ?_
        refine V.if_eq (off := 24) F (by decide +kernel) (tgt := 173) (by decide) (fun h149 => ?_) (fun h149 => ?_)
        · replace E := E.trans (if_pos h149)
          refine V.seg F floX2 cjoX2 [.aload 7, .aload 9, .getfield 146, .aload 8] (by decide +kernel) (pc2 := 182) (lv2 := [(3, .int z), (4, .int (mI M (rt + 1) (ix ln))), (7, .ref (rt + 5 + 10 + ix ((ln * 8) + (mI M (rt + 2) (ix ln))))), (8, .ref (18 + 5 + ix (mI M (rt + 2) (ix ln)))), (9, .ref (rt + 5 + 10 + ix ((ln * 8) + (mI M (rt + 3) (ix ln))))), (10, .ref (18 + 5 + ix (mI M (rt + 3) (ix ln))))]) (st2 := [.ref (18 + 5 + ix (mI M (rt + 2) (ix ln))), .long (mL M120 (rt + 5 + 10 + ix ((ln * 8) + (mI M (rt + 3) (ix ln)))) 1), .ref (rt + 5 + 10 + ix ((ln * 8) + (mI M (rt + 2) (ix ln))))]) (M2 := M120) rfl ⟨trivial, trivial, (Rt.ah (hr_rt.sm s120.1) (lpq i_ln (hb h55))), trivial, trivial⟩ ?_
          refine V.callS (as := [.ref (rt + 5 + 10 + ix ((ln * 8) + (mI M (rt + 2) (ix ln)))), .long (mL M120 (rt + 5 + 10 + ix ((ln * 8) + (mI M (rt + 3) (ix ln)))) 1), .ref (18 + 5 + ix (mI M (rt + 2) (ix ln)))]) (rest := []) F (by decide +kernel) lX2_150 bX2_keepFrom (c_X2_keepFrom G X.2.1 M120 (rt + 5 + 10 + ix ((ln * 8) + (mI M (rt + 2) (ix ln)))) (mL M120 (rt + 5 + 10 + ix ((ln * 8) + (mI M (rt + 3) (ix ln)))) 1) (18 + 5 + ix (mI M (rt + 2) (ix ln))) (Rt.ah (hr_rt.sm s120.1) (lpq i_ln i_a)) ((q.sm s120.1).co i_a)) (rm_ok hRm hd (by decide) (by decide)) ⟨Nat.zero_le _, Nat.zero_le _⟩ (Nat.le_of_ble_eq_true rfl) (fun r_ N_ p_ => ?_)
          obtain ⟨rfl, rfl, t182⟩ := p_
          refine (?_ : ∀ (M185 : Mem), (Sf M M185) → f_X2_branch M rt ln z = f_X2_branch_c185 rt ln M M185 → V G X 11 0 0 (Qx G X 0 0 (p_X2_branch M rt ln z)) 185 [(3, .int z), (4, .int (mI M (rt + 1) (ix ln))), (7, .ref (rt + 5 + 10 + ix ((ln * 8) + (mI M (rt + 2) (ix ln))))), (8, .ref (18 + 5 + ix (mI M (rt + 2) (ix ln)))), (9, .ref (rt + 5 + 10 + ix ((ln * 8) + (mI M (rt + 3) (ix ln))))), (10, .ref (18 + 5 + ix (mI M (rt + 3) (ix ln))))] [] M185) _ (Sf.tr s120 t182) E
          intro M185 s185 E
          refine V.seg F floX2 cjoX2 [.aload 9, .aload 7, .getfield 154, .aload 10] (by decide +kernel) (pc2 := 194) (lv2 := [(3, .int z), (4, .int (mI M (rt + 1) (ix ln))), (7, .ref (rt + 5 + 10 + ix ((ln * 8) + (mI M (rt + 2) (ix ln))))), (8, .ref (18 + 5 + ix (mI M (rt + 2) (ix ln)))), (9, .ref (rt + 5 + 10 + ix ((ln * 8) + (mI M (rt + 3) (ix ln))))), (10, .ref (18 + 5 + ix (mI M (rt + 3) (ix ln))))]) (st2 := [.ref (18 + 5 + ix (mI M (rt + 3) (ix ln))), .long (mL M185 (rt + 5 + 10 + ix ((ln * 8) + (mI M (rt + 2) (ix ln)))) 2), .ref (rt + 5 + 10 + ix ((ln * 8) + (mI M (rt + 3) (ix ln))))]) (M2 := M185) rfl ⟨trivial, trivial, (Rt.ah (hr_rt.sm s185.1) (lpq i_ln i_a)), trivial, trivial⟩ ?_
          refine V.callS (as := [.ref (rt + 5 + 10 + ix ((ln * 8) + (mI M (rt + 3) (ix ln)))), .long (mL M185 (rt + 5 + 10 + ix ((ln * 8) + (mI M (rt + 2) (ix ln)))) 2), .ref (18 + 5 + ix (mI M (rt + 3) (ix ln)))]) (rest := []) F (by decide +kernel) lX2_157 bX2_keepUpTo (c_X2_keepUpTo G X.2.1 M185 (rt + 5 + 10 + ix ((ln * 8) + (mI M (rt + 3) (ix ln)))) (mL M185 (rt + 5 + 10 + ix ((ln * 8) + (mI M (rt + 2) (ix ln)))) 2) (18 + 5 + ix (mI M (rt + 3) (ix ln))) (Rt.ah (hr_rt.sm s185.1) (lpq i_ln (hb h55))) ((q.sm s185.1).co (hb h55))) (rm_ok hRm hd (by decide) (by decide)) ⟨Nat.zero_le _, Nat.zero_le _⟩ (Nat.le_of_ble_eq_true rfl) (fun r_ N_ p_ => ?_)
          obtain ⟨rfl, rfl, t194⟩ := p_
          refine (?_ : ∀ (M197 : Mem), (Sf M M197) → f_X2_branch M rt ln z = f_X2_branch_c197 M197 → V G X 11 0 0 (Qx G X 0 0 (p_X2_branch M rt ln z)) 197 [(3, .int z), (4, .int (mI M (rt + 1) (ix ln))), (7, .ref (rt + 5 + 10 + ix ((ln * 8) + (mI M (rt + 2) (ix ln))))), (8, .ref (18 + 5 + ix (mI M (rt + 2) (ix ln)))), (9, .ref (rt + 5 + 10 + ix ((ln * 8) + (mI M (rt + 3) (ix ln))))), (10, .ref (18 + 5 + ix (mI M (rt + 3) (ix ln))))] [] M197) _ (Sf.tr s185 t194) E
          intro M197 s197 E
          refine V.pick [] rfl ?_
          exact hJ197 M197 s197 E
        · replace E := E.trans (if_neg h149)
          refine V.seg F floX2 cjoX2 [.aload 7, .aload 9, .aload 8] (by decide +kernel) (pc2 := 158) (lv2 := [(3, .int z), (4, .int (mI M (rt + 1) (ix ln))), (7, .ref (rt + 5 + 10 + ix ((ln * 8) + (mI M (rt + 2) (ix ln))))), (8, .ref (18 + 5 + ix (mI M (rt + 2) (ix ln)))), (9, .ref (rt + 5 + 10 + ix ((ln * 8) + (mI M (rt + 3) (ix ln))))), (10, .ref (18 + 5 + ix (mI M (rt + 3) (ix ln))))]) (st2 := [.ref (18 + 5 + ix (mI M (rt + 2) (ix ln))), .ref (rt + 5 + 10 + ix ((ln * 8) + (mI M (rt + 3) (ix ln)))), .ref (rt + 5 + 10 + ix ((ln * 8) + (mI M (rt + 2) (ix ln))))]) (M2 := M120) rfl ⟨trivial, trivial, trivial, trivial⟩ ?_
          refine V.callS (as := [.ref (rt + 5 + 10 + ix ((ln * 8) + (mI M (rt + 2) (ix ln)))), .ref (rt + 5 + 10 + ix ((ln * 8) + (mI M (rt + 3) (ix ln)))), .ref (18 + 5 + ix (mI M (rt + 2) (ix ln)))]) (rest := []) F (by decide +kernel) lX2_140 bX2_keepBelow (c_X2_keepBelow G X.2.1 M120 (rt + 5 + 10 + ix ((ln * 8) + (mI M (rt + 2) (ix ln)))) (rt + 5 + 10 + ix ((ln * 8) + (mI M (rt + 3) (ix ln)))) (18 + 5 + ix (mI M (rt + 2) (ix ln))) (Rt.ah (hr_rt.sm s120.1) (lpq i_ln i_a)) (Rt.ah (hr_rt.sm s120.1) (lpq i_ln (hb h55))) ((q.sm s120.1).co i_a)) (rm_ok hRm hd (by decide) (by decide)) ⟨Nat.zero_le _, Nat.zero_le _⟩ (Nat.le_of_ble_eq_true rfl) (fun r_ N_ p_ => ?_)
          obtain ⟨rfl, rfl, t158⟩ := p_
          refine (?_ : ∀ (M161 : Mem), (Sf M M161) → f_X2_branch M rt ln z = f_X2_branch_c161 rt ln M M161 → V G X 11 0 0 (Qx G X 0 0 (p_X2_branch M rt ln z)) 161 [(3, .int z), (4, .int (mI M (rt + 1) (ix ln))), (7, .ref (rt + 5 + 10 + ix ((ln * 8) + (mI M (rt + 2) (ix ln))))), (8, .ref (18 + 5 + ix (mI M (rt + 2) (ix ln)))), (9, .ref (rt + 5 + 10 + ix ((ln * 8) + (mI M (rt + 3) (ix ln))))), (10, .ref (18 + 5 + ix (mI M (rt + 3) (ix ln))))] [] M161) _ (Sf.tr s120 t158) E
          intro M161 s161 E
          refine V.seg F floX2 cjoX2 [.aload 9, .aload 7, .aload 10] (by decide +kernel) (pc2 := 167) (lv2 := [(3, .int z), (4, .int (mI M (rt + 1) (ix ln))), (7, .ref (rt + 5 + 10 + ix ((ln * 8) + (mI M (rt + 2) (ix ln))))), (8, .ref (18 + 5 + ix (mI M (rt + 2) (ix ln)))), (9, .ref (rt + 5 + 10 + ix ((ln * 8) + (mI M (rt + 3) (ix ln))))), (10, .ref (18 + 5 + ix (mI M (rt + 3) (ix ln))))]) (st2 := [.ref (18 + 5 + ix (mI M (rt + 3) (ix ln))), .ref (rt + 5 + 10 + ix ((ln * 8) + (mI M (rt + 2) (ix ln)))), .ref (rt + 5 + 10 + ix ((ln * 8) + (mI M (rt + 3) (ix ln))))]) (M2 := M161) rfl ⟨trivial, trivial, trivial, trivial⟩ ?_
          refine V.callS (as := [.ref (rt + 5 + 10 + ix ((ln * 8) + (mI M (rt + 3) (ix ln)))), .ref (rt + 5 + 10 + ix ((ln * 8) + (mI M (rt + 2) (ix ln)))), .ref (18 + 5 + ix (mI M (rt + 3) (ix ln)))]) (rest := []) F (by decide +kernel) lX2_143 bX2_keepAbove (c_X2_keepAbove G X.2.1 M161 (rt + 5 + 10 + ix ((ln * 8) + (mI M (rt + 3) (ix ln)))) (rt + 5 + 10 + ix ((ln * 8) + (mI M (rt + 2) (ix ln)))) (18 + 5 + ix (mI M (rt + 3) (ix ln))) (Rt.ah (hr_rt.sm s161.1) (lpq i_ln (hb h55))) (Rt.ah (hr_rt.sm s161.1) (lpq i_ln i_a)) ((q.sm s161.1).co (hb h55))) (rm_ok hRm hd (by decide) (by decide)) ⟨Nat.zero_le _, Nat.zero_le _⟩ (Nat.le_of_ble_eq_true rfl) (fun r_ N_ p_ => ?_)
          obtain ⟨rfl, rfl, t167⟩ := p_
          refine (?_ : ∀ (M170 : Mem), (Sf M M170) → f_X2_branch M rt ln z = f_X2_branch_c170 M170 → V G X 11 0 0 (Qx G X 0 0 (p_X2_branch M rt ln z)) 170 [(3, .int z), (4, .int (mI M (rt + 1) (ix ln))), (7, .ref (rt + 5 + 10 + ix ((ln * 8) + (mI M (rt + 2) (ix ln))))), (8, .ref (18 + 5 + ix (mI M (rt + 2) (ix ln)))), (9, .ref (rt + 5 + 10 + ix ((ln * 8) + (mI M (rt + 3) (ix ln))))), (10, .ref (18 + 5 + ix (mI M (rt + 3) (ix ln))))] [] M170) _ (Sf.tr s161 t167) E
          intro M170 s170 E
          refine V.seg F floX2 cjoX2 [.goto 27] (by decide +kernel) (pc2 := 197) (lv2 := [(3, .int z), (4, .int (mI M (rt + 1) (ix ln))), (7, .ref (rt + 5 + 10 + ix ((ln * 8) + (mI M (rt + 2) (ix ln))))), (8, .ref (18 + 5 + ix (mI M (rt + 2) (ix ln)))), (9, .ref (rt + 5 + 10 + ix ((ln * 8) + (mI M (rt + 3) (ix ln))))), (10, .ref (18 + 5 + ix (mI M (rt + 3) (ix ln))))]) (st2 := []) (M2 := M170) rfl ⟨(by decide), trivial⟩ ?_
          refine V.pick [] rfl ?_
          exact hJ197 M170 s170 E
      · replace E := E.trans (if_pos h124)
        refine V.seg F floX2 cjoX2 [.aload 7, .aload 9, .aload 8] (by decide +kernel) (pc2 := 133) (lv2 := [(3, .int z), (4, .int (mI M (rt + 1) (ix ln))), (7, .ref (rt + 5 + 10 + ix ((ln * 8) + (mI M (rt + 2) (ix ln))))), (8, .ref (18 + 5 + ix (mI M (rt + 2) (ix ln)))), (9, .ref (rt + 5 + 10 + ix ((ln * 8) + (mI M (rt + 3) (ix ln))))), (10, .ref (18 + 5 + ix (mI M (rt + 3) (ix ln))))]) (st2 := [.ref (18 + 5 + ix (mI M (rt + 2) (ix ln))), .ref (rt + 5 + 10 + ix ((ln * 8) + (mI M (rt + 3) (ix ln)))), .ref (rt + 5 + 10 + ix ((ln * 8) + (mI M (rt + 2) (ix ln))))]) (M2 := M120) rfl ⟨trivial, trivial, trivial, trivial⟩ ?_
        refine V.callS (as := [.ref (rt + 5 + 10 + ix ((ln * 8) + (mI M (rt + 2) (ix ln)))), .ref (rt + 5 + 10 + ix ((ln * 8) + (mI M (rt + 3) (ix ln)))), .ref (18 + 5 + ix (mI M (rt + 2) (ix ln)))]) (rest := []) F (by decide +kernel) lX2_136 bX2_keepApart (c_X2_keepApart G X.2.1 M120 (rt + 5 + 10 + ix ((ln * 8) + (mI M (rt + 2) (ix ln)))) (rt + 5 + 10 + ix ((ln * 8) + (mI M (rt + 3) (ix ln)))) (18 + 5 + ix (mI M (rt + 2) (ix ln))) (Rt.ah (hr_rt.sm s120.1) (lpq i_ln i_a)) (Rt.ah (hr_rt.sm s120.1) (lpq i_ln (hb h55))) ((q.sm s120.1).co i_a)) (rm_ok hRm hd (by decide) (by decide)) ⟨Nat.zero_le _, Nat.zero_le _⟩ (Nat.le_of_ble_eq_true rfl) (fun r_ N_ p_ => ?_)
        obtain ⟨rfl, rfl, t133⟩ := p_
        refine (?_ : ∀ (M136 : Mem), (Sf M M136) → f_X2_branch M rt ln z = f_X2_branch_c136 rt ln M M136 → V G X 11 0 0 (Qx G X 0 0 (p_X2_branch M rt ln z)) 136 [(3, .int z), (4, .int (mI M (rt + 1) (ix ln))), (7, .ref (rt + 5 + 10 + ix ((ln * 8) + (mI M (rt + 2) (ix ln))))), (8, .ref (18 + 5 + ix (mI M (rt + 2) (ix ln)))), (9, .ref (rt + 5 + 10 + ix ((ln * 8) + (mI M (rt + 3) (ix ln))))), (10, .ref (18 + 5 + ix (mI M (rt + 3) (ix ln))))] [] M136) _ (Sf.tr s120 t133) E
        intro M136 s136 E
        refine V.seg F floX2 cjoX2 [.aload 9, .aload 7, .aload 10] (by decide +kernel) (pc2 := 142) (lv2 := [(3, .int z), (4, .int (mI M (rt + 1) (ix ln))), (7, .ref (rt + 5 + 10 + ix ((ln * 8) + (mI M (rt + 2) (ix ln))))), (8, .ref (18 + 5 + ix (mI M (rt + 2) (ix ln)))), (9, .ref (rt + 5 + 10 + ix ((ln * 8) + (mI M (rt + 3) (ix ln))))), (10, .ref (18 + 5 + ix (mI M (rt + 3) (ix ln))))]) (st2 := [.ref (18 + 5 + ix (mI M (rt + 3) (ix ln))), .ref (rt + 5 + 10 + ix ((ln * 8) + (mI M (rt + 2) (ix ln)))), .ref (rt + 5 + 10 + ix ((ln * 8) + (mI M (rt + 3) (ix ln))))]) (M2 := M136) rfl ⟨trivial, trivial, trivial, trivial⟩ ?_
        refine V.callS (as := [.ref (rt + 5 + 10 + ix ((ln * 8) + (mI M (rt + 3) (ix ln)))), .ref (rt + 5 + 10 + ix ((ln * 8) + (mI M (rt + 2) (ix ln)))), .ref (18 + 5 + ix (mI M (rt + 3) (ix ln)))]) (rest := []) F (by decide +kernel) lX2_136 bX2_keepApart (c_X2_keepApart G X.2.1 M136 (rt + 5 + 10 + ix ((ln * 8) + (mI M (rt + 3) (ix ln)))) (rt + 5 + 10 + ix ((ln * 8) + (mI M (rt + 2) (ix ln)))) (18 + 5 + ix (mI M (rt + 3) (ix ln))) (Rt.ah (hr_rt.sm s136.1) (lpq i_ln (hb h55))) (Rt.ah (hr_rt.sm s136.1) (lpq i_ln i_a)) ((q.sm s136.1).co (hb h55))) (rm_ok hRm hd (by decide) (by decide)) ⟨Nat.zero_le _, Nat.zero_le _⟩ (Nat.le_of_ble_eq_true rfl) (fun r_ N_ p_ => ?_)
        obtain ⟨rfl, rfl, t142⟩ := p_
        refine (?_ : ∀ (M145 : Mem), (Sf M M145) → f_X2_branch M rt ln z = f_X2_branch_c145 M145 → V G X 11 0 0 (Qx G X 0 0 (p_X2_branch M rt ln z)) 145 [(3, .int z), (4, .int (mI M (rt + 1) (ix ln))), (7, .ref (rt + 5 + 10 + ix ((ln * 8) + (mI M (rt + 2) (ix ln))))), (8, .ref (18 + 5 + ix (mI M (rt + 2) (ix ln)))), (9, .ref (rt + 5 + 10 + ix ((ln * 8) + (mI M (rt + 3) (ix ln))))), (10, .ref (18 + 5 + ix (mI M (rt + 3) (ix ln))))] [] M145) _ (Sf.tr s136 t142) E
        intro M145 s145 E
        refine V.seg F floX2 cjoX2 [.goto 52] (by decide +kernel) (pc2 := 197) (lv2 := [(3, .int z), (4, .int (mI M (rt + 1) (ix ln))), (7, .ref (rt + 5 + 10 + ix ((ln * 8) + (mI M (rt + 2) (ix ln))))), (8, .ref (18 + 5 + ix (mI M (rt + 2) (ix ln)))), (9, .ref (rt + 5 + 10 + ix ((ln * 8) + (mI M (rt + 3) (ix ln))))), (10, .ref (18 + 5 + ix (mI M (rt + 3) (ix ln))))]) (st2 := []) (M2 := M145) rfl ⟨(by decide), trivial⟩ ?_
        refine V.pick [] rfl ?_
        exact hJ197 M145 s145 E
    refine V.ic_ne (off := 26) F (by decide +kernel) (tgt := 120) (by decide) (fun h94 => ?_) (fun h94 => ?_)
    · replace E := E.trans (if_neg h94)
      refine V.pick [10, 6, 3, 2, 1, 0] rfl ?_
      exact hJ120 M Sf.rf E
    · replace E := E.trans (if_pos h94)
      refine V.seg F floX2 cjoX2 [.iload_n 3] (by decide +kernel) (pc2 := 98) (lv2 := [(10, .ref (18 + 5 + ix (mI M (rt + 3) (ix ln)))), (9, .ref (rt + 5 + 10 + ix ((ln * 8) + (mI M (rt + 3) (ix ln))))), (8, .ref (18 + 5 + ix (mI M (rt + 2) (ix ln)))), (7, .ref (rt + 5 + 10 + ix ((ln * 8) + (mI M (rt + 2) (ix ln))))), (6, .int (ln * 8)), (5, .int (mI M (rt + 3) (ix ln))), (4, .int (mI M (rt + 1) (ix ln))), (0, .ref 14), (1, .ref rt), (2, .int ln), (3, .int z)]) (st2 := [.int z]) (M2 := M) rfl ⟨trivial, trivial⟩ ?_
      refine V.if_eq (off := 22) F (by decide +kernel) (tgt := 120) (by decide) (fun h98 => ?_) (fun h98 => ?_)
      · replace E := E.trans (if_pos h98)
        refine V.pick [10, 6, 3, 2, 1, 0] rfl ?_
        exact hJ120 M Sf.rf E
      · replace E := E.trans (if_neg h98)
        refine V.seg F floX2 cjoX2 [.aload 8, .aload 7, .aload 9] (by decide +kernel) (pc2 := 107) (lv2 := [(10, .ref (18 + 5 + ix (mI M (rt + 3) (ix ln)))), (9, .ref (rt + 5 + 10 + ix ((ln * 8) + (mI M (rt + 3) (ix ln))))), (8, .ref (18 + 5 + ix (mI M (rt + 2) (ix ln)))), (7, .ref (rt + 5 + 10 + ix ((ln * 8) + (mI M (rt + 2) (ix ln))))), (6, .int (ln * 8)), (5, .int (mI M (rt + 3) (ix ln))), (4, .int (mI M (rt + 1) (ix ln))), (0, .ref 14), (1, .ref rt), (2, .int ln), (3, .int z)]) (st2 := [.ref (rt + 5 + 10 + ix ((ln * 8) + (mI M (rt + 3) (ix ln)))), .ref (rt + 5 + 10 + ix ((ln * 8) + (mI M (rt + 2) (ix ln)))), .ref (18 + 5 + ix (mI M (rt + 2) (ix ln)))]) (M2 := M) rfl ⟨trivial, trivial, trivial, trivial⟩ ?_
        refine V.callV (as := [.ref (rt + 5 + 10 + ix ((ln * 8) + (mI M (rt + 2) (ix ln)))), .ref (rt + 5 + 10 + ix ((ln * 8) + (mI M (rt + 3) (ix ln))))]) (rest := []) F (by decide +kernel) lX2_133 bX1_becomeMeet ⟨1, _, (q.co i_a), rfl, rfl⟩ (c_X1_becomeMeet G X.2.1 M (18 + 5 + ix (mI M (rt + 2) (ix ln))) (rt + 5 + 10 + ix ((ln * 8) + (mI M (rt + 2) (ix ln)))) (rt + 5 + 10 + ix ((ln * 8) + (mI M (rt + 3) (ix ln)))) (q.co i_a) (Rt.ah hr_rt (lpq i_ln i_a)) (Rt.ah hr_rt (lpq i_ln (hb h55)))) (rm_ok hRm hd (by decide) (by decide)) ⟨Nat.zero_le _, Nat.zero_le _⟩ (Nat.le_of_ble_eq_true rfl) (fun r_ N_ p_ => ?_)
        obtain ⟨rfl, rfl, t107⟩ := p_
        refine (?_ : ∀ (M110 : Mem), (Sf M M110) → f_X2_branch M rt ln z = f_X2_branch_c110 rt ln M M110 → V G X 11 0 0 (Qx G X 0 0 (p_X2_branch M rt ln z)) 110 [(10, .ref (18 + 5 + ix (mI M (rt + 3) (ix ln)))), (9, .ref (rt + 5 + 10 + ix ((ln * 8) + (mI M (rt + 3) (ix ln))))), (8, .ref (18 + 5 + ix (mI M (rt + 2) (ix ln)))), (7, .ref (rt + 5 + 10 + ix ((ln * 8) + (mI M (rt + 2) (ix ln))))), (6, .int (ln * 8)), (5, .int (mI M (rt + 3) (ix ln))), (4, .int (mI M (rt + 1) (ix ln))), (0, .ref 14), (1, .ref rt), (2, .int ln), (3, .int z)] [] M110) _ t107 E
        intro M110 s110 E
        refine V.seg F floX2 cjoX2 [.aload 10, .aload 8] (by decide +kernel) (pc2 := 114) (lv2 := [(10, .ref (18 + 5 + ix (mI M (rt + 3) (ix ln)))), (9, .ref (rt + 5 + 10 + ix ((ln * 8) + (mI M (rt + 3) (ix ln))))), (8, .ref (18 + 5 + ix (mI M (rt + 2) (ix ln)))), (7, .ref (rt + 5 + 10 + ix ((ln * 8) + (mI M (rt + 2) (ix ln))))), (6, .int (ln * 8)), (5, .int (mI M (rt + 3) (ix ln))), (4, .int (mI M (rt + 1) (ix ln))), (0, .ref 14), (1, .ref rt), (2, .int ln), (3, .int z)]) (st2 := [.ref (18 + 5 + ix (mI M (rt + 2) (ix ln))), .ref (18 + 5 + ix (mI M (rt + 3) (ix ln)))]) (M2 := M110) rfl ⟨trivial, trivial, trivial⟩ ?_
        refine V.callV (as := [.ref (18 + 5 + ix (mI M (rt + 2) (ix ln)))]) (rest := []) F (by decide +kernel) lX2_52 bX1_copy ⟨1, _, ((q.sm s110.1).co (hb h55)), rfl, rfl⟩ (c_X1_copy G X.2.1 M110 (18 + 5 + ix (mI M (rt + 3) (ix ln))) (18 + 5 + ix (mI M (rt + 2) (ix ln))) ((q.sm s110.1).co (hb h55)) ((q.sm s110.1).co i_a)) (rm_ok hRm hd (by decide) (by decide)) ⟨Nat.zero_le _, Nat.zero_le _⟩ (Nat.le_of_ble_eq_true rfl) (fun r_ N_ p_ => ?_)
        obtain ⟨rfl, rfl, t114⟩ := p_
        refine (?_ : ∀ (M117 : Mem), (Sf M M117) → f_X2_branch M rt ln z = f_X2_branch_c117 M117 → V G X 11 0 0 (Qx G X 0 0 (p_X2_branch M rt ln z)) 117 [(10, .ref (18 + 5 + ix (mI M (rt + 3) (ix ln)))), (9, .ref (rt + 5 + 10 + ix ((ln * 8) + (mI M (rt + 3) (ix ln))))), (8, .ref (18 + 5 + ix (mI M (rt + 2) (ix ln)))), (7, .ref (rt + 5 + 10 + ix ((ln * 8) + (mI M (rt + 2) (ix ln))))), (6, .int (ln * 8)), (5, .int (mI M (rt + 3) (ix ln))), (4, .int (mI M (rt + 1) (ix ln))), (0, .ref 14), (1, .ref rt), (2, .int ln), (3, .int z)] [] M117) _ (Sf.tr s110 t114) E
        intro M117 s117 E
        refine V.seg F floX2 cjoX2 [.goto 80] (by decide +kernel) (pc2 := 197) (lv2 := [(10, .ref (18 + 5 + ix (mI M (rt + 3) (ix ln)))), (9, .ref (rt + 5 + 10 + ix ((ln * 8) + (mI M (rt + 3) (ix ln))))), (8, .ref (18 + 5 + ix (mI M (rt + 2) (ix ln)))), (7, .ref (rt + 5 + 10 + ix ((ln * 8) + (mI M (rt + 2) (ix ln))))), (6, .int (ln * 8)), (5, .int (mI M (rt + 3) (ix ln))), (4, .int (mI M (rt + 1) (ix ln))), (0, .ref 14), (1, .ref rt), (2, .int ln), (3, .int z)]) (st2 := []) (M2 := M117) rfl ⟨(by decide), trivial⟩ ?_
        refine V.pick [] rfl ?_
        exact hJ197 M117 s117 E
  · replace E := E.trans (if_pos h55)
    refine V.seg F floX2 cjoX2 [.aload 8, .lconst 1, .iload 5, .lshl, .iload_n 3] (by decide +kernel) (pc2 := 65) (lv2 := [(8, .ref (18 + 5 + ix (mI M (rt + 2) (ix ln)))), (7, .ref (rt + 5 + 10 + ix ((ln * 8) + (mI M (rt + 2) (ix ln))))), (6, .int (ln * 8)), (5, .int (mI M (rt + 3) (ix ln))), (4, .int (mI M (rt + 1) (ix ln))), (0, .ref 14), (1, .ref rt), (2, .int ln), (3, .int z)]) (st2 := [.int z, .long (jshl 1 (mI M (rt + 3) (ix ln))), .ref (18 + 5 + ix (mI M (rt + 2) (ix ln)))]) (M2 := M) rfl ⟨trivial, trivial, trivial, trivial, trivial, trivial⟩ ?_
    refine V.callS (as := [.ref (18 + 5 + ix (mI M (rt + 2) (ix ln))), .long (jshl 1 (mI M (rt + 3) (ix ln))), .int z]) (rest := []) F (by decide +kernel) lX2_129 bX2_learnBit (c_X2_learnBit G X.2.1 M (18 + 5 + ix (mI M (rt + 2) (ix ln))) (jshl 1 (mI M (rt + 3) (ix ln))) z (q.co i_a) (z_z)) (rm_ok hRm hd (by decide) (by decide)) ⟨Nat.zero_le _, Nat.zero_le _⟩ (Nat.le_of_ble_eq_true rfl) (fun r_ N_ p_ => ?_)
    obtain ⟨rfl, rfl, t65⟩ := p_
    refine (?_ : ∀ (M68 : Mem), (Sf M M68) → f_X2_branch M rt ln z = f_X2_branch_c68 M68 → V G X 11 0 0 (Qx G X 0 0 (p_X2_branch M rt ln z)) 68 [(8, .ref (18 + 5 + ix (mI M (rt + 2) (ix ln)))), (7, .ref (rt + 5 + 10 + ix ((ln * 8) + (mI M (rt + 2) (ix ln))))), (6, .int (ln * 8)), (5, .int (mI M (rt + 3) (ix ln))), (4, .int (mI M (rt + 1) (ix ln))), (0, .ref 14), (1, .ref rt), (2, .int ln), (3, .int z)] [] M68) _ t65 E
    intro M68 s68 E
    exact V.vret F (by decide +kernel) ⟨rfl, E.symm, s68⟩
