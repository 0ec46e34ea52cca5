theorem has_in {M : Mem} {t : Int32} {v : Int64} (c : cn (mI M 10 (ix t)) 16) (h : ¬ f_X5_has M t v = 0) : vp_in (Int64.toInt32 v) 16 := by
  have h1 : ¬ v < 0 ∧ v < Int32.toInt64 (mI M 10 (ix t)) := by
    unfold f_X5_has at h
    split at h
    · exact absurd rfl h
    · rename_i h1
      split at h
      · exact absurd rfl h
      · rename_i h2
        exact ⟨h1, Int64.not_le.mp h2⟩
  obtain ⟨h1, h2⟩ := h1
  rw [Int64.lt_iff_toInt_lt] at h1 h2
  rw [Int32.toInt_toInt64] at h2
  have e0 : (0 : Int64).toInt = 0 := rfl
  have e2 : (mI M 10 (ix t)).toInt = (ix (mI M 10 (ix t)) : Int) := by
    have h9 : ix (mI M 10 (ix t)) < 2 ^ 31 := Nat.lt_of_le_of_lt c.2 (by decide)
    have h8 := nI_toInt h9
    rw [← c.1] at h8
    exact h8
  have h7 := c.2
  rw [e0] at h1
  rw [e2] at h2
  have h5 : v.toInt32.toInt64 = v := lg_i2l_l2i (by omega) (by omega)
  have h6 : v.toInt32.toInt = v.toInt := by rw [← Int32.toInt_toInt64, h5]
  rw [vp_in_iff, h6]
  omega
def f_X4_lookUp (M : Mem) (a : Int32) (t : Int32) : Int32 × Mem := if (f_X5_has M t (mL M 32 (ix a))) = 0 then (0, M) else (1, uL M 32 (ix a) (mL M (5 + 1 + ix t) (ix (Int64.toInt32 (mL M 32 (ix a))))))
abbrev p_X4_lookUp (M : Mem) (a : Int32) (t : Int32) : Option Value → Mem → Prop := fun r N => r = some (.int (f_X4_lookUp M a t).1) ∧ N = (f_X4_lookUp M a t).2 ∧ SC wN M N ∧ ((f_X4_lookUp M a t).1 = 0 ∨ (f_X4_lookUp M a t).1 = 1)
set_option maxRecDepth 100000 in
set_option maxHeartbeats 4000000 in
theorem c_X4_lookUp (G : Ctx) (l : Launch) (M : Mem) (a : Int32) (t : Int32) (q : Ok M) (i_a : vp_in a 8) (i_t : vp_in t 4) (cT : cn (mI M 10 (ix t)) 16) : CT G l 1 mX4_lookUp [.ref 31, .ref 4, .int a, .int t] M 0 0 (p_X4_lookUp M a t) := by
  refine CT.of (by decide) (Nat.le_of_ble_eq_true rfl) ?_
  intro X d hd hl hRm hnm F
  subst hl
  have E : f_X4_lookUp M a t = f_X4_lookUp M a t := rfl
  show V G X 6 0 0 (Qx G X 0 0 (p_X4_lookUp M a t)) 0 [(0, .ref 31), (1, .ref 4), (2, .int a), (3, .int t)] [] M
  refine V.seg F floX4 cjoX4 [.aload_n 0, .getfield 9, .iload_n 2, .laload, .lstore 4, .aload_n 1, .iload_n 3, .lload 4] (by decide +kernel) (pc2 := 12) (lv2 := [(4, .long (mL M 32 (ix a))), (0, .ref 31), (1, .ref 4), (2, .int a), (3, .int t)]) (st2 := [.long (mL M 32 (ix a)), .int t, .ref 4]) (M2 := M) rfl ⟨trivial, (q.f 31 4 0 rfl), trivial, (q.a 32 22 8 rfl i_a), (by decide), trivial, trivial, trivial, trivial⟩ ?_
  refine V.callV (as := [.int t, .long (mL M 32 (ix a))]) (rest := []) F (by decide +kernel) lX4_76 bX5_has ⟨5, _, (q.o 4 5 rfl), rfl, rfl⟩ (c_X5_has G X.2.1 M t (mL M 32 (ix a)) q i_t) (rm_ok hRm hd (by decide) (by decide)) ⟨Nat.zero_le _, Nat.zero_le _⟩ (Nat.le_of_ble_eq_true rfl) (fun r_ N_ p_ => ?_)
  obtain ⟨rfl, hN_, z12⟩ := p_
  rw [hN_]
  clear hN_
  refine V.if_ne (off := 5) F (by decide +kernel) (tgt := 20) (by decide) (fun h15 => ?_) (fun h15 => ?_)
  · replace E := E.trans (if_neg h15)
    refine V.seg F floX4 cjoX4 [.aload_n 0, .getfield 9, .iload_n 2, .aload_n 1, .getfield 82, .iload_n 3] (by decide +kernel) (pc2 := 30) (lv2 := [(4, .long (mL M 32 (ix a))), (0, .ref 31), (1, .ref 4), (2, .int a), (3, .int t)]) (st2 := [.int t, .ref 5, .int a, .ref 32]) (M2 := M) rfl ⟨trivial, (q.f 31 4 0 rfl), trivial, trivial, (q.f 4 5 0 rfl), trivial, trivial⟩ ?_
    refine V.aald (kd := 28) F (by decide +kernel) (q.a 5 28 4 rfl i_t) ⟨by decide, by decide⟩ (q.el 5 28 4 rfl rfl i_t) ?_
    show V G X 6 0 0 (Qx G X 0 0 (p_X4_lookUp M a t)) 31 [(4, .long (mL M 32 (ix a))), (0, .ref 31), (1, .ref 4), (2, .int a), (3, .int t)] [.ref (5 + 1 + ix t), .int a, .ref 32] M
    refine V.seg F floX4 cjoX4 [.lload 4, .l2i, .laload, .lastore, .iconst 1] (by decide +kernel) (pc2 := 37) (lv2 := [(4, .long (mL M 32 (ix a))), (0, .ref 31), (1, .ref 4), (2, .int a), (3, .int t)]) (st2 := [.int 1]) (M2 := uL M 32 (ix a) (mL M (5 + 1 + ix t) (ix (Int64.toInt32 (mL M 32 (ix a)))))) rfl ⟨trivial, trivial, (q.nu i_t (has_in cT h15)), (q.a 32 22 8 rfl i_a), trivial, trivial⟩ ?_
    exact V.zret F (Or.inr rfl) (by decide +kernel) ⟨congrArg (fun z => some (Value.int z.1)) E.symm, congrArg Prod.snd E.symm, (SC.pL (SC.rf (w := wN)) rfl), by rw [E]; exact Or.inr rfl⟩
  · replace E := E.trans (if_pos h15)
    refine V.seg F floX4 cjoX4 [.iconst 0] (by decide +kernel) (pc2 := 19) (lv2 := [(4, .long (mL M 32 (ix a))), (0, .ref 31), (1, .ref 4), (2, .int a), (3, .int t)]) (st2 := [.int 0]) (M2 := M) rfl ⟨trivial, trivial⟩ ?_
    exact V.zret F (Or.inl rfl) (by decide +kernel) ⟨congrArg (fun z => some (Value.int z.1)) E.symm, congrArg Prod.snd E.symm, (SC.rf (w := wN)), by rw [E]; exact Or.inl rfl⟩
def f_X4_compute_36 (op : Int32) (a : Int32) (b : Int32) (w0_36 : Int64) (M36 : Mem) : Int32 × Mem := (1, uL M36 32 (ix a) (f_X0_number op w0_36 (mL M36 32 (ix b))))
def f_X4_compute (M : Mem) (op : Int32) (a : Int32) (b : Int32) : Int32 × Mem := if (f_X0_stops op (mL M 32 (ix b))) = 0 then if 12 ≤ op then f_X4_compute_36 op a b (mL M 32 (ix b)) M else f_X4_compute_36 op a b (mL M 32 (ix a)) M else (0, M)
abbrev p_X4_compute (M : Mem) (op : Int32) (a : Int32) (b : Int32) : Option Value → Mem → Prop := fun r N => r = some (.int (f_X4_compute M op a b).1) ∧ N = (f_X4_compute M op a b).2 ∧ SC wN M N ∧ ((f_X4_compute M op a b).1 = 0 ∨ (f_X4_compute M op a b).1 = 1)
set_option maxRecDepth 100000 in
set_option maxHeartbeats 4000000 in
theorem c_X4_compute (G : Ctx) (l : Launch) (M : Mem) (op : Int32) (a : Int32) (b : Int32) (q : Ok M) (i_a : vp_in a 8) (i_b : vp_in b 8) : CT G l 1 mX4_compute [.ref 31, .int op, .int a, .int b] M 0 0 (p_X4_compute M op a b) := by
  refine CT.of (by decide) (Nat.le_of_ble_eq_true rfl) ?_
  intro X d hd hl hRm hnm F
  subst hl
  have E : f_X4_compute M op a b = f_X4_compute M op a b := rfl
  show V G X 6 0 0 (Qx G X 0 0 (p_X4_compute M op a b)) 0 [(0, .ref 31), (1, .int op), (2, .int a), (3, .int b)] [] M
  refine V.seg F floX4 cjoX4 [.iload_n 1, .aload_n 0, .getfield 9, .iload_n 3, .laload] (by decide +kernel) (pc2 := 7) (lv2 := [(0, .ref 31), (1, .int op), (2, .int a), (3, .int b)]) (st2 := [.long (mL M 32 (ix b)), .int op]) (M2 := M) rfl ⟨trivial, trivial, (q.f 31 4 0 rfl), trivial, (q.a 32 22 8 rfl i_b), trivial⟩ ?_
  refine V.callS (as := [.int op, .long (mL M 32 (ix b))]) (rest := []) F (by decide +kernel) lX4_85 bX0_stops (c_X0_stops G X.2.1 M op (mL M 32 (ix b))) (rm_ok hRm hd (by decide) (by decide)) ⟨Nat.zero_le _, Nat.zero_le _⟩ (Nat.le_of_ble_eq_true rfl) (fun r_ N_ p_ => ?_)
  obtain ⟨rfl, hN_, z7⟩ := p_
  rw [hN_]
  clear hN_
  refine V.if_eq (off := 5) F (by decide +kernel) (tgt := 15) (by decide) (fun h10 => ?_) (fun h10 => ?_)
  · replace E := E.trans (if_pos h10)
    refine V.seg F floX4 cjoX4 [.iload_n 1, .bipush 12] (by decide +kernel) (pc2 := 18) (lv2 := [(0, .ref 31), (1, .int op), (2, .int a), (3, .int b)]) (st2 := [.int 12, .int op]) (M2 := M) rfl ⟨trivial, trivial, trivial⟩ ?_
    have hJ36 : ∀ (w0_36 : Int64) (M36 : Mem), (SC wN M M36) → f_X4_compute M op a b = f_X4_compute_36 op a b w0_36 M36 → V G X 6 0 0 (Qx G X 0 0 (p_X4_compute M op a b)) 36 [(0, .ref 31), (1, .int op), (2, .int a), (3, .int b)] [.long w0_36] M36 := by
      intro w0_36 M36 s36 E
      refine V.seg F floX4 cjoX4 [.lstore 4, .aload_n 0, .getfield 9, .iload_n 2, .iload_n 1, .lload 4, .aload_n 0, .getfield 9, .iload_n 3, .laload] (by decide +kernel) (pc2 := 52) (lv2 := [(4, .long w0_36), (0, .ref 31), (1, .int op), (2, .int a), (3, .int b)]) (st2 := [.long (mL M36 32 (ix b)), .long w0_36, .int op, .int a, .ref 32]) (M2 := M36) rfl ⟨(by decide), trivial, ((q.sm s36.1).f 31 4 0 rfl), trivial, trivial, trivial, trivial, ((q.sm s36.1).f 31 4 0 rfl), trivial, ((q.sm s36.1).a 32 22 8 rfl i_b), trivial⟩ ?_
      refine V.callS (as := [.int op, .long w0_36, .long (mL M36 32 (ix b))]) (rest := [.int a, .ref 32]) F (by decide +kernel) lX4_90 bX0_number (c_X0_number G X.2.1 M36 op w0_36 (mL M36 32 (ix b))) (rm_ok hRm hd (by decide) (by decide)) ⟨Nat.zero_le _, Nat.zero_le _⟩ (Nat.le_of_ble_eq_true rfl) (fun r_ N_ p_ => ?_)
      obtain ⟨rfl, hN_⟩ := p_
      rw [hN_]
      clear hN_
      refine V.seg F floX4 cjoX4 [.lastore, .iconst 1] (by decide +kernel) (pc2 := 57) (lv2 := [(4, .long w0_36), (0, .ref 31), (1, .int op), (2, .int a), (3, .int b)]) (st2 := [.int 1]) (M2 := uL M36 32 (ix a) (f_X0_number op w0_36 (mL M36 32 (ix b)))) rfl ⟨((q.sm s36.1).a 32 22 8 rfl i_a), trivial, trivial⟩ ?_
      exact V.zret F (Or.inr rfl) (by decide +kernel) ⟨congrArg (fun z => some (Value.int z.1)) E.symm, congrArg Prod.snd E.symm, (SC.pL s36 rfl), by rw [E]; exact Or.inr rfl⟩
    refine V.ic_ge (off := 12) F (by decide +kernel) (tgt := 30) (by decide) (fun h18 => ?_) (fun h18 => ?_)
    · replace E := E.trans (if_pos h18)
      refine V.seg F floX4 cjoX4 [.aload_n 0, .getfield 9, .iload_n 3, .laload] (by decide +kernel) (pc2 := 36) (lv2 := [(0, .ref 31), (1, .int op), (2, .int a), (3, .int b)]) (st2 := [.long (mL M 32 (ix b))]) (M2 := M) rfl ⟨trivial, (q.f 31 4 0 rfl), trivial, (q.a 32 22 8 rfl i_b), trivial⟩ ?_
      refine V.pick [0, 1, 2, 3] rfl ?_
      exact hJ36 (mL M 32 (ix b)) M (SC.rf (w := wN)) E
    · replace E := E.trans (if_neg h18)
      refine V.seg F floX4 cjoX4 [.aload_n 0, .getfield 9, .iload_n 2, .laload, .goto 9] (by decide +kernel) (pc2 := 36) (lv2 := [(0, .ref 31), (1, .int op), (2, .int a), (3, .int b)]) (st2 := [.long (mL M 32 (ix a))]) (M2 := M) rfl ⟨trivial, (q.f 31 4 0 rfl), trivial, (q.a 32 22 8 rfl i_a), (by decide), trivial⟩ ?_
      refine V.pick [0, 1, 2, 3] rfl ?_
      exact hJ36 (mL M 32 (ix a)) M (SC.rf (w := wN)) E
  · replace E := E.trans (if_neg h10)
    refine V.seg F floX4 cjoX4 [.iconst 0] (by decide +kernel) (pc2 := 14) (lv2 := [(0, .ref 31), (1, .int op), (2, .int a), (3, .int b)]) (st2 := [.int 0]) (M2 := M) rfl ⟨trivial, trivial⟩ ?_
    exact V.zret F (Or.inl rfl) (by decide +kernel) ⟨congrArg (fun z => some (Value.int z.1)) E.symm, congrArg Prod.snd E.symm, (SC.rf (w := wN)), by rw [E]; exact Or.inl rfl⟩
def f_X4_look_67  (M67 : Mem) : Mem := M67
def f_X4_look_61 (j2 : Nat) (R2_ : Nat → Mem → Mem) (M61 : Mem) : Mem := R2_ (j2 + 1) M61
def f_X4_look_56 (j2 : Nat) (M2 : Mem) (R2_ : Nat → Mem → Mem) (M56 : Mem) : Mem := f_X4_look_61 j2 R2_ (uI M56 31 3 (((mI M2 31 2) * 8) + (nI j2)))
def f_X4_look_2 (rt : Nat) : Nat → Nat → Mem → Mem
  | 0, _, M2 => M2
  | n_ + 1, j2, M2 => if 8 ≤ (nI j2) then f_X4_look_67 M2 else if (mI M2 31 3) = ((-1)) then if (mI M2 (rt + 6) (ix (mI M2 31 2))) = 0 then f_X4_look_56 j2 M2 (f_X4_look_2 rt n_) M2 else if (f_X1_holds M2 (rt + 5 + 10 + ix (((mI M2 31 2) * 8) + (nI j2))) (mL M2 32 (ix (nI j2)))) = 0 then f_X4_look_56 j2 M2 (f_X4_look_2 rt n_) M2 else f_X4_look_61 j2 (f_X4_look_2 rt n_) M2 else f_X4_look_67 M2
def f_X4_look (M : Mem) (rt : Nat) : Mem := f_X4_look_2 rt 9 0 M
abbrev p_X4_look (M : Mem) (rt : Nat) : Option Value → Mem → Prop := fun r N => r = none ∧ N = f_X4_look M rt ∧ SC wK M N
set_option maxRecDepth 100000 in
set_option maxHeartbeats 4000000 in
theorem c_X4_look (G : Ctx) (l : Launch) (M : Mem) (rt : Nat) (hr_rt : Rt M rt) (q : Ok M) (i_n : vp_in (mI M 31 2) 32) : CT G l 2 mX4_look [.ref 31, .ref rt] M 0 0 (p_X4_look M rt) := by
  refine CT.of (by decide) (Nat.le_of_ble_eq_true rfl) ?_
  intro X d hd hl hRm hnm F
  subst hl
  have E : f_X4_look M rt = f_X4_look M rt := rfl
  show V G X 4 0 0 (Qx G X 0 0 (p_X4_look M rt)) 0 [(0, .ref 31), (1, .ref rt)] [] M
  refine V.seg F floX4 cjoX4 [.iconst 0] (by decide +kernel) (pc2 := 1) (lv2 := [(0, .ref 31), (1, .ref rt)]) (st2 := [.int 0]) (M2 := M) rfl ⟨trivial, trivial⟩ ?_
  refine V.seg F floX4 cjoX4 [.istore_n 2] (by decide +kernel) (pc2 := 2) (lv2 := [(2, .int 0), (0, .ref 31), (1, .ref rt)]) (st2 := []) (M2 := M) rfl ⟨(by decide), trivial⟩ ?_
  have hJ2 : ∀ (n_ : Nat) (j2 : Nat) (M2 : Mem), (SC wK M M2) → (j2 ≤ 8) → (8 - j2 < n_) → f_X4_look M rt = f_X4_look_2 rt n_ j2 M2 → V G X 4 0 0 (Qx G X 0 0 (p_X4_look M rt)) 2 [(0, .ref 31), (1, .ref rt), (2, .int (nI j2))] [] M2 := by
    intro n_
    induction n_ with
    | zero => intro j2 M2 s2 b2 m2 E; omega
    | succ n_ ih_2 =>
      intro j2 M2 s2 b2 m2 E
      rw [f_X4_look_2] at E
      refine V.seg F floX4 cjoX4 [.iload_n 2, .bipush 8] (by decide +kernel) (pc2 := 5) (lv2 := [(0, .ref 31), (1, .ref rt), (2, .int (nI j2))]) (st2 := [.int 8, .int (nI j2)]) (M2 := M2) rfl ⟨trivial, trivial, trivial⟩ ?_
      have hJ67 : ∀ (M67 : Mem), (SC wK M M67) → f_X4_look M rt = f_X4_look_67 M67 → V G X 4 0 0 (Qx G X 0 0 (p_X4_look M rt)) 67 [] [] M67 := by
        intro M67 s67 E
        exact V.vret F (by decide +kernel) ⟨rfl, E.symm, s67⟩
      refine V.ic_ge (off := 62) F (by decide +kernel) (tgt := 67) (by decide) (fun h5 => ?_) (fun h5 => ?_)
      · replace E := E.trans (if_pos h5)
        refine V.pick [] rfl ?_
        exact hJ67 M2 s2 E
      · replace E := E.trans (if_neg h5)
        refine V.seg F floX4 cjoX4 [.aload_n 0, .getfield 22, .iconst (-1)] (by decide +kernel) (pc2 := 13) (lv2 := [(0, .ref 31), (1, .ref rt), (2, .int (nI j2))]) (st2 := [.int ((-1)), .int (mI M2 31 3)]) (M2 := M2) rfl ⟨trivial, ((q.sm s2.1).o 31 4 rfl), trivial, trivial⟩ ?_
        refine V.ic_ne (off := 54) F (by decide +kernel) (tgt := 67) (by decide) (fun h13 => ?_) (fun h13 => ?_)
        · replace E := E.trans (if_neg h13)
          refine V.pick [] rfl ?_
          exact hJ67 M2 s2 E
        · replace E := E.trans (if_pos h13)
          refine V.seg F floX4 cjoX4 [.aload_n 0, .getfield 19, .bipush 8, .imul, .iload_n 2, .iadd, .istore_n 3, .aload_n 1, .getfield 44, .aload_n 0, .getfield 19, .baload] (by decide +kernel) (pc2 := 35) (lv2 := [(3, .int (((mI M2 31 2) * 8) + (nI j2))), (0, .ref 31), (1, .ref rt), (2, .int (nI j2))]) (st2 := [.int (mI M2 (rt + 6) (ix (mI M2 31 2)))]) (M2 := M2) rfl ⟨trivial, ((q.sm s2.1).o 31 4 rfl), trivial, trivial, trivial, trivial, (by decide), trivial, (Rt.f (hr_rt.sm s2.1) 6 rfl), trivial, ((q.sm s2.1).o 31 4 rfl), (Rt.a (hr_rt.sm s2.1) 6 21 32 rfl (vin_of (s2.2 31 2 rfl).1 i_n)), trivial⟩ ?_
          have hJ61 : ∀ (M61 : Mem), (SC wK M M61) → f_X4_look M rt = f_X4_look_61 j2 (f_X4_look_2 rt n_) M61 → V G X 4 0 0 (Qx G X 0 0 (p_X4_look M rt)) 61 [(0, .ref 31), (1, .ref rt), (2, .int (nI j2))] [] M61 := by
            intro M61 s61 E
            refine V.seg F floX4 cjoX4 [.iinc 2 1, .goto (-62)] (by decide +kernel) (pc2 := 2) (lv2 := [(2, .int ((nI j2) + 1)), (0, .ref 31), (1, .ref rt)]) (st2 := []) (M2 := M61) rfl ⟨(by decide), (by decide), trivial⟩ ?_
            refine V.pick [1, 2, 0] rfl ?_
            rw [nI_1]
            exact ih_2 (j2 + 1) M61 s61 (by have hlt_ := cnt_lt (n := 8) h5 rfl (by omega) (by decide); omega) (by have hlt_ := cnt_lt (n := 8) h5 rfl (by omega) (by decide); omega) E
          have hJ56 : ∀ (M56 : Mem), (SC wK M M56) → f_X4_look M rt = f_X4_look_56 j2 M2 (f_X4_look_2 rt n_) M56 → V G X 4 0 0 (Qx G X 0 0 (p_X4_look M rt)) 56 [(0, .ref 31), (1, .ref rt), (2, .int (nI j2)), (3, .int (((mI M2 31 2) * 8) + (nI j2)))] [] M56 := by
            intro M56 s56 E
            refine V.seg F floX4 cjoX4 [.aload_n 0, .iload_n 3, .putfield 22] (by decide +kernel) (pc2 := 61) (lv2 := [(0, .ref 31), (1, .ref rt), (2, .int (nI j2)), (3, .int (((mI M2 31 2) * 8) + (nI j2)))]) (st2 := []) (M2 := uI M56 31 3 (((mI M2 31 2) * 8) + (nI j2))) rfl ⟨trivial, trivial, ((q.sm s56.1).o 31 4 rfl), trivial⟩ ?_
            refine V.pick [0, 1, 2] rfl ?_
            exact hJ61 (uI M56 31 3 (((mI M2 31 2) * 8) + (nI j2))) (SC.pI s56 rfl) E
          refine V.if_eq (off := 21) F (by decide +kernel) (tgt := 56) (by decide) (fun h35 => ?_) (fun h35 => ?_)
          · replace E := E.trans (if_pos h35)
            refine V.pick [1, 2, 3, 0] rfl ?_
            exact hJ56 M2 s2 E
          · replace E := E.trans (if_neg h35)
            refine V.seg F floX4 cjoX4 [.aload_n 1, .getfield 48, .iload_n 3] (by decide +kernel) (pc2 := 43) (lv2 := [(3, .int (((mI M2 31 2) * 8) + (nI j2))), (0, .ref 31), (1, .ref rt), (2, .int (nI j2))]) (st2 := [.int (((mI M2 31 2) * 8) + (nI j2)), .ref (rt + 5)]) (M2 := M2) rfl ⟨trivial, (Rt.f (hr_rt.sm s2.1) 5 rfl), trivial, trivial⟩ ?_
            refine V.aald (kd := 26) F (by decide +kernel) (Rt.a (hr_rt.sm s2.1) 5 26 256 rfl (lpq (vin_of (s2.2 31 2 rfl).1 i_n) (vnj (cnt_lt (n := 8) h5 rfl (by omega) (by decide)) (by decide) (by decide)))) ⟨by decide, by decide⟩ (Rt.aB (hr_rt.sm s2.1) (lpq (vin_of (s2.2 31 2 rfl).1 i_n) (vnj (cnt_lt (n := 8) h5 rfl (by omega) (by decide)) (by decide) (by decide)))) ?_
            show V G X 4 0 0 (Qx G X 0 0 (p_X4_look M rt)) 44 [(3, .int (((mI M2 31 2) * 8) + (nI j2))), (0, .ref 31), (1, .ref rt), (2, .int (nI j2))] [.ref (rt + 5 + 10 + ix (((mI M2 31 2) * 8) + (nI j2)))] M2
            refine V.seg F floX4 cjoX4 [.aload_n 0, .getfield 9, .iload_n 2, .laload] (by decide +kernel) (pc2 := 50) (lv2 := [(3, .int (((mI M2 31 2) * 8) + (nI j2))), (0, .ref 31), (1, .ref rt), (2, .int (nI j2))]) (st2 := [.long (mL M2 32 (ix (nI j2))), .ref (rt + 5 + 10 + ix (((mI M2 31 2) * 8) + (nI j2)))]) (M2 := M2) rfl ⟨trivial, ((q.sm s2.1).f 31 4 0 rfl), trivial, ((q.sm s2.1).a 32 22 8 rfl (vnj (cnt_lt (n := 8) h5 rfl (by omega) (by decide)) (by decide) (by decide))), trivial⟩ ?_
            refine V.callV (as := [.long (mL M2 32 (ix (nI j2)))]) (rest := []) F (by decide +kernel) lX4_52 bX1_holds ⟨1, _, (Rt.ah (hr_rt.sm s2.1) (lpq (vin_of (s2.2 31 2 rfl).1 i_n) (vnj (cnt_lt (n := 8) h5 rfl (by omega) (by decide)) (by decide) (by decide)))), rfl, rfl⟩ (c_X1_holds G X.2.1 M2 (rt + 5 + 10 + ix (((mI M2 31 2) * 8) + (nI j2))) (mL M2 32 (ix (nI j2))) (Rt.ah (hr_rt.sm s2.1) (lpq (vin_of (s2.2 31 2 rfl).1 i_n) (vnj (cnt_lt (n := 8) h5 rfl (by omega) (by decide)) (by decide) (by decide))))) (rm_ok hRm hd (by decide) (by decide)) ⟨Nat.zero_le _, Nat.zero_le _⟩ (Nat.le_of_ble_eq_true rfl) (fun r_ N_ p_ => ?_)
            obtain ⟨rfl, hN_, z50⟩ := p_
            rw [hN_]
            clear hN_
            refine V.if_ne (off := 8) F (by decide +kernel) (tgt := 61) (by decide) (fun h53 => ?_) (fun h53 => ?_)
            · replace E := E.trans (if_neg h53)
              refine V.pick [1, 2, 3] rfl ?_
              exact hJ61 M2 s2 E
            · replace E := E.trans (if_pos h53)
              refine V.pick [1, 2, 3, 0] rfl ?_
              exact hJ56 M2 s2 E
  refine V.pick [1, 2, 0] rfl ?_
  exact hJ2 _ 0 M (SC.rf (w := wK)) (by omega) (by omega) E
def f_X4_step_140  (w0_140 : Int32) (M140 : Mem) : Int32 × Mem := (w0_140, M140)
def f_X4_step_c127  (x127 : Int32) (M127 : Mem) : Int32 × Mem := if x127 = 0 then f_X4_step_140 ((-1)) M127 else f_X4_step_140 ((mI M127 31 2) + 1) M127
def f_X4_step_174  (w0_174 : Int32) (M174 : Mem) : Int32 × Mem := (w0_174, M174)
def f_X4_step_208  (w0_208 : Int32) (M208 : Mem) : Int32 × Mem := (w0_208, M208)
def f_X4_step_241  (w0_241 : Int32) (M241 : Mem) : Int32 × Mem := (w0_241, M241)
def f_X4_step_270  (w0_270 : Int32) (M270 : Mem) : Int32 × Mem := (w0_270, M270)
def f_X4_step_c257  (x257 : Int32) (M257 : Mem) : Int32 × Mem := if x257 = 0 then f_X4_step_270 ((-1)) M257 else f_X4_step_270 ((mI M257 31 2) + 1) M257
def f_X4_step (M : Mem) (rt : Nat) : Int32 × Mem := if (mI M (rt + 1) (ix (mI M 31 2))) = 20 then ((mI (uL M 32 (ix (mI M (rt + 2) (ix (mI M 31 2)))) (Int32.toInt64 (mI M (rt + 3) (ix (mI M 31 2))))) 31 2) + 1, uL M 32 (ix (mI M (rt + 2) (ix (mI M 31 2)))) (Int32.toInt64 (mI M (rt + 3) (ix (mI M 31 2))))) else if (mI M (rt + 1) (ix (mI M 31 2))) = 21 then ((mI (uL M 32 (ix (mI M (rt + 2) (ix (mI M 31 2)))) (mL M 32 (ix (mI M (rt + 3) (ix (mI M 31 2)))))) 31 2) + 1, uL M 32 (ix (mI M (rt + 2) (ix (mI M 31 2)))) (mL M 32 (ix (mI M (rt + 3) (ix (mI M 31 2)))))) else if (mI M (rt + 1) (ix (mI M 31 2))) = 22 then f_X4_step_c127 ((f_X4_lookUp M (mI M (rt + 2) (ix (mI M 31 2))) (mI M (rt + 3) (ix (mI M 31 2)))).1) ((f_X4_lookUp M (mI M (rt + 2) (ix (mI M 31 2))) (mI M (rt + 3) (ix (mI M 31 2)))).2) else if (mI M (rt + 1) (ix (mI M 31 2))) = 23 then if (mL M 32 (ix (mI M (rt + 2) (ix (mI M 31 2))))) = (mL M 32 (ix (mI M (rt + 3) (ix (mI M 31 2))))) then f_X4_step_174 ((mI M 31 2) + 2) M else f_X4_step_174 ((mI M 31 2) + 1) M else if (mI M (rt + 1) (ix (mI M 31 2))) = 24 then if (mL M 32 (ix (mI M (rt + 3) (ix (mI M 31 2))))) ≤ (mL M 32 (ix (mI M (rt + 2) (ix (mI M 31 2))))) then f_X4_step_208 ((mI M 31 2) + 1) M else f_X4_step_208 ((mI M 31 2) + 2) M else if (mI M (rt + 1) (ix (mI M 31 2))) = 25 then if ((jushr (mL M 32 (ix (mI M (rt + 2) (ix (mI M 31 2))))) (mI M (rt + 3) (ix (mI M 31 2)))) &&& 1) = 1 then f_X4_step_241 ((mI M 31 2) + 2) M else f_X4_step_241 ((mI M 31 2) + 1) M else if (mI M (rt + 1) (ix (mI M 31 2))) = 26 then (mI M (rt + 3) (ix (mI M 31 2)), M) else if (mI M (rt + 1) (ix (mI M 31 2))) = 27 then (32, M) else f_X4_step_c257 ((f_X4_compute M (mI M (rt + 1) (ix (mI M 31 2))) (mI M (rt + 2) (ix (mI M 31 2))) (mI M (rt + 3) (ix (mI M 31 2)))).1) ((f_X4_compute M (mI M (rt + 1) (ix (mI M 31 2))) (mI M (rt + 2) (ix (mI M 31 2))) (mI M (rt + 3) (ix (mI M 31 2)))).2)
abbrev p_X4_step (M : Mem) (rt : Nat) : Option Value → Mem → Prop := fun r N => r = some (.int (f_X4_step M rt).1) ∧ N = (f_X4_step M rt).2 ∧ SC wN M N
set_option maxRecDepth 100000 in
set_option maxHeartbeats 4000000 in
theorem c_X4_step (G : Ctx) (l : Launch) (M : Mem) (rt : Nat) (hr_rt : Rt M rt) (q : Ok M) (i_n : vp_in (mI M 31 2) 32) (hT : Ts M) (hL : LnC (mI M (rt + 1) (ix (mI M 31 2))) (mI M (rt + 2) (ix (mI M 31 2))) (mI M (rt + 3) (ix (mI M 31 2)))) : CT G l 2 mX4_step [.ref 31, .ref rt, .ref 4] M 0 0 (p_X4_step M rt) := by
  refine CT.of (by decide) (Nat.le_of_ble_eq_true rfl) ?_
  intro X d hd hl hRm hnm F
  subst hl
  have E : f_X4_step M rt = f_X4_step M rt := rfl
  show V G X 6 0 0 (Qx G X 0 0 (p_X4_step M rt)) 0 [(0, .ref 31), (1, .ref rt), (2, .ref 4)] [] M
  refine V.seg F floX4 cjoX4 [.aload_n 1, .getfield 58, .aload_n 0, .getfield 19, .iaload, .istore_n 3, .aload_n 1, .getfield 62, .aload_n 0, .getfield 19, .iaload, .istore 4, .aload_n 1, .getfield 65, .aload_n 0, .getfield 19, .iaload, .istore 5, .iload_n 3] (by decide +kernel) (pc2 := 33) (lv2 := [(5, .int (mI M (rt + 3) (ix (mI M 31 2)))), (4, .int (mI M (rt + 2) (ix (mI M 31 2)))), (3, .int (mI M (rt + 1) (ix (mI M 31 2)))), (0, .ref 31), (1, .ref rt), (2, .ref 4)]) (st2 := [.int (mI M (rt + 1) (ix (mI M 31 2)))]) (M2 := M) rfl ⟨trivial, (Rt.f hr_rt 0 rfl), trivial, (q.o 31 4 rfl), (Rt.a hr_rt 1 20 32 rfl i_n), (by decide), trivial, (Rt.f hr_rt 1 rfl), trivial, (q.o 31 4 rfl), (Rt.a hr_rt 2 20 32 rfl i_n), (by decide), trivial, (Rt.f hr_rt 2 rfl), trivial, (q.o 31 4 rfl), (Rt.a hr_rt 3 20 32 rfl i_n), (by decide), trivial, trivial⟩ ?_
  by_cases h33_0 : (mI M (rt + 1) (ix (mI M 31 2))) = 20
  · replace E := E.trans (if_pos h33_0)
    refine V.swo (dflt := 215) (lo := 20) (hi := 27) (offs := #[47, 64, 85, 108, 142, 176, 209, 212]) (len := 47) (off := 47) (tgt := 80) F (by decide +kernel) (by rw [h33_0]; rfl) rfl (by decide) ?_
    refine V.seg F floX4 cjoX4 [.aload_n 0, .getfield 9, .iload 4, .iload 5, .i2l, .lastore, .aload_n 0, .getfield 19, .iconst 1, .iadd] (by decide +kernel) (pc2 := 96) (lv2 := [(5, .int (mI M (rt + 3) (ix (mI M 31 2)))), (4, .int (mI M (rt + 2) (ix (mI M 31 2)))), (3, .int (mI M (rt + 1) (ix (mI M 31 2)))), (0, .ref 31), (1, .ref rt), (2, .ref 4)]) (st2 := [.int ((mI (uL M 32 (ix (mI M (rt + 2) (ix (mI M 31 2)))) (Int32.toInt64 (mI M (rt + 3) (ix (mI M 31 2))))) 31 2) + 1)]) (M2 := uL M 32 (ix (mI M (rt + 2) (ix (mI M 31 2)))) (Int32.toInt64 (mI M (rt + 3) (ix (mI M 31 2))))) rfl ⟨trivial, (q.f 31 4 0 rfl), trivial, trivial, trivial, (q.a 32 22 8 rfl hL.1.1), trivial, ((q.sm (SC.pL (SC.rf (w := wN)) rfl).1).o 31 4 rfl), trivial, trivial, trivial⟩ ?_
    exact V.iret F (by decide +kernel) ⟨congrArg (fun z => some (Value.int z.1)) E.symm, congrArg Prod.snd E.symm, (SC.pL (SC.rf (w := wN)) rfl)⟩
  · replace E := E.trans (if_neg h33_0)
    by_cases h33_1 : (mI M (rt + 1) (ix (mI M 31 2))) = 21
    · replace E := E.trans (if_pos h33_1)
      refine V.swo (dflt := 215) (lo := 20) (hi := 27) (offs := #[47, 64, 85, 108, 142, 176, 209, 212]) (len := 47) (off := 64) (tgt := 97) F (by decide +kernel) (by rw [h33_1]; rfl) rfl (by decide) ?_
      refine V.seg F floX4 cjoX4 [.aload_n 0, .getfield 9, .iload 4, .aload_n 0, .getfield 9, .iload 5, .laload, .lastore, .aload_n 0, .getfield 19, .iconst 1, .iadd] (by decide +kernel) (pc2 := 117) (lv2 := [(5, .int (mI M (rt + 3) (ix (mI M 31 2)))), (4, .int (mI M (rt + 2) (ix (mI M 31 2)))), (3, .int (mI M (rt + 1) (ix (mI M 31 2)))), (0, .ref 31), (1, .ref rt), (2, .ref 4)]) (st2 := [.int ((mI (uL M 32 (ix (mI M (rt + 2) (ix (mI M 31 2)))) (mL M 32 (ix (mI M (rt + 3) (ix (mI M 31 2)))))) 31 2) + 1)]) (M2 := uL M 32 (ix (mI M (rt + 2) (ix (mI M 31 2)))) (mL M 32 (ix (mI M (rt + 3) (ix (mI M 31 2)))))) rfl ⟨trivial, (q.f 31 4 0 rfl), trivial, trivial, (q.f 31 4 0 rfl), trivial, (q.a 32 22 8 rfl (by first | exact hL.1.2.2.1 h33_1 | exact ask23 hL.1 h33_3 | exact ask24 hL.1 h33_4)), (q.a 32 22 8 rfl hL.1.1), trivial, ((q.sm (SC.pL (SC.rf (w := wN)) rfl).1).o 31 4 rfl), trivial, trivial, trivial⟩ ?_
      exact V.iret F (by decide +kernel) ⟨congrArg (fun z => some (Value.int z.1)) E.symm, congrArg Prod.snd E.symm, (SC.pL (SC.rf (w := wN)) rfl)⟩
    · replace E := E.trans (if_neg h33_1)
      by_cases h33_2 : (mI M (rt + 1) (ix (mI M 31 2))) = 22
      · replace E := E.trans (if_pos h33_2)
        refine V.swo (dflt := 215) (lo := 20) (hi := 27) (offs := #[47, 64, 85, 108, 142, 176, 209, 212]) (len := 47) (off := 85) (tgt := 118) F (by decide +kernel) (by rw [h33_2]; rfl) rfl (by decide) ?_
        refine V.seg F floX4 cjoX4 [.aload_n 0, .aload_n 2, .iload 4, .iload 5] (by decide +kernel) (pc2 := 124) (lv2 := [(5, .int (mI M (rt + 3) (ix (mI M 31 2)))), (4, .int (mI M (rt + 2) (ix (mI M 31 2)))), (3, .int (mI M (rt + 1) (ix (mI M 31 2)))), (0, .ref 31), (1, .ref rt), (2, .ref 4)]) (st2 := [.int (mI M (rt + 3) (ix (mI M 31 2))), .int (mI M (rt + 2) (ix (mI M 31 2))), .ref 4, .ref 31]) (M2 := M) rfl ⟨trivial, trivial, trivial, trivial, trivial⟩ ?_
        refine V.callV (as := [.ref 4, .int (mI M (rt + 2) (ix (mI M 31 2))), .int (mI M (rt + 3) (ix (mI M 31 2)))]) (rest := []) F (by decide +kernel) lX4_68 bX4_lookUp ⟨4, _, (q.o 31 4 rfl), rfl, rfl⟩ (c_X4_lookUp G X.2.1 M (mI M (rt + 2) (ix (mI M 31 2))) (mI M (rt + 3) (ix (mI M 31 2))) q hL.1.1 (hL.1.2.2.2.1 h33_2) (hT _ (vin_lt (hL.1.2.2.2.1 h33_2)))) (rm_ok hRm hd (by decide) (by decide)) ⟨Nat.zero_le _, Nat.zero_le _⟩ (Nat.le_of_ble_eq_true rfl) (fun r_ N_ p_ => ?_)
        obtain ⟨rfl, rfl, t124, z124⟩ := p_
        refine (?_ : ∀ (x127 : Int32) (M127 : Mem), (x127 = 0 ∨ x127 = 1) → SC wN M M127 → f_X4_step M rt = f_X4_step_c127 x127 M127 → V G X 6 0 0 (Qx G X 0 0 (p_X4_step M rt)) 127 [(5, .int (mI M (rt + 3) (ix (mI M 31 2)))), (4, .int (mI M (rt + 2) (ix (mI M 31 2)))), (3, .int (mI M (rt + 1) (ix (mI M 31 2)))), (0, .ref 31), (1, .ref rt), (2, .ref 4)] [.int x127] M127) _ _ z124 t124  E
        intro x127 M127 z127 s127  E
        have hJ140 : ∀ (w0_140 : Int32) (M140 : Mem), (SC wN M M140) → f_X4_step M rt = f_X4_step_140 w0_140 M140 → V G X 6 0 0 (Qx G X 0 0 (p_X4_step M rt)) 140 [] [.int w0_140] M140 := by
          intro w0_140 M140 s140 E
          exact V.iret F (by decide +kernel) ⟨congrArg (fun z => some (Value.int z.1)) E.symm, congrArg Prod.snd E.symm, s140⟩
        refine V.if_eq (off := 12) F (by decide +kernel) (tgt := 139) (by decide) (fun h127 => ?_) (fun h127 => ?_)
        · replace E := E.trans (if_pos h127)
          refine V.seg F floX4 cjoX4 [.iconst (-1)] (by decide +kernel) (pc2 := 140) (lv2 := [(5, .int (mI M (rt + 3) (ix (mI M 31 2)))), (4, .int (mI M (rt + 2) (ix (mI M 31 2)))), (3, .int (mI M (rt + 1) (ix (mI M 31 2)))), (0, .ref 31), (1, .ref rt), (2, .ref 4)]) (st2 := [.int ((-1))]) (M2 := M127) rfl ⟨trivial, trivial⟩ ?_
          refine V.pick [] rfl ?_
          exact hJ140 ((-1)) M127 s127 E
        · replace E := E.trans (if_neg h127)
          refine V.seg F floX4 cjoX4 [.aload_n 0, .getfield 19, .iconst 1, .iadd, .goto 4] (by decide +kernel) (pc2 := 140) (lv2 := [(5, .int (mI M (rt + 3) (ix (mI M 31 2)))), (4, .int (mI M (rt + 2) (ix (mI M 31 2)))), (3, .int (mI M (rt + 1) (ix (mI M 31 2)))), (0, .ref 31), (1, .ref rt), (2, .ref 4)]) (st2 := [.int ((mI M127 31 2) + 1)]) (M2 := M127) rfl ⟨trivial, ((q.sm s127.1).o 31 4 rfl), trivial, trivial, (by decide), trivial⟩ ?_
          refine V.pick [] rfl ?_
          exact hJ140 ((mI M127 31 2) + 1) M127 s127 E
      · replace E := E.trans (if_neg h33_2)
        by_cases h33_3 : (mI M (rt + 1) (ix (mI M 31 2))) = 23
        · replace E := E.trans (if_pos h33_3)
          refine V.swo (dflt := 215) (lo := 20) (hi := 27) (offs := #[47, 64, 85, 108, 142, 176, 209, 212]) (len := 47) (off := 108) (tgt := 141) F (by decide +kernel) (by rw [h33_3]; rfl) rfl (by decide) ?_
          refine V.seg F floX4 cjoX4 [.aload_n 0, .getfield 9, .iload 4, .laload, .aload_n 0, .getfield 9, .iload 5, .laload, .lcmp] (by decide +kernel) (pc2 := 156) (lv2 := [(5, .int (mI M (rt + 3) (ix (mI M 31 2)))), (4, .int (mI M (rt + 2) (ix (mI M 31 2)))), (3, .int (mI M (rt + 1) (ix (mI M 31 2)))), (0, .ref 31), (1, .ref rt), (2, .ref 4)]) (st2 := [.int (lg_cmp (mL M 32 (ix (mI M (rt + 2) (ix (mI M 31 2))))) (mL M 32 (ix (mI M (rt + 3) (ix (mI M 31 2))))))]) (M2 := M) rfl ⟨trivial, (q.f 31 4 0 rfl), trivial, (q.a 32 22 8 rfl hL.1.1), trivial, (q.f 31 4 0 rfl), trivial, (q.a 32 22 8 rfl (by first | exact hL.1.2.2.1 h33_1 | exact ask23 hL.1 h33_3 | exact ask24 hL.1 h33_4)), trivial, trivial⟩ ?_
          have hJ174 : ∀ (w0_174 : Int32) (M174 : Mem), (SC wN M M174) → f_X4_step M rt = f_X4_step_174 w0_174 M174 → V G X 6 0 0 (Qx G X 0 0 (p_X4_step M rt)) 174 [] [.int w0_174] M174 := by
            intro w0_174 M174 s174 E
            exact V.iret F (by decide +kernel) ⟨congrArg (fun z => some (Value.int z.1)) E.symm, congrArg Prod.snd E.symm, s174⟩
          refine V.lc_ne (off := 12) F (by decide +kernel) (tgt := 168) (by decide) (fun h156 => ?_) (fun h156 => ?_)
          · replace E := E.trans (if_neg h156)
            refine V.seg F floX4 cjoX4 [.aload_n 0, .getfield 19, .iconst 1, .iadd] (by decide +kernel) (pc2 := 174) (lv2 := [(5, .int (mI M (rt + 3) (ix (mI M 31 2)))), (4, .int (mI M (rt + 2) (ix (mI M 31 2)))), (3, .int (mI M (rt + 1) (ix (mI M 31 2)))), (0, .ref 31), (1, .ref rt), (2, .ref 4)]) (st2 := [.int ((mI M 31 2) + 1)]) (M2 := M) rfl ⟨trivial, (q.o 31 4 rfl), trivial, trivial, trivial⟩ ?_
            refine V.pick [] rfl ?_
            exact hJ174 ((mI M 31 2) + 1) M (SC.rf (w := wN)) E
          · replace E := E.trans (if_pos h156)
            refine V.seg F floX4 cjoX4 [.aload_n 0, .getfield 19, .iconst 2, .iadd, .goto 9] (by decide +kernel) (pc2 := 174) (lv2 := [(5, .int (mI M (rt + 3) (ix (mI M 31 2)))), (4, .int (mI M (rt + 2) (ix (mI M 31 2)))), (3, .int (mI M (rt + 1) (ix (mI M 31 2)))), (0, .ref 31), (1, .ref rt), (2, .ref 4)]) (st2 := [.int ((mI M 31 2) + 2)]) (M2 := M) rfl ⟨trivial, (q.o 31 4 rfl), trivial, trivial, (by decide), trivial⟩ ?_
            refine V.pick [] rfl ?_
            exact hJ174 ((mI M 31 2) + 2) M (SC.rf (w := wN)) E
        · replace E := E.trans (if_neg h33_3)
          by_cases h33_4 : (mI M (rt + 1) (ix (mI M 31 2))) = 24
          · replace E := E.trans (if_pos h33_4)
            refine V.swo (dflt := 215) (lo := 20) (hi := 27) (offs := #[47, 64, 85, 108, 142, 176, 209, 212]) (len := 47) (off := 142) (tgt := 175) F (by decide +kernel) (by rw [h33_4]; rfl) rfl (by decide) ?_
            refine V.seg F floX4 cjoX4 [.aload_n 0, .getfield 9, .iload 4, .laload, .aload_n 0, .getfield 9, .iload 5, .laload, .lcmp] (by decide +kernel) (pc2 := 190) (lv2 := [(5, .int (mI M (rt + 3) (ix (mI M 31 2)))), (4, .int (mI M (rt + 2) (ix (mI M 31 2)))), (3, .int (mI M (rt + 1) (ix (mI M 31 2)))), (0, .ref 31), (1, .ref rt), (2, .ref 4)]) (st2 := [.int (lg_cmp (mL M 32 (ix (mI M (rt + 2) (ix (mI M 31 2))))) (mL M 32 (ix (mI M (rt + 3) (ix (mI M 31 2))))))]) (M2 := M) rfl ⟨trivial, (q.f 31 4 0 rfl), trivial, (q.a 32 22 8 rfl hL.1.1), trivial, (q.f 31 4 0 rfl), trivial, (q.a 32 22 8 rfl (by first | exact hL.1.2.2.1 h33_1 | exact ask23 hL.1 h33_3 | exact ask24 hL.1 h33_4)), trivial, trivial⟩ ?_
            have hJ208 : ∀ (w0_208 : Int32) (M208 : Mem), (SC wN M M208) → f_X4_step M rt = f_X4_step_208 w0_208 M208 → V G X 6 0 0 (Qx G X 0 0 (p_X4_step M rt)) 208 [] [.int w0_208] M208 := by
              intro w0_208 M208 s208 E
              exact V.iret F (by decide +kernel) ⟨congrArg (fun z => some (Value.int z.1)) E.symm, congrArg Prod.snd E.symm, s208⟩
            refine V.lc_ge (off := 12) F (by decide +kernel) (tgt := 202) (by decide) (fun h190 => ?_) (fun h190 => ?_)
            · replace E := E.trans (if_pos h190)
              refine V.seg F floX4 cjoX4 [.aload_n 0, .getfield 19, .iconst 1, .iadd] (by decide +kernel) (pc2 := 208) (lv2 := [(5, .int (mI M (rt + 3) (ix (mI M 31 2)))), (4, .int (mI M (rt + 2) (ix (mI M 31 2)))), (3, .int (mI M (rt + 1) (ix (mI M 31 2)))), (0, .ref 31), (1, .ref rt), (2, .ref 4)]) (st2 := [.int ((mI M 31 2) + 1)]) (M2 := M) rfl ⟨trivial, (q.o 31 4 rfl), trivial, trivial, trivial⟩ ?_
              refine V.pick [] rfl ?_
              exact hJ208 ((mI M 31 2) + 1) M (SC.rf (w := wN)) E
            · replace E := E.trans (if_neg h190)
              refine V.seg F floX4 cjoX4 [.aload_n 0, .getfield 19, .iconst 2, .iadd, .goto 9] (by decide +kernel) (pc2 := 208) (lv2 := [(5, .int (mI M (rt + 3) (ix (mI M 31 2)))), (4, .int (mI M (rt + 2) (ix (mI M 31 2)))), (3, .int (mI M (rt + 1) (ix (mI M 31 2)))), (0, .ref 31), (1, .ref rt), (2, .ref 4)]) (st2 := [.int ((mI M 31 2) + 2)]) (M2 := M) rfl ⟨trivial, (q.o 31 4 rfl), trivial, trivial, (by decide), trivial⟩ ?_
              refine V.pick [] rfl ?_
              exact hJ208 ((mI M 31 2) + 2) M (SC.rf (w := wN)) E
          · replace E := E.trans (if_neg h33_4)
            by_cases h33_5 : (mI M (rt + 1) (ix (mI M 31 2))) = 25
            · replace E := E.trans (if_pos h33_5)
              refine V.swo (dflt := 215) (lo := 20) (hi := 27) (offs := #[47, 64, 85, 108, 142, 176, 209, 212]) (len := 47) (off := 176) (tgt := 209) F (by decide +kernel) (by rw [h33_5]; rfl) rfl (by decide) ?_
              refine V.seg F floX4 cjoX4 [.aload_n 0, .getfield 9, .iload 4, .laload, .iload 5, .lushr, .lconst 1, .land, .lconst 1, .lcmp] (by decide +kernel) (pc2 := 223) (lv2 := [(5, .int (mI M (rt + 3) (ix (mI M 31 2)))), (4, .int (mI M (rt + 2) (ix (mI M 31 2)))), (3, .int (mI M (rt + 1) (ix (mI M 31 2)))), (0, .ref 31), (1, .ref rt), (2, .ref 4)]) (st2 := [.int (lg_cmp ((jushr (mL M 32 (ix (mI M (rt + 2) (ix (mI M 31 2))))) (mI M (rt + 3) (ix (mI M 31 2)))) &&& 1) 1)]) (M2 := M) rfl ⟨trivial, (q.f 31 4 0 rfl), trivial, (q.a 32 22 8 rfl hL.1.1), trivial, trivial, trivial, trivial, trivial, trivial, trivial⟩ ?_
              have hJ241 : ∀ (w0_241 : Int32) (M241 : Mem), (SC wN M M241) → f_X4_step M rt = f_X4_step_241 w0_241 M241 → V G X 6 0 0 (Qx G X 0 0 (p_X4_step M rt)) 241 [] [.int w0_241] M241 := by
                intro w0_241 M241 s241 E
                exact V.iret F (by decide +kernel) ⟨congrArg (fun z => some (Value.int z.1)) E.symm, congrArg Prod.snd E.symm, s241⟩
              refine V.lc_ne (off := 12) F (by decide +kernel) (tgt := 235) (by decide) (fun h223 => ?_) (fun h223 => ?_)
              · replace E := E.trans (if_neg h223)
                refine V.seg F floX4 cjoX4 [.aload_n 0, .getfield 19, .iconst 1, .iadd] (by decide +kernel) (pc2 := 241) (lv2 := [(5, .int (mI M (rt + 3) (ix (mI M 31 2)))), (4, .int (mI M (rt + 2) (ix (mI M 31 2)))), (3, .int (mI M (rt + 1) (ix (mI M 31 2)))), (0, .ref 31), (1, .ref rt), (2, .ref 4)]) (st2 := [.int ((mI M 31 2) + 1)]) (M2 := M) rfl ⟨trivial, (q.o 31 4 rfl), trivial, trivial, trivial⟩ ?_
                refine V.pick [] rfl ?_
                exact hJ241 ((mI M 31 2) + 1) M (SC.rf (w := wN)) E
              · replace E := E.trans (if_pos h223)
                refine V.seg F floX4 cjoX4 [.aload_n 0, .getfield 19, .iconst 2, .iadd, .goto 9] (by decide +kernel) (pc2 := 241) (lv2 := [(5, .int (mI M (rt + 3) (ix (mI M 31 2)))), (4, .int (mI M (rt + 2) (ix (mI M 31 2)))), (3, .int (mI M (rt + 1) (ix (mI M 31 2)))), (0, .ref 31), (1, .ref rt), (2, .ref 4)]) (st2 := [.int ((mI M 31 2) + 2)]) (M2 := M) rfl ⟨trivial, (q.o 31 4 rfl), trivial, trivial, (by decide), trivial⟩ ?_
                refine V.pick [] rfl ?_
                exact hJ241 ((mI M 31 2) + 2) M (SC.rf (w := wN)) E
            · replace E := E.trans (if_neg h33_5)
              by_cases h33_6 : (mI M (rt + 1) (ix (mI M 31 2))) = 26
              · replace E := E.trans (if_pos h33_6)
                refine V.swo (dflt := 215) (lo := 20) (hi := 27) (offs := #[47, 64, 85, 108, 142, 176, 209, 212]) (len := 47) (off := 209) (tgt := 242) F (by decide +kernel) (by rw [h33_6]; rfl) rfl (by decide) ?_
                refine V.seg F floX4 cjoX4 [.iload 5] (by decide +kernel) (pc2 := 244) (lv2 := [(5, .int (mI M (rt + 3) (ix (mI M 31 2)))), (4, .int (mI M (rt + 2) (ix (mI M 31 2)))), (3, .int (mI M (rt + 1) (ix (mI M 31 2)))), (0, .ref 31), (1, .ref rt), (2, .ref 4)]) (st2 := [.int (mI M (rt + 3) (ix (mI M 31 2)))]) (M2 := M) rfl ⟨trivial, trivial⟩ ?_
                exact V.iret F (by decide +kernel) ⟨congrArg (fun z => some (Value.int z.1)) E.symm, congrArg Prod.snd E.symm, (SC.rf (w := wN))⟩
              · replace E := E.trans (if_neg h33_6)
                by_cases h33_7 : (mI M (rt + 1) (ix (mI M 31 2))) = 27
                · replace E := E.trans (if_pos h33_7)
                  refine V.swo (dflt := 215) (lo := 20) (hi := 27) (offs := #[47, 64, 85, 108, 142, 176, 209, 212]) (len := 47) (off := 212) (tgt := 245) F (by decide +kernel) (by rw [h33_7]; rfl) rfl (by decide) ?_
                  refine V.seg F floX4 cjoX4 [.bipush 32] (by decide +kernel) (pc2 := 247) (lv2 := [(5, .int (mI M (rt + 3) (ix (mI M 31 2)))), (4, .int (mI M (rt + 2) (ix (mI M 31 2)))), (3, .int (mI M (rt + 1) (ix (mI M 31 2)))), (0, .ref 31), (1, .ref rt), (2, .ref 4)]) (st2 := [.int 32]) (M2 := M) rfl ⟨trivial, trivial⟩ ?_
                  exact V.iret F (by decide +kernel) ⟨congrArg (fun z => some (Value.int z.1)) E.symm, congrArg Prod.snd E.symm, (SC.rf (w := wN))⟩
                · replace E := E.trans (if_neg h33_7)
                  refine V.swo (dflt := 215) (lo := 20) (hi := 27) (offs := #[47, 64, 85, 108, 142, 176, 209, 212]) (len := 47) (off := 215) (tgt := 248) F (by decide +kernel) (sw_dflt 8 (by decide) (h := fun k_ hk_ e_ => match k_, hk_, e_ with | 0, _, e_ => absurd ((e_.trans (by decide))) h33_0 | 1, _, e_ => absurd ((e_.trans (by decide))) h33_1 | 2, _, e_ => absurd ((e_.trans (by decide))) h33_2 | 3, _, e_ => absurd ((e_.trans (by decide))) h33_3 | 4, _, e_ => absurd ((e_.trans (by decide))) h33_4 | 5, _, e_ => absurd ((e_.trans (by decide))) h33_5 | 6, _, e_ => absurd ((e_.trans (by decide))) h33_6 | 7, _, e_ => absurd ((e_.trans (by decide))) h33_7 | k_ + 8, hk_, _ => absurd hk_ (by omega))) rfl (by decide) ?_
                  refine V.seg F floX4 cjoX4 [.aload_n 0, .iload_n 3, .iload 4, .iload 5] (by decide +kernel) (pc2 := 254) (lv2 := [(5, .int (mI M (rt + 3) (ix (mI M 31 2)))), (4, .int (mI M (rt + 2) (ix (mI M 31 2)))), (3, .int (mI M (rt + 1) (ix (mI M 31 2)))), (0, .ref 31), (1, .ref rt), (2, .ref 4)]) (st2 := [.int (mI M (rt + 3) (ix (mI M 31 2))), .int (mI M (rt + 2) (ix (mI M 31 2))), .int (mI M (rt + 1) (ix (mI M 31 2))), .ref 31]) (M2 := M) rfl ⟨trivial, trivial, trivial, trivial, trivial⟩ ?_
                  refine V.callV (as := [.int (mI M (rt + 1) (ix (mI M 31 2))), .int (mI M (rt + 2) (ix (mI M 31 2))), .int (mI M (rt + 3) (ix (mI M 31 2)))]) (rest := []) F (by decide +kernel) lX4_72 bX4_compute ⟨4, _, (q.o 31 4 rfl), rfl, rfl⟩ (c_X4_compute G X.2.1 M (mI M (rt + 1) (ix (mI M 31 2))) (mI M (rt + 2) (ix (mI M 31 2))) (mI M (rt + 3) (ix (mI M 31 2))) q hL.1.1 (lnD hL h33_0 h33_1 h33_2 (fun z => z.elim h33_3 (fun z => z.elim h33_4 h33_5)) h33_6 h33_7)) (rm_ok hRm hd (by decide) (by decide)) ⟨Nat.zero_le _, Nat.zero_le _⟩ (Nat.le_of_ble_eq_true rfl) (fun r_ N_ p_ => ?_)
                  obtain ⟨rfl, rfl, t254, z254⟩ := p_
                  refine (?_ : ∀ (x257 : Int32) (M257 : Mem), (x257 = 0 ∨ x257 = 1) → SC wN M M257 → f_X4_step M rt = f_X4_step_c257 x257 M257 → V G X 6 0 0 (Qx G X 0 0 (p_X4_step M rt)) 257 [(5, .int (mI M (rt + 3) (ix (mI M 31 2)))), (4, .int (mI M (rt + 2) (ix (mI M 31 2)))), (3, .int (mI M (rt + 1) (ix (mI M 31 2)))), (0, .ref 31), (1, .ref rt), (2, .ref 4)] [.int x257] M257) _ _ z254 t254  E
                  intro x257 M257 z257 s257  E
                  have hJ270 : ∀ (w0_270 : Int32) (M270 : Mem), (SC wN M M270) → f_X4_step M rt = f_X4_step_270 w0_270 M270 → V G X 6 0 0 (Qx G X 0 0 (p_X4_step M rt)) 270 [] [.int w0_270] M270 := by
                    intro w0_270 M270 s270 E
                    exact V.iret F (by decide +kernel) ⟨congrArg (fun z => some (Value.int z.1)) E.symm, congrArg Prod.snd E.symm, s270⟩
                  refine V.if_eq (off := 12) F (by decide +kernel) (tgt := 269) (by decide) (fun h257 => ?_) (fun h257 => ?_)
                  · replace E := E.trans (if_pos h257)
                    refine V.seg F floX4 cjoX4 [.iconst (-1)] (by decide +kernel) (pc2 := 270) (lv2 := [(5, .int (mI M (rt + 3) (ix (mI M 31 2)))), (4, .int (mI M (rt + 2) (ix (mI M 31 2)))), (3, .int (mI M (rt + 1) (ix (mI M 31 2)))), (0, .ref 31), (1, .ref rt), (2, .ref 4)]) (st2 := [.int ((-1))]) (M2 := M257) rfl ⟨trivial, trivial⟩ ?_
                    refine V.pick [] rfl ?_
                    exact hJ270 ((-1)) M257 s257 E
                  · replace E := E.trans (if_neg h257)
                    refine V.seg F floX4 cjoX4 [.aload_n 0, .getfield 19, .iconst 1, .iadd, .goto 4] (by decide +kernel) (pc2 := 270) (lv2 := [(5, .int (mI M (rt + 3) (ix (mI M 31 2)))), (4, .int (mI M (rt + 2) (ix (mI M 31 2)))), (3, .int (mI M (rt + 1) (ix (mI M 31 2)))), (0, .ref 31), (1, .ref rt), (2, .ref 4)]) (st2 := [.int ((mI M257 31 2) + 1)]) (M2 := M257) rfl ⟨trivial, ((q.sm s257.1).o 31 4 rfl), trivial, trivial, (by decide), trivial⟩ ?_
                    refine V.pick [] rfl ?_
                    exact hJ270 ((mI M257 31 2) + 1) M257 s257 E
