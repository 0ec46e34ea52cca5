theorem pos_ne {b : Int64} (h : 0 < b) : ¬ b = 0 := fun e => absurd h (by rw [e]; decide)
theorem neg0 {c : Int64} (h : -c = 0) : c = 0 := by
  have : -(-c) = -(0 : Int64) := by rw [h]
  rw [Int64.neg_neg] at this
  rw [this]; rfl
def f_X7_bitwise_236  (M236 : Mem) : Mem := M236
def f_X7_bitwise_195 (op : Int32) (M195 : Mem) : Mem := if op = 3 then if (mL M195 54 (ix 17)) < 0 then f_X7_bitwise_236 M195 else f_X7_bitwise_236 (uL M195 55 (ix 18) (f_X7_less (mL M195 55 (ix 18)) (mL M195 55 (ix 17)))) else f_X7_bitwise_236 M195
def f_X7_bitwise_131 (op : Int32) (w0_95 : Int64) (w0_131 : Int64) (M131 : Mem) : Mem := if op = 3 then if (mL (uL (uL M131 56 (ix 18) (w0_95 ||| w0_131)) 57 (ix 18) w0_95) 54 (ix 16)) < 0 then f_X7_bitwise_195 op (uL (uL M131 56 (ix 18) (w0_95 ||| w0_131)) 57 (ix 18) w0_95) else f_X7_bitwise_195 op (uL (uL (uL M131 56 (ix 18) (w0_95 ||| w0_131)) 57 (ix 18) w0_95) 55 (ix 18) (f_X7_less (mL (uL (uL M131 56 (ix 18) (w0_95 ||| w0_131)) 57 (ix 18) w0_95) 55 (ix 18)) (mL (uL (uL M131 56 (ix 18) (w0_95 ||| w0_131)) 57 (ix 18) w0_95) 55 (ix 16)))) else f_X7_bitwise_195 op (uL (uL M131 56 (ix 18) (w0_95 ||| w0_131)) 57 (ix 18) w0_95)
def f_X7_bitwise_95 (op : Int32) (M : Mem) (w0_95 : Int64) (M95 : Mem) : Mem := if op = 3 then f_X7_bitwise_131 op w0_95 (((mL M 56 (ix 16)) &&& ((mL M 57 (ix 16)) ^^^ ((-1)))) ||| ((mL M 56 (ix 17)) &&& ((mL M 57 (ix 17)) ^^^ ((-1))))) M95 else if op = 4 then f_X7_bitwise_131 op w0_95 (((mL M 56 (ix 16)) &&& ((mL M 57 (ix 16)) ^^^ ((-1)))) &&& ((mL M 56 (ix 17)) &&& ((mL M 57 (ix 17)) ^^^ ((-1))))) M95 else f_X7_bitwise_131 op w0_95 (((mL M 57 (ix 16)) &&& (mL M 57 (ix 17))) ||| (((mL M 56 (ix 16)) &&& ((mL M 57 (ix 16)) ^^^ ((-1)))) &&& ((mL M 56 (ix 17)) &&& ((mL M 57 (ix 17)) ^^^ ((-1)))))) M95
def f_X7_bitwise (M : Mem) (op : Int32) : Mem := if op = 3 then f_X7_bitwise_95 op M ((mL M 57 (ix 16)) &&& (mL M 57 (ix 17))) M else if op = 4 then f_X7_bitwise_95 op M ((mL M 57 (ix 16)) ||| (mL M 57 (ix 17))) M else f_X7_bitwise_95 op M (((mL M 57 (ix 16)) &&& ((mL M 56 (ix 17)) &&& ((mL M 57 (ix 17)) ^^^ ((-1))))) ||| (((mL M 56 (ix 16)) &&& ((mL M 57 (ix 16)) ^^^ ((-1)))) &&& (mL M 57 (ix 17)))) M
abbrev p_X7_bitwise (M : Mem) (op : Int32) : Option Value → Mem → Prop := fun r N => r = none ∧ N = f_X7_bitwise M op ∧ SK wg M N
set_option maxRecDepth 100000 in
set_option maxHeartbeats 4000000 in
theorem c_X7_bitwise (G : Ctx) (l : Launch) (M : Mem) (op : Int32) (q : Ok M) (gb : Gb M) : CT G l 1 mX7_bitwise [.ref 52, .int op] M 0 0 (p_X7_bitwise M op) := by
  refine CT.of (by decide) (Nat.le_of_ble_eq_true rfl) ?_
  intro X d hd hl hRm hnm F
  subst hl
  have E : f_X7_bitwise M op = f_X7_bitwise M op := rfl
  show V G X 14 0 0 (Qx G X 0 0 (p_X7_bitwise M op)) 0 [(0, .ref 52), (1, .int op)] [] M
  refine V.seg F floX7 cjoX7 [.aload_n 0, .getfield 20, .bipush 16, .laload, .aload_n 0, .getfield 23, .bipush 16, .laload, .ldc2_w 87, .lxor, .land, .lstore_n 2, .aload_n 0, .getfield 20, .bipush 17, .laload, .aload_n 0, .getfield 23, .bipush 17, .laload, .ldc2_w 87, .lxor, .land, .lstore 4, .aload_n 0, .getfield 23, .bipush 16, .laload, .lstore 6, .aload_n 0, .getfield 23, .bipush 17, .laload, .lstore 8, .iload_n 1, .iconst 3] (by decide +kernel) (pc2 := 61) (lv2 := [(8, .long (mL M 57 (ix 17))), (6, .long (mL M 57 (ix 16))), (4, .long ((mL M 56 (ix 17)) &&& ((mL M 57 (ix 17)) ^^^ ((-1))))), (2, .long ((mL M 56 (ix 16)) &&& ((mL M 57 (ix 16)) ^^^ ((-1))))), (0, .ref 52), (1, .int op)]) (st2 := [.int 3, .int op]) (M2 := M) rfl ⟨trivial, (q.f 52 7 3 rfl), trivial, (q.a 56 22 1648 rfl (vinc (by decide))), trivial, (q.f 52 7 4 rfl), trivial, (q.a 57 22 1648 rfl (vinc (by decide))), trivial, trivial, trivial, (by decide), trivial, (q.f 52 7 3 rfl), trivial, (q.a 56 22 1648 rfl (vinc (by decide))), trivial, (q.f 52 7 4 rfl), trivial, (q.a 57 22 1648 rfl (vinc (by decide))), trivial, trivial, trivial, (by decide), trivial, (q.f 52 7 4 rfl), trivial, (q.a 57 22 1648 rfl (vinc (by decide))), (by decide), trivial, (q.f 52 7 4 rfl), trivial, (q.a 57 22 1648 rfl (vinc (by decide))), (by decide), trivial, trivial, trivial⟩ ?_
  have hJ95 : ∀ (w0_95 : Int64) (M95 : Mem), (SK wg M M95) → f_X7_bitwise M op = f_X7_bitwise_95 op M w0_95 M95 → V G X 14 0 0 (Qx G X 0 0 (p_X7_bitwise M op)) 95 [(0, .ref 52), (1, .int op), (2, .long ((mL M 56 (ix 16)) &&& ((mL M 57 (ix 16)) ^^^ ((-1))))), (4, .long ((mL M 56 (ix 17)) &&& ((mL M 57 (ix 17)) ^^^ ((-1))))), (6, .long (mL M 57 (ix 16))), (8, .long (mL M 57 (ix 17)))] [.long w0_95] M95 := by
    intro w0_95 M95 s95 E
    refine V.seg F floX7 cjoX7 [.lstore 10, .iload_n 1, .iconst 3] (by decide +kernel) (pc2 := 99) (lv2 := [(10, .long w0_95), (0, .ref 52), (1, .int op), (2, .long ((mL M 56 (ix 16)) &&& ((mL M 57 (ix 16)) ^^^ ((-1))))), (4, .long ((mL M 56 (ix 17)) &&& ((mL M 57 (ix 17)) ^^^ ((-1))))), (6, .long (mL M 57 (ix 16))), (8, .long (mL M 57 (ix 17)))]) (st2 := [.int 3, .int op]) (M2 := M95) rfl ⟨(by decide), trivial, trivial, trivial⟩ ?_
    have hJ131 : ∀ (w0_131 : Int64) (M131 : Mem), (SK wg M M131) → f_X7_bitwise M op = f_X7_bitwise_131 op w0_95 w0_131 M131 → V G X 14 0 0 (Qx G X 0 0 (p_X7_bitwise M op)) 131 [(0, .ref 52), (1, .int op), (10, .long w0_95)] [.long w0_131] M131 := by
      intro w0_131 M131 s131 E
      refine V.seg F floX7 cjoX7 [.lstore 12, .aload_n 0, .getfield 20, .bipush 18, .lload 10, .lload 12, .lor, .lastore, .aload_n 0, .getfield 23, .bipush 18, .lload 10, .lastore, .iload_n 1, .iconst 3] (by decide +kernel) (pc2 := 156) (lv2 := [(12, .long w0_131), (0, .ref 52), (1, .int op), (10, .long w0_95)]) (st2 := [.int 3, .int op]) (M2 := uL (uL M131 56 (ix 18) (w0_95 ||| w0_131)) 57 (ix 18) w0_95) rfl ⟨(by decide), trivial, ((q.sm s131.1).f 52 7 3 rfl), trivial, trivial, trivial, trivial, ((q.sm s131.1).a 56 22 1648 rfl (vinc (by decide))), trivial, ((q.sm (SK.pL s131 rfl (by decide)).1).f 52 7 4 rfl), trivial, trivial, ((q.sm (SK.pL s131 rfl (by decide)).1).a 57 22 1648 rfl (vinc (by decide))), trivial, trivial, trivial⟩ ?_
      have hJ195 : ∀ (M195 : Mem), (SK wg M M195) → f_X7_bitwise M op = f_X7_bitwise_195 op M195 → V G X 14 0 0 (Qx G X 0 0 (p_X7_bitwise M op)) 195 [(0, .ref 52), (1, .int op)] [] M195 := by
        intro M195 s195 E
        refine V.seg F floX7 cjoX7 [.iload_n 1, .iconst 3] (by decide +kernel) (pc2 := 197) (lv2 := [(0, .ref 52), (1, .int op)]) (st2 := [.int 3, .int op]) (M2 := M195) rfl ⟨trivial, trivial, trivial⟩ ?_
        have hJ236 : ∀ (M236 : Mem), (SK wg M M236) → f_X7_bitwise M op = f_X7_bitwise_236 M236 → V G X 14 0 0 (Qx G X 0 0 (p_X7_bitwise M op)) 236 [] [] M236 := by
          intro M236 s236 E
          exact V.vret F (by decide +kernel) ⟨rfl, E.symm, s236⟩
        refine V.ic_ne (off := 39) F (by decide +kernel) (tgt := 236) (by decide) (fun h197 => ?_) (fun h197 => ?_)
        · replace E := E.trans (if_neg h197)
          refine V.pick [] rfl ?_
          exact hJ236 M195 s195 E
        · replace E := E.trans (if_pos h197)
          refine V.seg F floX7 cjoX7 [.aload_n 0, .getfield 13, .bipush 17, .laload, .lconst 0, .lcmp] (by decide +kernel) (pc2 := 209) (lv2 := [(0, .ref 52), (1, .int op)]) (st2 := [.int (lg_cmp (mL M195 54 (ix 17)) 0)]) (M2 := M195) rfl ⟨trivial, ((q.sm s195.1).f 52 7 1 rfl), trivial, ((q.sm s195.1).a 54 22 1648 rfl (vinc (by decide))), trivial, trivial, trivial⟩ ?_
          refine V.lc_lt (off := 27) F (by decide +kernel) (tgt := 236) (by decide) (fun h209 => ?_) (fun h209 => ?_)
          · replace E := E.trans (if_pos h209)
            refine V.pick [] rfl ?_
            exact hJ236 M195 s195 E
          · replace E := E.trans (if_neg h209)
            refine V.seg F floX7 cjoX7 [.aload_n 0, .getfield 17, .bipush 18, .aload_n 0, .getfield 17, .bipush 18, .laload, .aload_n 0, .getfield 17, .bipush 17, .laload] (by decide +kernel) (pc2 := 232) (lv2 := [(0, .ref 52), (1, .int op)]) (st2 := [.long (mL M195 55 (ix 17)), .long (mL M195 55 (ix 18)), .int 18, .ref 55]) (M2 := M195) rfl ⟨trivial, ((q.sm s195.1).f 52 7 2 rfl), trivial, trivial, ((q.sm s195.1).f 52 7 2 rfl), trivial, ((q.sm s195.1).a 55 22 1648 rfl (vinc (by decide))), trivial, ((q.sm s195.1).f 52 7 2 rfl), trivial, ((q.sm s195.1).a 55 22 1648 rfl (vinc (by decide))), trivial⟩ ?_
            refine V.callS (as := [.long (mL M195 55 (ix 18)), .long (mL M195 55 (ix 17))]) (rest := [.int 18, .ref 55]) F (by decide +kernel) lX7_151 bX7_less (c_X7_less G X.2.1 M195 (mL M195 55 (ix 18)) (mL M195 55 (ix 17))) (rm_ok hRm hd (by decide) (by decide)) ⟨Nat.zero_le _, Nat.zero_le _⟩ (Nat.le_of_ble_eq_true rfl) (fun r_ N_ p_ => ?_)
            obtain ⟨rfl, hN_⟩ := p_
            rw [hN_]
            clear hN_
            refine V.seg F floX7 cjoX7 [.lastore] (by decide +kernel) (pc2 := 236) (lv2 := [(0, .ref 52), (1, .int op)]) (st2 := []) (M2 := uL M195 55 (ix 18) (f_X7_less (mL M195 55 (ix 18)) (mL M195 55 (ix 17)))) rfl ⟨((q.sm s195.1).a 55 22 1648 rfl (vinc (by decide))), trivial⟩ ?_
            refine V.pick [] rfl ?_
            exact hJ236 (uL M195 55 (ix 18) (f_X7_less (mL M195 55 (ix 18)) (mL M195 55 (ix 17)))) (SK.pL s195 rfl (by decide)) E
      refine V.ic_ne (off := 39) F (by decide +kernel) (tgt := 195) (by decide) (fun h156 => ?_) (fun h156 => ?_)
      · replace E := E.trans (if_neg h156)
        refine V.pick [1, 2] rfl ?_
        exact hJ195 (uL (uL M131 56 (ix 18) (w0_95 ||| w0_131)) 57 (ix 18) w0_95) (SK.pL (SK.pL s131 rfl (by decide)) rfl (by decide)) E
      · replace E := E.trans (if_pos h156)
        refine V.seg F floX7 cjoX7 [.aload_n 0, .getfield 13, .bipush 16, .laload, .lconst 0, .lcmp] (by decide +kernel) (pc2 := 168) (lv2 := [(12, .long w0_131), (0, .ref 52), (1, .int op), (10, .long w0_95)]) (st2 := [.int (lg_cmp (mL (uL (uL M131 56 (ix 18) (w0_95 ||| w0_131)) 57 (ix 18) w0_95) 54 (ix 16)) 0)]) (M2 := uL (uL M131 56 (ix 18) (w0_95 ||| w0_131)) 57 (ix 18) w0_95) rfl ⟨trivial, ((q.sm (SK.pL (SK.pL s131 rfl (by decide)) rfl (by decide)).1).f 52 7 1 rfl), trivial, ((q.sm (SK.pL (SK.pL s131 rfl (by decide)) rfl (by decide)).1).a 54 22 1648 rfl (vinc (by decide))), trivial, trivial, trivial⟩ ?_
        refine V.lc_lt (off := 27) F (by decide +kernel) (tgt := 195) (by decide) (fun h168 => ?_) (fun h168 => ?_)
        · replace E := E.trans (if_pos h168)
          refine V.pick [1, 2] rfl ?_
          exact hJ195 (uL (uL M131 56 (ix 18) (w0_95 ||| w0_131)) 57 (ix 18) w0_95) (SK.pL (SK.pL s131 rfl (by decide)) rfl (by decide)) E
        · replace E := E.trans (if_neg h168)
          refine V.seg F floX7 cjoX7 [.aload_n 0, .getfield 17, .bipush 18, .aload_n 0, .getfield 17, .bipush 18, .laload, .aload_n 0, .getfield 17, .bipush 16, .laload] (by decide +kernel) (pc2 := 191) (lv2 := [(12, .long w0_131), (0, .ref 52), (1, .int op), (10, .long w0_95)]) (st2 := [.long (mL (uL (uL M131 56 (ix 18) (w0_95 ||| w0_131)) 57 (ix 18) w0_95) 55 (ix 16)), .long (mL (uL (uL M131 56 (ix 18) (w0_95 ||| w0_131)) 57 (ix 18) w0_95) 55 (ix 18)), .int 18, .ref 55]) (M2 := uL (uL M131 56 (ix 18) (w0_95 ||| w0_131)) 57 (ix 18) w0_95) rfl ⟨trivial, ((q.sm (SK.pL (SK.pL s131 rfl (by decide)) rfl (by decide)).1).f 52 7 2 rfl), trivial, trivial, ((q.sm (SK.pL (SK.pL s131 rfl (by decide)) rfl (by decide)).1).f 52 7 2 rfl), trivial, ((q.sm (SK.pL (SK.pL s131 rfl (by decide)) rfl (by decide)).1).a 55 22 1648 rfl (vinc (by decide))), trivial, ((q.sm (SK.pL (SK.pL s131 rfl (by decide)) rfl (by decide)).1).f 52 7 2 rfl), trivial, ((q.sm (SK.pL (SK.pL s131 rfl (by decide)) rfl (by decide)).1).a 55 22 1648 rfl (vinc (by decide))), trivial⟩ ?_
          refine V.callS (as := [.long (mL (uL (uL M131 56 (ix 18) (w0_95 ||| w0_131)) 57 (ix 18) w0_95) 55 (ix 18)), .long (mL (uL (uL M131 56 (ix 18) (w0_95 ||| w0_131)) 57 (ix 18) w0_95) 55 (ix 16))]) (rest := [.int 18, .ref 55]) F (by decide +kernel) lX7_151 bX7_less (c_X7_less G X.2.1 (uL (uL M131 56 (ix 18) (w0_95 ||| w0_131)) 57 (ix 18) w0_95) (mL (uL (uL M131 56 (ix 18) (w0_95 ||| w0_131)) 57 (ix 18) w0_95) 55 (ix 18)) (mL (uL (uL M131 56 (ix 18) (w0_95 ||| w0_131)) 57 (ix 18) w0_95) 55 (ix 16))) (rm_ok hRm hd (by decide) (by decide)) ⟨Nat.zero_le _, Nat.zero_le _⟩ (Nat.le_of_ble_eq_true rfl) (fun r_ N_ p_ => ?_)
          obtain ⟨rfl, hN_⟩ := p_
          rw [hN_]
          clear hN_
          refine V.seg F floX7 cjoX7 [.lastore] (by decide +kernel) (pc2 := 195) (lv2 := [(12, .long w0_131), (0, .ref 52), (1, .int op), (10, .long w0_95)]) (st2 := []) (M2 := uL (uL (uL M131 56 (ix 18) (w0_95 ||| w0_131)) 57 (ix 18) w0_95) 55 (ix 18) (f_X7_less (mL (uL (uL M131 56 (ix 18) (w0_95 ||| w0_131)) 57 (ix 18) w0_95) 55 (ix 18)) (mL (uL (uL M131 56 (ix 18) (w0_95 ||| w0_131)) 57 (ix 18) w0_95) 55 (ix 16)))) rfl ⟨((q.sm (SK.pL (SK.pL s131 rfl (by decide)) rfl (by decide)).1).a 55 22 1648 rfl (vinc (by decide))), trivial⟩ ?_
          refine V.pick [1, 2] rfl ?_
          exact hJ195 (uL (uL (uL M131 56 (ix 18) (w0_95 ||| w0_131)) 57 (ix 18) w0_95) 55 (ix 18) (f_X7_less (mL (uL (uL M131 56 (ix 18) (w0_95 ||| w0_131)) 57 (ix 18) w0_95) 55 (ix 18)) (mL (uL (uL M131 56 (ix 18) (w0_95 ||| w0_131)) 57 (ix 18) w0_95) 55 (ix 16)))) (SK.pL (SK.pL (SK.pL s131 rfl (by decide)) rfl (by decide)) rfl (by decide)) E
    refine V.ic_ne (off := 10) F (by decide +kernel) (tgt := 109) (by decide) (fun h99 => ?_) (fun h99 => ?_)
    · replace E := E.trans (if_neg h99)
      refine V.seg F floX7 cjoX7 [.iload_n 1, .iconst 4] (by decide +kernel) (pc2 := 111) (lv2 := [(10, .long w0_95), (0, .ref 52), (1, .int op), (2, .long ((mL M 56 (ix 16)) &&& ((mL M 57 (ix 16)) ^^^ ((-1))))), (4, .long ((mL M 56 (ix 17)) &&& ((mL M 57 (ix 17)) ^^^ ((-1))))), (6, .long (mL M 57 (ix 16))), (8, .long (mL M 57 (ix 17)))]) (st2 := [.int 4, .int op]) (M2 := M95) rfl ⟨trivial, trivial, trivial⟩ ?_
      refine V.ic_ne (off := 10) F (by decide +kernel) (tgt := 121) (by decide) (fun h111 => ?_) (fun h111 => ?_)
      · replace E := E.trans (if_neg h111)
        refine V.seg F floX7 cjoX7 [.lload 6, .lload 8, .land, .lload_n 2, .lload 4, .land, .lor] (by decide +kernel) (pc2 := 131) (lv2 := [(10, .long w0_95), (0, .ref 52), (1, .int op), (2, .long ((mL M 56 (ix 16)) &&& ((mL M 57 (ix 16)) ^^^ ((-1))))), (4, .long ((mL M 56 (ix 17)) &&& ((mL M 57 (ix 17)) ^^^ ((-1))))), (6, .long (mL M 57 (ix 16))), (8, .long (mL M 57 (ix 17)))]) (st2 := [.long (((mL M 57 (ix 16)) &&& (mL M 57 (ix 17))) ||| (((mL M 56 (ix 16)) &&& ((mL M 57 (ix 16)) ^^^ ((-1)))) &&& ((mL M 56 (ix 17)) &&& ((mL M 57 (ix 17)) ^^^ ((-1))))))]) (M2 := M95) rfl ⟨trivial, trivial, trivial, trivial, trivial, trivial, trivial, trivial⟩ ?_
        refine V.pick [1, 2, 0] rfl ?_
        exact hJ131 (((mL M 57 (ix 16)) &&& (mL M 57 (ix 17))) ||| (((mL M 56 (ix 16)) &&& ((mL M 57 (ix 16)) ^^^ ((-1)))) &&& ((mL M 56 (ix 17)) &&& ((mL M 57 (ix 17)) ^^^ ((-1)))))) M95 s95 E
      · replace E := E.trans (if_pos h111)
        refine V.seg F floX7 cjoX7 [.lload_n 2, .lload 4, .land, .goto 13] (by decide +kernel) (pc2 := 131) (lv2 := [(10, .long w0_95), (0, .ref 52), (1, .int op), (2, .long ((mL M 56 (ix 16)) &&& ((mL M 57 (ix 16)) ^^^ ((-1))))), (4, .long ((mL M 56 (ix 17)) &&& ((mL M 57 (ix 17)) ^^^ ((-1))))), (6, .long (mL M 57 (ix 16))), (8, .long (mL M 57 (ix 17)))]) (st2 := [.long (((mL M 56 (ix 16)) &&& ((mL M 57 (ix 16)) ^^^ ((-1)))) &&& ((mL M 56 (ix 17)) &&& ((mL M 57 (ix 17)) ^^^ ((-1)))))]) (M2 := M95) rfl ⟨trivial, trivial, trivial, (by decide), trivial⟩ ?_
        refine V.pick [1, 2, 0] rfl ?_
        exact hJ131 (((mL M 56 (ix 16)) &&& ((mL M 57 (ix 16)) ^^^ ((-1)))) &&& ((mL M 56 (ix 17)) &&& ((mL M 57 (ix 17)) ^^^ ((-1))))) M95 s95 E
    · replace E := E.trans (if_pos h99)
      refine V.seg F floX7 cjoX7 [.lload_n 2, .lload 4, .lor, .goto 25] (by decide +kernel) (pc2 := 131) (lv2 := [(10, .long w0_95), (0, .ref 52), (1, .int op), (2, .long ((mL M 56 (ix 16)) &&& ((mL M 57 (ix 16)) ^^^ ((-1))))), (4, .long ((mL M 56 (ix 17)) &&& ((mL M 57 (ix 17)) ^^^ ((-1))))), (6, .long (mL M 57 (ix 16))), (8, .long (mL M 57 (ix 17)))]) (st2 := [.long (((mL M 56 (ix 16)) &&& ((mL M 57 (ix 16)) ^^^ ((-1)))) ||| ((mL M 56 (ix 17)) &&& ((mL M 57 (ix 17)) ^^^ ((-1)))))]) (M2 := M95) rfl ⟨trivial, trivial, trivial, (by decide), trivial⟩ ?_
      refine V.pick [1, 2, 0] rfl ?_
      exact hJ131 (((mL M 56 (ix 16)) &&& ((mL M 57 (ix 16)) ^^^ ((-1)))) ||| ((mL M 56 (ix 17)) &&& ((mL M 57 (ix 17)) ^^^ ((-1))))) M95 s95 E
  refine V.ic_ne (off := 11) F (by decide +kernel) (tgt := 72) (by decide) (fun h61 => ?_) (fun h61 => ?_)
  · replace E := E.trans (if_neg h61)
    refine V.seg F floX7 cjoX7 [.iload_n 1, .iconst 4] (by decide +kernel) (pc2 := 74) (lv2 := [(8, .long (mL M 57 (ix 17))), (6, .long (mL M 57 (ix 16))), (4, .long ((mL M 56 (ix 17)) &&& ((mL M 57 (ix 17)) ^^^ ((-1))))), (2, .long ((mL M 56 (ix 16)) &&& ((mL M 57 (ix 16)) ^^^ ((-1))))), (0, .ref 52), (1, .int op)]) (st2 := [.int 4, .int op]) (M2 := M) rfl ⟨trivial, trivial, trivial⟩ ?_
    refine V.ic_ne (off := 11) F (by decide +kernel) (tgt := 85) (by decide) (fun h74 => ?_) (fun h74 => ?_)
    · replace E := E.trans (if_neg h74)
      refine V.seg F floX7 cjoX7 [.lload 6, .lload 4, .land, .lload_n 2, .lload 8, .land, .lor] (by decide +kernel) (pc2 := 95) (lv2 := [(8, .long (mL M 57 (ix 17))), (6, .long (mL M 57 (ix 16))), (4, .long ((mL M 56 (ix 17)) &&& ((mL M 57 (ix 17)) ^^^ ((-1))))), (2, .long ((mL M 56 (ix 16)) &&& ((mL M 57 (ix 16)) ^^^ ((-1))))), (0, .ref 52), (1, .int op)]) (st2 := [.long (((mL M 57 (ix 16)) &&& ((mL M 56 (ix 17)) &&& ((mL M 57 (ix 17)) ^^^ ((-1))))) ||| (((mL M 56 (ix 16)) &&& ((mL M 57 (ix 16)) ^^^ ((-1)))) &&& (mL M 57 (ix 17))))]) (M2 := M) rfl ⟨trivial, trivial, trivial, trivial, trivial, trivial, trivial, trivial⟩ ?_
      refine V.pick [4, 5, 3, 2, 1, 0] rfl ?_
      exact hJ95 (((mL M 57 (ix 16)) &&& ((mL M 56 (ix 17)) &&& ((mL M 57 (ix 17)) ^^^ ((-1))))) ||| (((mL M 56 (ix 16)) &&& ((mL M 57 (ix 16)) ^^^ ((-1)))) &&& (mL M 57 (ix 17)))) M (SK.rf (w := wg) gb) E
    · replace E := E.trans (if_pos h74)
      refine V.seg F floX7 cjoX7 [.lload 6, .lload 8, .lor, .goto 13] (by decide +kernel) (pc2 := 95) (lv2 := [(8, .long (mL M 57 (ix 17))), (6, .long (mL M 57 (ix 16))), (4, .long ((mL M 56 (ix 17)) &&& ((mL M 57 (ix 17)) ^^^ ((-1))))), (2, .long ((mL M 56 (ix 16)) &&& ((mL M 57 (ix 16)) ^^^ ((-1))))), (0, .ref 52), (1, .int op)]) (st2 := [.long ((mL M 57 (ix 16)) ||| (mL M 57 (ix 17)))]) (M2 := M) rfl ⟨trivial, trivial, trivial, (by decide), trivial⟩ ?_
      refine V.pick [4, 5, 3, 2, 1, 0] rfl ?_
      exact hJ95 ((mL M 57 (ix 16)) ||| (mL M 57 (ix 17))) M (SK.rf (w := wg) gb) E
  · replace E := E.trans (if_pos h61)
    refine V.seg F floX7 cjoX7 [.lload 6, .lload 8, .land, .goto 26] (by decide +kernel) (pc2 := 95) (lv2 := [(8, .long (mL M 57 (ix 17))), (6, .long (mL M 57 (ix 16))), (4, .long ((mL M 56 (ix 17)) &&& ((mL M 57 (ix 17)) ^^^ ((-1))))), (2, .long ((mL M 56 (ix 16)) &&& ((mL M 57 (ix 16)) ^^^ ((-1))))), (0, .ref 52), (1, .int op)]) (st2 := [.long ((mL M 57 (ix 16)) &&& (mL M 57 (ix 17)))]) (M2 := M) rfl ⟨trivial, trivial, trivial, (by decide), trivial⟩ ?_
    refine V.pick [4, 5, 3, 2, 1, 0] rfl ?_
    exact hJ95 ((mL M 57 (ix 16)) &&& (mL M 57 (ix 17))) M (SK.rf (w := wg) gb) E
def f_X7_divide_29  (M29 : Mem) : Mem := uI M29 52 8 1
def f_X7_divide_269  (M269 : Mem) : Mem := M269
def f_X7_divide_c207 (M : Mem) (M207 : Mem) : Mem := if ((mL M 54 (ix 17)) &&& ((mL M 54 (ix 17)) - 1)) = 0 then if (mL M207 54 (ix 16)) < 0 then f_X7_divide_269 M207 else f_X7_divide_269 (uL (uL M207 56 (ix 18) ((mL M207 56 (ix 16)) ||| (((mL M 54 (ix 17)) - 1) ^^^ ((-1))))) 57 (ix 18) ((mL (uL M207 56 (ix 18) ((mL M207 56 (ix 16)) ||| (((mL M 54 (ix 17)) - 1) ^^^ ((-1))))) 57 (ix 16)) &&& ((mL M 54 (ix 17)) - 1))) else f_X7_divide_269 M207
def f_X7_divide_179 (M : Mem) (w0_179 : Int64) (M179 : Mem) : Mem := f_X7_divide_c207 M (f_X7_setRest (uL M179 55 (ix 18) w0_179) 18 (f_X7_odd (f_X7_common (mL (uL M179 55 (ix 18) w0_179) 58 (ix 16)) (mL M 54 (ix 17)))) (mL (uL M179 55 (ix 18) w0_179) 59 (ix 16)))
def f_X7_divide_143 (M : Mem) (w0_143 : Int64) (M143 : Mem) : Mem := if 0 < (mL (uL M143 54 (ix 18) w0_143) 55 (ix 16)) then f_X7_divide_179 M (f_X7_less (mL (uL M143 54 (ix 18) w0_143) 55 (ix 16)) ((mL M 54 (ix 17)) - 1)) (uL M143 54 (ix 18) w0_143) else f_X7_divide_179 M 0 (uL M143 54 (ix 18) w0_143)
def f_X7_divide_108 (M : Mem) (M108 : Mem) : Mem := if (mL M108 54 (ix 16)) < 0 then f_X7_divide_143 M (f_X7_more (mL M108 54 (ix 16)) (1 - (mL M 54 (ix 17)))) M108 else f_X7_divide_143 M 0 M108
def f_X7_divide_c107  (M107 : Mem) : Mem := M107
def f_X7_divide_c73  (M73 : Mem) : Mem := M73
def f_X7_divide (M : Mem) (op : Int32) : Mem := if op = 11 then f_X7_divide_29 M else if (f_X7_isNumber M 17) = 0 then f_X7_divide_29 M else if 0 < (mL M 54 (ix 17)) then if op = 9 then f_X7_divide_c73 (uL (uL M 54 (ix 18) ((mL M 54 (ix 16)) / (mL M 54 (ix 17)))) 55 (ix 18) ((mL (uL M 54 (ix 18) ((mL M 54 (ix 16)) / (mL M 54 (ix 17)))) 55 (ix 16)) / (mL M 54 (ix 17)))) else if (mL M 54 (ix 16)) ≤ (-(mL M 54 (ix 17))) then f_X7_divide_108 M M else if (mL M 54 (ix 17)) ≤ (mL M 55 (ix 16)) then f_X7_divide_108 M M else f_X7_divide_c107 (f_X7_copy M 18 16) else f_X7_divide_29 M
abbrev p_X7_divide (M : Mem) (op : Int32) : Option Value → Mem → Prop := fun r N => r = none ∧ N = f_X7_divide M op ∧ SK wg M N
set_option maxRecDepth 100000 in
set_option maxHeartbeats 4000000 in
theorem c_X7_divide (G : Ctx) (l : Launch) (M : Mem) (op : Int32) (q : Ok M) (gb : Gb M) : CT G l 2 mX7_divide [.ref 52, .int op] M 0 0 (p_X7_divide M op) := by
  refine CT.of (by decide) (Nat.le_of_ble_eq_true rfl) ?_
  intro X d hd hl hRm hnm F
  subst hl
  have E : f_X7_divide M op = f_X7_divide M op := rfl
  show V G X 4 0 0 (Qx G X 0 0 (p_X7_divide M op)) 0 [(0, .ref 52), (1, .int op)] [] M
  refine V.seg F floX7 cjoX7 [.aload_n 0, .getfield 13, .bipush 17, .laload, .lstore_n 2, .iload_n 1, .bipush 11] (by decide +kernel) (pc2 := 11) (lv2 := [(2, .long (mL M 54 (ix 17))), (0, .ref 52), (1, .int op)]) (st2 := [.int 11, .int op]) (M2 := M) rfl ⟨trivial, (q.f 52 7 1 rfl), trivial, (q.a 54 22 1648 rfl (vinc (by decide))), (by decide), trivial, trivial, trivial⟩ ?_
  have hJ29 : ∀ (M29 : Mem), (SK wg M M29) → f_X7_divide M op = f_X7_divide_29 M29 → V G X 4 0 0 (Qx G X 0 0 (p_X7_divide M op)) 29 [(0, .ref 52)] [] M29 := by
    intro M29 s29 E
    refine V.seg F floX7 cjoX7 [.aload_n 0, .iconst 1, .putfield 180] (by decide +kernel) (pc2 := 34) (lv2 := [(0, .ref 52)]) (st2 := []) (M2 := uI M29 52 8 1) rfl ⟨trivial, trivial, ⟨((q.sm s29.1).o 52 7 rfl), Or.inr rfl⟩, trivial⟩ ?_
    exact V.vret F (by decide +kernel) ⟨rfl, E.symm, (SK.pI s29 rfl)⟩
  refine V.ic_eq (off := 18) F (by decide +kernel) (tgt := 29) (by decide) (fun h11 => ?_) (fun h11 => ?_)
  · replace E := E.trans (if_pos h11)
    refine V.pick [1] rfl ?_
    exact hJ29 M (SK.rf (w := wg) gb) E
  · replace E := E.trans (if_neg h11)
    refine V.seg F floX7 cjoX7 [.aload_n 0, .bipush 17] (by decide +kernel) (pc2 := 17) (lv2 := [(2, .long (mL M 54 (ix 17))), (0, .ref 52), (1, .int op)]) (st2 := [.int 17, .ref 52]) (M2 := M) rfl ⟨trivial, trivial, trivial⟩ ?_
    refine V.callV (as := [.int 17]) (rest := []) F (by decide +kernel) lX7_130 bX7_isNumber ⟨7, _, (q.o 52 7 rfl), rfl, rfl⟩ (c_X7_isNumber G X.2.1 M 17 q gb (vinc (by decide))) (rm_ok hRm hd (by decide) (by decide)) ⟨Nat.zero_le _, Nat.zero_le _⟩ (Nat.le_of_ble_eq_true rfl) (fun r_ N_ p_ => ?_)
    obtain ⟨rfl, hN_, z17⟩ := p_
    rw [hN_]
    clear hN_
    refine V.if_eq (off := 9) F (by decide +kernel) (tgt := 29) (by decide) (fun h20 => ?_) (fun h20 => ?_)
    · replace E := E.trans (if_pos h20)
      refine V.pick [1] rfl ?_
      exact hJ29 M (SK.rf (w := wg) gb) E
    · replace E := E.trans (if_neg h20)
      refine V.seg F floX7 cjoX7 [.lload_n 2, .lconst 0, .lcmp] (by decide +kernel) (pc2 := 26) (lv2 := [(2, .long (mL M 54 (ix 17))), (0, .ref 52), (1, .int op)]) (st2 := [.int (lg_cmp (mL M 54 (ix 17)) 0)]) (M2 := M) rfl ⟨trivial, trivial, trivial, trivial⟩ ?_
      refine V.lc_gt (off := 9) F (by decide +kernel) (tgt := 35) (by decide) (fun h26 => ?_) (fun h26 => ?_)
      · replace E := E.trans (if_pos h26)
        refine V.seg F floX7 cjoX7 [.iload_n 1, .bipush 9] (by decide +kernel) (pc2 := 38) (lv2 := [(2, .long (mL M 54 (ix 17))), (0, .ref 52), (1, .int op)]) (st2 := [.int 9, .int op]) (M2 := M) rfl ⟨trivial, trivial, trivial⟩ ?_
        refine V.ic_ne (off := 36) F (by decide +kernel) (tgt := 74) (by decide) (fun h38 => ?_) (fun h38 => ?_)
        · replace E := E.trans (if_neg h38)
          refine V.seg F floX7 cjoX7 [.lload_n 2, .lneg, .aload_n 0, .getfield 13, .bipush 16, .laload, .lcmp] (by decide +kernel) (pc2 := 84) (lv2 := [(2, .long (mL M 54 (ix 17))), (0, .ref 52), (1, .int op)]) (st2 := [.int (lg_cmp (-(mL M 54 (ix 17))) (mL M 54 (ix 16)))]) (M2 := M) rfl ⟨trivial, trivial, trivial, (q.f 52 7 1 rfl), trivial, (q.a 54 22 1648 rfl (vinc (by decide))), trivial, trivial⟩ ?_
          have hJ108 : ∀ (M108 : Mem), (SK wg M M108) → f_X7_divide M op = f_X7_divide_108 M M108 → V G X 4 0 0 (Qx G X 0 0 (p_X7_divide M op)) 108 [(0, .ref 52), (2, .long (mL M 54 (ix 17)))] [] M108 := by
            intro M108 s108 E
            refine V.seg F floX7 cjoX7 [.aload_n 0, .getfield 13, .bipush 18, .aload_n 0, .getfield 13, .bipush 16, .laload, .lconst 0, .lcmp] (by decide +kernel) (pc2 := 123) (lv2 := [(0, .ref 52), (2, .long (mL M 54 (ix 17)))]) (st2 := [.int (lg_cmp (mL M108 54 (ix 16)) 0), .int 18, .ref 54]) (M2 := M108) rfl ⟨trivial, ((q.sm s108.1).f 52 7 1 rfl), trivial, trivial, ((q.sm s108.1).f 52 7 1 rfl), trivial, ((q.sm s108.1).a 54 22 1648 rfl (vinc (by decide))), trivial, trivial, trivial⟩ ?_
            have hJ143 : ∀ (w0_143 : Int64) (M143 : Mem), (SK wg M M143) → f_X7_divide M op = f_X7_divide_143 M w0_143 M143 → V G X 4 0 0 (Qx G X 0 0 (p_X7_divide M op)) 143 [(0, .ref 52), (2, .long (mL M 54 (ix 17)))] [.long w0_143, .int 18, .ref 54] M143 := by
              intro w0_143 M143 s143 E
              refine V.seg F floX7 cjoX7 [.lastore, .aload_n 0, .getfield 17, .bipush 18, .aload_n 0, .getfield 17, .bipush 16, .laload, .lconst 0, .lcmp] (by decide +kernel) (pc2 := 159) (lv2 := [(0, .ref 52), (2, .long (mL M 54 (ix 17)))]) (st2 := [.int (lg_cmp (mL (uL M143 54 (ix 18) w0_143) 55 (ix 16)) 0), .int 18, .ref 55]) (M2 := uL M143 54 (ix 18) w0_143) rfl ⟨((q.sm s143.1).a 54 22 1648 rfl (vinc (by decide))), trivial, ((q.sm (SK.pL s143 rfl (by decide)).1).f 52 7 2 rfl), trivial, trivial, ((q.sm (SK.pL s143 rfl (by decide)).1).f 52 7 2 rfl), trivial, ((q.sm (SK.pL s143 rfl (by decide)).1).a 55 22 1648 rfl (vinc (by decide))), trivial, trivial, trivial⟩ ?_
              have hJ179 : ∀ (w0_179 : Int64) (M179 : Mem), (SK wg M M179) → f_X7_divide M op = f_X7_divide_179 M w0_179 M179 → V G X 4 0 0 (Qx G X 0 0 (p_X7_divide M op)) 179 [(0, .ref 52), (2, .long (mL M 54 (ix 17)))] [.long w0_179, .int 18, .ref 55] M179 := by
                intro w0_179 M179 s179 E
                refine V.seg F floX7 cjoX7 [.lastore, .aload_n 0, .bipush 18, .aload_n 0, .getfield 26, .bipush 16, .laload, .lload_n 2] (by decide +kernel) (pc2 := 191) (lv2 := [(0, .ref 52), (2, .long (mL M 54 (ix 17)))]) (st2 := [.long (mL M 54 (ix 17)), .long (mL (uL M179 55 (ix 18) w0_179) 58 (ix 16)), .int 18, .ref 52]) (M2 := uL M179 55 (ix 18) w0_179) rfl ⟨((q.sm s179.1).a 55 22 1648 rfl (vinc (by decide))), trivial, trivial, trivial, ((q.sm (SK.pL s179 rfl (by decide)).1).f 52 7 5 rfl), trivial, ((q.sm (SK.pL s179 rfl (by decide)).1).a 58 22 1648 rfl (vinc (by decide))), trivial, trivial⟩ ?_
                refine V.callS (as := [.long (mL (uL M179 55 (ix 18) w0_179) 58 (ix 16)), .long (mL M 54 (ix 17))]) (rest := [.int 18, .ref 52]) F (by decide +kernel) lX7_144 bX7_common (c_X7_common G X.2.1 (uL M179 55 (ix 18) w0_179) (mL (uL M179 55 (ix 18) w0_179) 58 (ix 16)) (mL M 54 (ix 17))) (rm_ok hRm hd (by decide) (by decide)) ⟨Nat.zero_le _, Nat.zero_le _⟩ (Nat.le_of_ble_eq_true rfl) (fun r_ N_ p_ => ?_)
                obtain ⟨rfl, hN_⟩ := p_
                rw [hN_]
                clear hN_
                refine V.callS (as := [.long (f_X7_common (mL (uL M179 55 (ix 18) w0_179) 58 (ix 16)) (mL M 54 (ix 17)))]) (rest := [.int 18, .ref 52]) F (by decide +kernel) lX7_147 bX7_odd (c_X7_odd G X.2.1 (uL M179 55 (ix 18) w0_179) (f_X7_common (mL (uL M179 55 (ix 18) w0_179) 58 (ix 16)) (mL M 54 (ix 17)))) (rm_ok hRm hd (by decide) (by decide)) ⟨Nat.zero_le _, Nat.zero_le _⟩ (Nat.le_of_ble_eq_true rfl) (fun r_ N_ p_ => ?_)
                obtain ⟨rfl, hN_⟩ := p_
                rw [hN_]
                clear hN_
                refine V.seg F floX7 cjoX7 [.aload_n 0, .getfield 29, .bipush 16, .laload] (by decide +kernel) (pc2 := 204) (lv2 := [(0, .ref 52), (2, .long (mL M 54 (ix 17)))]) (st2 := [.long (mL (uL M179 55 (ix 18) w0_179) 59 (ix 16)), .long (f_X7_odd (f_X7_common (mL (uL M179 55 (ix 18) w0_179) 58 (ix 16)) (mL M 54 (ix 17)))), .int 18, .ref 52]) (M2 := uL M179 55 (ix 18) w0_179) rfl ⟨trivial, ((q.sm (SK.pL s179 rfl (by decide)).1).f 52 7 6 rfl), trivial, ((q.sm (SK.pL s179 rfl (by decide)).1).a 59 22 1648 rfl (vinc (by decide))), trivial⟩ ?_
                refine V.callV (as := [.int 18, .long (f_X7_odd (f_X7_common (mL (uL M179 55 (ix 18) w0_179) 58 (ix 16)) (mL M 54 (ix 17)))), .long (mL (uL M179 55 (ix 18) w0_179) 59 (ix 16))]) (rest := []) F (by decide +kernel) lX7_161 bX7_setRest ⟨7, _, ((q.sm (SK.pL s179 rfl (by decide)).1).o 52 7 rfl), rfl, rfl⟩ (c_X7_setRest G X.2.1 (uL M179 55 (ix 18) w0_179) 18 (f_X7_odd (f_X7_common (mL (uL M179 55 (ix 18) w0_179) 58 (ix 16)) (mL M 54 (ix 17)))) (mL (uL M179 55 (ix 18) w0_179) 59 (ix 16)) (q.sm (SK.pL s179 rfl (by decide)).1) (SK.pL s179 rfl (by decide)).2.1 (vinc (by decide)) (odd_ne0 _)) (rm_ok hRm hd (by decide) (by decide)) ⟨Nat.zero_le _, Nat.zero_le _⟩ (Nat.le_of_ble_eq_true rfl) (fun r_ N_ p_ => ?_)
                obtain ⟨rfl, rfl, t204⟩ := p_
                refine (?_ : ∀ (M207 : Mem), (SK wg M M207) → f_X7_divide M op = f_X7_divide_c207 M M207 → V G X 4 0 0 (Qx G X 0 0 (p_X7_divide M op)) 207 [(0, .ref 52), (2, .long (mL M 54 (ix 17)))] [] M207) _ (SK.tr (SK.pL s179 rfl (by decide)) t204) E
                intro M207 s207 E
                refine V.seg F floX7 cjoX7 [.lload_n 2, .lload_n 2, .lconst 1, .lsub, .land, .lconst 0, .lcmp] (by decide +kernel) (pc2 := 214) (lv2 := [(0, .ref 52), (2, .long (mL M 54 (ix 17)))]) (st2 := [.int (lg_cmp ((mL M 54 (ix 17)) &&& ((mL M 54 (ix 17)) - 1)) 0)]) (M2 := M207) rfl ⟨trivial, trivial, trivial, trivial, trivial, trivial, trivial, trivial⟩ ?_
                have hJ269 : ∀ (M269 : Mem), (SK wg M M269) → f_X7_divide M op = f_X7_divide_269 M269 → V G X 4 0 0 (Qx G X 0 0 (p_X7_divide M op)) 269 [] [] M269 := by
                  intro M269 s269 E
                  exact V.vret F (by decide +kernel) ⟨rfl, E.symm, s269⟩
                refine V.lc_ne (off := 55) F (by decide +kernel) (tgt := 269) (by decide) (fun h214 => ?_) (fun h214 => ?_)
                · replace E := E.trans (if_neg h214)
                  refine V.pick [] rfl ?_
                  exact hJ269 M207 s207 E
                · replace E := E.trans (if_pos h214)
                  refine V.seg F floX7 cjoX7 [.aload_n 0, .getfield 13, .bipush 16, .laload, .lconst 0, .lcmp] (by decide +kernel) (pc2 := 226) (lv2 := [(0, .ref 52), (2, .long (mL M 54 (ix 17)))]) (st2 := [.int (lg_cmp (mL M207 54 (ix 16)) 0)]) (M2 := M207) rfl ⟨trivial, ((q.sm s207.1).f 52 7 1 rfl), trivial, ((q.sm s207.1).a 54 22 1648 rfl (vinc (by decide))), trivial, trivial, trivial⟩ ?_
                  refine V.lc_lt (off := 43) F (by decide +kernel) (tgt := 269) (by decide) (fun h226 => ?_) (fun h226 => ?_)
                  · replace E := E.trans (if_pos h226)
                    refine V.pick [] rfl ?_
                    exact hJ269 M207 s207 E
                  · replace E := E.trans (if_neg h226)
                    refine V.seg F floX7 cjoX7 [.aload_n 0, .getfield 20, .bipush 18, .aload_n 0, .getfield 20, .bipush 16, .laload, .lload_n 2, .lconst 1, .lsub, .ldc2_w 87, .lxor, .lor, .lastore, .aload_n 0, .getfield 23, .bipush 18, .aload_n 0, .getfield 23, .bipush 16, .laload, .lload_n 2, .lconst 1, .lsub, .land, .lastore] (by decide +kernel) (pc2 := 269) (lv2 := [(0, .ref 52), (2, .long (mL M 54 (ix 17)))]) (st2 := []) (M2 := uL (uL M207 56 (ix 18) ((mL M207 56 (ix 16)) ||| (((mL M 54 (ix 17)) - 1) ^^^ ((-1))))) 57 (ix 18) ((mL (uL M207 56 (ix 18) ((mL M207 56 (ix 16)) ||| (((mL M 54 (ix 17)) - 1) ^^^ ((-1))))) 57 (ix 16)) &&& ((mL M 54 (ix 17)) - 1))) rfl ⟨trivial, ((q.sm s207.1).f 52 7 3 rfl), trivial, trivial, ((q.sm s207.1).f 52 7 3 rfl), trivial, ((q.sm s207.1).a 56 22 1648 rfl (vinc (by decide))), trivial, trivial, trivial, trivial, trivial, trivial, ((q.sm s207.1).a 56 22 1648 rfl (vinc (by decide))), trivial, ((q.sm (SK.pL s207 rfl (by decide)).1).f 52 7 4 rfl), trivial, trivial, ((q.sm (SK.pL s207 rfl (by decide)).1).f 52 7 4 rfl), trivial, ((q.sm (SK.pL s207 rfl (by decide)).1).a 57 22 1648 rfl (vinc (by decide))), trivial, trivial, trivial, trivial, ((q.sm (SK.pL s207 rfl (by decide)).1).a 57 22 1648 rfl (vinc (by decide))), trivial⟩ ?_
                    refine V.pick [] rfl ?_
                    exact hJ269 (uL (uL M207 56 (ix 18) ((mL M207 56 (ix 16)) ||| (((mL M 54 (ix 17)) - 1) ^^^ ((-1))))) 57 (ix 18) ((mL (uL M207 56 (ix 18) ((mL M207 56 (ix 16)) ||| (((mL M 54 (ix 17)) - 1) ^^^ ((-1))))) 57 (ix 16)) &&& ((mL M 54 (ix 17)) - 1))) (SK.pL (SK.pL s207 rfl (by decide)) rfl (by decide)) E
              refine V.lc_gt (off := 7) F (by decide +kernel) (tgt := 166) (by decide) (fun h159 => ?_) (fun h159 => ?_)
              · replace E := E.trans (if_pos h159)
                refine V.seg F floX7 cjoX7 [.aload_n 0, .getfield 17, .bipush 16, .laload, .lload_n 2, .lconst 1, .lsub] (by decide +kernel) (pc2 := 176) (lv2 := [(0, .ref 52), (2, .long (mL M 54 (ix 17)))]) (st2 := [.long ((mL M 54 (ix 17)) - 1), .long (mL (uL M143 54 (ix 18) w0_143) 55 (ix 16)), .int 18, .ref 55]) (M2 := uL M143 54 (ix 18) w0_143) rfl ⟨trivial, ((q.sm (SK.pL s143 rfl (by decide)).1).f 52 7 2 rfl), trivial, ((q.sm (SK.pL s143 rfl (by decide)).1).a 55 22 1648 rfl (vinc (by decide))), trivial, trivial, trivial, trivial⟩ ?_
                refine V.callS (as := [.long (mL (uL M143 54 (ix 18) w0_143) 55 (ix 16)), .long ((mL M 54 (ix 17)) - 1)]) (rest := [.int 18, .ref 55]) F (by decide +kernel) lX7_151 bX7_less (c_X7_less G X.2.1 (uL M143 54 (ix 18) w0_143) (mL (uL M143 54 (ix 18) w0_143) 55 (ix 16)) ((mL M 54 (ix 17)) - 1)) (rm_ok hRm hd (by decide) (by decide)) ⟨Nat.zero_le _, Nat.zero_le _⟩ (Nat.le_of_ble_eq_true rfl) (fun r_ N_ p_ => ?_)
                obtain ⟨rfl, hN_⟩ := p_
                rw [hN_]
                clear hN_
                refine V.pick [0, 1] rfl ?_
                exact hJ179 (f_X7_less (mL (uL M143 54 (ix 18) w0_143) 55 (ix 16)) ((mL M 54 (ix 17)) - 1)) (uL M143 54 (ix 18) w0_143) (SK.pL s143 rfl (by decide)) E
              · replace E := E.trans (if_neg h159)
                refine V.seg F floX7 cjoX7 [.lconst 0, .goto 16] (by decide +kernel) (pc2 := 179) (lv2 := [(0, .ref 52), (2, .long (mL M 54 (ix 17)))]) (st2 := [.long 0, .int 18, .ref 55]) (M2 := uL M143 54 (ix 18) w0_143) rfl ⟨trivial, (by decide), trivial⟩ ?_
                refine V.pick [0, 1] rfl ?_
                exact hJ179 0 (uL M143 54 (ix 18) w0_143) (SK.pL s143 rfl (by decide)) E
            refine V.lc_lt (off := 7) F (by decide +kernel) (tgt := 130) (by decide) (fun h123 => ?_) (fun h123 => ?_)
            · replace E := E.trans (if_pos h123)
              refine V.seg F floX7 cjoX7 [.aload_n 0, .getfield 13, .bipush 16, .laload, .lconst 1, .lload_n 2, .lsub] (by decide +kernel) (pc2 := 140) (lv2 := [(0, .ref 52), (2, .long (mL M 54 (ix 17)))]) (st2 := [.long (1 - (mL M 54 (ix 17))), .long (mL M108 54 (ix 16)), .int 18, .ref 54]) (M2 := M108) rfl ⟨trivial, ((q.sm s108.1).f 52 7 1 rfl), trivial, ((q.sm s108.1).a 54 22 1648 rfl (vinc (by decide))), trivial, trivial, trivial, trivial⟩ ?_
              refine V.callS (as := [.long (mL M108 54 (ix 16)), .long (1 - (mL M 54 (ix 17)))]) (rest := [.int 18, .ref 54]) F (by decide +kernel) lX7_154 bX7_more (c_X7_more G X.2.1 M108 (mL M108 54 (ix 16)) (1 - (mL M 54 (ix 17)))) (rm_ok hRm hd (by decide) (by decide)) ⟨Nat.zero_le _, Nat.zero_le _⟩ (Nat.le_of_ble_eq_true rfl) (fun r_ N_ p_ => ?_)
              obtain ⟨rfl, hN_⟩ := p_
              rw [hN_]
              clear hN_
              refine V.pick [0, 1] rfl ?_
              exact hJ143 (f_X7_more (mL M108 54 (ix 16)) (1 - (mL M 54 (ix 17)))) M108 s108 E
            · replace E := E.trans (if_neg h123)
              refine V.seg F floX7 cjoX7 [.lconst 0, .goto 16] (by decide +kernel) (pc2 := 143) (lv2 := [(0, .ref 52), (2, .long (mL M 54 (ix 17)))]) (st2 := [.long 0, .int 18, .ref 54]) (M2 := M108) rfl ⟨trivial, (by decide), trivial⟩ ?_
              refine V.pick [0, 1] rfl ?_
              exact hJ143 0 M108 s108 E
          refine V.lc_ge (off := 24) F (by decide +kernel) (tgt := 108) (by decide) (fun h84 => ?_) (fun h84 => ?_)
          · replace E := E.trans (if_pos h84)
            refine V.pick [1, 0] rfl ?_
            exact hJ108 M (SK.rf (w := wg) gb) E
          · replace E := E.trans (if_neg h84)
            refine V.seg F floX7 cjoX7 [.aload_n 0, .getfield 17, .bipush 16, .laload, .lload_n 2, .lcmp] (by decide +kernel) (pc2 := 96) (lv2 := [(2, .long (mL M 54 (ix 17))), (0, .ref 52), (1, .int op)]) (st2 := [.int (lg_cmp (mL M 55 (ix 16)) (mL M 54 (ix 17)))]) (M2 := M) rfl ⟨trivial, (q.f 52 7 2 rfl), trivial, (q.a 55 22 1648 rfl (vinc (by decide))), trivial, trivial, trivial⟩ ?_
            refine V.lc_ge (off := 12) F (by decide +kernel) (tgt := 108) (by decide) (fun h96 => ?_) (fun h96 => ?_)
            · replace E := E.trans (if_pos h96)
              refine V.pick [1, 0] rfl ?_
              exact hJ108 M (SK.rf (w := wg) gb) E
            · replace E := E.trans (if_neg h96)
              refine V.seg F floX7 cjoX7 [.aload_n 0, .bipush 18, .bipush 16] (by decide +kernel) (pc2 := 104) (lv2 := [(2, .long (mL M 54 (ix 17))), (0, .ref 52), (1, .int op)]) (st2 := [.int 16, .int 18, .ref 52]) (M2 := M) rfl ⟨trivial, trivial, trivial, trivial⟩ ?_
              refine V.callV (as := [.int 18, .int 16]) (rest := []) F (by decide +kernel) lX7_133 bX7_copy ⟨7, _, (q.o 52 7 rfl), rfl, rfl⟩ (c_X7_copy G X.2.1 M 18 16 q gb (vinc (by decide)) (vinc (by decide))) (rm_ok hRm hd (by decide) (by decide)) ⟨Nat.zero_le _, Nat.zero_le _⟩ (Nat.le_of_ble_eq_true rfl) (fun r_ N_ p_ => ?_)
              obtain ⟨rfl, rfl, t104⟩ := p_
              refine (?_ : ∀ (M107 : Mem), (SK wg M M107) → f_X7_divide M op = f_X7_divide_c107 M107 → V G X 4 0 0 (Qx G X 0 0 (p_X7_divide M op)) 107 [(2, .long (mL M 54 (ix 17))), (0, .ref 52), (1, .int op)] [] M107) _ t104 E
              intro M107 s107 E
              exact V.vret F (by decide +kernel) ⟨rfl, E.symm, s107⟩
        · replace E := E.trans (if_pos h38)
          refine V.seg F floX7 cjoX7 [.aload_n 0, .getfield 13, .bipush 18, .aload_n 0, .getfield 13, .bipush 16, .laload, .lload_n 2, .ldiv, .lastore, .aload_n 0, .getfield 17, .bipush 18, .aload_n 0, .getfield 17, .bipush 16, .laload, .lload_n 2, .ldiv, .lastore] (by decide +kernel) (pc2 := 73) (lv2 := [(2, .long (mL M 54 (ix 17))), (0, .ref 52), (1, .int op)]) (st2 := []) (M2 := uL (uL M 54 (ix 18) ((mL M 54 (ix 16)) / (mL M 54 (ix 17)))) 55 (ix 18) ((mL (uL M 54 (ix 18) ((mL M 54 (ix 16)) / (mL M 54 (ix 17)))) 55 (ix 16)) / (mL M 54 (ix 17)))) rfl ⟨trivial, (q.f 52 7 1 rfl), trivial, trivial, (q.f 52 7 1 rfl), trivial, (q.a 54 22 1648 rfl (vinc (by decide))), trivial, (pos_ne h26), (q.a 54 22 1648 rfl (vinc (by decide))), trivial, ((q.sm (SK.pL (SK.rf (w := wg) gb) rfl (by decide)).1).f 52 7 2 rfl), trivial, trivial, ((q.sm (SK.pL (SK.rf (w := wg) gb) rfl (by decide)).1).f 52 7 2 rfl), trivial, ((q.sm (SK.pL (SK.rf (w := wg) gb) rfl (by decide)).1).a 55 22 1648 rfl (vinc (by decide))), trivial, (pos_ne h26), ((q.sm (SK.pL (SK.rf (w := wg) gb) rfl (by decide)).1).a 55 22 1648 rfl (vinc (by decide))), trivial⟩ ?_
          refine (?_ : ∀ (M73 : Mem), (SK wg M M73) → f_X7_divide M op = f_X7_divide_c73 M73 → V G X 4 0 0 (Qx G X 0 0 (p_X7_divide M op)) 73 [(2, .long (mL M 54 (ix 17))), (0, .ref 52), (1, .int op)] [] M73) _ (SK.pL (SK.pL (SK.rf (w := wg) gb) rfl (by decide)) rfl (by decide)) E
          intro M73 s73 E
          exact V.vret F (by decide +kernel) ⟨rfl, E.symm, s73⟩
      · replace E := E.trans (if_neg h26)
        refine V.pick [1] rfl ?_
        exact hJ29 M (SK.rf (w := wg) gb) E
def f_X7_narrow_214  (w0_214 : Int64) (M214 : Mem) : Mem := uL M214 57 (ix 18) w0_214
def f_X7_narrow_174 (w0_25 : Int32) (w0_37 : Int32) (w0_174 : Int64) (M174 : Mem) : Mem := if w0_37 = 0 then f_X7_narrow_214 ((mL (uL M174 56 (ix 18) w0_174) 57 (ix 16)) &&& ((jshl 1 w0_25) - 1)) (uL M174 56 (ix 18) w0_174) else f_X7_narrow_214 (jshr (jshl (mL (uL M174 56 (ix 18) w0_174) 57 (ix 16)) (64 - w0_25)) (64 - w0_25)) (uL M174 56 (ix 18) w0_174)
def f_X7_narrow_111 (w0_25 : Int32) (w0_37 : Int32) (w0_53 : Int64) (w0_74 : Int64) (M111 : Mem) : Mem := if w0_37 = 0 then f_X7_narrow_174 w0_25 w0_37 ((mL (uL (uL M111 54 (ix 18) w0_53) 55 (ix 18) w0_74) 56 (ix 16)) ||| (jshl ((-1)) w0_25)) (uL (uL M111 54 (ix 18) w0_53) 55 (ix 18) w0_74) else f_X7_narrow_174 w0_25 w0_37 (jshr (jshl (mL (uL (uL M111 54 (ix 18) w0_53) 55 (ix 18) w0_74) 56 (ix 16)) (64 - w0_25)) (64 - w0_25)) (uL (uL M111 54 (ix 18) w0_53) 55 (ix 18) w0_74)
def f_X7_narrow_c110  (M110 : Mem) : Mem := M110
def f_X7_narrow_74 (w0_25 : Int32) (w0_37 : Int32) (w0_53 : Int64) (w0_74 : Int64) (M74 : Mem) : Mem := if (mL M74 54 (ix 16)) < w0_53 then f_X7_narrow_111 w0_25 w0_37 w0_53 w0_74 M74 else if w0_74 < (mL M74 55 (ix 16)) then f_X7_narrow_111 w0_25 w0_37 w0_53 w0_74 M74 else f_X7_narrow_c110 (f_X7_copy M74 18 16)
def f_X7_narrow_53 (w0_25 : Int32) (w0_37 : Int32) (w0_53 : Int64) (M53 : Mem) : Mem := if w0_37 = 0 then f_X7_narrow_74 w0_25 w0_37 w0_53 ((jshl 1 w0_25) - 1) M53 else f_X7_narrow_74 w0_25 w0_37 w0_53 ((jshl 1 (w0_25 - 1)) - 1) M53
def f_X7_narrow_37 (w0_25 : Int32) (w0_37 : Int32) (M37 : Mem) : Mem := if w0_37 = 0 then f_X7_narrow_53 w0_25 w0_37 0 M37 else f_X7_narrow_53 w0_25 w0_37 (jshl ((-1)) (w0_25 - 1)) M37
def f_X7_narrow_25 (op : Int32) (w0_25 : Int32) (M25 : Mem) : Mem := if 17 ≤ op then f_X7_narrow_37 w0_25 0 M25 else f_X7_narrow_37 w0_25 1 M25
def f_X7_narrow (M : Mem) (op : Int32) : Mem := if (irem op 3) = 2 then f_X7_narrow_25 op 8 M else if (irem op 3) = 0 then f_X7_narrow_25 op 16 M else f_X7_narrow_25 op 32 M
abbrev p_X7_narrow (M : Mem) (op : Int32) : Option Value → Mem → Prop := fun r N => r = none ∧ N = f_X7_narrow M op ∧ SK wg M N
set_option maxRecDepth 100000 in
set_option maxHeartbeats 4000000 in
theorem c_X7_narrow (G : Ctx) (l : Launch) (M : Mem) (op : Int32) (q : Ok M) (gb : Gb M) : CT G l 1 mX7_narrow [.ref 52, .int op] M 0 0 (p_X7_narrow M op) := by
  refine CT.of (by decide) (Nat.le_of_ble_eq_true rfl) ?_
  intro X d hd hl hRm hnm F
  subst hl
  have E : f_X7_narrow M op = f_X7_narrow M op := rfl
  show V G X 9 0 0 (Qx G X 0 0 (p_X7_narrow M op)) 0 [(0, .ref 52), (1, .int op)] [] M
  refine V.seg F floX7 cjoX7 [.iload_n 1, .iconst 3, .irem, .iconst 2] (by decide +kernel) (pc2 := 4) (lv2 := [(0, .ref 52), (1, .int op)]) (st2 := [.int 2, .int (irem op 3)]) (M2 := M) rfl ⟨trivial, trivial, (by decide), trivial, trivial⟩ ?_
  have hJ25 : ∀ (w0_25 : Int32) (M25 : Mem), (SK wg M M25) → f_X7_narrow M op = f_X7_narrow_25 op w0_25 M25 → V G X 9 0 0 (Qx G X 0 0 (p_X7_narrow M op)) 25 [(0, .ref 52), (1, .int op)] [.int w0_25] M25 := by
    intro w0_25 M25 s25 E
    refine V.seg F floX7 cjoX7 [.istore_n 2, .iload_n 1, .bipush 17] (by decide +kernel) (pc2 := 29) (lv2 := [(2, .int w0_25), (0, .ref 52), (1, .int op)]) (st2 := [.int 17, .int op]) (M2 := M25) rfl ⟨(by decide), trivial, trivial, trivial⟩ ?_
    have hJ37 : ∀ (w0_37 : Int32) (M37 : Mem), (SK wg M M37) → f_X7_narrow M op = f_X7_narrow_37 w0_25 w0_37 M37 → V G X 9 0 0 (Qx G X 0 0 (p_X7_narrow M op)) 37 [(0, .ref 52), (2, .int w0_25)] [.int w0_37] M37 := by
      intro w0_37 M37 s37 E
      refine V.seg F floX7 cjoX7 [.istore_n 3, .iload_n 3] (by decide +kernel) (pc2 := 39) (lv2 := [(3, .int w0_37), (0, .ref 52), (2, .int w0_25)]) (st2 := [.int w0_37]) (M2 := M37) rfl ⟨(by decide), trivial, trivial⟩ ?_
      have hJ53 : ∀ (w0_53 : Int64) (M53 : Mem), (SK wg M M53) → f_X7_narrow M op = f_X7_narrow_53 w0_25 w0_37 w0_53 M53 → V G X 9 0 0 (Qx G X 0 0 (p_X7_narrow M op)) 53 [(0, .ref 52), (2, .int w0_25), (3, .int w0_37)] [.long w0_53] M53 := by
        intro w0_53 M53 s53 E
        refine V.seg F floX7 cjoX7 [.lstore 4, .iload_n 3] (by decide +kernel) (pc2 := 56) (lv2 := [(4, .long w0_53), (0, .ref 52), (2, .int w0_25), (3, .int w0_37)]) (st2 := [.int w0_37]) (M2 := M53) rfl ⟨(by decide), trivial, trivial⟩ ?_
        have hJ74 : ∀ (w0_74 : Int64) (M74 : Mem), (SK wg M M74) → f_X7_narrow M op = f_X7_narrow_74 w0_25 w0_37 w0_53 w0_74 M74 → V G X 9 0 0 (Qx G X 0 0 (p_X7_narrow M op)) 74 [(0, .ref 52), (2, .int w0_25), (3, .int w0_37), (4, .long w0_53)] [.long w0_74] M74 := by
          intro w0_74 M74 s74 E
          refine V.seg F floX7 cjoX7 [.lstore 6, .aload_n 0, .getfield 13, .bipush 16, .laload, .lload 4, .lcmp] (by decide +kernel) (pc2 := 86) (lv2 := [(6, .long w0_74), (0, .ref 52), (2, .int w0_25), (3, .int w0_37), (4, .long w0_53)]) (st2 := [.int (lg_cmp (mL M74 54 (ix 16)) w0_53)]) (M2 := M74) rfl ⟨(by decide), trivial, ((q.sm s74.1).f 52 7 1 rfl), trivial, ((q.sm s74.1).a 54 22 1648 rfl (vinc (by decide))), trivial, trivial, trivial⟩ ?_
          have hJ111 : ∀ (M111 : Mem), (SK wg M M111) → f_X7_narrow M op = f_X7_narrow_111 w0_25 w0_37 w0_53 w0_74 M111 → V G X 9 0 0 (Qx G X 0 0 (p_X7_narrow M op)) 111 [(0, .ref 52), (2, .int w0_25), (3, .int w0_37), (4, .long w0_53), (6, .long w0_74)] [] M111 := by
            intro M111 s111 E
            refine V.seg F floX7 cjoX7 [.aload_n 0, .getfield 13, .bipush 18, .lload 4, .lastore, .aload_n 0, .getfield 17, .bipush 18, .lload 6, .lastore, .bipush 64, .iload_n 2, .isub, .istore 8, .aload_n 0, .getfield 20, .bipush 18, .iload_n 3] (by decide +kernel) (pc2 := 142) (lv2 := [(8, .int (64 - w0_25)), (0, .ref 52), (2, .int w0_25), (3, .int w0_37), (4, .long w0_53), (6, .long w0_74)]) (st2 := [.int w0_37, .int 18, .ref 56]) (M2 := uL (uL M111 54 (ix 18) w0_53) 55 (ix 18) w0_74) rfl ⟨trivial, ((q.sm s111.1).f 52 7 1 rfl), trivial, trivial, ((q.sm s111.1).a 54 22 1648 rfl (vinc (by decide))), trivial, ((q.sm (SK.pL s111 rfl (by decide)).1).f 52 7 2 rfl), trivial, trivial, ((q.sm (SK.pL s111 rfl (by decide)).1).a 55 22 1648 rfl (vinc (by decide))), trivial, trivial, trivial, (by decide), trivial, ((q.sm (SK.pL (SK.pL s111 rfl (by decide)) rfl (by decide)).1).f 52 7 3 rfl), trivial, trivial, trivial⟩ ?_
            have hJ174 : ∀ (w0_174 : Int64) (M174 : Mem), (SK wg M M174) → f_X7_narrow M op = f_X7_narrow_174 w0_25 w0_37 w0_174 M174 → V G X 9 0 0 (Qx G X 0 0 (p_X7_narrow M op)) 174 [(0, .ref 52), (2, .int w0_25), (3, .int w0_37), (8, .int (64 - w0_25))] [.long w0_174, .int 18, .ref 56] M174 := by
              intro w0_174 M174 s174 E
              refine V.seg F floX7 cjoX7 [.lastore, .aload_n 0, .getfield 23, .bipush 18, .iload_n 3] (by decide +kernel) (pc2 := 182) (lv2 := [(0, .ref 52), (2, .int w0_25), (3, .int w0_37), (8, .int (64 - w0_25))]) (st2 := [.int w0_37, .int 18, .ref 57]) (M2 := uL M174 56 (ix 18) w0_174) rfl ⟨((q.sm s174.1).a 56 22 1648 rfl (vinc (by decide))), trivial, ((q.sm (SK.pL s174 rfl (by decide)).1).f 52 7 4 rfl), trivial, trivial, trivial⟩ ?_
              have hJ214 : ∀ (w0_214 : Int64) (M214 : Mem), (SK wg M M214) → f_X7_narrow M op = f_X7_narrow_214 w0_214 M214 → V G X 9 0 0 (Qx G X 0 0 (p_X7_narrow M op)) 214 [] [.long w0_214, .int 18, .ref 57] M214 := by
                intro w0_214 M214 s214 E
                refine V.seg F floX7 cjoX7 [.lastore] (by decide +kernel) (pc2 := 215) (lv2 := []) (st2 := []) (M2 := uL M214 57 (ix 18) w0_214) rfl ⟨((q.sm s214.1).a 57 22 1648 rfl (vinc (by decide))), trivial⟩ ?_
                exact V.vret F (by decide +kernel) ⟨rfl, E.symm, (SK.pL s214 rfl (by decide))⟩
              refine V.if_eq (off := 19) F (by decide +kernel) (tgt := 201) (by decide) (fun h182 => ?_) (fun h182 => ?_)
              · replace E := E.trans (if_pos h182)
                refine V.seg F floX7 cjoX7 [.aload_n 0, .getfield 23, .bipush 16, .laload, .lconst 1, .iload_n 2, .lshl, .lconst 1, .lsub, .land] (by decide +kernel) (pc2 := 214) (lv2 := [(0, .ref 52), (2, .int w0_25), (3, .int w0_37), (8, .int (64 - w0_25))]) (st2 := [.long ((mL (uL M174 56 (ix 18) w0_174) 57 (ix 16)) &&& ((jshl 1 w0_25) - 1)), .int 18, .ref 57]) (M2 := uL M174 56 (ix 18) w0_174) rfl ⟨trivial, ((q.sm (SK.pL s174 rfl (by decide)).1).f 52 7 4 rfl), trivial, ((q.sm (SK.pL s174 rfl (by decide)).1).a 57 22 1648 rfl (vinc (by decide))), trivial, trivial, trivial, trivial, trivial, trivial, trivial⟩ ?_
                refine V.pick [] rfl ?_
                exact hJ214 ((mL (uL M174 56 (ix 18) w0_174) 57 (ix 16)) &&& ((jshl 1 w0_25) - 1)) (uL M174 56 (ix 18) w0_174) (SK.pL s174 rfl (by decide)) E
              · replace E := E.trans (if_neg h182)
                refine V.seg F floX7 cjoX7 [.aload_n 0, .getfield 23, .bipush 16, .laload, .iload 8, .lshl, .iload 8, .lshr, .goto 16] (by decide +kernel) (pc2 := 214) (lv2 := [(0, .ref 52), (2, .int w0_25), (3, .int w0_37), (8, .int (64 - w0_25))]) (st2 := [.long (jshr (jshl (mL (uL M174 56 (ix 18) w0_174) 57 (ix 16)) (64 - w0_25)) (64 - w0_25)), .int 18, .ref 57]) (M2 := uL M174 56 (ix 18) w0_174) rfl ⟨trivial, ((q.sm (SK.pL s174 rfl (by decide)).1).f 52 7 4 rfl), trivial, ((q.sm (SK.pL s174 rfl (by decide)).1).a 57 22 1648 rfl (vinc (by decide))), trivial, trivial, trivial, trivial, (by decide), trivial⟩ ?_
                refine V.pick [] rfl ?_
                exact hJ214 (jshr (jshl (mL (uL M174 56 (ix 18) w0_174) 57 (ix 16)) (64 - w0_25)) (64 - w0_25)) (uL M174 56 (ix 18) w0_174) (SK.pL s174 rfl (by decide)) E
            refine V.if_eq (off := 19) F (by decide +kernel) (tgt := 161) (by decide) (fun h142 => ?_) (fun h142 => ?_)
            · replace E := E.trans (if_pos h142)
              refine V.seg F floX7 cjoX7 [.aload_n 0, .getfield 20, .bipush 16, .laload, .ldc2_w 87, .iload_n 2, .lshl, .lor] (by decide +kernel) (pc2 := 174) (lv2 := [(8, .int (64 - w0_25)), (0, .ref 52), (2, .int w0_25), (3, .int w0_37), (4, .long w0_53), (6, .long w0_74)]) (st2 := [.long ((mL (uL (uL M111 54 (ix 18) w0_53) 55 (ix 18) w0_74) 56 (ix 16)) ||| (jshl ((-1)) w0_25)), .int 18, .ref 56]) (M2 := uL (uL M111 54 (ix 18) w0_53) 55 (ix 18) w0_74) rfl ⟨trivial, ((q.sm (SK.pL (SK.pL s111 rfl (by decide)) rfl (by decide)).1).f 52 7 3 rfl), trivial, ((q.sm (SK.pL (SK.pL s111 rfl (by decide)) rfl (by decide)).1).a 56 22 1648 rfl (vinc (by decide))), trivial, trivial, trivial, trivial, trivial⟩ ?_
              refine V.pick [1, 2, 3, 0] rfl ?_
              exact hJ174 ((mL (uL (uL M111 54 (ix 18) w0_53) 55 (ix 18) w0_74) 56 (ix 16)) ||| (jshl ((-1)) w0_25)) (uL (uL M111 54 (ix 18) w0_53) 55 (ix 18) w0_74) (SK.pL (SK.pL s111 rfl (by decide)) rfl (by decide)) E
            · replace E := E.trans (if_neg h142)
              refine V.seg F floX7 cjoX7 [.aload_n 0, .getfield 20, .bipush 16, .laload, .iload 8, .lshl, .iload 8, .lshr, .goto 16] (by decide +kernel) (pc2 := 174) (lv2 := [(8, .int (64 - w0_25)), (0, .ref 52), (2, .int w0_25), (3, .int w0_37), (4, .long w0_53), (6, .long w0_74)]) (st2 := [.long (jshr (jshl (mL (uL (uL M111 54 (ix 18) w0_53) 55 (ix 18) w0_74) 56 (ix 16)) (64 - w0_25)) (64 - w0_25)), .int 18, .ref 56]) (M2 := uL (uL M111 54 (ix 18) w0_53) 55 (ix 18) w0_74) rfl ⟨trivial, ((q.sm (SK.pL (SK.pL s111 rfl (by decide)) rfl (by decide)).1).f 52 7 3 rfl), trivial, ((q.sm (SK.pL (SK.pL s111 rfl (by decide)) rfl (by decide)).1).a 56 22 1648 rfl (vinc (by decide))), trivial, trivial, trivial, trivial, (by decide), trivial⟩ ?_
              refine V.pick [1, 2, 3, 0] rfl ?_
              exact hJ174 (jshr (jshl (mL (uL (uL M111 54 (ix 18) w0_53) 55 (ix 18) w0_74) 56 (ix 16)) (64 - w0_25)) (64 - w0_25)) (uL (uL M111 54 (ix 18) w0_53) 55 (ix 18) w0_74) (SK.pL (SK.pL s111 rfl (by decide)) rfl (by decide)) E
          refine V.lc_lt (off := 25) F (by decide +kernel) (tgt := 111) (by decide) (fun h86 => ?_) (fun h86 => ?_)
          · replace E := E.trans (if_pos h86)
            refine V.pick [1, 2, 3, 4, 0] rfl ?_
            exact hJ111 M74 s74 E
          · replace E := E.trans (if_neg h86)
            refine V.seg F floX7 cjoX7 [.aload_n 0, .getfield 17, .bipush 16, .laload, .lload 6, .lcmp] (by decide +kernel) (pc2 := 99) (lv2 := [(6, .long w0_74), (0, .ref 52), (2, .int w0_25), (3, .int w0_37), (4, .long w0_53)]) (st2 := [.int (lg_cmp (mL M74 55 (ix 16)) w0_74)]) (M2 := M74) rfl ⟨trivial, ((q.sm s74.1).f 52 7 2 rfl), trivial, ((q.sm s74.1).a 55 22 1648 rfl (vinc (by decide))), trivial, trivial, trivial⟩ ?_
            refine V.lc_gt (off := 12) F (by decide +kernel) (tgt := 111) (by decide) (fun h99 => ?_) (fun h99 => ?_)
            · replace E := E.trans (if_pos h99)
              refine V.pick [1, 2, 3, 4, 0] rfl ?_
              exact hJ111 M74 s74 E
            · replace E := E.trans (if_neg h99)
              refine V.seg F floX7 cjoX7 [.aload_n 0, .bipush 18, .bipush 16] (by decide +kernel) (pc2 := 107) (lv2 := [(6, .long w0_74), (0, .ref 52), (2, .int w0_25), (3, .int w0_37), (4, .long w0_53)]) (st2 := [.int 16, .int 18, .ref 52]) (M2 := M74) rfl ⟨trivial, trivial, trivial, trivial⟩ ?_
              refine V.callV (as := [.int 18, .int 16]) (rest := []) F (by decide +kernel) lX7_133 bX7_copy ⟨7, _, ((q.sm s74.1).o 52 7 rfl), rfl, rfl⟩ (c_X7_copy G X.2.1 M74 18 16 (q.sm s74.1) s74.2.1 (vinc (by decide)) (vinc (by decide))) (rm_ok hRm hd (by decide) (by decide)) ⟨Nat.zero_le _, Nat.zero_le _⟩ (Nat.le_of_ble_eq_true rfl) (fun r_ N_ p_ => ?_)
              obtain ⟨rfl, rfl, t107⟩ := p_
              refine (?_ : ∀ (M110 : Mem), (SK wg M M110) → f_X7_narrow M op = f_X7_narrow_c110 M110 → V G X 9 0 0 (Qx G X 0 0 (p_X7_narrow M op)) 110 [(6, .long w0_74), (0, .ref 52), (2, .int w0_25), (3, .int w0_37), (4, .long w0_53)] [] M110) _ (SK.tr s74 t107) E
              intro M110 s110 E
              exact V.vret F (by decide +kernel) ⟨rfl, E.symm, s110⟩
        refine V.if_eq (off := 13) F (by decide +kernel) (tgt := 69) (by decide) (fun h56 => ?_) (fun h56 => ?_)
        · replace E := E.trans (if_pos h56)
          refine V.seg F floX7 cjoX7 [.lconst 1, .iload_n 2, .lshl, .lconst 1, .lsub] (by decide +kernel) (pc2 := 74) (lv2 := [(4, .long w0_53), (0, .ref 52), (2, .int w0_25), (3, .int w0_37)]) (st2 := [.long ((jshl 1 w0_25) - 1)]) (M2 := M53) rfl ⟨trivial, trivial, trivial, trivial, trivial, trivial⟩ ?_
          refine V.pick [1, 2, 3, 0] rfl ?_
          exact hJ74 ((jshl 1 w0_25) - 1) M53 s53 E
        · replace E := E.trans (if_neg h56)
          refine V.seg F floX7 cjoX7 [.lconst 1, .iload_n 2, .iconst 1, .isub, .lshl, .lconst 1, .lsub, .goto 8] (by decide +kernel) (pc2 := 74) (lv2 := [(4, .long w0_53), (0, .ref 52), (2, .int w0_25), (3, .int w0_37)]) (st2 := [.long ((jshl 1 (w0_25 - 1)) - 1)]) (M2 := M53) rfl ⟨trivial, trivial, trivial, trivial, trivial, trivial, trivial, (by decide), trivial⟩ ?_
          refine V.pick [1, 2, 3, 0] rfl ?_
          exact hJ74 ((jshl 1 (w0_25 - 1)) - 1) M53 s53 E
      refine V.if_eq (off := 13) F (by decide +kernel) (tgt := 52) (by decide) (fun h39 => ?_) (fun h39 => ?_)
      · replace E := E.trans (if_pos h39)
        refine V.seg F floX7 cjoX7 [.lconst 0] (by decide +kernel) (pc2 := 53) (lv2 := [(3, .int w0_37), (0, .ref 52), (2, .int w0_25)]) (st2 := [.long 0]) (M2 := M37) rfl ⟨trivial, trivial⟩ ?_
        refine V.pick [1, 2, 0] rfl ?_
        exact hJ53 0 M37 s37 E
      · replace E := E.trans (if_neg h39)
        refine V.seg F floX7 cjoX7 [.ldc2_w 87, .iload_n 2, .iconst 1, .isub, .lshl, .goto 4] (by decide +kernel) (pc2 := 53) (lv2 := [(3, .int w0_37), (0, .ref 52), (2, .int w0_25)]) (st2 := [.long (jshl ((-1)) (w0_25 - 1))]) (M2 := M37) rfl ⟨trivial, trivial, trivial, trivial, trivial, (by decide), trivial⟩ ?_
        refine V.pick [1, 2, 0] rfl ?_
        exact hJ53 (jshl ((-1)) (w0_25 - 1)) M37 s37 E
    refine V.ic_ge (off := 7) F (by decide +kernel) (tgt := 36) (by decide) (fun h29 => ?_) (fun h29 => ?_)
    · replace E := E.trans (if_pos h29)
      refine V.seg F floX7 cjoX7 [.iconst 0] (by decide +kernel) (pc2 := 37) (lv2 := [(2, .int w0_25), (0, .ref 52), (1, .int op)]) (st2 := [.int 0]) (M2 := M25) rfl ⟨trivial, trivial⟩ ?_
      refine V.pick [1, 0] rfl ?_
      exact hJ37 0 M25 s25 E
    · replace E := E.trans (if_neg h29)
      refine V.seg F floX7 cjoX7 [.iconst 1, .goto 4] (by decide +kernel) (pc2 := 37) (lv2 := [(2, .int w0_25), (0, .ref 52), (1, .int op)]) (st2 := [.int 1]) (M2 := M25) rfl ⟨trivial, (by decide), trivial⟩ ?_
      refine V.pick [1, 0] rfl ?_
      exact hJ37 1 M25 s25 E
  refine V.ic_ne (off := 8) F (by decide +kernel) (tgt := 12) (by decide) (fun h4 => ?_) (fun h4 => ?_)
  · replace E := E.trans (if_neg h4)
    refine V.seg F floX7 cjoX7 [.iload_n 1, .iconst 3, .irem] (by decide +kernel) (pc2 := 15) (lv2 := [(0, .ref 52), (1, .int op)]) (st2 := [.int (irem op 3)]) (M2 := M) rfl ⟨trivial, trivial, (by decide), trivial⟩ ?_
    refine V.if_ne (off := 8) F (by decide +kernel) (tgt := 23) (by decide) (fun h15 => ?_) (fun h15 => ?_)
    · replace E := E.trans (if_neg h15)
      refine V.seg F floX7 cjoX7 [.bipush 32] (by decide +kernel) (pc2 := 25) (lv2 := [(0, .ref 52), (1, .int op)]) (st2 := [.int 32]) (M2 := M) rfl ⟨trivial, trivial⟩ ?_
      refine V.pick [0, 1] rfl ?_
      exact hJ25 32 M (SK.rf (w := wg) gb) E
    · replace E := E.trans (if_pos h15)
      refine V.seg F floX7 cjoX7 [.bipush 16, .goto 5] (by decide +kernel) (pc2 := 25) (lv2 := [(0, .ref 52), (1, .int op)]) (st2 := [.int 16]) (M2 := M) rfl ⟨trivial, (by decide), trivial⟩ ?_
      refine V.pick [0, 1] rfl ?_
      exact hJ25 16 M (SK.rf (w := wg) gb) E
  · replace E := E.trans (if_pos h4)
    refine V.seg F floX7 cjoX7 [.bipush 8, .goto 16] (by decide +kernel) (pc2 := 25) (lv2 := [(0, .ref 52), (1, .int op)]) (st2 := [.int 8]) (M2 := M) rfl ⟨trivial, (by decide), trivial⟩ ?_
    refine V.pick [0, 1] rfl ?_
    exact hJ25 8 M (SK.rf (w := wg) gb) E
def f_X7_add_300  (M300 : Mem) : Mem := M300
def f_X7_add_c300  (M300 : Mem) : Mem := f_X7_add_300 M300
def f_X7_add_c288  (M288 : Mem) : Mem := f_X7_add_300 M288
def f_X7_add_c278 (a : Int32) (M278 : Mem) : Mem := f_X7_add_c288 (f_X7_ripple M278 a 21 1 18)
def f_X7_add_267 (a : Int32) (b : Int32) (s : Int32) (M267 : Mem) : Mem := if s = 0 then f_X7_add_c300 (f_X7_ripple M267 a b 0 18) else f_X7_add_c278 a (f_X7_turn M267 b 21)
def f_X7_add_c267 (a : Int32) (b : Int32) (s : Int32) (M267 : Mem) : Mem := f_X7_add_267 a b s M267
def f_X7_add_264 (a : Int32) (b : Int32) (s : Int32) (x218 : Int64) (w0_264 : Int64) (M264 : Mem) : Mem := f_X7_add_c267 a b s (f_X7_setRest M264 18 x218 w0_264)
def f_X7_add_c242 (a : Int32) (b : Int32) (s : Int32) (w0_33 : Int64) (w0_68 : Int64) (M175 : Mem) (x218 : Int64) (x230 : Int64) (x242 : Int64) : Mem := if s = 0 then f_X7_add_264 a b s x218 (x230 + x242) (uL (uL M175 54 (ix 18) w0_33) 55 (ix 18) w0_68) else f_X7_add_264 a b s x218 (x230 - x242) (uL (uL M175 54 (ix 18) w0_33) 55 (ix 18) w0_68)
def f_X7_add_c230 (a : Int32) (b : Int32) (s : Int32) (w0_33 : Int64) (w0_68 : Int64) (M175 : Mem) (x218 : Int64) (x230 : Int64) : Mem := f_X7_add_c242 a b s w0_33 w0_68 M175 x218 x230 (f_X7_rem (f_X7_restOf (uL (uL M175 54 (ix 18) w0_33) 55 (ix 18) w0_68) b) x218)
def f_X7_add_c218 (a : Int32) (b : Int32) (s : Int32) (w0_33 : Int64) (w0_68 : Int64) (M175 : Mem) (x218 : Int64) : Mem := f_X7_add_c230 a b s w0_33 w0_68 M175 x218 (f_X7_rem (f_X7_restOf (uL (uL M175 54 (ix 18) w0_33) 55 (ix 18) w0_68) a) x218)
def f_X7_add_175 (a : Int32) (b : Int32) (s : Int32) (w0_33 : Int64) (w0_68 : Int64) (w0_175 : Int32) (M175 : Mem) : Mem := if w0_175 = 0 then f_X7_add_c218 a b s w0_33 w0_68 M175 (f_X7_odd (f_X7_common (f_X7_byOf (uL (uL M175 54 (ix 18) w0_33) 55 (ix 18) w0_68) a) (f_X7_byOf (uL (uL M175 54 (ix 18) w0_33) 55 (ix 18) w0_68) b))) else f_X7_add_267 a b s M175
def f_X7_add_170 (a : Int32) (b : Int32) (s : Int32) (w0_33 : Int64) (w0_68 : Int64) (M170 : Mem) : Mem := f_X7_add_175 a b s w0_33 w0_68 1 M170
def f_X7_add_122 (a : Int32) (b : Int32) (s : Int32) (w0_33 : Int64) (w0_68 : Int64) (M122 : Mem) : Mem := f_X7_add_175 a b s w0_33 w0_68 1 M122
def f_X7_add_68 (a : Int32) (b : Int32) (s : Int32) (w0_33 : Int64) (w0_68 : Int64) (M68 : Mem) : Mem := if s = 0 then if (f_X7_isOver (mL M68 54 (ix a)) (mL M68 54 (ix b)) w0_33) = 0 then if (f_X7_isOver (mL M68 55 (ix a)) (mL M68 55 (ix b)) w0_68) = 0 then f_X7_add_175 a b s w0_33 w0_68 0 M68 else f_X7_add_170 a b s w0_33 w0_68 M68 else f_X7_add_170 a b s w0_33 w0_68 M68 else if (f_X7_isOver (mL M68 54 (ix a)) ((mL M68 55 (ix b)) ^^^ ((-1))) w0_33) = 0 then if (f_X7_isOver (mL M68 55 (ix a)) ((mL M68 54 (ix b)) ^^^ ((-1))) w0_68) = 0 then f_X7_add_175 a b s w0_33 w0_68 0 M68 else f_X7_add_122 a b s w0_33 w0_68 M68 else f_X7_add_122 a b s w0_33 w0_68 M68
def f_X7_add_33 (a : Int32) (b : Int32) (s : Int32) (w0_33 : Int64) (M33 : Mem) : Mem := if s = 0 then f_X7_add_68 a b s w0_33 ((mL M33 55 (ix a)) + (mL M33 55 (ix b))) M33 else f_X7_add_68 a b s w0_33 ((mL M33 55 (ix a)) - (mL M33 54 (ix b))) M33
def f_X7_add (M : Mem) (a : Int32) (b : Int32) (s : Int32) : Mem := if s = 0 then f_X7_add_33 a b s ((mL M 54 (ix a)) + (mL M 54 (ix b))) M else f_X7_add_33 a b s ((mL M 54 (ix a)) - (mL M 55 (ix b))) M
abbrev p_X7_add (M : Mem) (a : Int32) (b : Int32) (s : Int32) : Option Value → Mem → Prop := fun r N => r = none ∧ N = f_X7_add M a b s ∧ SK wg M N
set_option maxRecDepth 100000 in
set_option maxHeartbeats 4000000 in
theorem c_X7_add (G : Ctx) (l : Launch) (M : Mem) (a : Int32) (b : Int32) (s : Int32) (z_s : s = 0 ∨ s = 1) (q : Ok M) (gb : Gb M) (i_a : vp_in a 1648) (i_b : vp_in b 1648) : CT G l 2 mX7_add [.ref 52, .int a, .int b, .int s] M 0 0 (p_X7_add M a b s) := by
  refine CT.of (by decide) (Nat.le_of_ble_eq_true rfl) ?_
  intro X d hd hl hRm hnm F
  subst hl
  have E : f_X7_add M a b s = f_X7_add M a b s := rfl
  show V G X 15 0 0 (Qx G X 0 0 (p_X7_add M a b s)) 0 [(0, .ref 52), (1, .int a), (2, .int b), (3, .int s)] [] M
  refine V.seg F floX7 cjoX7 [.iload_n 3] (by decide +kernel) (pc2 := 1) (lv2 := [(0, .ref 52), (1, .int a), (2, .int b), (3, .int s)]) (st2 := [.int s]) (M2 := M) rfl ⟨trivial, trivial⟩ ?_
  have hJ33 : ∀ (w0_33 : Int64) (M33 : Mem), (SK wg M M33) → f_X7_add M a b s = f_X7_add_33 a b s w0_33 M33 → V G X 15 0 0 (Qx G X 0 0 (p_X7_add M a b s)) 33 [(0, .ref 52), (1, .int a), (2, .int b), (3, .int s)] [.long w0_33] M33 := by
    intro w0_33 M33 s33 E
    refine V.seg F floX7 cjoX7 [.lstore 4, .iload_n 3] (by decide +kernel) (pc2 := 36) (lv2 := [(4, .long w0_33), (0, .ref 52), (1, .int a), (2, .int b), (3, .int s)]) (st2 := [.int s]) (M2 := M33) rfl ⟨(by decide), trivial, trivial⟩ ?_
    have hJ68 : ∀ (w0_68 : Int64) (M68 : Mem), (SK wg M M68) → f_X7_add M a b s = f_X7_add_68 a b s w0_33 w0_68 M68 → V G X 15 0 0 (Qx G X 0 0 (p_X7_add M a b s)) 68 [(0, .ref 52), (1, .int a), (2, .int b), (3, .int s), (4, .long w0_33)] [.long w0_68] M68 := by
      intro w0_68 M68 s68 E
      refine V.seg F floX7 cjoX7 [.lstore 6, .iload_n 3] (by decide +kernel) (pc2 := 71) (lv2 := [(6, .long w0_68), (0, .ref 52), (1, .int a), (2, .int b), (3, .int s), (4, .long w0_33)]) (st2 := [.int s]) (M2 := M68) rfl ⟨(by decide), trivial, trivial⟩ ?_
      have hJ175 : ∀ (w0_175 : Int32) (M175 : Mem), (SK wg M M175) → f_X7_add M a b s = f_X7_add_175 a b s w0_33 w0_68 w0_175 M175 → V G X 15 0 0 (Qx G X 0 0 (p_X7_add M a b s)) 175 [(0, .ref 52), (1, .int a), (2, .int b), (3, .int s), (4, .long w0_33), (6, .long w0_68)] [.int w0_175] M175 := by
        intro w0_175 M175 s175 E
        refine V.seg F floX7 cjoX7 [.istore 8, .iload 8] (by decide +kernel) (pc2 := 179) (lv2 := [(8, .int w0_175), (0, .ref 52), (1, .int a), (2, .int b), (3, .int s), (4, .long w0_33), (6, .long w0_68)]) (st2 := [.int w0_175]) (M2 := M175) rfl ⟨(by decide), trivial, trivial⟩ ?_
        have hJ267 : ∀ (M267 : Mem), (SK wg M M267) → f_X7_add M a b s = f_X7_add_267 a b s M267 → V G X 15 0 0 (Qx G X 0 0 (p_X7_add M a b s)) 267 [(0, .ref 52), (1, .int a), (2, .int b), (3, .int s)] [] M267 := by
          intro M267 s267 E
          refine V.seg F floX7 cjoX7 [.iload_n 3] (by decide +kernel) (pc2 := 268) (lv2 := [(0, .ref 52), (1, .int a), (2, .int b), (3, .int s)]) (st2 := [.int s]) (M2 := M267) rfl ⟨trivial, trivial⟩ ?_
          have hJ300 : ∀ (M300 : Mem), (SK wg M M300) → f_X7_add M a b s = f_X7_add_300 M300 → V G X 15 0 0 (Qx G X 0 0 (p_X7_add M a b s)) 300 [] [] M300 := by
            intro M300 s300 E
            exact V.vret F (by decide +kernel) ⟨rfl, E.symm, s300⟩
          refine V.if_eq (off := 23) F (by decide +kernel) (tgt := 291) (by decide) (fun h268 => ?_) (fun h268 => ?_)
          · replace E := E.trans (if_pos h268)
            refine V.seg F floX7 cjoX7 [.aload_n 0, .iload_n 1, .iload_n 2, .iconst 0, .bipush 18] (by decide +kernel) (pc2 := 297) (lv2 := [(0, .ref 52), (1, .int a), (2, .int b), (3, .int s)]) (st2 := [.int 18, .int 0, .int b, .int a, .ref 52]) (M2 := M267) rfl ⟨trivial, trivial, trivial, trivial, trivial, trivial⟩ ?_
            refine V.callV (as := [.int a, .int b, .int 0, .int 18]) (rest := []) F (by decide +kernel) lX7_216 bX7_ripple ⟨7, _, ((q.sm s267.1).o 52 7 rfl), rfl, rfl⟩ (c_X7_ripple G X.2.1 M267 a b 0 18 (Or.inl rfl) (q.sm s267.1) s267.2.1 (by first | assumption | exact vinc (by decide)) (by first | assumption | exact vinc (by decide)) (vinc (by decide))) (rm_ok hRm hd (by decide) (by decide)) ⟨Nat.zero_le _, Nat.zero_le _⟩ (Nat.le_of_ble_eq_true rfl) (fun r_ N_ p_ => ?_)
            obtain ⟨rfl, rfl, t297⟩ := p_
            refine (?_ : ∀ (M300 : Mem), (SK wg M M300) → f_X7_add M a b s = f_X7_add_c300 M300 → V G X 15 0 0 (Qx G X 0 0 (p_X7_add M a b s)) 300 [(0, .ref 52), (1, .int a), (2, .int b), (3, .int s)] [] M300) _ (SK.tr s267 t297) E
            intro M300 s300 E
            refine V.pick [] rfl ?_
            exact hJ300 M300 s300 E
          · replace E := E.trans (if_neg h268)
            refine V.seg F floX7 cjoX7 [.aload_n 0, .iload_n 2, .bipush 21] (by decide +kernel) (pc2 := 275) (lv2 := [(0, .ref 52), (1, .int a), (2, .int b), (3, .int s)]) (st2 := [.int 21, .int b, .ref 52]) (M2 := M267) rfl ⟨trivial, trivial, trivial, trivial⟩ ?_
            refine V.callV (as := [.int b, .int 21]) (rest := []) F (by decide +kernel) lX7_203 bX7_turn ⟨7, _, ((q.sm s267.1).o 52 7 rfl), rfl, rfl⟩ (c_X7_turn G X.2.1 M267 b 21 (q.sm s267.1) s267.2.1 (by first | assumption | exact vinc (by decide)) (vinc (by decide))) (rm_ok hRm hd (by decide) (by decide)) ⟨Nat.zero_le _, Nat.zero_le _⟩ (Nat.le_of_ble_eq_true rfl) (fun r_ N_ p_ => ?_)
            obtain ⟨rfl, rfl, t275⟩ := p_
            refine (?_ : ∀ (M278 : Mem), (SK wg M M278) → f_X7_add M a b s = f_X7_add_c278 a M278 → V G X 15 0 0 (Qx G X 0 0 (p_X7_add M a b s)) 278 [(0, .ref 52), (1, .int a), (2, .int b), (3, .int s)] [] M278) _ (SK.tr s267 t275) E
            intro M278 s278 E
            refine V.seg F floX7 cjoX7 [.aload_n 0, .iload_n 1, .bipush 21, .iconst 1, .bipush 18] (by decide +kernel) (pc2 := 285) (lv2 := [(0, .ref 52), (1, .int a), (2, .int b), (3, .int s)]) (st2 := [.int 18, .int 1, .int 21, .int a, .ref 52]) (M2 := M278) rfl ⟨trivial, trivial, trivial, trivial, trivial, trivial⟩ ?_
            refine V.callV (as := [.int a, .int 21, .int 1, .int 18]) (rest := []) F (by decide +kernel) lX7_216 bX7_ripple ⟨7, _, ((q.sm s278.1).o 52 7 rfl), rfl, rfl⟩ (c_X7_ripple G X.2.1 M278 a 21 1 18 (Or.inr rfl) (q.sm s278.1) s278.2.1 (by first | assumption | exact vinc (by decide)) (vinc (by decide)) (vinc (by decide))) (rm_ok hRm hd (by decide) (by decide)) ⟨Nat.zero_le _, Nat.zero_le _⟩ (Nat.le_of_ble_eq_true rfl) (fun r_ N_ p_ => ?_)
            obtain ⟨rfl, rfl, t285⟩ := p_
            refine (?_ : ∀ (M288 : Mem), (SK wg M M288) → f_X7_add M a b s = f_X7_add_c288 M288 → V G X 15 0 0 (Qx G X 0 0 (p_X7_add M a b s)) 288 [(0, .ref 52), (1, .int a), (2, .int b), (3, .int s)] [] M288) _ (SK.tr s278 t285) E
            intro M288 s288 E
            refine V.seg F floX7 cjoX7 [.goto 12] (by decide +kernel) (pc2 := 300) (lv2 := [(0, .ref 52), (1, .int a), (2, .int b), (3, .int s)]) (st2 := []) (M2 := M288) rfl ⟨(by decide), trivial⟩ ?_
            refine V.pick [] rfl ?_
            exact hJ300 M288 s288 E
        refine V.if_ne (off := 88) F (by decide +kernel) (tgt := 267) (by decide) (fun h179 => ?_) (fun h179 => ?_)
        · replace E := E.trans (if_neg h179)
          refine V.pick [1, 2, 3, 4] rfl ?_
          exact hJ267 M175 s175 E
        · replace E := E.trans (if_pos h179)
          refine V.seg F floX7 cjoX7 [.aload_n 0, .getfield 13, .bipush 18, .lload 4, .lastore, .aload_n 0, .getfield 17, .bipush 18, .lload 6, .lastore, .aload_n 0, .iload_n 1] (by decide +kernel) (pc2 := 202) (lv2 := [(8, .int w0_175), (0, .ref 52), (1, .int a), (2, .int b), (3, .int s), (4, .long w0_33), (6, .long w0_68)]) (st2 := [.int a, .ref 52]) (M2 := uL (uL M175 54 (ix 18) w0_33) 55 (ix 18) w0_68) rfl ⟨trivial, ((q.sm s175.1).f 52 7 1 rfl), trivial, trivial, ((q.sm s175.1).a 54 22 1648 rfl (vinc (by decide))), trivial, ((q.sm (SK.pL s175 rfl (by decide)).1).f 52 7 2 rfl), trivial, trivial, ((q.sm (SK.pL s175 rfl (by decide)).1).a 55 22 1648 rfl (vinc (by decide))), trivial, trivial, trivial⟩ ?_
          refine V.callV (as := [.int a]) (rest := []) F (by decide +kernel) lX7_141 bX7_byOf ⟨7, _, ((q.sm (SK.pL (SK.pL s175 rfl (by decide)) rfl (by decide)).1).o 52 7 rfl), rfl, rfl⟩ (c_X7_byOf G X.2.1 (uL (uL M175 54 (ix 18) w0_33) 55 (ix 18) w0_68) a (q.sm (SK.pL (SK.pL s175 rfl (by decide)) rfl (by decide)).1) (SK.pL (SK.pL s175 rfl (by decide)) rfl (by decide)).2.1 (by first | assumption | exact vinc (by decide))) (rm_ok hRm hd (by decide) (by decide)) ⟨Nat.zero_le _, Nat.zero_le _⟩ (Nat.le_of_ble_eq_true rfl) (fun r_ N_ p_ => ?_)
          obtain ⟨rfl, hN_⟩ := p_
          rw [hN_]
          clear hN_
          refine V.seg F floX7 cjoX7 [.aload_n 0, .iload_n 2] (by decide +kernel) (pc2 := 207) (lv2 := [(8, .int w0_175), (0, .ref 52), (1, .int a), (2, .int b), (3, .int s), (4, .long w0_33), (6, .long w0_68)]) (st2 := [.int b, .ref 52, .long (f_X7_byOf (uL (uL M175 54 (ix 18) w0_33) 55 (ix 18) w0_68) a)]) (M2 := uL (uL M175 54 (ix 18) w0_33) 55 (ix 18) w0_68) rfl ⟨trivial, trivial, trivial⟩ ?_
          refine V.callV (as := [.int b]) (rest := [.long (f_X7_byOf (uL (uL M175 54 (ix 18) w0_33) 55 (ix 18) w0_68) a)]) F (by decide +kernel) lX7_141 bX7_byOf ⟨7, _, ((q.sm (SK.pL (SK.pL s175 rfl (by decide)) rfl (by decide)).1).o 52 7 rfl), rfl, rfl⟩ (c_X7_byOf G X.2.1 (uL (uL M175 54 (ix 18) w0_33) 55 (ix 18) w0_68) b (q.sm (SK.pL (SK.pL s175 rfl (by decide)) rfl (by decide)).1) (SK.pL (SK.pL s175 rfl (by decide)) rfl (by decide)).2.1 (by first | assumption | exact vinc (by decide))) (rm_ok hRm hd (by decide) (by decide)) ⟨Nat.zero_le _, Nat.zero_le _⟩ (Nat.le_of_ble_eq_true rfl) (fun r_ N_ p_ => ?_)
          obtain ⟨rfl, hN_⟩ := p_
          rw [hN_]
          clear hN_
          refine V.callS (as := [.long (f_X7_byOf (uL (uL M175 54 (ix 18) w0_33) 55 (ix 18) w0_68) a), .long (f_X7_byOf (uL (uL M175 54 (ix 18) w0_33) 55 (ix 18) w0_68) b)]) (rest := []) F (by decide +kernel) lX7_144 bX7_common (c_X7_common G X.2.1 (uL (uL M175 54 (ix 18) w0_33) 55 (ix 18) w0_68) (f_X7_byOf (uL (uL M175 54 (ix 18) w0_33) 55 (ix 18) w0_68) a) (f_X7_byOf (uL (uL M175 54 (ix 18) w0_33) 55 (ix 18) w0_68) b)) (rm_ok hRm hd (by decide) (by decide)) ⟨Nat.zero_le _, Nat.zero_le _⟩ (Nat.le_of_ble_eq_true rfl) (fun r_ N_ p_ => ?_)
          obtain ⟨rfl, hN_⟩ := p_
          rw [hN_]
          clear hN_
          refine V.callS (as := [.long (f_X7_common (f_X7_byOf (uL (uL M175 54 (ix 18) w0_33) 55 (ix 18) w0_68) a) (f_X7_byOf (uL (uL M175 54 (ix 18) w0_33) 55 (ix 18) w0_68) b))]) (rest := []) F (by decide +kernel) lX7_147 bX7_odd (c_X7_odd G X.2.1 (uL (uL M175 54 (ix 18) w0_33) 55 (ix 18) w0_68) (f_X7_common (f_X7_byOf (uL (uL M175 54 (ix 18) w0_33) 55 (ix 18) w0_68) a) (f_X7_byOf (uL (uL M175 54 (ix 18) w0_33) 55 (ix 18) w0_68) b))) (rm_ok hRm hd (by decide) (by decide)) ⟨Nat.zero_le _, Nat.zero_le _⟩ (Nat.le_of_ble_eq_true rfl) (fun r_ N_ p_ => ?_)
          obtain ⟨rfl, hN_⟩ := p_
          rw [hN_]
          clear hN_
          refine V.seg F floX7 cjoX7 [.lstore 9] (by decide +kernel) (pc2 := 218) (lv2 := [(9, .long (f_X7_odd (f_X7_common (f_X7_byOf (uL (uL M175 54 (ix 18) w0_33) 55 (ix 18) w0_68) a) (f_X7_byOf (uL (uL M175 54 (ix 18) w0_33) 55 (ix 18) w0_68) b)))), (8, .int w0_175), (0, .ref 52), (1, .int a), (2, .int b), (3, .int s), (4, .long w0_33), (6, .long w0_68)]) (st2 := []) (M2 := uL (uL M175 54 (ix 18) w0_33) 55 (ix 18) w0_68) rfl ⟨(by decide), trivial⟩ ?_
          refine (?_ : ∀ (x218 : Int64), (¬ x218 = 0) → f_X7_add M a b s = f_X7_add_c218 a b s w0_33 w0_68 M175 x218 → V G X 15 0 0 (Qx G X 0 0 (p_X7_add M a b s)) 218 [(9, .long x218), (8, .int w0_175), (0, .ref 52), (1, .int a), (2, .int b), (3, .int s), (4, .long w0_33), (6, .long w0_68)] [] (uL (uL M175 54 (ix 18) w0_33) 55 (ix 18) w0_68)) _ (odd_ne0 _) E
          intro x218 nz_x218 E
          refine V.seg F floX7 cjoX7 [.aload_n 0, .iload_n 1] (by decide +kernel) (pc2 := 220) (lv2 := [(9, .long x218), (8, .int w0_175), (0, .ref 52), (1, .int a), (2, .int b), (3, .int s), (4, .long w0_33), (6, .long w0_68)]) (st2 := [.int a, .ref 52]) (M2 := uL (uL M175 54 (ix 18) w0_33) 55 (ix 18) w0_68) rfl ⟨trivial, trivial, trivial⟩ ?_
          refine V.callV (as := [.int a]) (rest := []) F (by decide +kernel) lX7_137 bX7_restOf ⟨7, _, ((q.sm (SK.pL (SK.pL s175 rfl (by decide)) rfl (by decide)).1).o 52 7 rfl), rfl, rfl⟩ (c_X7_restOf G X.2.1 (uL (uL M175 54 (ix 18) w0_33) 55 (ix 18) w0_68) a (q.sm (SK.pL (SK.pL s175 rfl (by decide)) rfl (by decide)).1) (SK.pL (SK.pL s175 rfl (by decide)) rfl (by decide)).2.1 (by first | assumption | exact vinc (by decide))) (rm_ok hRm hd (by decide) (by decide)) ⟨Nat.zero_le _, Nat.zero_le _⟩ (Nat.le_of_ble_eq_true rfl) (fun r_ N_ p_ => ?_)
          obtain ⟨rfl, hN_⟩ := p_
          rw [hN_]
          clear hN_
          refine V.seg F floX7 cjoX7 [.lload 9] (by decide +kernel) (pc2 := 225) (lv2 := [(9, .long x218), (8, .int w0_175), (0, .ref 52), (1, .int a), (2, .int b), (3, .int s), (4, .long w0_33), (6, .long w0_68)]) (st2 := [.long x218, .long (f_X7_restOf (uL (uL M175 54 (ix 18) w0_33) 55 (ix 18) w0_68) a)]) (M2 := uL (uL M175 54 (ix 18) w0_33) 55 (ix 18) w0_68) rfl ⟨trivial, trivial⟩ ?_
          refine V.callS (as := [.long (f_X7_restOf (uL (uL M175 54 (ix 18) w0_33) 55 (ix 18) w0_68) a), .long x218]) (rest := []) F (by decide +kernel) lX7_93 bX7_rem (c_X7_rem G X.2.1 (uL (uL M175 54 (ix 18) w0_33) 55 (ix 18) w0_68) (f_X7_restOf (uL (uL M175 54 (ix 18) w0_33) 55 (ix 18) w0_68) a) x218 nz_x218) (rm_ok hRm hd (by decide) (by decide)) ⟨Nat.zero_le _, Nat.zero_le _⟩ (Nat.le_of_ble_eq_true rfl) (fun r_ N_ p_ => ?_)
          obtain ⟨rfl, hN_⟩ := p_
          rw [hN_]
          clear hN_
          refine V.seg F floX7 cjoX7 [.lstore 11] (by decide +kernel) (pc2 := 230) (lv2 := [(11, .long (f_X7_rem (f_X7_restOf (uL (uL M175 54 (ix 18) w0_33) 55 (ix 18) w0_68) a) x218)), (9, .long x218), (8, .int w0_175), (0, .ref 52), (1, .int a), (2, .int b), (3, .int s), (4, .long w0_33), (6, .long w0_68)]) (st2 := []) (M2 := uL (uL M175 54 (ix 18) w0_33) 55 (ix 18) w0_68) rfl ⟨(by decide), trivial⟩ ?_
          refine (?_ : ∀ (x230 : Int64), f_X7_add M a b s = f_X7_add_c230 a b s w0_33 w0_68 M175 x218 x230 → V G X 15 0 0 (Qx G X 0 0 (p_X7_add M a b s)) 230 [(11, .long x230), (9, .long x218), (8, .int w0_175), (0, .ref 52), (1, .int a), (2, .int b), (3, .int s), (4, .long w0_33), (6, .long w0_68)] [] (uL (uL M175 54 (ix 18) w0_33) 55 (ix 18) w0_68)) _  E
          intro x230 E
          refine V.seg F floX7 cjoX7 [.aload_n 0, .iload_n 2] (by decide +kernel) (pc2 := 232) (lv2 := [(11, .long x230), (9, .long x218), (8, .int w0_175), (0, .ref 52), (1, .int a), (2, .int b), (3, .int s), (4, .long w0_33), (6, .long w0_68)]) (st2 := [.int b, .ref 52]) (M2 := uL (uL M175 54 (ix 18) w0_33) 55 (ix 18) w0_68) rfl ⟨trivial, trivial, trivial⟩ ?_
          refine V.callV (as := [.int b]) (rest := []) F (by decide +kernel) lX7_137 bX7_restOf ⟨7, _, ((q.sm (SK.pL (SK.pL s175 rfl (by decide)) rfl (by decide)).1).o 52 7 rfl), rfl, rfl⟩ (c_X7_restOf G X.2.1 (uL (uL M175 54 (ix 18) w0_33) 55 (ix 18) w0_68) b (q.sm (SK.pL (SK.pL s175 rfl (by decide)) rfl (by decide)).1) (SK.pL (SK.pL s175 rfl (by decide)) rfl (by decide)).2.1 (by first | assumption | exact vinc (by decide))) (rm_ok hRm hd (by decide) (by decide)) ⟨Nat.zero_le _, Nat.zero_le _⟩ (Nat.le_of_ble_eq_true rfl) (fun r_ N_ p_ => ?_)
          obtain ⟨rfl, hN_⟩ := p_
          rw [hN_]
          clear hN_
          refine V.seg F floX7 cjoX7 [.lload 9] (by decide +kernel) (pc2 := 237) (lv2 := [(11, .long x230), (9, .long x218), (8, .int w0_175), (0, .ref 52), (1, .int a), (2, .int b), (3, .int s), (4, .long w0_33), (6, .long w0_68)]) (st2 := [.long x218, .long (f_X7_restOf (uL (uL M175 54 (ix 18) w0_33) 55 (ix 18) w0_68) b)]) (M2 := uL (uL M175 54 (ix 18) w0_33) 55 (ix 18) w0_68) rfl ⟨trivial, trivial⟩ ?_
          refine V.callS (as := [.long (f_X7_restOf (uL (uL M175 54 (ix 18) w0_33) 55 (ix 18) w0_68) b), .long x218]) (rest := []) F (by decide +kernel) lX7_93 bX7_rem (c_X7_rem G X.2.1 (uL (uL M175 54 (ix 18) w0_33) 55 (ix 18) w0_68) (f_X7_restOf (uL (uL M175 54 (ix 18) w0_33) 55 (ix 18) w0_68) b) x218 nz_x218) (rm_ok hRm hd (by decide) (by decide)) ⟨Nat.zero_le _, Nat.zero_le _⟩ (Nat.le_of_ble_eq_true rfl) (fun r_ N_ p_ => ?_)
          obtain ⟨rfl, hN_⟩ := p_
          rw [hN_]
          clear hN_
          refine V.seg F floX7 cjoX7 [.lstore 13] (by decide +kernel) (pc2 := 242) (lv2 := [(13, .long (f_X7_rem (f_X7_restOf (uL (uL M175 54 (ix 18) w0_33) 55 (ix 18) w0_68) b) x218)), (11, .long x230), (9, .long x218), (8, .int w0_175), (0, .ref 52), (1, .int a), (2, .int b), (3, .int s), (4, .long w0_33), (6, .long w0_68)]) (st2 := []) (M2 := uL (uL M175 54 (ix 18) w0_33) 55 (ix 18) w0_68) rfl ⟨(by decide), trivial⟩ ?_
          refine (?_ : ∀ (x242 : Int64), f_X7_add M a b s = f_X7_add_c242 a b s w0_33 w0_68 M175 x218 x230 x242 → V G X 15 0 0 (Qx G X 0 0 (p_X7_add M a b s)) 242 [(13, .long x242), (11, .long x230), (9, .long x218), (8, .int w0_175), (0, .ref 52), (1, .int a), (2, .int b), (3, .int s), (4, .long w0_33), (6, .long w0_68)] [] (uL (uL M175 54 (ix 18) w0_33) 55 (ix 18) w0_68)) _  E
          intro x242 E
          refine V.seg F floX7 cjoX7 [.aload_n 0, .bipush 18, .lload 9, .iload_n 3] (by decide +kernel) (pc2 := 248) (lv2 := [(13, .long x242), (11, .long x230), (9, .long x218), (8, .int w0_175), (0, .ref 52), (1, .int a), (2, .int b), (3, .int s), (4, .long w0_33), (6, .long w0_68)]) (st2 := [.int s, .long x218, .int 18, .ref 52]) (M2 := uL (uL M175 54 (ix 18) w0_33) 55 (ix 18) w0_68) rfl ⟨trivial, trivial, trivial, trivial, trivial⟩ ?_
          have hJ264 : ∀ (w0_264 : Int64) (M264 : Mem), (SK wg M M264) → f_X7_add M a b s = f_X7_add_264 a b s x218 w0_264 M264 → V G X 15 0 0 (Qx G X 0 0 (p_X7_add M a b s)) 264 [(0, .ref 52), (1, .int a), (2, .int b), (3, .int s)] [.long w0_264, .long x218, .int 18, .ref 52] M264 := by
            intro w0_264 M264 s264 E
            refine V.callV (as := [.int 18, .long x218, .long w0_264]) (rest := []) F (by decide +kernel) lX7_161 bX7_setRest ⟨7, _, ((q.sm s264.1).o 52 7 rfl), rfl, rfl⟩ (c_X7_setRest G X.2.1 M264 18 x218 w0_264 (q.sm s264.1) s264.2.1 (vinc (by decide)) nz_x218) (rm_ok hRm hd (by decide) (by decide)) ⟨Nat.zero_le _, Nat.zero_le _⟩ (Nat.le_of_ble_eq_true rfl) (fun r_ N_ p_ => ?_)
            obtain ⟨rfl, rfl, t264⟩ := p_
            refine (?_ : ∀ (M267 : Mem), (SK wg M M267) → f_X7_add M a b s = f_X7_add_c267 a b s M267 → V G X 15 0 0 (Qx G X 0 0 (p_X7_add M a b s)) 267 [(0, .ref 52), (1, .int a), (2, .int b), (3, .int s)] [] M267) _ (SK.tr s264 t264) E
            intro M267 s267 E
            refine V.pick [0, 1, 2, 3] rfl ?_
            exact hJ267 M267 s267 E
          refine V.if_eq (off := 11) F (by decide +kernel) (tgt := 259) (by decide) (fun h248 => ?_) (fun h248 => ?_)
          · replace E := E.trans (if_pos h248)
            refine V.seg F floX7 cjoX7 [.lload 11, .lload 13, .ladd] (by decide +kernel) (pc2 := 264) (lv2 := [(13, .long x242), (11, .long x230), (9, .long x218), (8, .int w0_175), (0, .ref 52), (1, .int a), (2, .int b), (3, .int s), (4, .long w0_33), (6, .long w0_68)]) (st2 := [.long (x230 + x242), .long x218, .int 18, .ref 52]) (M2 := uL (uL M175 54 (ix 18) w0_33) 55 (ix 18) w0_68) rfl ⟨trivial, trivial, trivial, trivial⟩ ?_
            refine V.pick [4, 5, 6, 7] rfl ?_
            exact hJ264 (x230 + x242) (uL (uL M175 54 (ix 18) w0_33) 55 (ix 18) w0_68) (SK.pL (SK.pL s175 rfl (by decide)) rfl (by decide)) E
          · replace E := E.trans (if_neg h248)
            refine V.seg F floX7 cjoX7 [.lload 11, .lload 13, .lsub, .goto 8] (by decide +kernel) (pc2 := 264) (lv2 := [(13, .long x242), (11, .long x230), (9, .long x218), (8, .int w0_175), (0, .ref 52), (1, .int a), (2, .int b), (3, .int s), (4, .long w0_33), (6, .long w0_68)]) (st2 := [.long (x230 - x242), .long x218, .int 18, .ref 52]) (M2 := uL (uL M175 54 (ix 18) w0_33) 55 (ix 18) w0_68) rfl ⟨trivial, trivial, trivial, (by decide), trivial⟩ ?_
            refine V.pick [4, 5, 6, 7] rfl ?_
            exact hJ264 (x230 - x242) (uL (uL M175 54 (ix 18) w0_33) 55 (ix 18) w0_68) (SK.pL (SK.pL s175 rfl (by decide)) rfl (by decide)) E
      refine V.if_eq (off := 59) F (by decide +kernel) (tgt := 130) (by decide) (fun h71 => ?_) (fun h71 => ?_)
      · replace E := E.trans (if_pos h71)
        refine V.seg F floX7 cjoX7 [.aload_n 0, .getfield 13, .iload_n 1, .laload, .aload_n 0, .getfield 13, .iload_n 2, .laload, .lload 4] (by decide +kernel) (pc2 := 144) (lv2 := [(6, .long w0_68), (0, .ref 52), (1, .int a), (2, .int b), (3, .int s), (4, .long w0_33)]) (st2 := [.long w0_33, .long (mL M68 54 (ix b)), .long (mL M68 54 (ix a))]) (M2 := M68) rfl ⟨trivial, ((q.sm s68.1).f 52 7 1 rfl), trivial, ((q.sm s68.1).a 54 22 1648 rfl (by first | assumption | exact vinc (by decide))), trivial, ((q.sm s68.1).f 52 7 1 rfl), trivial, ((q.sm s68.1).a 54 22 1648 rfl (by first | assumption | exact vinc (by decide))), trivial, trivial⟩ ?_
        refine V.callS (as := [.long (mL M68 54 (ix a)), .long (mL M68 54 (ix b)), .long w0_33]) (rest := []) F (by decide +kernel) lX7_213 bX7_isOver (c_X7_isOver G X.2.1 M68 (mL M68 54 (ix a)) (mL M68 54 (ix b)) w0_33) (rm_ok hRm hd (by decide) (by decide)) ⟨Nat.zero_le _, Nat.zero_le _⟩ (Nat.le_of_ble_eq_true rfl) (fun r_ N_ p_ => ?_)
        obtain ⟨rfl, hN_, z144⟩ := p_
        rw [hN_]
        clear hN_
        have hJ170 : ∀ (M170 : Mem), (SK wg M M170) → f_X7_add M a b s = f_X7_add_170 a b s w0_33 w0_68 M170 → V G X 15 0 0 (Qx G X 0 0 (p_X7_add M a b s)) 170 [(0, .ref 52), (1, .int a), (2, .int b), (3, .int s), (4, .long w0_33), (6, .long w0_68)] [] M170 := by
          intro M170 s170 E
          refine V.seg F floX7 cjoX7 [.iconst 1, .goto 4] (by decide +kernel) (pc2 := 175) (lv2 := [(0, .ref 52), (1, .int a), (2, .int b), (3, .int s), (4, .long w0_33), (6, .long w0_68)]) (st2 := [.int 1]) (M2 := M170) rfl ⟨trivial, (by decide), trivial⟩ ?_
          refine V.pick [0, 1, 2, 3, 4, 5] rfl ?_
          exact hJ175 1 M170 s170 E
        refine V.if_ne (off := 23) F (by decide +kernel) (tgt := 170) (by decide) (fun h147 => ?_) (fun h147 => ?_)
        · replace E := E.trans (if_neg h147)
          refine V.pick [1, 2, 3, 4, 5, 0] rfl ?_
          exact hJ170 M68 s68 E
        · replace E := E.trans (if_pos h147)
          refine V.seg F floX7 cjoX7 [.aload_n 0, .getfield 17, .iload_n 1, .laload, .aload_n 0, .getfield 17, .iload_n 2, .laload, .lload 6] (by decide +kernel) (pc2 := 164) (lv2 := [(6, .long w0_68), (0, .ref 52), (1, .int a), (2, .int b), (3, .int s), (4, .long w0_33)]) (st2 := [.long w0_68, .long (mL M68 55 (ix b)), .long (mL M68 55 (ix a))]) (M2 := M68) rfl ⟨trivial, ((q.sm s68.1).f 52 7 2 rfl), trivial, ((q.sm s68.1).a 55 22 1648 rfl (by first | assumption | exact vinc (by decide))), trivial, ((q.sm s68.1).f 52 7 2 rfl), trivial, ((q.sm s68.1).a 55 22 1648 rfl (by first | assumption | exact vinc (by decide))), trivial, trivial⟩ ?_
          refine V.callS (as := [.long (mL M68 55 (ix a)), .long (mL M68 55 (ix b)), .long w0_68]) (rest := []) F (by decide +kernel) lX7_213 bX7_isOver (c_X7_isOver G X.2.1 M68 (mL M68 55 (ix a)) (mL M68 55 (ix b)) w0_68) (rm_ok hRm hd (by decide) (by decide)) ⟨Nat.zero_le _, Nat.zero_le _⟩ (Nat.le_of_ble_eq_true rfl) (fun r_ N_ p_ => ?_)
          obtain ⟨rfl, hN_, z164⟩ := p_
          rw [hN_]
          clear hN_
          refine V.if_eq (off := 7) F (by decide +kernel) (tgt := 174) (by decide) (fun h167 => ?_) (fun h167 => ?_)
          · replace E := E.trans (if_pos h167)
            refine V.seg F floX7 cjoX7 [.iconst 0] (by decide +kernel) (pc2 := 175) (lv2 := [(6, .long w0_68), (0, .ref 52), (1, .int a), (2, .int b), (3, .int s), (4, .long w0_33)]) (st2 := [.int 0]) (M2 := M68) rfl ⟨trivial, trivial⟩ ?_
            refine V.pick [1, 2, 3, 4, 5, 0] rfl ?_
            exact hJ175 0 M68 s68 E
          · replace E := E.trans (if_neg h167)
            refine V.pick [1, 2, 3, 4, 5, 0] rfl ?_
            exact hJ170 M68 s68 E
      · replace E := E.trans (if_neg h71)
        refine V.seg F floX7 cjoX7 [.aload_n 0, .getfield 13, .iload_n 1, .laload, .aload_n 0, .getfield 17, .iload_n 2, .laload, .ldc2_w 87, .lxor, .lload 4] (by decide +kernel) (pc2 := 92) (lv2 := [(6, .long w0_68), (0, .ref 52), (1, .int a), (2, .int b), (3, .int s), (4, .long w0_33)]) (st2 := [.long w0_33, .long ((mL M68 55 (ix b)) ^^^ ((-1))), .long (mL M68 54 (ix a))]) (M2 := M68) rfl ⟨trivial, ((q.sm s68.1).f 52 7 1 rfl), trivial, ((q.sm s68.1).a 54 22 1648 rfl (by first | assumption | exact vinc (by decide))), trivial, ((q.sm s68.1).f 52 7 2 rfl), trivial, ((q.sm s68.1).a 55 22 1648 rfl (by first | assumption | exact vinc (by decide))), trivial, trivial, trivial, trivial⟩ ?_
        refine V.callS (as := [.long (mL M68 54 (ix a)), .long ((mL M68 55 (ix b)) ^^^ ((-1))), .long w0_33]) (rest := []) F (by decide +kernel) lX7_213 bX7_isOver (c_X7_isOver G X.2.1 M68 (mL M68 54 (ix a)) ((mL M68 55 (ix b)) ^^^ ((-1))) w0_33) (rm_ok hRm hd (by decide) (by decide)) ⟨Nat.zero_le _, Nat.zero_le _⟩ (Nat.le_of_ble_eq_true rfl) (fun r_ N_ p_ => ?_)
        obtain ⟨rfl, hN_, z92⟩ := p_
        rw [hN_]
        clear hN_
        have hJ122 : ∀ (M122 : Mem), (SK wg M M122) → f_X7_add M a b s = f_X7_add_122 a b s w0_33 w0_68 M122 → V G X 15 0 0 (Qx G X 0 0 (p_X7_add M a b s)) 122 [(0, .ref 52), (1, .int a), (2, .int b), (3, .int s), (4, .long w0_33), (6, .long w0_68)] [] M122 := by
          intro M122 s122 E
          refine V.seg F floX7 cjoX7 [.iconst 1, .goto 52] (by decide +kernel) (pc2 := 175) (lv2 := [(0, .ref 52), (1, .int a), (2, .int b), (3, .int s), (4, .long w0_33), (6, .long w0_68)]) (st2 := [.int 1]) (M2 := M122) rfl ⟨trivial, (by decide), trivial⟩ ?_
          refine V.pick [0, 1, 2, 3, 4, 5] rfl ?_
          exact hJ175 1 M122 s122 E
        refine V.if_ne (off := 27) F (by decide +kernel) (tgt := 122) (by decide) (fun h95 => ?_) (fun h95 => ?_)
        · replace E := E.trans (if_neg h95)
          refine V.pick [1, 2, 3, 4, 5, 0] rfl ?_
          exact hJ122 M68 s68 E
        · replace E := E.trans (if_pos h95)
          refine V.seg F floX7 cjoX7 [.aload_n 0, .getfield 17, .iload_n 1, .laload, .aload_n 0, .getfield 13, .iload_n 2, .laload, .ldc2_w 87, .lxor, .lload 6] (by decide +kernel) (pc2 := 116) (lv2 := [(6, .long w0_68), (0, .ref 52), (1, .int a), (2, .int b), (3, .int s), (4, .long w0_33)]) (st2 := [.long w0_68, .long ((mL M68 54 (ix b)) ^^^ ((-1))), .long (mL M68 55 (ix a))]) (M2 := M68) rfl ⟨trivial, ((q.sm s68.1).f 52 7 2 rfl), trivial, ((q.sm s68.1).a 55 22 1648 rfl (by first | assumption | exact vinc (by decide))), trivial, ((q.sm s68.1).f 52 7 1 rfl), trivial, ((q.sm s68.1).a 54 22 1648 rfl (by first | assumption | exact vinc (by decide))), trivial, trivial, trivial, trivial⟩ ?_
          refine V.callS (as := [.long (mL M68 55 (ix a)), .long ((mL M68 54 (ix b)) ^^^ ((-1))), .long w0_68]) (rest := []) F (by decide +kernel) lX7_213 bX7_isOver (c_X7_isOver G X.2.1 M68 (mL M68 55 (ix a)) ((mL M68 54 (ix b)) ^^^ ((-1))) w0_68) (rm_ok hRm hd (by decide) (by decide)) ⟨Nat.zero_le _, Nat.zero_le _⟩ (Nat.le_of_ble_eq_true rfl) (fun r_ N_ p_ => ?_)
          obtain ⟨rfl, hN_, z116⟩ := p_
          rw [hN_]
          clear hN_
          refine V.if_eq (off := 7) F (by decide +kernel) (tgt := 126) (by decide) (fun h119 => ?_) (fun h119 => ?_)
          · replace E := E.trans (if_pos h119)
            refine V.seg F floX7 cjoX7 [.iconst 0, .goto 48] (by decide +kernel) (pc2 := 175) (lv2 := [(6, .long w0_68), (0, .ref 52), (1, .int a), (2, .int b), (3, .int s), (4, .long w0_33)]) (st2 := [.int 0]) (M2 := M68) rfl ⟨trivial, (by decide), trivial⟩ ?_
            refine V.pick [1, 2, 3, 4, 5, 0] rfl ?_
            exact hJ175 0 M68 s68 E
          · replace E := E.trans (if_neg h119)
            refine V.pick [1, 2, 3, 4, 5, 0] rfl ?_
            exact hJ122 M68 s68 E
    refine V.if_eq (off := 19) F (by decide +kernel) (tgt := 55) (by decide) (fun h36 => ?_) (fun h36 => ?_)
    · replace E := E.trans (if_pos h36)
      refine V.seg F floX7 cjoX7 [.aload_n 0, .getfield 17, .iload_n 1, .laload, .aload_n 0, .getfield 17, .iload_n 2, .laload, .ladd] (by decide +kernel) (pc2 := 68) (lv2 := [(4, .long w0_33), (0, .ref 52), (1, .int a), (2, .int b), (3, .int s)]) (st2 := [.long ((mL M33 55 (ix a)) + (mL M33 55 (ix b)))]) (M2 := M33) rfl ⟨trivial, ((q.sm s33.1).f 52 7 2 rfl), trivial, ((q.sm s33.1).a 55 22 1648 rfl (by first | assumption | exact vinc (by decide))), trivial, ((q.sm s33.1).f 52 7 2 rfl), trivial, ((q.sm s33.1).a 55 22 1648 rfl (by first | assumption | exact vinc (by decide))), trivial, trivial⟩ ?_
      refine V.pick [1, 2, 3, 4, 0] rfl ?_
      exact hJ68 ((mL M33 55 (ix a)) + (mL M33 55 (ix b))) M33 s33 E
    · replace E := E.trans (if_neg h36)
      refine V.seg F floX7 cjoX7 [.aload_n 0, .getfield 17, .iload_n 1, .laload, .aload_n 0, .getfield 13, .iload_n 2, .laload, .lsub, .goto 16] (by decide +kernel) (pc2 := 68) (lv2 := [(4, .long w0_33), (0, .ref 52), (1, .int a), (2, .int b), (3, .int s)]) (st2 := [.long ((mL M33 55 (ix a)) - (mL M33 54 (ix b)))]) (M2 := M33) rfl ⟨trivial, ((q.sm s33.1).f 52 7 2 rfl), trivial, ((q.sm s33.1).a 55 22 1648 rfl (by first | assumption | exact vinc (by decide))), trivial, ((q.sm s33.1).f 52 7 1 rfl), trivial, ((q.sm s33.1).a 54 22 1648 rfl (by first | assumption | exact vinc (by decide))), trivial, (by decide), trivial⟩ ?_
      refine V.pick [1, 2, 3, 4, 0] rfl ?_
      exact hJ68 ((mL M33 55 (ix a)) - (mL M33 54 (ix b))) M33 s33 E
  refine V.if_eq (off := 19) F (by decide +kernel) (tgt := 20) (by decide) (fun h1 => ?_) (fun h1 => ?_)
  · replace E := E.trans (if_pos h1)
    refine V.seg F floX7 cjoX7 [.aload_n 0, .getfield 13, .iload_n 1, .laload, .aload_n 0, .getfield 13, .iload_n 2, .laload, .ladd] (by decide +kernel) (pc2 := 33) (lv2 := [(0, .ref 52), (1, .int a), (2, .int b), (3, .int s)]) (st2 := [.long ((mL M 54 (ix a)) + (mL M 54 (ix b)))]) (M2 := M) rfl ⟨trivial, (q.f 52 7 1 rfl), trivial, (q.a 54 22 1648 rfl (by first | assumption | exact vinc (by decide))), trivial, (q.f 52 7 1 rfl), trivial, (q.a 54 22 1648 rfl (by first | assumption | exact vinc (by decide))), trivial, trivial⟩ ?_
    refine V.pick [0, 1, 2, 3] rfl ?_
    exact hJ33 ((mL M 54 (ix a)) + (mL M 54 (ix b))) M (SK.rf (w := wg) gb) E
  · replace E := E.trans (if_neg h1)
    refine V.seg F floX7 cjoX7 [.aload_n 0, .getfield 13, .iload_n 1, .laload, .aload_n 0, .getfield 17, .iload_n 2, .laload, .lsub, .goto 16] (by decide +kernel) (pc2 := 33) (lv2 := [(0, .ref 52), (1, .int a), (2, .int b), (3, .int s)]) (st2 := [.long ((mL M 54 (ix a)) - (mL M 55 (ix b)))]) (M2 := M) rfl ⟨trivial, (q.f 52 7 1 rfl), trivial, (q.a 54 22 1648 rfl (by first | assumption | exact vinc (by decide))), trivial, (q.f 52 7 2 rfl), trivial, (q.a 55 22 1648 rfl (by first | assumption | exact vinc (by decide))), trivial, (by decide), trivial⟩ ?_
    refine V.pick [0, 1, 2, 3] rfl ?_
    exact hJ33 ((mL M 54 (ix a)) - (mL M 55 (ix b))) M (SK.rf (w := wg) gb) E
def f_X7_oddProduct_131  (w0_131 : Int64) : Int64 := w0_131
def f_X7_oddProduct_94 (w0_71 : Int64) : Nat → Int64 → Int64
  | 0, _ => 0
  | n_ + 1, y5_94 => if (y5_94 &&& 1) = 0 then (f_X7_oddProduct_94 w0_71 n_) (jushr y5_94 1) else if y5_94 ≤ (2147483647 / w0_71) then f_X7_oddProduct_131 (y5_94 * w0_71) else f_X7_oddProduct_131 1
def f_X7_oddProduct_92 (w0_71 : Int64) (w0_92 : Int64) : Int64 := f_X7_oddProduct_94 w0_71 64 w0_92
def f_X7_oddProduct_71 (w0_44 : Int64) (w0_71 : Int64) : Int64 := if w0_44 = 0 then 1 else if 0 ≤ w0_44 then f_X7_oddProduct_92 w0_71 w0_44 else f_X7_oddProduct_92 w0_71 (-w0_44)
def f_X7_oddProduct_44 (M : Mem) (w0_44 : Int64) : Int64 := if (f_X7_isNumber M 16) = 0 then f_X7_oddProduct_71 w0_44 (mL M 58 (ix 16)) else f_X7_oddProduct_71 w0_44 (mL M 58 (ix 17))
def f_X7_oddProduct_18 (M : Mem)  : Int64 := if (f_X7_isNumber M 16) = 0 then f_X7_oddProduct_44 M (mL M 54 (ix 17)) else f_X7_oddProduct_44 M (mL M 54 (ix 16))
def f_X7_oddProduct_c166 (M : Mem) (x166 : Int64) : Int64 := f_X7_odd (f_X7_common x166 ((mL M 58 (ix 17)) * (mL M 59 (ix 16))))
def f_X7_oddProduct (M : Mem) : Int64 := if (f_X7_isNumber M 16) = 0 then if (f_X7_isNumber M 17) = 0 then f_X7_oddProduct_c166 M (f_X7_common ((mL M 58 (ix 16)) * (mL M 58 (ix 17))) ((mL M 58 (ix 16)) * (mL M 59 (ix 17)))) else f_X7_oddProduct_18 M else f_X7_oddProduct_18 M
abbrev p_X7_oddProduct (M : Mem) : Option Value → Mem → Prop := fun r N => r = some (.long (f_X7_oddProduct M)) ∧ N = M
set_option maxRecDepth 100000 in
set_option maxHeartbeats 4000000 in
theorem c_X7_oddProduct (G : Ctx) (l : Launch) (M : Mem) (q : Ok M) (gb : Gb M) : CT G l 2 mX7_oddProduct [.ref 52] M 0 0 (p_X7_oddProduct M) := by
  refine CT.of (by decide) (Nat.le_of_ble_eq_true rfl) ?_
  intro X d hd hl hRm hnm F
  subst hl
  have E : f_X7_oddProduct M = f_X7_oddProduct M := rfl
  show V G X 7 0 0 (Qx G X 0 0 (p_X7_oddProduct M)) 0 [(0, .ref 52)] [] M
  refine V.seg F floX7 cjoX7 [.aload_n 0, .bipush 16] (by decide +kernel) (pc2 := 3) (lv2 := [(0, .ref 52)]) (st2 := [.int 16, .ref 52]) (M2 := M) rfl ⟨trivial, trivial, trivial⟩ ?_
  refine V.callV (as := [.int 16]) (rest := []) F (by decide +kernel) lX7_130 bX7_isNumber ⟨7, _, (q.o 52 7 rfl), rfl, rfl⟩ (c_X7_isNumber G X.2.1 M 16 q gb (vinc (by decide))) (rm_ok hRm hd (by decide) (by decide)) ⟨Nat.zero_le _, Nat.zero_le _⟩ (Nat.le_of_ble_eq_true rfl) (fun r_ N_ p_ => ?_)
  obtain ⟨rfl, hN_, z3⟩ := p_
  rw [hN_]
  clear hN_
  have hJ18 : f_X7_oddProduct M = f_X7_oddProduct_18 M → V G X 7 0 0 (Qx G X 0 0 (p_X7_oddProduct M)) 18 [(0, .ref 52)] [] M := by
    intro E
    refine V.seg F floX7 cjoX7 [.aload_n 0, .bipush 16] (by decide +kernel) (pc2 := 21) (lv2 := [(0, .ref 52)]) (st2 := [.int 16, .ref 52]) (M2 := M) rfl ⟨trivial, trivial, trivial⟩ ?_
    refine V.callV (as := [.int 16]) (rest := []) F (by decide +kernel) lX7_130 bX7_isNumber ⟨7, _, (q.o 52 7 rfl), rfl, rfl⟩ (c_X7_isNumber G X.2.1 M 16 q gb (vinc (by decide))) (rm_ok hRm hd (by decide) (by decide)) ⟨Nat.zero_le _, Nat.zero_le _⟩ (Nat.le_of_ble_eq_true rfl) (fun r_ N_ p_ => ?_)
    obtain ⟨rfl, hN_, z21⟩ := p_
    rw [hN_]
    clear hN_
    have hJ44 : ∀ (w0_44 : Int64), f_X7_oddProduct M = f_X7_oddProduct_44 M w0_44 → V G X 7 0 0 (Qx G X 0 0 (p_X7_oddProduct M)) 44 [(0, .ref 52)] [.long w0_44] M := by
      intro w0_44 E
      refine V.seg F floX7 cjoX7 [.lstore_n 1, .aload_n 0, .bipush 16] (by decide +kernel) (pc2 := 48) (lv2 := [(1, .long w0_44), (0, .ref 52)]) (st2 := [.int 16, .ref 52]) (M2 := M) rfl ⟨(by decide), trivial, trivial, trivial⟩ ?_
      refine V.callV (as := [.int 16]) (rest := []) F (by decide +kernel) lX7_130 bX7_isNumber ⟨7, _, (q.o 52 7 rfl), rfl, rfl⟩ (c_X7_isNumber G X.2.1 M 16 q gb (vinc (by decide))) (rm_ok hRm hd (by decide) (by decide)) ⟨Nat.zero_le _, Nat.zero_le _⟩ (Nat.le_of_ble_eq_true rfl) (fun r_ N_ p_ => ?_)
      obtain ⟨rfl, hN_, z48⟩ := p_
      rw [hN_]
      clear hN_
      have hJ71 : ∀ (w0_71 : Int64), (¬ w0_71 = 0) → f_X7_oddProduct M = f_X7_oddProduct_71 w0_44 w0_71 → V G X 7 0 0 (Qx G X 0 0 (p_X7_oddProduct M)) 71 [(1, .long w0_44)] [.long w0_71] M := by
        intro w0_71 jn71 E
        refine V.seg F floX7 cjoX7 [.lstore_n 3, .lload_n 1, .lconst 0, .lcmp] (by decide +kernel) (pc2 := 75) (lv2 := [(3, .long w0_71), (1, .long w0_44)]) (st2 := [.int (lg_cmp w0_44 0)]) (M2 := M) rfl ⟨(by decide), trivial, trivial, trivial, trivial⟩ ?_
        refine V.lc_ne (off := 5) F (by decide +kernel) (tgt := 80) (by decide) (fun h75 => ?_) (fun h75 => ?_)
        · replace E := E.trans (if_neg h75)
          refine V.seg F floX7 cjoX7 [.lload_n 1, .lconst 0, .lcmp] (by decide +kernel) (pc2 := 83) (lv2 := [(3, .long w0_71), (1, .long w0_44)]) (st2 := [.int (lg_cmp w0_44 0)]) (M2 := M) rfl ⟨trivial, trivial, trivial, trivial⟩ ?_
          have hJ92 : ∀ (w0_92 : Int64), (¬ w0_92 = 0) → f_X7_oddProduct M = f_X7_oddProduct_92 w0_71 w0_92 → V G X 7 0 0 (Qx G X 0 0 (p_X7_oddProduct M)) 92 [(3, .long w0_71)] [.long w0_92] M := by
            intro w0_92 jz92 E
            refine V.seg F floX7 cjoX7 [.lstore 5] (by decide +kernel) (pc2 := 94) (lv2 := [(5, .long w0_92), (3, .long w0_71)]) (st2 := []) (M2 := M) rfl ⟨(by decide), trivial⟩ ?_
            have hJ94 : ∀ (n_ : Nat) (y5_94 : Int64), (¬ y5_94 = 0) → (uN y5_94 < 2 ^ n_) → f_X7_oddProduct M = f_X7_oddProduct_94 w0_71 n_ y5_94 → V G X 7 0 0 (Qx G X 0 0 (p_X7_oddProduct M)) 94 [(3, .long w0_71), (5, .long y5_94)] [] M := by
              intro n_
              induction n_ with
              | zero => intro y5_94 z94 m94 E; exact absurd (uN_0.mpr (Nat.lt_one_iff.mp m94)) z94
              | succ n_ ih_94 =>
                intro y5_94 z94 m94 E
                rw [f_X7_oddProduct_94] at E
                refine V.seg F floX7 cjoX7 [.lload 5, .lconst 1, .land, .lconst 0, .lcmp] (by decide +kernel) (pc2 := 100) (lv2 := [(3, .long w0_71), (5, .long y5_94)]) (st2 := [.int (lg_cmp (y5_94 &&& 1) 0)]) (M2 := M) rfl ⟨trivial, trivial, trivial, trivial, trivial, trivial⟩ ?_
                refine V.lc_ne (off := 12) F (by decide +kernel) (tgt := 112) (by decide) (fun h100 => ?_) (fun h100 => ?_)
                · replace E := E.trans (if_neg h100)
                  refine V.seg F floX7 cjoX7 [.lload 5, .ldc2_w 125, .lload_n 3, .ldiv, .lcmp] (by decide +kernel) (pc2 := 120) (lv2 := [(3, .long w0_71), (5, .long y5_94)]) (st2 := [.int (lg_cmp y5_94 (2147483647 / w0_71))]) (M2 := M) rfl ⟨trivial, trivial, trivial, jn71, trivial, trivial⟩ ?_
                  have hJ131 : ∀ (w0_131 : Int64), f_X7_oddProduct M = f_X7_oddProduct_131 w0_131 → V G X 7 0 0 (Qx G X 0 0 (p_X7_oddProduct M)) 131 [] [.long w0_131] M := by
                    intro w0_131 E
                    exact V.lret F (by decide +kernel) ⟨congrArg (fun z => some (Value.long z)) E.symm, rfl⟩
                  refine V.lc_le (off := 7) F (by decide +kernel) (tgt := 127) (by decide) (fun h120 => ?_) (fun h120 => ?_)
                  · replace E := E.trans (if_pos h120)
                    refine V.seg F floX7 cjoX7 [.lload 5, .lload_n 3, .lmul] (by decide +kernel) (pc2 := 131) (lv2 := [(3, .long w0_71), (5, .long y5_94)]) (st2 := [.long (y5_94 * w0_71)]) (M2 := M) rfl ⟨trivial, trivial, trivial, trivial⟩ ?_
                    refine V.pick [] rfl ?_
                    exact hJ131 (y5_94 * w0_71)  E
                  · replace E := E.trans (if_neg h120)
                    refine V.seg F floX7 cjoX7 [.lconst 1, .goto 7] (by decide +kernel) (pc2 := 131) (lv2 := [(3, .long w0_71), (5, .long y5_94)]) (st2 := [.long 1]) (M2 := M) rfl ⟨trivial, (by decide), trivial⟩ ?_
                    refine V.pick [] rfl ?_
                    exact hJ131 1  E
                · replace E := E.trans (if_pos h100)
                  refine V.seg F floX7 cjoX7 [.lload 5, .iconst 1, .lushr, .lstore 5, .goto (-15)] (by decide +kernel) (pc2 := 94) (lv2 := [(5, .long (jushr y5_94 1)), (3, .long w0_71)]) (st2 := []) (M2 := M) rfl ⟨trivial, trivial, trivial, (by decide), (by decide), trivial⟩ ?_
                  refine V.pick [1, 0] rfl ?_
                  exact ih_94 (jushr y5_94 1) (by exact odd_nz h100 z94) (by exact odd_lt m94) E
            refine V.pick [1, 0] rfl ?_
            exact hJ94 _ w0_92 (by exact jz92) (by exact uN_lt _) E
          refine V.lc_ge (off := 8) F (by decide +kernel) (tgt := 91) (by decide) (fun h83 => ?_) (fun h83 => ?_)
          · replace E := E.trans (if_pos h83)
            refine V.seg F floX7 cjoX7 [.lload_n 1] (by decide +kernel) (pc2 := 92) (lv2 := [(3, .long w0_71), (1, .long w0_44)]) (st2 := [.long w0_44]) (M2 := M) rfl ⟨trivial, trivial⟩ ?_
            refine V.pick [0] rfl ?_
            exact hJ92 w0_44 (by first | exact h75 | exact fun z => h75 (neg0 z)) E
          · replace E := E.trans (if_neg h83)
            refine V.seg F floX7 cjoX7 [.lload_n 1, .lneg, .goto 4] (by decide +kernel) (pc2 := 92) (lv2 := [(3, .long w0_71), (1, .long w0_44)]) (st2 := [.long (-w0_44)]) (M2 := M) rfl ⟨trivial, trivial, (by decide), trivial⟩ ?_
            refine V.pick [0] rfl ?_
            exact hJ92 (-w0_44) (by first | exact h75 | exact fun z => h75 (neg0 z)) E
        · replace E := E.trans (if_pos h75)
          refine V.seg F floX7 cjoX7 [.lconst 1] (by decide +kernel) (pc2 := 79) (lv2 := [(3, .long w0_71), (1, .long w0_44)]) (st2 := [.long 1]) (M2 := M) rfl ⟨trivial, trivial⟩ ?_
          exact V.lret F (by decide +kernel) ⟨congrArg (fun z => some (Value.long z)) E.symm, rfl⟩
      refine V.if_eq (off := 13) F (by decide +kernel) (tgt := 64) (by decide) (fun h51 => ?_) (fun h51 => ?_)
      · replace E := E.trans (if_pos h51)
        refine V.seg F floX7 cjoX7 [.aload_n 0, .getfield 26, .bipush 16, .laload] (by decide +kernel) (pc2 := 71) (lv2 := [(1, .long w0_44), (0, .ref 52)]) (st2 := [.long (mL M 58 (ix 16))]) (M2 := M) rfl ⟨trivial, (q.f 52 7 5 rfl), trivial, (q.a 58 22 1648 rfl (vinc (by decide))), trivial⟩ ?_
        refine V.pick [0] rfl ?_
        exact hJ71 (mL M 58 (ix 16)) (by exact gb _ (vin_lt (vinc (by decide)))) E
      · replace E := E.trans (if_neg h51)
        refine V.seg F floX7 cjoX7 [.aload_n 0, .getfield 26, .bipush 17, .laload, .goto 10] (by decide +kernel) (pc2 := 71) (lv2 := [(1, .long w0_44), (0, .ref 52)]) (st2 := [.long (mL M 58 (ix 17))]) (M2 := M) rfl ⟨trivial, (q.f 52 7 5 rfl), trivial, (q.a 58 22 1648 rfl (vinc (by decide))), (by decide), trivial⟩ ?_
        refine V.pick [0] rfl ?_
        exact hJ71 (mL M 58 (ix 17)) (by exact gb _ (vin_lt (vinc (by decide)))) E
    refine V.if_eq (off := 13) F (by decide +kernel) (tgt := 37) (by decide) (fun h24 => ?_) (fun h24 => ?_)
    · replace E := E.trans (if_pos h24)
      refine V.seg F floX7 cjoX7 [.aload_n 0, .getfield 13, .bipush 17, .laload] (by decide +kernel) (pc2 := 44) (lv2 := [(0, .ref 52)]) (st2 := [.long (mL M 54 (ix 17))]) (M2 := M) rfl ⟨trivial, (q.f 52 7 1 rfl), trivial, (q.a 54 22 1648 rfl (vinc (by decide))), trivial⟩ ?_
      refine V.pick [0] rfl ?_
      exact hJ44 (mL M 54 (ix 17))  E
    · replace E := E.trans (if_neg h24)
      refine V.seg F floX7 cjoX7 [.aload_n 0, .getfield 13, .bipush 16, .laload, .goto 10] (by decide +kernel) (pc2 := 44) (lv2 := [(0, .ref 52)]) (st2 := [.long (mL M 54 (ix 16))]) (M2 := M) rfl ⟨trivial, (q.f 52 7 1 rfl), trivial, (q.a 54 22 1648 rfl (vinc (by decide))), (by decide), trivial⟩ ?_
      refine V.pick [0] rfl ?_
      exact hJ44 (mL M 54 (ix 16))  E
  refine V.if_ne (off := 12) F (by decide +kernel) (tgt := 18) (by decide) (fun h6 => ?_) (fun h6 => ?_)
  · replace E := E.trans (if_neg h6)
    refine V.pick [0] rfl ?_
    exact hJ18   E
  · replace E := E.trans (if_pos h6)
    refine V.seg F floX7 cjoX7 [.aload_n 0, .bipush 17] (by decide +kernel) (pc2 := 12) (lv2 := [(0, .ref 52)]) (st2 := [.int 17, .ref 52]) (M2 := M) rfl ⟨trivial, trivial, trivial⟩ ?_
    refine V.callV (as := [.int 17]) (rest := []) F (by decide +kernel) lX7_130 bX7_isNumber ⟨7, _, (q.o 52 7 rfl), rfl, rfl⟩ (c_X7_isNumber G X.2.1 M 17 q gb (vinc (by decide))) (rm_ok hRm hd (by decide) (by decide)) ⟨Nat.zero_le _, Nat.zero_le _⟩ (Nat.le_of_ble_eq_true rfl) (fun r_ N_ p_ => ?_)
    obtain ⟨rfl, hN_, z12⟩ := p_
    rw [hN_]
    clear hN_
    refine V.if_eq (off := 117) F (by decide +kernel) (tgt := 132) (by decide) (fun h15 => ?_) (fun h15 => ?_)
    · replace E := E.trans (if_pos h15)
      refine V.seg F floX7 cjoX7 [.aload_n 0, .getfield 26, .bipush 16, .laload, .aload_n 0, .getfield 26, .bipush 17, .laload, .lmul, .aload_n 0, .getfield 26, .bipush 16, .laload, .aload_n 0, .getfield 29, .bipush 17, .laload, .lmul] (by decide +kernel) (pc2 := 162) (lv2 := [(0, .ref 52)]) (st2 := [.long ((mL M 58 (ix 16)) * (mL M 59 (ix 17))), .long ((mL M 58 (ix 16)) * (mL M 58 (ix 17)))]) (M2 := M) rfl ⟨trivial, (q.f 52 7 5 rfl), trivial, (q.a 58 22 1648 rfl (vinc (by decide))), trivial, (q.f 52 7 5 rfl), trivial, (q.a 58 22 1648 rfl (vinc (by decide))), trivial, trivial, (q.f 52 7 5 rfl), trivial, (q.a 58 22 1648 rfl (vinc (by decide))), trivial, (q.f 52 7 6 rfl), trivial, (q.a 59 22 1648 rfl (vinc (by decide))), trivial, trivial⟩ ?_
      refine V.callS (as := [.long ((mL M 58 (ix 16)) * (mL M 58 (ix 17))), .long ((mL M 58 (ix 16)) * (mL M 59 (ix 17)))]) (rest := []) F (by decide +kernel) lX7_144 bX7_common (c_X7_common G X.2.1 M ((mL M 58 (ix 16)) * (mL M 58 (ix 17))) ((mL M 58 (ix 16)) * (mL M 59 (ix 17)))) (rm_ok hRm hd (by decide) (by decide)) ⟨Nat.zero_le _, Nat.zero_le _⟩ (Nat.le_of_ble_eq_true rfl) (fun r_ N_ p_ => ?_)
      obtain ⟨rfl, hN_⟩ := p_
      rw [hN_]
      clear hN_
      refine V.seg F floX7 cjoX7 [.lstore_n 1] (by decide +kernel) (pc2 := 166) (lv2 := [(1, .long (f_X7_common ((mL M 58 (ix 16)) * (mL M 58 (ix 17))) ((mL M 58 (ix 16)) * (mL M 59 (ix 17))))), (0, .ref 52)]) (st2 := []) (M2 := M) rfl ⟨(by decide), trivial⟩ ?_
      refine (?_ : ∀ (x166 : Int64), f_X7_oddProduct M = f_X7_oddProduct_c166 M x166 → V G X 7 0 0 (Qx G X 0 0 (p_X7_oddProduct M)) 166 [(1, .long x166), (0, .ref 52)] [] M) _  E
      intro x166 E
      refine V.seg F floX7 cjoX7 [.lload_n 1, .aload_n 0, .getfield 26, .bipush 17, .laload, .aload_n 0, .getfield 29, .bipush 16, .laload, .lmul] (by decide +kernel) (pc2 := 182) (lv2 := [(1, .long x166), (0, .ref 52)]) (st2 := [.long ((mL M 58 (ix 17)) * (mL M 59 (ix 16))), .long x166]) (M2 := M) rfl ⟨trivial, trivial, (q.f 52 7 5 rfl), trivial, (q.a 58 22 1648 rfl (vinc (by decide))), trivial, (q.f 52 7 6 rfl), trivial, (q.a 59 22 1648 rfl (vinc (by decide))), trivial, trivial⟩ ?_
      refine V.callS (as := [.long x166, .long ((mL M 58 (ix 17)) * (mL M 59 (ix 16)))]) (rest := []) F (by decide +kernel) lX7_144 bX7_common (c_X7_common G X.2.1 M x166 ((mL M 58 (ix 17)) * (mL M 59 (ix 16)))) (rm_ok hRm hd (by decide) (by decide)) ⟨Nat.zero_le _, Nat.zero_le _⟩ (Nat.le_of_ble_eq_true rfl) (fun r_ N_ p_ => ?_)
      obtain ⟨rfl, hN_⟩ := p_
      rw [hN_]
      clear hN_
      refine V.callS (as := [.long (f_X7_common x166 ((mL M 58 (ix 17)) * (mL M 59 (ix 16))))]) (rest := []) F (by decide +kernel) lX7_147 bX7_odd (c_X7_odd G X.2.1 M (f_X7_common x166 ((mL M 58 (ix 17)) * (mL M 59 (ix 16))))) (rm_ok hRm hd (by decide) (by decide)) ⟨Nat.zero_le _, Nat.zero_le _⟩ (Nat.le_of_ble_eq_true rfl) (fun r_ N_ p_ => ?_)
      obtain ⟨rfl, hN_⟩ := p_
      rw [hN_]
      clear hN_
      exact V.lret F (by decide +kernel) ⟨congrArg (fun z => some (Value.long z)) E.symm, rfl⟩
    · replace E := E.trans (if_neg h15)
      refine V.pick [0] rfl ?_
      exact hJ18   E
