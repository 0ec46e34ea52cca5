theorem odd_ne0 (g : Int64) : ¬ f_X7_odd g = 0 := by
  have hl : ∀ (n : Nat) (v : Int64), ¬ v = 0 → uN v < 2 ^ n → ¬ f_X7_odd_10 n v = 0 := by
    intro n
    induction n with
    | zero => intro v hz h; exact absurd (uN_0.mpr (Nat.lt_one_iff.mp h)) hz
    | succ n ih =>
      intro v hz h
      rw [f_X7_odd_10]
      split
      · rename_i e; exact ih _ (odd_nz e hz) (odd_lt h)
      · split
        · show ¬ (1 : Int64) = 0; decide
        · split
          · exact hz
          · show ¬ (1 : Int64) = 0; decide
  unfold f_X7_odd
  split
  · decide
  · rename_i h; exact hl 64 g h (uN_lt g)
def f_X7_join_c37  (M37 : Mem) : Mem := M37
def f_X7_join_34 (t : Int32) (w0_34 : Int32) (M34 : Mem) : Mem := f_X7_join_c37 (f_X7_copy M34 t w0_34)
def f_X7_join_18 (a : Int32) (b : Int32) (t : Int32) (M18 : Mem) : Mem := if (mI M18 53 (ix a)) = 0 then f_X7_join_34 t a M18 else f_X7_join_34 t b M18
def f_X7_join_c242  (M242 : Mem) : Mem := M242
def f_X7_join_c237 (t : Int32) (M237 : Mem) : Mem := f_X7_join_c242 (f_X7_sharpen M237 t)
def f_X7_join_c228 (a : Int32) (t : Int32) (M77 : Mem) (x137 : Int64) (M228 : Mem) : Mem := f_X7_join_c237 t (f_X7_setRest M228 t x137 (f_X7_restOf M77 a))
def f_X7_join_c204 (a : Int32) (b : Int32) (t : Int32) (M77 : Mem) (M112 : Mem) (x137 : Int64) (x204 : Int64) : Mem := f_X7_join_c228 a t M77 x137 (f_X7_put M112 t (f_X7_less (mL M112 54 (ix a)) (mL M112 54 (ix b))) (f_X7_more (mL M112 55 (ix a)) (mL M112 55 (ix b))) x204 ((mL M112 57 (ix a)) &&& x204))
def f_X7_join_c137 (a : Int32) (b : Int32) (t : Int32) (M77 : Mem) (M112 : Mem) (x137 : Int64) : Mem := f_X7_join_c204 a b t M77 M112 x137 (((mL M112 56 (ix a)) &&& (mL M112 56 (ix b))) &&& (((mL M112 57 (ix a)) ^^^ (mL M112 57 (ix b))) ^^^ ((-1))))
def f_X7_join_112 (a : Int32) (b : Int32) (t : Int32) (M77 : Mem) (w0_112 : Int64) (M112 : Mem) : Mem := f_X7_join_c137 a b t M77 M112 (f_X7_odd (f_X7_common (f_X7_common (f_X7_byOf M112 a) (f_X7_byOf M112 b)) w0_112))
def f_X7_join_77 (a : Int32) (b : Int32) (t : Int32) (M77 : Mem) : Mem := if (f_X7_restOf M77 a) ≤ (f_X7_restOf M77 b) then f_X7_join_112 a b t M77 ((f_X7_restOf M77 b) - (f_X7_restOf M77 a)) M77 else f_X7_join_112 a b t M77 ((f_X7_restOf M77 a) - (f_X7_restOf M77 b)) M77
def f_X7_join_c76  (M76 : Mem) : Mem := M76
def f_X7_join (M : Mem) (a : Int32) (b : Int32) (t : Int32) : Mem := if (mI M 53 (ix a)) = 0 then if (mI M 53 (ix b)) = 0 then if (f_X7_isNumber M a) = 0 then f_X7_join_77 a b t M else if (f_X7_isNumber M b) = 0 then f_X7_join_77 a b t M else if (mL M 54 (ix a)) = (mL M 54 (ix b)) then f_X7_join_c76 (f_X7_copy M t a) else f_X7_join_77 a b t M else f_X7_join_18 a b t M else f_X7_join_18 a b t M
abbrev p_X7_join (M : Mem) (a : Int32) (b : Int32) (t : Int32) : Option Value → Mem → Prop := fun r N => r = none ∧ N = f_X7_join M a b t ∧ SK wg M N
set_option maxRecDepth 100000 in
set_option maxHeartbeats 4000000 in
theorem c_X7_join (G : Ctx) (l : Launch) (M : Mem) (a : Int32) (b : Int32) (t : Int32) (q : Ok M) (gb : Gb M) (i_a : vp_in a 1648) (i_b : vp_in b 1648) (i_t : vp_in t 1648) : CT G l 4 mX7_join [.ref 52, .int a, .int b, .int t] M 0 0 (p_X7_join M a b t) := by
  refine CT.of (by decide) (Nat.le_of_ble_eq_true rfl) ?_
  intro X d hd hl hRm hnm F
  subst hl
  have E : f_X7_join M a b t = f_X7_join M a b t := rfl
  show V G X 20 0 0 (Qx G X 0 0 (p_X7_join M a b t)) 0 [(0, .ref 52), (1, .int a), (2, .int b), (3, .int t)] [] M
  refine V.seg F floX7 cjoX7 [.aload_n 0, .getfield 9, .iload_n 1, .baload] (by decide +kernel) (pc2 := 6) (lv2 := [(0, .ref 52), (1, .int a), (2, .int b), (3, .int t)]) (st2 := [.int (mI M 53 (ix a))]) (M2 := M) rfl ⟨trivial, (q.f 52 7 0 rfl), trivial, (q.a 53 21 1648 rfl (by first | assumption | exact vinc (by decide))), trivial⟩ ?_
  have hJ18 : ∀ (M18 : Mem), (SK wg M M18) → f_X7_join M a b t = f_X7_join_18 a b t M18 → V G X 20 0 0 (Qx G X 0 0 (p_X7_join M a b t)) 18 [(0, .ref 52), (1, .int a), (2, .int b), (3, .int t)] [] M18 := by
    intro M18 s18 E
    refine V.seg F floX7 cjoX7 [.aload_n 0, .iload_n 3, .aload_n 0, .getfield 9, .iload_n 1, .baload] (by decide +kernel) (pc2 := 26) (lv2 := [(0, .ref 52), (1, .int a), (2, .int b), (3, .int t)]) (st2 := [.int (mI M18 53 (ix a)), .int t, .ref 52]) (M2 := M18) rfl ⟨trivial, trivial, trivial, ((q.sm s18.1).f 52 7 0 rfl), trivial, ((q.sm s18.1).a 53 21 1648 rfl (by first | assumption | exact vinc (by decide))), trivial⟩ ?_
    have hJ34 : ∀ (w0_34 : Int32) (M34 : Mem), (SK wg M M34) → (vp_in w0_34 1648) → f_X7_join M a b t = f_X7_join_34 t w0_34 M34 → V G X 20 0 0 (Qx G X 0 0 (p_X7_join M a b t)) 34 [] [.int w0_34, .int t, .ref 52] M34 := by
      intro w0_34 M34 s34 jw34 E
      refine V.callV (as := [.int t, .int w0_34]) (rest := []) F (by decide +kernel) lX7_133 bX7_copy ⟨7, _, ((q.sm s34.1).o 52 7 rfl), rfl, rfl⟩ (c_X7_copy G X.2.1 M34 t w0_34 (q.sm s34.1) s34.2.1 (by first | assumption | exact vinc (by decide)) (by first | assumption | exact vinc (by decide))) (rm_ok hRm hd (by decide) (by decide)) ⟨Nat.zero_le _, Nat.zero_le _⟩ (Nat.le_of_ble_eq_true rfl) (fun r_ N_ p_ => ?_)
      obtain ⟨rfl, rfl, t34⟩ := p_
      refine (?_ : ∀ (M37 : Mem), (SK wg M M37) → f_X7_join M a b t = f_X7_join_c37 M37 → V G X 20 0 0 (Qx G X 0 0 (p_X7_join M a b t)) 37 [] [] M37) _ (SK.tr s34 t34) E
      intro M37 s37 E
      exact V.vret F (by decide +kernel) ⟨rfl, E.symm, s37⟩
    refine V.if_eq (off := 7) F (by decide +kernel) (tgt := 33) (by decide) (fun h26 => ?_) (fun h26 => ?_)
    · replace E := E.trans (if_pos h26)
      refine V.seg F floX7 cjoX7 [.iload_n 1] (by decide +kernel) (pc2 := 34) (lv2 := [(0, .ref 52), (1, .int a), (2, .int b), (3, .int t)]) (st2 := [.int a, .int t, .ref 52]) (M2 := M18) rfl ⟨trivial, trivial⟩ ?_
      refine V.pick [] rfl ?_
      exact hJ34 a M18 s18 (by first | exact i_a | exact i_b) E
    · replace E := E.trans (if_neg h26)
      refine V.seg F floX7 cjoX7 [.iload_n 2, .goto 4] (by decide +kernel) (pc2 := 34) (lv2 := [(0, .ref 52), (1, .int a), (2, .int b), (3, .int t)]) (st2 := [.int b, .int t, .ref 52]) (M2 := M18) rfl ⟨trivial, (by decide), trivial⟩ ?_
      refine V.pick [] rfl ?_
      exact hJ34 b M18 s18 (by first | exact i_a | exact i_b) E
  refine V.if_ne (off := 12) F (by decide +kernel) (tgt := 18) (by decide) (fun h6 => ?_) (fun h6 => ?_)
  · replace E := E.trans (if_neg h6)
    refine V.pick [0, 1, 2, 3] rfl ?_
    exact hJ18 M (SK.rf (w := wg) gb) E
  · replace E := E.trans (if_pos h6)
    refine V.seg F floX7 cjoX7 [.aload_n 0, .getfield 9, .iload_n 2, .baload] (by decide +kernel) (pc2 := 15) (lv2 := [(0, .ref 52), (1, .int a), (2, .int b), (3, .int t)]) (st2 := [.int (mI M 53 (ix b))]) (M2 := M) rfl ⟨trivial, (q.f 52 7 0 rfl), trivial, (q.a 53 21 1648 rfl (by first | assumption | exact vinc (by decide))), trivial⟩ ?_
    refine V.if_eq (off := 23) F (by decide +kernel) (tgt := 38) (by decide) (fun h15 => ?_) (fun h15 => ?_)
    · replace E := E.trans (if_pos h15)
      refine V.seg F floX7 cjoX7 [.aload_n 0, .iload_n 1] (by decide +kernel) (pc2 := 40) (lv2 := [(0, .ref 52), (1, .int a), (2, .int b), (3, .int t)]) (st2 := [.int a, .ref 52]) (M2 := M) rfl ⟨trivial, trivial, trivial⟩ ?_
      refine V.callV (as := [.int a]) (rest := []) F (by decide +kernel) lX7_130 bX7_isNumber ⟨7, _, (q.o 52 7 rfl), rfl, rfl⟩ (c_X7_isNumber G X.2.1 M a q gb (by first | assumption | exact vinc (by decide))) (rm_ok hRm hd (by decide) (by decide)) ⟨Nat.zero_le _, Nat.zero_le _⟩ (Nat.le_of_ble_eq_true rfl) (fun r_ N_ p_ => ?_)
      obtain ⟨rfl, hN_, z40⟩ := p_
      rw [hN_]
      clear hN_
      have hJ77 : ∀ (M77 : Mem), (SK wg M M77) → f_X7_join M a b t = f_X7_join_77 a b t M77 → V G X 20 0 0 (Qx G X 0 0 (p_X7_join M a b t)) 77 [(0, .ref 52), (1, .int a), (2, .int b), (3, .int t)] [] M77 := by
        intro M77 s77 E
        refine V.seg F floX7 cjoX7 [.aload_n 0, .iload_n 1] (by decide +kernel) (pc2 := 79) (lv2 := [(0, .ref 52), (1, .int a), (2, .int b), (3, .int t)]) (st2 := [.int a, .ref 52]) (M2 := M77) rfl ⟨trivial, trivial, trivial⟩ ?_
        refine V.callV (as := [.int a]) (rest := []) F (by decide +kernel) lX7_137 bX7_restOf ⟨7, _, ((q.sm s77.1).o 52 7 rfl), rfl, rfl⟩ (c_X7_restOf G X.2.1 M77 a (q.sm s77.1) s77.2.1 (by first | assumption | exact vinc (by decide))) (rm_ok hRm hd (by decide) (by decide)) ⟨Nat.zero_le _, Nat.zero_le _⟩ (Nat.le_of_ble_eq_true rfl) (fun r_ N_ p_ => ?_)
        obtain ⟨rfl, hN_⟩ := p_
        rw [hN_]
        clear hN_
        refine V.seg F floX7 cjoX7 [.lstore 4, .aload_n 0, .iload_n 2] (by decide +kernel) (pc2 := 86) (lv2 := [(4, .long (f_X7_restOf M77 a)), (0, .ref 52), (1, .int a), (2, .int b), (3, .int t)]) (st2 := [.int b, .ref 52]) (M2 := M77) rfl ⟨(by decide), trivial, trivial, trivial⟩ ?_
        refine V.callV (as := [.int b]) (rest := []) F (by decide +kernel) lX7_137 bX7_restOf ⟨7, _, ((q.sm s77.1).o 52 7 rfl), rfl, rfl⟩ (c_X7_restOf G X.2.1 M77 b (q.sm s77.1) s77.2.1 (by first | assumption | exact vinc (by decide))) (rm_ok hRm hd (by decide) (by decide)) ⟨Nat.zero_le _, Nat.zero_le _⟩ (Nat.le_of_ble_eq_true rfl) (fun r_ N_ p_ => ?_)
        obtain ⟨rfl, hN_⟩ := p_
        rw [hN_]
        clear hN_
        refine V.seg F floX7 cjoX7 [.lstore 6, .lload 4, .lload 6, .lcmp] (by decide +kernel) (pc2 := 96) (lv2 := [(6, .long (f_X7_restOf M77 b)), (4, .long (f_X7_restOf M77 a)), (0, .ref 52), (1, .int a), (2, .int b), (3, .int t)]) (st2 := [.int (lg_cmp (f_X7_restOf M77 a) (f_X7_restOf M77 b))]) (M2 := M77) rfl ⟨(by decide), trivial, trivial, trivial, trivial⟩ ?_
        have hJ112 : ∀ (w0_112 : Int64) (M112 : Mem), (SK wg M M112) → f_X7_join M a b t = f_X7_join_112 a b t M77 w0_112 M112 → V G X 20 0 0 (Qx G X 0 0 (p_X7_join M a b t)) 112 [(0, .ref 52), (1, .int a), (2, .int b), (3, .int t), (4, .long (f_X7_restOf M77 a))] [.long w0_112] M112 := by
          intro w0_112 M112 s112 E
          refine V.seg F floX7 cjoX7 [.lstore 8, .aload_n 0, .iload_n 1] (by decide +kernel) (pc2 := 116) (lv2 := [(8, .long w0_112), (0, .ref 52), (1, .int a), (2, .int b), (3, .int t), (4, .long (f_X7_restOf M77 a))]) (st2 := [.int a, .ref 52]) (M2 := M112) rfl ⟨(by decide), trivial, trivial, trivial⟩ ?_
          refine V.callV (as := [.int a]) (rest := []) F (by decide +kernel) lX7_141 bX7_byOf ⟨7, _, ((q.sm s112.1).o 52 7 rfl), rfl, rfl⟩ (c_X7_byOf G X.2.1 M112 a (q.sm s112.1) s112.2.1 (by first | assumption | exact vinc (by decide))) (rm_ok hRm hd (by decide) (by decide)) ⟨Nat.zero_le _, Nat.zero_le _⟩ (Nat.le_of_ble_eq_true rfl) (fun r_ N_ p_ => ?_)
          obtain ⟨rfl, hN_⟩ := p_
          rw [hN_]
          clear hN_
          refine V.seg F floX7 cjoX7 [.aload_n 0, .iload_n 2] (by decide +kernel) (pc2 := 121) (lv2 := [(8, .long w0_112), (0, .ref 52), (1, .int a), (2, .int b), (3, .int t), (4, .long (f_X7_restOf M77 a))]) (st2 := [.int b, .ref 52, .long (f_X7_byOf M112 a)]) (M2 := M112) rfl ⟨trivial, trivial, trivial⟩ ?_
          refine V.callV (as := [.int b]) (rest := [.long (f_X7_byOf M112 a)]) F (by decide +kernel) lX7_141 bX7_byOf ⟨7, _, ((q.sm s112.1).o 52 7 rfl), rfl, rfl⟩ (c_X7_byOf G X.2.1 M112 b (q.sm s112.1) s112.2.1 (by first | assumption | exact vinc (by decide))) (rm_ok hRm hd (by decide) (by decide)) ⟨Nat.zero_le _, Nat.zero_le _⟩ (Nat.le_of_ble_eq_true rfl) (fun r_ N_ p_ => ?_)
          obtain ⟨rfl, hN_⟩ := p_
          rw [hN_]
          clear hN_
          refine V.callS (as := [.long (f_X7_byOf M112 a), .long (f_X7_byOf M112 b)]) (rest := []) F (by decide +kernel) lX7_144 bX7_common (c_X7_common G X.2.1 M112 (f_X7_byOf M112 a) (f_X7_byOf M112 b)) (rm_ok hRm hd (by decide) (by decide)) ⟨Nat.zero_le _, Nat.zero_le _⟩ (Nat.le_of_ble_eq_true rfl) (fun r_ N_ p_ => ?_)
          obtain ⟨rfl, hN_⟩ := p_
          rw [hN_]
          clear hN_
          refine V.seg F floX7 cjoX7 [.lload 8] (by decide +kernel) (pc2 := 129) (lv2 := [(8, .long w0_112), (0, .ref 52), (1, .int a), (2, .int b), (3, .int t), (4, .long (f_X7_restOf M77 a))]) (st2 := [.long w0_112, .long (f_X7_common (f_X7_byOf M112 a) (f_X7_byOf M112 b))]) (M2 := M112) rfl ⟨trivial, trivial⟩ ?_
          refine V.callS (as := [.long (f_X7_common (f_X7_byOf M112 a) (f_X7_byOf M112 b)), .long w0_112]) (rest := []) F (by decide +kernel) lX7_144 bX7_common (c_X7_common G X.2.1 M112 (f_X7_common (f_X7_byOf M112 a) (f_X7_byOf M112 b)) w0_112) (rm_ok hRm hd (by decide) (by decide)) ⟨Nat.zero_le _, Nat.zero_le _⟩ (Nat.le_of_ble_eq_true rfl) (fun r_ N_ p_ => ?_)
          obtain ⟨rfl, hN_⟩ := p_
          rw [hN_]
          clear hN_
          refine V.callS (as := [.long (f_X7_common (f_X7_common (f_X7_byOf M112 a) (f_X7_byOf M112 b)) w0_112)]) (rest := []) F (by decide +kernel) lX7_147 bX7_odd (c_X7_odd G X.2.1 M112 (f_X7_common (f_X7_common (f_X7_byOf M112 a) (f_X7_byOf M112 b)) w0_112)) (rm_ok hRm hd (by decide) (by decide)) ⟨Nat.zero_le _, Nat.zero_le _⟩ (Nat.le_of_ble_eq_true rfl) (fun r_ N_ p_ => ?_)
          obtain ⟨rfl, hN_⟩ := p_
          rw [hN_]
          clear hN_
          refine V.seg F floX7 cjoX7 [.lstore 10] (by decide +kernel) (pc2 := 137) (lv2 := [(10, .long (f_X7_odd (f_X7_common (f_X7_common (f_X7_byOf M112 a) (f_X7_byOf M112 b)) w0_112))), (8, .long w0_112), (0, .ref 52), (1, .int a), (2, .int b), (3, .int t), (4, .long (f_X7_restOf M77 a))]) (st2 := []) (M2 := M112) rfl ⟨(by decide), trivial⟩ ?_
          refine (?_ : ∀ (x137 : Int64), (¬ x137 = 0) → f_X7_join M a b t = f_X7_join_c137 a b t M77 M112 x137 → V G X 20 0 0 (Qx G X 0 0 (p_X7_join M a b t)) 137 [(10, .long x137), (8, .long w0_112), (0, .ref 52), (1, .int a), (2, .int b), (3, .int t), (4, .long (f_X7_restOf M77 a))] [] M112) _ (odd_ne0 _) E
          intro x137 nz_x137 E
          refine V.seg F floX7 cjoX7 [.aload_n 0, .getfield 13, .iload_n 1, .laload, .aload_n 0, .getfield 13, .iload_n 2, .laload] (by decide +kernel) (pc2 := 149) (lv2 := [(10, .long x137), (8, .long w0_112), (0, .ref 52), (1, .int a), (2, .int b), (3, .int t), (4, .long (f_X7_restOf M77 a))]) (st2 := [.long (mL M112 54 (ix b)), .long (mL M112 54 (ix a))]) (M2 := M112) rfl ⟨trivial, ((q.sm s112.1).f 52 7 1 rfl), trivial, ((q.sm s112.1).a 54 22 1648 rfl (by first | assumption | exact vinc (by decide))), trivial, ((q.sm s112.1).f 52 7 1 rfl), trivial, ((q.sm s112.1).a 54 22 1648 rfl (by first | assumption | exact vinc (by decide))), trivial⟩ ?_
          refine V.callS (as := [.long (mL M112 54 (ix a)), .long (mL M112 54 (ix b))]) (rest := []) F (by decide +kernel) lX7_151 bX7_less (c_X7_less G X.2.1 M112 (mL M112 54 (ix a)) (mL M112 54 (ix b))) (rm_ok hRm hd (by decide) (by decide)) ⟨Nat.zero_le _, Nat.zero_le _⟩ (Nat.le_of_ble_eq_true rfl) (fun r_ N_ p_ => ?_)
          obtain ⟨rfl, hN_⟩ := p_
          rw [hN_]
          clear hN_
          refine V.seg F floX7 cjoX7 [.lstore 12, .aload_n 0, .getfield 17, .iload_n 1, .laload, .aload_n 0, .getfield 17, .iload_n 2, .laload] (by decide +kernel) (pc2 := 166) (lv2 := [(12, .long (f_X7_less (mL M112 54 (ix a)) (mL M112 54 (ix b)))), (10, .long x137), (8, .long w0_112), (0, .ref 52), (1, .int a), (2, .int b), (3, .int t), (4, .long (f_X7_restOf M77 a))]) (st2 := [.long (mL M112 55 (ix b)), .long (mL M112 55 (ix a))]) (M2 := M112) rfl ⟨(by decide), trivial, ((q.sm s112.1).f 52 7 2 rfl), trivial, ((q.sm s112.1).a 55 22 1648 rfl (by first | assumption | exact vinc (by decide))), trivial, ((q.sm s112.1).f 52 7 2 rfl), trivial, ((q.sm s112.1).a 55 22 1648 rfl (by first | assumption | exact vinc (by decide))), trivial⟩ ?_
          refine V.callS (as := [.long (mL M112 55 (ix a)), .long (mL M112 55 (ix b))]) (rest := []) F (by decide +kernel) lX7_154 bX7_more (c_X7_more G X.2.1 M112 (mL M112 55 (ix a)) (mL M112 55 (ix b))) (rm_ok hRm hd (by decide) (by decide)) ⟨Nat.zero_le _, Nat.zero_le _⟩ (Nat.le_of_ble_eq_true rfl) (fun r_ N_ p_ => ?_)
          obtain ⟨rfl, hN_⟩ := p_
          rw [hN_]
          clear hN_
          refine V.seg F floX7 cjoX7 [.lstore 14, .aload_n 0, .getfield 20, .iload_n 1, .laload, .aload_n 0, .getfield 20, .iload_n 2, .laload, .land, .aload_n 0, .getfield 23, .iload_n 1, .laload, .aload_n 0, .getfield 23, .iload_n 2, .laload, .lxor, .ldc2_w 87, .lxor, .land, .lstore 16] (by decide +kernel) (pc2 := 204) (lv2 := [(16, .long (((mL M112 56 (ix a)) &&& (mL M112 56 (ix b))) &&& (((mL M112 57 (ix a)) ^^^ (mL M112 57 (ix b))) ^^^ ((-1))))), (14, .long (f_X7_more (mL M112 55 (ix a)) (mL M112 55 (ix b)))), (12, .long (f_X7_less (mL M112 54 (ix a)) (mL M112 54 (ix b)))), (10, .long x137), (8, .long w0_112), (0, .ref 52), (1, .int a), (2, .int b), (3, .int t), (4, .long (f_X7_restOf M77 a))]) (st2 := []) (M2 := M112) rfl ⟨(by decide), trivial, ((q.sm s112.1).f 52 7 3 rfl), trivial, ((q.sm s112.1).a 56 22 1648 rfl (by first | assumption | exact vinc (by decide))), trivial, ((q.sm s112.1).f 52 7 3 rfl), trivial, ((q.sm s112.1).a 56 22 1648 rfl (by first | assumption | exact vinc (by decide))), trivial, trivial, ((q.sm s112.1).f 52 7 4 rfl), trivial, ((q.sm s112.1).a 57 22 1648 rfl (by first | assumption | exact vinc (by decide))), trivial, ((q.sm s112.1).f 52 7 4 rfl), trivial, ((q.sm s112.1).a 57 22 1648 rfl (by first | assumption | exact vinc (by decide))), trivial, trivial, trivial, trivial, (by decide), trivial⟩ ?_
          refine (?_ : ∀ (x204 : Int64), f_X7_join M a b t = f_X7_join_c204 a b t M77 M112 x137 x204 → V G X 20 0 0 (Qx G X 0 0 (p_X7_join M a b t)) 204 [(16, .long x204), (14, .long (f_X7_more (mL M112 55 (ix a)) (mL M112 55 (ix b)))), (12, .long (f_X7_less (mL M112 54 (ix a)) (mL M112 54 (ix b)))), (10, .long x137), (8, .long w0_112), (0, .ref 52), (1, .int a), (2, .int b), (3, .int t), (4, .long (f_X7_restOf M77 a))] [] M112) _  E
          intro x204 E
          refine V.seg F floX7 cjoX7 [.aload_n 0, .getfield 23, .iload_n 1, .laload, .lload 16, .land, .lstore 18, .aload_n 0, .iload_n 3, .lload 12, .lload 14, .lload 16, .lload 18] (by decide +kernel) (pc2 := 225) (lv2 := [(18, .long ((mL M112 57 (ix a)) &&& x204)), (16, .long x204), (14, .long (f_X7_more (mL M112 55 (ix a)) (mL M112 55 (ix b)))), (12, .long (f_X7_less (mL M112 54 (ix a)) (mL M112 54 (ix b)))), (10, .long x137), (8, .long w0_112), (0, .ref 52), (1, .int a), (2, .int b), (3, .int t), (4, .long (f_X7_restOf M77 a))]) (st2 := [.long ((mL M112 57 (ix a)) &&& x204), .long x204, .long (f_X7_more (mL M112 55 (ix a)) (mL M112 55 (ix b))), .long (f_X7_less (mL M112 54 (ix a)) (mL M112 54 (ix b))), .int t, .ref 52]) (M2 := M112) rfl ⟨trivial, ((q.sm s112.1).f 52 7 4 rfl), trivial, ((q.sm s112.1).a 57 22 1648 rfl (by first | assumption | exact vinc (by decide))), trivial, trivial, (by decide), trivial, trivial, trivial, trivial, trivial, trivial, trivial⟩ ?_
          refine V.callV (as := [.int t, .long (f_X7_less (mL M112 54 (ix a)) (mL M112 54 (ix b))), .long (f_X7_more (mL M112 55 (ix a)) (mL M112 55 (ix b))), .long x204, .long ((mL M112 57 (ix a)) &&& x204)]) (rest := []) F (by decide +kernel) lX7_157 bX7_put ⟨7, _, ((q.sm s112.1).o 52 7 rfl), rfl, rfl⟩ (c_X7_put G X.2.1 M112 t (f_X7_less (mL M112 54 (ix a)) (mL M112 54 (ix b))) (f_X7_more (mL M112 55 (ix a)) (mL M112 55 (ix b))) x204 ((mL M112 57 (ix a)) &&& x204) (q.sm s112.1) s112.2.1 (by first | assumption | exact vinc (by decide))) (rm_ok hRm hd (by decide) (by decide)) ⟨Nat.zero_le _, Nat.zero_le _⟩ (Nat.le_of_ble_eq_true rfl) (fun r_ N_ p_ => ?_)
          obtain ⟨rfl, rfl, t225⟩ := p_
          refine (?_ : ∀ (M228 : Mem), (SK wg M M228) → f_X7_join M a b t = f_X7_join_c228 a t M77 x137 M228 → V G X 20 0 0 (Qx G X 0 0 (p_X7_join M a b t)) 228 [(18, .long ((mL M112 57 (ix a)) &&& x204)), (16, .long x204), (14, .long (f_X7_more (mL M112 55 (ix a)) (mL M112 55 (ix b)))), (12, .long (f_X7_less (mL M112 54 (ix a)) (mL M112 54 (ix b)))), (10, .long x137), (8, .long w0_112), (0, .ref 52), (1, .int a), (2, .int b), (3, .int t), (4, .long (f_X7_restOf M77 a))] [] M228) _ (SK.tr s112 t225) E
          intro M228 s228 E
          refine V.seg F floX7 cjoX7 [.aload_n 0, .iload_n 3, .lload 10, .lload 4] (by decide +kernel) (pc2 := 234) (lv2 := [(18, .long ((mL M112 57 (ix a)) &&& x204)), (16, .long x204), (14, .long (f_X7_more (mL M112 55 (ix a)) (mL M112 55 (ix b)))), (12, .long (f_X7_less (mL M112 54 (ix a)) (mL M112 54 (ix b)))), (10, .long x137), (8, .long w0_112), (0, .ref 52), (1, .int a), (2, .int b), (3, .int t), (4, .long (f_X7_restOf M77 a))]) (st2 := [.long (f_X7_restOf M77 a), .long x137, .int t, .ref 52]) (M2 := M228) rfl ⟨trivial, trivial, trivial, trivial, trivial⟩ ?_
          refine V.callV (as := [.int t, .long x137, .long (f_X7_restOf M77 a)]) (rest := []) F (by decide +kernel) lX7_161 bX7_setRest ⟨7, _, ((q.sm s228.1).o 52 7 rfl), rfl, rfl⟩ (c_X7_setRest G X.2.1 M228 t x137 (f_X7_restOf M77 a) (q.sm s228.1) s228.2.1 (by first | assumption | exact vinc (by decide)) nz_x137) (rm_ok hRm hd (by decide) (by decide)) ⟨Nat.zero_le _, Nat.zero_le _⟩ (Nat.le_of_ble_eq_true rfl) (fun r_ N_ p_ => ?_)
          obtain ⟨rfl, rfl, t234⟩ := p_
          refine (?_ : ∀ (M237 : Mem), (SK wg M M237) → f_X7_join M a b t = f_X7_join_c237 t M237 → V G X 20 0 0 (Qx G X 0 0 (p_X7_join M a b t)) 237 [(18, .long ((mL M112 57 (ix a)) &&& x204)), (16, .long x204), (14, .long (f_X7_more (mL M112 55 (ix a)) (mL M112 55 (ix b)))), (12, .long (f_X7_less (mL M112 54 (ix a)) (mL M112 54 (ix b)))), (10, .long x137), (8, .long w0_112), (0, .ref 52), (1, .int a), (2, .int b), (3, .int t), (4, .long (f_X7_restOf M77 a))] [] M237) _ (SK.tr s228 t234) E
          intro M237 s237 E
          refine V.seg F floX7 cjoX7 [.aload_n 0, .iload_n 3] (by decide +kernel) (pc2 := 239) (lv2 := [(18, .long ((mL M112 57 (ix a)) &&& x204)), (16, .long x204), (14, .long (f_X7_more (mL M112 55 (ix a)) (mL M112 55 (ix b)))), (12, .long (f_X7_less (mL M112 54 (ix a)) (mL M112 54 (ix b)))), (10, .long x137), (8, .long w0_112), (0, .ref 52), (1, .int a), (2, .int b), (3, .int t), (4, .long (f_X7_restOf M77 a))]) (st2 := [.int t, .ref 52]) (M2 := M237) rfl ⟨trivial, trivial, trivial⟩ ?_
          refine V.callV (as := [.int t]) (rest := []) F (by decide +kernel) lX7_165 bX7_sharpen ⟨7, _, ((q.sm s237.1).o 52 7 rfl), rfl, rfl⟩ (c_X7_sharpen G X.2.1 M237 t (q.sm s237.1) s237.2.1 (by first | assumption | exact vinc (by decide))) (rm_ok hRm hd (by decide) (by decide)) ⟨Nat.zero_le _, Nat.zero_le _⟩ (Nat.le_of_ble_eq_true rfl) (fun r_ N_ p_ => ?_)
          obtain ⟨rfl, rfl, t239⟩ := p_
          refine (?_ : ∀ (M242 : Mem), (SK wg M M242) → f_X7_join M a b t = f_X7_join_c242 M242 → V G X 20 0 0 (Qx G X 0 0 (p_X7_join M a b t)) 242 [(18, .long ((mL M112 57 (ix a)) &&& x204)), (16, .long x204), (14, .long (f_X7_more (mL M112 55 (ix a)) (mL M112 55 (ix b)))), (12, .long (f_X7_less (mL M112 54 (ix a)) (mL M112 54 (ix b)))), (10, .long x137), (8, .long w0_112), (0, .ref 52), (1, .int a), (2, .int b), (3, .int t), (4, .long (f_X7_restOf M77 a))] [] M242) _ (SK.tr s237 t239) E
          intro M242 s242 E
          exact V.vret F (by decide +kernel) ⟨rfl, E.symm, s242⟩
        refine V.lc_le (off := 11) F (by decide +kernel) (tgt := 107) (by decide) (fun h96 => ?_) (fun h96 => ?_)
        · replace E := E.trans (if_pos h96)
          refine V.seg F floX7 cjoX7 [.lload 6, .lload 4, .lsub] (by decide +kernel) (pc2 := 112) (lv2 := [(6, .long (f_X7_restOf M77 b)), (4, .long (f_X7_restOf M77 a)), (0, .ref 52), (1, .int a), (2, .int b), (3, .int t)]) (st2 := [.long ((f_X7_restOf M77 b) - (f_X7_restOf M77 a))]) (M2 := M77) rfl ⟨trivial, trivial, trivial, trivial⟩ ?_
          refine V.pick [2, 3, 4, 5, 1] rfl ?_
          exact hJ112 ((f_X7_restOf M77 b) - (f_X7_restOf M77 a)) M77 s77 E
        · replace E := E.trans (if_neg h96)
          refine V.seg F floX7 cjoX7 [.lload 4, .lload 6, .lsub, .goto 8] (by decide +kernel) (pc2 := 112) (lv2 := [(6, .long (f_X7_restOf M77 b)), (4, .long (f_X7_restOf M77 a)), (0, .ref 52), (1, .int a), (2, .int b), (3, .int t)]) (st2 := [.long ((f_X7_restOf M77 a) - (f_X7_restOf M77 b))]) (M2 := M77) rfl ⟨trivial, trivial, trivial, (by decide), trivial⟩ ?_
          refine V.pick [2, 3, 4, 5, 1] rfl ?_
          exact hJ112 ((f_X7_restOf M77 a) - (f_X7_restOf M77 b)) M77 s77 E
      refine V.if_eq (off := 34) F (by decide +kernel) (tgt := 77) (by decide) (fun h43 => ?_) (fun h43 => ?_)
      · replace E := E.trans (if_pos h43)
        refine V.pick [0, 1, 2, 3] rfl ?_
        exact hJ77 M (SK.rf (w := wg) gb) E
      · replace E := E.trans (if_neg h43)
        refine V.seg F floX7 cjoX7 [.aload_n 0, .iload_n 2] (by decide +kernel) (pc2 := 48) (lv2 := [(0, .ref 52), (1, .int a), (2, .int b), (3, .int t)]) (st2 := [.int b, .ref 52]) (M2 := M) rfl ⟨trivial, trivial, trivial⟩ ?_
        refine V.callV (as := [.int b]) (rest := []) F (by decide +kernel) lX7_130 bX7_isNumber ⟨7, _, (q.o 52 7 rfl), rfl, rfl⟩ (c_X7_isNumber G X.2.1 M b q gb (by first | assumption | exact vinc (by decide))) (rm_ok hRm hd (by decide) (by decide)) ⟨Nat.zero_le _, Nat.zero_le _⟩ (Nat.le_of_ble_eq_true rfl) (fun r_ N_ p_ => ?_)
        obtain ⟨rfl, hN_, z48⟩ := p_
        rw [hN_]
        clear hN_
        refine V.if_eq (off := 26) F (by decide +kernel) (tgt := 77) (by decide) (fun h51 => ?_) (fun h51 => ?_)
        · replace E := E.trans (if_pos h51)
          refine V.pick [0, 1, 2, 3] rfl ?_
          exact hJ77 M (SK.rf (w := wg) gb) E
        · replace E := E.trans (if_neg h51)
          refine V.seg F floX7 cjoX7 [.aload_n 0, .getfield 13, .iload_n 1, .laload, .aload_n 0, .getfield 13, .iload_n 2, .laload, .lcmp] (by decide +kernel) (pc2 := 67) (lv2 := [(0, .ref 52), (1, .int a), (2, .int b), (3, .int t)]) (st2 := [.int (lg_cmp (mL M 54 (ix a)) (mL M 54 (ix b)))]) (M2 := M) rfl ⟨trivial, (q.f 52 7 1 rfl), trivial, (q.a 54 22 1648 rfl (by first | assumption | exact vinc (by decide))), trivial, (q.f 52 7 1 rfl), trivial, (q.a 54 22 1648 rfl (by first | assumption | exact vinc (by decide))), trivial, trivial⟩ ?_
          refine V.lc_ne (off := 10) F (by decide +kernel) (tgt := 77) (by decide) (fun h67 => ?_) (fun h67 => ?_)
          · replace E := E.trans (if_neg h67)
            refine V.pick [0, 1, 2, 3] rfl ?_
            exact hJ77 M (SK.rf (w := wg) gb) E
          · replace E := E.trans (if_pos h67)
            refine V.seg F floX7 cjoX7 [.aload_n 0, .iload_n 3, .iload_n 1] (by decide +kernel) (pc2 := 73) (lv2 := [(0, .ref 52), (1, .int a), (2, .int b), (3, .int t)]) (st2 := [.int a, .int t, .ref 52]) (M2 := M) rfl ⟨trivial, trivial, trivial, trivial⟩ ?_
            refine V.callV (as := [.int t, .int a]) (rest := []) F (by decide +kernel) lX7_133 bX7_copy ⟨7, _, (q.o 52 7 rfl), rfl, rfl⟩ (c_X7_copy G X.2.1 M t a q gb (by first | assumption | exact vinc (by decide)) (by first | assumption | exact vinc (by decide))) (rm_ok hRm hd (by decide) (by decide)) ⟨Nat.zero_le _, Nat.zero_le _⟩ (Nat.le_of_ble_eq_true rfl) (fun r_ N_ p_ => ?_)
            obtain ⟨rfl, rfl, t73⟩ := p_
            refine (?_ : ∀ (M76 : Mem), (SK wg M M76) → f_X7_join M a b t = f_X7_join_c76 M76 → V G X 20 0 0 (Qx G X 0 0 (p_X7_join M a b t)) 76 [(0, .ref 52), (1, .int a), (2, .int b), (3, .int t)] [] M76) _ t73 E
            intro M76 s76 E
            exact V.vret F (by decide +kernel) ⟨rfl, E.symm, s76⟩
    · replace E := E.trans (if_neg h15)
      refine V.pick [0, 1, 2, 3] rfl ?_
      exact hJ18 M (SK.rf (w := wg) gb) E
def f_X7_meet_c246  (M246 : Mem) : Mem := M246
def f_X7_meet_c241 (t : Int32) (M241 : Mem) : Mem := f_X7_meet_c246 (f_X7_sharpen M241 t)
def f_X7_meet_c232 (t : Int32) (w0_195 : Int64) (w0_217 : Int64) (M232 : Mem) : Mem := f_X7_meet_c241 t (f_X7_setRest M232 t w0_195 w0_217)
def f_X7_meet_217 (a : Int32) (b : Int32) (t : Int32) (M23 : Mem) (M109 : Mem) (w0_195 : Int64) (w0_217 : Int64) (M217 : Mem) : Mem := f_X7_meet_c232 t w0_195 w0_217 (f_X7_put M217 t (f_X7_more (mL M23 54 (ix a)) (mL M23 54 (ix b))) (f_X7_less (mL M23 55 (ix a)) (mL M23 55 (ix b))) ((mL M109 56 (ix a)) ||| (mL M109 56 (ix b))) ((mL M109 57 (ix a)) ||| (mL M109 57 (ix b))))
def f_X7_meet_195 (a : Int32) (b : Int32) (t : Int32) (M23 : Mem) (M109 : Mem) (w0_173 : Int32) (w0_195 : Int64) (M195 : Mem) : Mem := if w0_173 = 0 then f_X7_meet_217 a b t M23 M109 w0_195 (mL M195 59 (ix a)) M195 else f_X7_meet_217 a b t M23 M109 w0_195 (mL M195 59 (ix b)) M195
def f_X7_meet_173 (a : Int32) (b : Int32) (t : Int32) (M23 : Mem) (M109 : Mem) (w0_173 : Int32) (M173 : Mem) : Mem := if w0_173 = 0 then f_X7_meet_195 a b t M23 M109 w0_173 (mL M173 58 (ix a)) M173 else f_X7_meet_195 a b t M23 M109 w0_173 (mL M173 58 (ix b)) M173
def f_X7_meet_c121  (M121 : Mem) : Mem := M121
def f_X7_meet_109 (a : Int32) (b : Int32) (t : Int32) (M23 : Mem) (w0_109 : Int32) (M109 : Mem) : Mem := if w0_109 = 0 then if (mL M109 58 (ix b)) ≤ (mL M109 58 (ix a)) then f_X7_meet_173 a b t M23 M109 0 M109 else f_X7_meet_173 a b t M23 M109 1 M109 else f_X7_meet_c121 (f_X7_nothing M109 t)
def f_X7_meet_104 (a : Int32) (b : Int32) (t : Int32) (M23 : Mem) (M104 : Mem) : Mem := f_X7_meet_109 a b t M23 1 M104
def f_X7_meet_23 (a : Int32) (b : Int32) (t : Int32) (w0_23 : Int32) (M23 : Mem) : Mem := if w0_23 = 0 then if (f_X7_less (mL M23 55 (ix a)) (mL M23 55 (ix b))) < (f_X7_more (mL M23 54 (ix a)) (mL M23 54 (ix b))) then f_X7_meet_104 a b t M23 M23 else if (((mL M23 56 (ix a)) &&& (mL M23 56 (ix b))) &&& ((mL M23 57 (ix a)) ^^^ (mL M23 57 (ix b)))) = 0 then f_X7_meet_109 a b t M23 0 M23 else f_X7_meet_104 a b t M23 M23 else f_X7_meet_104 a b t M23 M23
def f_X7_meet_18 (a : Int32) (b : Int32) (t : Int32) (M18 : Mem) : Mem := f_X7_meet_23 a b t 1 M18
def f_X7_meet (M : Mem) (a : Int32) (b : Int32) (t : Int32) : Mem := if (mI M 53 (ix a)) = 0 then if (mI M 53 (ix b)) = 0 then f_X7_meet_23 a b t 0 M else f_X7_meet_18 a b t M else f_X7_meet_18 a b t M
abbrev p_X7_meet (M : Mem) (a : Int32) (b : Int32) (t : Int32) : Option Value → Mem → Prop := fun r N => r = none ∧ N = f_X7_meet M a b t ∧ SK wg M N
set_option maxRecDepth 100000 in
set_option maxHeartbeats 4000000 in
theorem c_X7_meet (G : Ctx) (l : Launch) (M : Mem) (a : Int32) (b : Int32) (t : Int32) (q : Ok M) (gb : Gb M) (i_a : vp_in a 1648) (i_b : vp_in b 1648) (i_t : vp_in t 1648) : CT G l 4 mX7_meet [.ref 52, .int a, .int b, .int t] M 0 0 (p_X7_meet M a b t) := by
  refine CT.of (by decide) (Nat.le_of_ble_eq_true rfl) ?_
  intro X d hd hl hRm hnm F
  subst hl
  have E : f_X7_meet M a b t = f_X7_meet M a b t := rfl
  show V G X 18 0 0 (Qx G X 0 0 (p_X7_meet M a b t)) 0 [(0, .ref 52), (1, .int a), (2, .int b), (3, .int t)] [] M
  refine V.seg F floX7 cjoX7 [.aload_n 0, .getfield 9, .iload_n 1, .baload] (by decide +kernel) (pc2 := 6) (lv2 := [(0, .ref 52), (1, .int a), (2, .int b), (3, .int t)]) (st2 := [.int (mI M 53 (ix a))]) (M2 := M) rfl ⟨trivial, (q.f 52 7 0 rfl), trivial, (q.a 53 21 1648 rfl (by first | assumption | exact vinc (by decide))), trivial⟩ ?_
  have hJ23 : ∀ (w0_23 : Int32) (M23 : Mem), (SK wg M M23) → f_X7_meet M a b t = f_X7_meet_23 a b t w0_23 M23 → V G X 18 0 0 (Qx G X 0 0 (p_X7_meet M a b t)) 23 [(0, .ref 52), (1, .int a), (2, .int b), (3, .int t)] [.int w0_23] M23 := by
    intro w0_23 M23 s23 E
    refine V.seg F floX7 cjoX7 [.istore 4, .aload_n 0, .getfield 13, .iload_n 1, .laload, .aload_n 0, .getfield 13, .iload_n 2, .laload] (by decide +kernel) (pc2 := 37) (lv2 := [(4, .int w0_23), (0, .ref 52), (1, .int a), (2, .int b), (3, .int t)]) (st2 := [.long (mL M23 54 (ix b)), .long (mL M23 54 (ix a))]) (M2 := M23) rfl ⟨(by decide), trivial, ((q.sm s23.1).f 52 7 1 rfl), trivial, ((q.sm s23.1).a 54 22 1648 rfl (by first | assumption | exact vinc (by decide))), trivial, ((q.sm s23.1).f 52 7 1 rfl), trivial, ((q.sm s23.1).a 54 22 1648 rfl (by first | assumption | exact vinc (by decide))), trivial⟩ ?_
    refine V.callS (as := [.long (mL M23 54 (ix a)), .long (mL M23 54 (ix b))]) (rest := []) F (by decide +kernel) lX7_154 bX7_more (c_X7_more G X.2.1 M23 (mL M23 54 (ix a)) (mL M23 54 (ix b))) (rm_ok hRm hd (by decide) (by decide)) ⟨Nat.zero_le _, Nat.zero_le _⟩ (Nat.le_of_ble_eq_true rfl) (fun r_ N_ p_ => ?_)
    obtain ⟨rfl, hN_⟩ := p_
    rw [hN_]
    clear hN_
    refine V.seg F floX7 cjoX7 [.lstore 5, .aload_n 0, .getfield 17, .iload_n 1, .laload, .aload_n 0, .getfield 17, .iload_n 2, .laload] (by decide +kernel) (pc2 := 54) (lv2 := [(5, .long (f_X7_more (mL M23 54 (ix a)) (mL M23 54 (ix b)))), (4, .int w0_23), (0, .ref 52), (1, .int a), (2, .int b), (3, .int t)]) (st2 := [.long (mL M23 55 (ix b)), .long (mL M23 55 (ix a))]) (M2 := M23) rfl ⟨(by decide), trivial, ((q.sm s23.1).f 52 7 2 rfl), trivial, ((q.sm s23.1).a 55 22 1648 rfl (by first | assumption | exact vinc (by decide))), trivial, ((q.sm s23.1).f 52 7 2 rfl), trivial, ((q.sm s23.1).a 55 22 1648 rfl (by first | assumption | exact vinc (by decide))), trivial⟩ ?_
    refine V.callS (as := [.long (mL M23 55 (ix a)), .long (mL M23 55 (ix b))]) (rest := []) F (by decide +kernel) lX7_151 bX7_less (c_X7_less G X.2.1 M23 (mL M23 55 (ix a)) (mL M23 55 (ix b))) (rm_ok hRm hd (by decide) (by decide)) ⟨Nat.zero_le _, Nat.zero_le _⟩ (Nat.le_of_ble_eq_true rfl) (fun r_ N_ p_ => ?_)
    obtain ⟨rfl, hN_⟩ := p_
    rw [hN_]
    clear hN_
    refine V.seg F floX7 cjoX7 [.lstore 7, .iload 4] (by decide +kernel) (pc2 := 61) (lv2 := [(7, .long (f_X7_less (mL M23 55 (ix a)) (mL M23 55 (ix b)))), (5, .long (f_X7_more (mL M23 54 (ix a)) (mL M23 54 (ix b)))), (4, .int w0_23), (0, .ref 52), (1, .int a), (2, .int b), (3, .int t)]) (st2 := [.int w0_23]) (M2 := M23) rfl ⟨(by decide), trivial, trivial⟩ ?_
    have hJ109 : ∀ (w0_109 : Int32) (M109 : Mem), (SK wg M M109) → f_X7_meet M a b t = f_X7_meet_109 a b t M23 w0_109 M109 → V G X 18 0 0 (Qx G X 0 0 (p_X7_meet M a b t)) 109 [(0, .ref 52), (1, .int a), (2, .int b), (3, .int t), (5, .long (f_X7_more (mL M23 54 (ix a)) (mL M23 54 (ix b)))), (7, .long (f_X7_less (mL M23 55 (ix a)) (mL M23 55 (ix b))))] [.int w0_109] M109 := by
      intro w0_109 M109 s109 E
      refine V.seg F floX7 cjoX7 [.istore 4, .iload 4] (by decide +kernel) (pc2 := 113) (lv2 := [(4, .int w0_109), (0, .ref 52), (1, .int a), (2, .int b), (3, .int t), (5, .long (f_X7_more (mL M23 54 (ix a)) (mL M23 54 (ix b)))), (7, .long (f_X7_less (mL M23 55 (ix a)) (mL M23 55 (ix b))))]) (st2 := [.int w0_109]) (M2 := M109) rfl ⟨(by decide), trivial, trivial⟩ ?_
      refine V.if_eq (off := 9) F (by decide +kernel) (tgt := 122) (by decide) (fun h113 => ?_) (fun h113 => ?_)
      · replace E := E.trans (if_pos h113)
        refine V.seg F floX7 cjoX7 [.aload_n 0, .getfield 20, .iload_n 1, .laload, .aload_n 0, .getfield 20, .iload_n 2, .laload, .lor, .lstore 9, .aload_n 0, .getfield 23, .iload_n 1, .laload, .aload_n 0, .getfield 23, .iload_n 2, .laload, .lor, .lstore 11, .aload_n 0, .getfield 26, .iload_n 2, .laload, .aload_n 0, .getfield 26, .iload_n 1, .laload, .lcmp] (by decide +kernel) (pc2 := 165) (lv2 := [(11, .long ((mL M109 57 (ix a)) ||| (mL M109 57 (ix b)))), (9, .long ((mL M109 56 (ix a)) ||| (mL M109 56 (ix b)))), (4, .int w0_109), (0, .ref 52), (1, .int a), (2, .int b), (3, .int t), (5, .long (f_X7_more (mL M23 54 (ix a)) (mL M23 54 (ix b)))), (7, .long (f_X7_less (mL M23 55 (ix a)) (mL M23 55 (ix b))))]) (st2 := [.int (lg_cmp (mL M109 58 (ix b)) (mL M109 58 (ix a)))]) (M2 := M109) rfl ⟨trivial, ((q.sm s109.1).f 52 7 3 rfl), trivial, ((q.sm s109.1).a 56 22 1648 rfl (by first | assumption | exact vinc (by decide))), trivial, ((q.sm s109.1).f 52 7 3 rfl), trivial, ((q.sm s109.1).a 56 22 1648 rfl (by first | assumption | exact vinc (by decide))), trivial, (by decide), trivial, ((q.sm s109.1).f 52 7 4 rfl), trivial, ((q.sm s109.1).a 57 22 1648 rfl (by first | assumption | exact vinc (by decide))), trivial, ((q.sm s109.1).f 52 7 4 rfl), trivial, ((q.sm s109.1).a 57 22 1648 rfl (by first | assumption | exact vinc (by decide))), trivial, (by decide), trivial, ((q.sm s109.1).f 52 7 5 rfl), trivial, ((q.sm s109.1).a 58 22 1648 rfl (by first | assumption | exact vinc (by decide))), trivial, ((q.sm s109.1).f 52 7 5 rfl), trivial, ((q.sm s109.1).a 58 22 1648 rfl (by first | assumption | exact vinc (by decide))), trivial, trivial⟩ ?_
        have hJ173 : ∀ (w0_173 : Int32) (M173 : Mem), (SK wg M M173) → f_X7_meet M a b t = f_X7_meet_173 a b t M23 M109 w0_173 M173 → V G X 18 0 0 (Qx G X 0 0 (p_X7_meet M a b t)) 173 [(0, .ref 52), (1, .int a), (2, .int b), (3, .int t), (5, .long (f_X7_more (mL M23 54 (ix a)) (mL M23 54 (ix b)))), (7, .long (f_X7_less (mL M23 55 (ix a)) (mL M23 55 (ix b)))), (9, .long ((mL M109 56 (ix a)) ||| (mL M109 56 (ix b)))), (11, .long ((mL M109 57 (ix a)) ||| (mL M109 57 (ix b))))] [.int w0_173] M173 := by
          intro w0_173 M173 s173 E
          refine V.seg F floX7 cjoX7 [.istore 13, .iload 13] (by decide +kernel) (pc2 := 177) (lv2 := [(13, .int w0_173), (0, .ref 52), (1, .int a), (2, .int b), (3, .int t), (5, .long (f_X7_more (mL M23 54 (ix a)) (mL M23 54 (ix b)))), (7, .long (f_X7_less (mL M23 55 (ix a)) (mL M23 55 (ix b)))), (9, .long ((mL M109 56 (ix a)) ||| (mL M109 56 (ix b)))), (11, .long ((mL M109 57 (ix a)) ||| (mL M109 57 (ix b))))]) (st2 := [.int w0_173]) (M2 := M173) rfl ⟨(by decide), trivial, trivial⟩ ?_
          have hJ195 : ∀ (w0_195 : Int64) (M195 : Mem), (SK wg M M195) → (¬ w0_195 = 0) → f_X7_meet M a b t = f_X7_meet_195 a b t M23 M109 w0_173 w0_195 M195 → V G X 18 0 0 (Qx G X 0 0 (p_X7_meet M a b t)) 195 [(0, .ref 52), (1, .int a), (2, .int b), (3, .int t), (5, .long (f_X7_more (mL M23 54 (ix a)) (mL M23 54 (ix b)))), (7, .long (f_X7_less (mL M23 55 (ix a)) (mL M23 55 (ix b)))), (9, .long ((mL M109 56 (ix a)) ||| (mL M109 56 (ix b)))), (11, .long ((mL M109 57 (ix a)) ||| (mL M109 57 (ix b)))), (13, .int w0_173)] [.long w0_195] M195 := by
            intro w0_195 M195 s195 jn195 E
            refine V.seg F floX7 cjoX7 [.lstore 14, .iload 13] (by decide +kernel) (pc2 := 199) (lv2 := [(14, .long w0_195), (0, .ref 52), (1, .int a), (2, .int b), (3, .int t), (5, .long (f_X7_more (mL M23 54 (ix a)) (mL M23 54 (ix b)))), (7, .long (f_X7_less (mL M23 55 (ix a)) (mL M23 55 (ix b)))), (9, .long ((mL M109 56 (ix a)) ||| (mL M109 56 (ix b)))), (11, .long ((mL M109 57 (ix a)) ||| (mL M109 57 (ix b)))), (13, .int w0_173)]) (st2 := [.int w0_173]) (M2 := M195) rfl ⟨(by decide), trivial, trivial⟩ ?_
            have hJ217 : ∀ (w0_217 : Int64) (M217 : Mem), (SK wg M M217) → f_X7_meet M a b t = f_X7_meet_217 a b t M23 M109 w0_195 w0_217 M217 → V G X 18 0 0 (Qx G X 0 0 (p_X7_meet M a b t)) 217 [(0, .ref 52), (3, .int t), (5, .long (f_X7_more (mL M23 54 (ix a)) (mL M23 54 (ix b)))), (7, .long (f_X7_less (mL M23 55 (ix a)) (mL M23 55 (ix b)))), (9, .long ((mL M109 56 (ix a)) ||| (mL M109 56 (ix b)))), (11, .long ((mL M109 57 (ix a)) ||| (mL M109 57 (ix b)))), (14, .long w0_195)] [.long w0_217] M217 := by
              intro w0_217 M217 s217 E
              refine V.seg F floX7 cjoX7 [.lstore 16, .aload_n 0, .iload_n 3, .lload 5, .lload 7, .lload 9, .lload 11] (by decide +kernel) (pc2 := 229) (lv2 := [(16, .long w0_217), (0, .ref 52), (3, .int t), (5, .long (f_X7_more (mL M23 54 (ix a)) (mL M23 54 (ix b)))), (7, .long (f_X7_less (mL M23 55 (ix a)) (mL M23 55 (ix b)))), (9, .long ((mL M109 56 (ix a)) ||| (mL M109 56 (ix b)))), (11, .long ((mL M109 57 (ix a)) ||| (mL M109 57 (ix b)))), (14, .long w0_195)]) (st2 := [.long ((mL M109 57 (ix a)) ||| (mL M109 57 (ix b))), .long ((mL M109 56 (ix a)) ||| (mL M109 56 (ix b))), .long (f_X7_less (mL M23 55 (ix a)) (mL M23 55 (ix b))), .long (f_X7_more (mL M23 54 (ix a)) (mL M23 54 (ix b))), .int t, .ref 52]) (M2 := M217) rfl ⟨(by decide), trivial, trivial, trivial, trivial, trivial, trivial, trivial⟩ ?_
              refine V.callV (as := [.int t, .long (f_X7_more (mL M23 54 (ix a)) (mL M23 54 (ix b))), .long (f_X7_less (mL M23 55 (ix a)) (mL M23 55 (ix b))), .long ((mL M109 56 (ix a)) ||| (mL M109 56 (ix b))), .long ((mL M109 57 (ix a)) ||| (mL M109 57 (ix b)))]) (rest := []) F (by decide +kernel) lX7_157 bX7_put ⟨7, _, ((q.sm s217.1).o 52 7 rfl), rfl, rfl⟩ (c_X7_put G X.2.1 M217 t (f_X7_more (mL M23 54 (ix a)) (mL M23 54 (ix b))) (f_X7_less (mL M23 55 (ix a)) (mL M23 55 (ix b))) ((mL M109 56 (ix a)) ||| (mL M109 56 (ix b))) ((mL M109 57 (ix a)) ||| (mL M109 57 (ix b))) (q.sm s217.1) s217.2.1 (by first | assumption | exact vinc (by decide))) (rm_ok hRm hd (by decide) (by decide)) ⟨Nat.zero_le _, Nat.zero_le _⟩ (Nat.le_of_ble_eq_true rfl) (fun r_ N_ p_ => ?_)
              obtain ⟨rfl, rfl, t229⟩ := p_
              refine (?_ : ∀ (M232 : Mem), (SK wg M M232) → f_X7_meet M a b t = f_X7_meet_c232 t w0_195 w0_217 M232 → V G X 18 0 0 (Qx G X 0 0 (p_X7_meet M a b t)) 232 [(16, .long w0_217), (0, .ref 52), (3, .int t), (5, .long (f_X7_more (mL M23 54 (ix a)) (mL M23 54 (ix b)))), (7, .long (f_X7_less (mL M23 55 (ix a)) (mL M23 55 (ix b)))), (9, .long ((mL M109 56 (ix a)) ||| (mL M109 56 (ix b)))), (11, .long ((mL M109 57 (ix a)) ||| (mL M109 57 (ix b)))), (14, .long w0_195)] [] M232) _ (SK.tr s217 t229) E
              intro M232 s232 E
              refine V.seg F floX7 cjoX7 [.aload_n 0, .iload_n 3, .lload 14, .lload 16] (by decide +kernel) (pc2 := 238) (lv2 := [(16, .long w0_217), (0, .ref 52), (3, .int t), (5, .long (f_X7_more (mL M23 54 (ix a)) (mL M23 54 (ix b)))), (7, .long (f_X7_less (mL M23 55 (ix a)) (mL M23 55 (ix b)))), (9, .long ((mL M109 56 (ix a)) ||| (mL M109 56 (ix b)))), (11, .long ((mL M109 57 (ix a)) ||| (mL M109 57 (ix b)))), (14, .long w0_195)]) (st2 := [.long w0_217, .long w0_195, .int t, .ref 52]) (M2 := M232) rfl ⟨trivial, trivial, trivial, trivial, trivial⟩ ?_
              refine V.callV (as := [.int t, .long w0_195, .long w0_217]) (rest := []) F (by decide +kernel) lX7_161 bX7_setRest ⟨7, _, ((q.sm s232.1).o 52 7 rfl), rfl, rfl⟩ (c_X7_setRest G X.2.1 M232 t w0_195 w0_217 (q.sm s232.1) s232.2.1 (by first | assumption | exact vinc (by decide)) (by assumption)) (rm_ok hRm hd (by decide) (by decide)) ⟨Nat.zero_le _, Nat.zero_le _⟩ (Nat.le_of_ble_eq_true rfl) (fun r_ N_ p_ => ?_)
              obtain ⟨rfl, rfl, t238⟩ := p_
              refine (?_ : ∀ (M241 : Mem), (SK wg M M241) → f_X7_meet M a b t = f_X7_meet_c241 t M241 → V G X 18 0 0 (Qx G X 0 0 (p_X7_meet M a b t)) 241 [(16, .long w0_217), (0, .ref 52), (3, .int t), (5, .long (f_X7_more (mL M23 54 (ix a)) (mL M23 54 (ix b)))), (7, .long (f_X7_less (mL M23 55 (ix a)) (mL M23 55 (ix b)))), (9, .long ((mL M109 56 (ix a)) ||| (mL M109 56 (ix b)))), (11, .long ((mL M109 57 (ix a)) ||| (mL M109 57 (ix b)))), (14, .long w0_195)] [] M241) _ (SK.tr s232 t238) E
              intro M241 s241 E
              refine V.seg F floX7 cjoX7 [.aload_n 0, .iload_n 3] (by decide +kernel) (pc2 := 243) (lv2 := [(16, .long w0_217), (0, .ref 52), (3, .int t), (5, .long (f_X7_more (mL M23 54 (ix a)) (mL M23 54 (ix b)))), (7, .long (f_X7_less (mL M23 55 (ix a)) (mL M23 55 (ix b)))), (9, .long ((mL M109 56 (ix a)) ||| (mL M109 56 (ix b)))), (11, .long ((mL M109 57 (ix a)) ||| (mL M109 57 (ix b)))), (14, .long w0_195)]) (st2 := [.int t, .ref 52]) (M2 := M241) rfl ⟨trivial, trivial, trivial⟩ ?_
              refine V.callV (as := [.int t]) (rest := []) F (by decide +kernel) lX7_165 bX7_sharpen ⟨7, _, ((q.sm s241.1).o 52 7 rfl), rfl, rfl⟩ (c_X7_sharpen G X.2.1 M241 t (q.sm s241.1) s241.2.1 (by first | assumption | exact vinc (by decide))) (rm_ok hRm hd (by decide) (by decide)) ⟨Nat.zero_le _, Nat.zero_le _⟩ (Nat.le_of_ble_eq_true rfl) (fun r_ N_ p_ => ?_)
              obtain ⟨rfl, rfl, t243⟩ := p_
              refine (?_ : ∀ (M246 : Mem), (SK wg M M246) → f_X7_meet M a b t = f_X7_meet_c246 M246 → V G X 18 0 0 (Qx G X 0 0 (p_X7_meet M a b t)) 246 [(16, .long w0_217), (0, .ref 52), (3, .int t), (5, .long (f_X7_more (mL M23 54 (ix a)) (mL M23 54 (ix b)))), (7, .long (f_X7_less (mL M23 55 (ix a)) (mL M23 55 (ix b)))), (9, .long ((mL M109 56 (ix a)) ||| (mL M109 56 (ix b)))), (11, .long ((mL M109 57 (ix a)) ||| (mL M109 57 (ix b)))), (14, .long w0_195)] [] M246) _ (SK.tr s241 t243) E
              intro M246 s246 E
              exact V.vret F (by decide +kernel) ⟨rfl, E.symm, s246⟩
            refine V.if_eq (off := 12) F (by decide +kernel) (tgt := 211) (by decide) (fun h199 => ?_) (fun h199 => ?_)
            · replace E := E.trans (if_pos h199)
              refine V.seg F floX7 cjoX7 [.aload_n 0, .getfield 29, .iload_n 1, .laload] (by decide +kernel) (pc2 := 217) (lv2 := [(14, .long w0_195), (0, .ref 52), (1, .int a), (2, .int b), (3, .int t), (5, .long (f_X7_more (mL M23 54 (ix a)) (mL M23 54 (ix b)))), (7, .long (f_X7_less (mL M23 55 (ix a)) (mL M23 55 (ix b)))), (9, .long ((mL M109 56 (ix a)) ||| (mL M109 56 (ix b)))), (11, .long ((mL M109 57 (ix a)) ||| (mL M109 57 (ix b)))), (13, .int w0_173)]) (st2 := [.long (mL M195 59 (ix a))]) (M2 := M195) rfl ⟨trivial, ((q.sm s195.1).f 52 7 6 rfl), trivial, ((q.sm s195.1).a 59 22 1648 rfl (by first | assumption | exact vinc (by decide))), trivial⟩ ?_
              refine V.pick [1, 4, 5, 6, 7, 8, 0] rfl ?_
              exact hJ217 (mL M195 59 (ix a)) M195 s195 E
            · replace E := E.trans (if_neg h199)
              refine V.seg F floX7 cjoX7 [.aload_n 0, .getfield 29, .iload_n 2, .laload, .goto 9] (by decide +kernel) (pc2 := 217) (lv2 := [(14, .long w0_195), (0, .ref 52), (1, .int a), (2, .int b), (3, .int t), (5, .long (f_X7_more (mL M23 54 (ix a)) (mL M23 54 (ix b)))), (7, .long (f_X7_less (mL M23 55 (ix a)) (mL M23 55 (ix b)))), (9, .long ((mL M109 56 (ix a)) ||| (mL M109 56 (ix b)))), (11, .long ((mL M109 57 (ix a)) ||| (mL M109 57 (ix b)))), (13, .int w0_173)]) (st2 := [.long (mL M195 59 (ix b))]) (M2 := M195) rfl ⟨trivial, ((q.sm s195.1).f 52 7 6 rfl), trivial, ((q.sm s195.1).a 59 22 1648 rfl (by first | assumption | exact vinc (by decide))), (by decide), trivial⟩ ?_
              refine V.pick [1, 4, 5, 6, 7, 8, 0] rfl ?_
              exact hJ217 (mL M195 59 (ix b)) M195 s195 E
          refine V.if_eq (off := 12) F (by decide +kernel) (tgt := 189) (by decide) (fun h177 => ?_) (fun h177 => ?_)
          · replace E := E.trans (if_pos h177)
            refine V.seg F floX7 cjoX7 [.aload_n 0, .getfield 26, .iload_n 1, .laload] (by decide +kernel) (pc2 := 195) (lv2 := [(13, .int w0_173), (0, .ref 52), (1, .int a), (2, .int b), (3, .int t), (5, .long (f_X7_more (mL M23 54 (ix a)) (mL M23 54 (ix b)))), (7, .long (f_X7_less (mL M23 55 (ix a)) (mL M23 55 (ix b)))), (9, .long ((mL M109 56 (ix a)) ||| (mL M109 56 (ix b)))), (11, .long ((mL M109 57 (ix a)) ||| (mL M109 57 (ix b))))]) (st2 := [.long (mL M173 58 (ix a))]) (M2 := M173) rfl ⟨trivial, ((q.sm s173.1).f 52 7 5 rfl), trivial, ((q.sm s173.1).a 58 22 1648 rfl (by first | assumption | exact vinc (by decide))), trivial⟩ ?_
            refine V.pick [1, 2, 3, 4, 5, 6, 7, 8, 0] rfl ?_
            exact hJ195 (mL M173 58 (ix a)) M173 s173 (by first | exact s173.2.1 _ (vin_lt i_b) | exact s173.2.1 _ (vin_lt i_a)) E
          · replace E := E.trans (if_neg h177)
            refine V.seg F floX7 cjoX7 [.aload_n 0, .getfield 26, .iload_n 2, .laload, .goto 9] (by decide +kernel) (pc2 := 195) (lv2 := [(13, .int w0_173), (0, .ref 52), (1, .int a), (2, .int b), (3, .int t), (5, .long (f_X7_more (mL M23 54 (ix a)) (mL M23 54 (ix b)))), (7, .long (f_X7_less (mL M23 55 (ix a)) (mL M23 55 (ix b)))), (9, .long ((mL M109 56 (ix a)) ||| (mL M109 56 (ix b)))), (11, .long ((mL M109 57 (ix a)) ||| (mL M109 57 (ix b))))]) (st2 := [.long (mL M173 58 (ix b))]) (M2 := M173) rfl ⟨trivial, ((q.sm s173.1).f 52 7 5 rfl), trivial, ((q.sm s173.1).a 58 22 1648 rfl (by first | assumption | exact vinc (by decide))), (by decide), trivial⟩ ?_
            refine V.pick [1, 2, 3, 4, 5, 6, 7, 8, 0] rfl ?_
            exact hJ195 (mL M173 58 (ix b)) M173 s173 (by first | exact s173.2.1 _ (vin_lt i_b) | exact s173.2.1 _ (vin_lt i_a)) E
        refine V.lc_le (off := 7) F (by decide +kernel) (tgt := 172) (by decide) (fun h165 => ?_) (fun h165 => ?_)
        · replace E := E.trans (if_pos h165)
          refine V.seg F floX7 cjoX7 [.iconst 0] (by decide +kernel) (pc2 := 173) (lv2 := [(11, .long ((mL M109 57 (ix a)) ||| (mL M109 57 (ix b)))), (9, .long ((mL M109 56 (ix a)) ||| (mL M109 56 (ix b)))), (4, .int w0_109), (0, .ref 52), (1, .int a), (2, .int b), (3, .int t), (5, .long (f_X7_more (mL M23 54 (ix a)) (mL M23 54 (ix b)))), (7, .long (f_X7_less (mL M23 55 (ix a)) (mL M23 55 (ix b))))]) (st2 := [.int 0]) (M2 := M109) rfl ⟨trivial, trivial⟩ ?_
          refine V.pick [3, 4, 5, 6, 7, 8, 1, 0] rfl ?_
          exact hJ173 0 M109 s109 E
        · replace E := E.trans (if_neg h165)
          refine V.seg F floX7 cjoX7 [.iconst 1, .goto 4] (by decide +kernel) (pc2 := 173) (lv2 := [(11, .long ((mL M109 57 (ix a)) ||| (mL M109 57 (ix b)))), (9, .long ((mL M109 56 (ix a)) ||| (mL M109 56 (ix b)))), (4, .int w0_109), (0, .ref 52), (1, .int a), (2, .int b), (3, .int t), (5, .long (f_X7_more (mL M23 54 (ix a)) (mL M23 54 (ix b)))), (7, .long (f_X7_less (mL M23 55 (ix a)) (mL M23 55 (ix b))))]) (st2 := [.int 1]) (M2 := M109) rfl ⟨trivial, (by decide), trivial⟩ ?_
          refine V.pick [3, 4, 5, 6, 7, 8, 1, 0] rfl ?_
          exact hJ173 1 M109 s109 E
      · replace E := E.trans (if_neg h113)
        refine V.seg F floX7 cjoX7 [.aload_n 0, .iload_n 3] (by decide +kernel) (pc2 := 118) (lv2 := [(4, .int w0_109), (0, .ref 52), (1, .int a), (2, .int b), (3, .int t), (5, .long (f_X7_more (mL M23 54 (ix a)) (mL M23 54 (ix b)))), (7, .long (f_X7_less (mL M23 55 (ix a)) (mL M23 55 (ix b))))]) (st2 := [.int t, .ref 52]) (M2 := M109) rfl ⟨trivial, trivial, trivial⟩ ?_
        refine V.callV (as := [.int t]) (rest := []) F (by decide +kernel) lX7_115 bX7_nothing ⟨7, _, ((q.sm s109.1).o 52 7 rfl), rfl, rfl⟩ (c_X7_nothing G X.2.1 M109 t (q.sm s109.1) s109.2.1 (by first | assumption | exact vinc (by decide))) (rm_ok hRm hd (by decide) (by decide)) ⟨Nat.zero_le _, Nat.zero_le _⟩ (Nat.le_of_ble_eq_true rfl) (fun r_ N_ p_ => ?_)
        obtain ⟨rfl, rfl, t118⟩ := p_
        refine (?_ : ∀ (M121 : Mem), (SK wg M M121) → f_X7_meet M a b t = f_X7_meet_c121 M121 → V G X 18 0 0 (Qx G X 0 0 (p_X7_meet M a b t)) 121 [(4, .int w0_109), (0, .ref 52), (1, .int a), (2, .int b), (3, .int t), (5, .long (f_X7_more (mL M23 54 (ix a)) (mL M23 54 (ix b)))), (7, .long (f_X7_less (mL M23 55 (ix a)) (mL M23 55 (ix b))))] [] M121) _ (SK.tr s109 t118) E
        intro M121 s121 E
        exact V.vret F (by decide +kernel) ⟨rfl, E.symm, s121⟩
    have hJ104 : ∀ (M104 : Mem), (SK wg M M104) → f_X7_meet M a b t = f_X7_meet_104 a b t M23 M104 → V G X 18 0 0 (Qx G X 0 0 (p_X7_meet M a b t)) 104 [(0, .ref 52), (1, .int a), (2, .int b), (3, .int t), (5, .long (f_X7_more (mL M23 54 (ix a)) (mL M23 54 (ix b)))), (7, .long (f_X7_less (mL M23 55 (ix a)) (mL M23 55 (ix b))))] [] M104 := by
      intro M104 s104 E
      refine V.seg F floX7 cjoX7 [.iconst 1, .goto 4] (by decide +kernel) (pc2 := 109) (lv2 := [(0, .ref 52), (1, .int a), (2, .int b), (3, .int t), (5, .long (f_X7_more (mL M23 54 (ix a)) (mL M23 54 (ix b)))), (7, .long (f_X7_less (mL M23 55 (ix a)) (mL M23 55 (ix b))))]) (st2 := [.int 1]) (M2 := M104) rfl ⟨trivial, (by decide), trivial⟩ ?_
      refine V.pick [0, 1, 2, 3, 4, 5] rfl ?_
      exact hJ109 1 M104 s104 E
    refine V.if_ne (off := 43) F (by decide +kernel) (tgt := 104) (by decide) (fun h61 => ?_) (fun h61 => ?_)
    · replace E := E.trans (if_neg h61)
      refine V.pick [3, 4, 5, 6, 1, 0] rfl ?_
      exact hJ104 M23 s23 E
    · replace E := E.trans (if_pos h61)
      refine V.seg F floX7 cjoX7 [.lload 5, .lload 7, .lcmp] (by decide +kernel) (pc2 := 69) (lv2 := [(7, .long (f_X7_less (mL M23 55 (ix a)) (mL M23 55 (ix b)))), (5, .long (f_X7_more (mL M23 54 (ix a)) (mL M23 54 (ix b)))), (4, .int w0_23), (0, .ref 52), (1, .int a), (2, .int b), (3, .int t)]) (st2 := [.int (lg_cmp (f_X7_more (mL M23 54 (ix a)) (mL M23 54 (ix b))) (f_X7_less (mL M23 55 (ix a)) (mL M23 55 (ix b))))]) (M2 := M23) rfl ⟨trivial, trivial, trivial, trivial⟩ ?_
      refine V.lc_gt (off := 35) F (by decide +kernel) (tgt := 104) (by decide) (fun h69 => ?_) (fun h69 => ?_)
      · replace E := E.trans (if_pos h69)
        refine V.pick [3, 4, 5, 6, 1, 0] rfl ?_
        exact hJ104 M23 s23 E
      · replace E := E.trans (if_neg h69)
        refine V.seg F floX7 cjoX7 [.aload_n 0, .getfield 20, .iload_n 1, .laload, .aload_n 0, .getfield 20, .iload_n 2, .laload, .land, .aload_n 0, .getfield 23, .iload_n 1, .laload, .aload_n 0, .getfield 23, .iload_n 2, .laload, .lxor, .land, .lconst 0, .lcmp] (by decide +kernel) (pc2 := 101) (lv2 := [(7, .long (f_X7_less (mL M23 55 (ix a)) (mL M23 55 (ix b)))), (5, .long (f_X7_more (mL M23 54 (ix a)) (mL M23 54 (ix b)))), (4, .int w0_23), (0, .ref 52), (1, .int a), (2, .int b), (3, .int t)]) (st2 := [.int (lg_cmp (((mL M23 56 (ix a)) &&& (mL M23 56 (ix b))) &&& ((mL M23 57 (ix a)) ^^^ (mL M23 57 (ix b)))) 0)]) (M2 := M23) rfl ⟨trivial, ((q.sm s23.1).f 52 7 3 rfl), trivial, ((q.sm s23.1).a 56 22 1648 rfl (by first | assumption | exact vinc (by decide))), trivial, ((q.sm s23.1).f 52 7 3 rfl), trivial, ((q.sm s23.1).a 56 22 1648 rfl (by first | assumption | exact vinc (by decide))), trivial, trivial, ((q.sm s23.1).f 52 7 4 rfl), trivial, ((q.sm s23.1).a 57 22 1648 rfl (by first | assumption | exact vinc (by decide))), trivial, ((q.sm s23.1).f 52 7 4 rfl), trivial, ((q.sm s23.1).a 57 22 1648 rfl (by first | assumption | exact vinc (by decide))), trivial, trivial, trivial, trivial, trivial⟩ ?_
        refine V.lc_eq (off := 7) F (by decide +kernel) (tgt := 108) (by decide) (fun h101 => ?_) (fun h101 => ?_)
        · replace E := E.trans (if_pos h101)
          refine V.seg F floX7 cjoX7 [.iconst 0] (by decide +kernel) (pc2 := 109) (lv2 := [(7, .long (f_X7_less (mL M23 55 (ix a)) (mL M23 55 (ix b)))), (5, .long (f_X7_more (mL M23 54 (ix a)) (mL M23 54 (ix b)))), (4, .int w0_23), (0, .ref 52), (1, .int a), (2, .int b), (3, .int t)]) (st2 := [.int 0]) (M2 := M23) rfl ⟨trivial, trivial⟩ ?_
          refine V.pick [3, 4, 5, 6, 1, 0] rfl ?_
          exact hJ109 0 M23 s23 E
        · replace E := E.trans (if_neg h101)
          refine V.pick [3, 4, 5, 6, 1, 0] rfl ?_
          exact hJ104 M23 s23 E
  have hJ18 : ∀ (M18 : Mem), (SK wg M M18) → f_X7_meet M a b t = f_X7_meet_18 a b t M18 → V G X 18 0 0 (Qx G X 0 0 (p_X7_meet M a b t)) 18 [(0, .ref 52), (1, .int a), (2, .int b), (3, .int t)] [] M18 := by
    intro M18 s18 E
    refine V.seg F floX7 cjoX7 [.iconst 1, .goto 4] (by decide +kernel) (pc2 := 23) (lv2 := [(0, .ref 52), (1, .int a), (2, .int b), (3, .int t)]) (st2 := [.int 1]) (M2 := M18) rfl ⟨trivial, (by decide), trivial⟩ ?_
    refine V.pick [0, 1, 2, 3] rfl ?_
    exact hJ23 1 M18 s18 E
  refine V.if_ne (off := 12) F (by decide +kernel) (tgt := 18) (by decide) (fun h6 => ?_) (fun h6 => ?_)
  · replace E := E.trans (if_neg h6)
    refine V.pick [0, 1, 2, 3] rfl ?_
    exact hJ18 M (SK.rf (w := wg) gb) E
  · replace E := E.trans (if_pos h6)
    refine V.seg F floX7 cjoX7 [.aload_n 0, .getfield 9, .iload_n 2, .baload] (by decide +kernel) (pc2 := 15) (lv2 := [(0, .ref 52), (1, .int a), (2, .int b), (3, .int t)]) (st2 := [.int (mI M 53 (ix b))]) (M2 := M) rfl ⟨trivial, (q.f 52 7 0 rfl), trivial, (q.a 53 21 1648 rfl (by first | assumption | exact vinc (by decide))), trivial⟩ ?_
    refine V.if_eq (off := 7) F (by decide +kernel) (tgt := 22) (by decide) (fun h15 => ?_) (fun h15 => ?_)
    · replace E := E.trans (if_pos h15)
      refine V.seg F floX7 cjoX7 [.iconst 0] (by decide +kernel) (pc2 := 23) (lv2 := [(0, .ref 52), (1, .int a), (2, .int b), (3, .int t)]) (st2 := [.int 0]) (M2 := M) rfl ⟨trivial, trivial⟩ ?_
      refine V.pick [0, 1, 2, 3] rfl ?_
      exact hJ23 0 M (SK.rf (w := wg) gb) E
    · replace E := E.trans (if_neg h15)
      refine V.pick [0, 1, 2, 3] rfl ?_
      exact hJ18 M (SK.rf (w := wg) gb) E
def f_X7_alone (op : Int32) (a : Int64) : Int64 := if op = 12 then -a else if op = 13 then a ^^^ ((-1)) else if op = 14 then Int32.toInt64 (Int8.toInt32 (Int32.toInt8 (Int64.toInt32 a))) else if op = 15 then Int32.toInt64 (Int16.toInt32 (Int32.toInt16 (Int64.toInt32 a))) else if op = 16 then Int32.toInt64 (Int64.toInt32 a) else if op = 17 then a &&& 255 else if op = 18 then a &&& 65535 else a &&& 4294967295
abbrev p_X7_alone (M : Mem) (op : Int32) (a : Int64) : Option Value → Mem → Prop := fun r N => r = some (.long (f_X7_alone op a)) ∧ N = M
set_option maxRecDepth 100000 in
set_option maxHeartbeats 4000000 in
theorem c_X7_alone (G : Ctx) (l : Launch) (M : Mem) (op : Int32) (a : Int64)  : CT G l 0 mX7_alone [.int op, .long a] M 0 0 (p_X7_alone M op a) := by
  refine CT.of (by decide) (Nat.le_of_ble_eq_true rfl) ?_
  intro X d hd hl hRm hnm F
  subst hl
  have E : f_X7_alone op a = f_X7_alone op a := rfl
  show V G X 3 0 0 (Qx G X 0 0 (p_X7_alone M op a)) 0 [(0, .int op), (1, .long a)] [] M
  refine V.seg F floX7 cjoX7 [.iload_n 0] (by decide +kernel) (pc2 := 1) (lv2 := [(0, .int op), (1, .long a)]) (st2 := [.int op]) (M2 := M) rfl ⟨trivial, trivial⟩ ?_
  by_cases h1_0 : op = 12
  · replace E := E.trans (if_pos h1_0)
    refine V.swo (dflt := 78) (lo := 12) (hi := 18) (offs := #[43, 46, 52, 57, 62, 66, 72]) (len := 43) (off := 43) (tgt := 44) F (by decide +kernel) (by rw [h1_0]; rfl) rfl (by decide) ?_
    refine V.seg F floX7 cjoX7 [.lload_n 1, .lneg] (by decide +kernel) (pc2 := 46) (lv2 := [(0, .int op), (1, .long a)]) (st2 := [.long (-a)]) (M2 := M) rfl ⟨trivial, trivial, trivial⟩ ?_
    exact V.lret F (by decide +kernel) ⟨congrArg (fun z => some (Value.long z)) E.symm, rfl⟩
  · replace E := E.trans (if_neg h1_0)
    by_cases h1_1 : op = 13
    · replace E := E.trans (if_pos h1_1)
      refine V.swo (dflt := 78) (lo := 12) (hi := 18) (offs := #[43, 46, 52, 57, 62, 66, 72]) (len := 43) (off := 46) (tgt := 47) F (by decide +kernel) (by rw [h1_1]; rfl) rfl (by decide) ?_
      refine V.seg F floX7 cjoX7 [.lload_n 1, .ldc2_w 87, .lxor] (by decide +kernel) (pc2 := 52) (lv2 := [(0, .int op), (1, .long a)]) (st2 := [.long (a ^^^ ((-1)))]) (M2 := M) rfl ⟨trivial, trivial, trivial, trivial⟩ ?_
      exact V.lret F (by decide +kernel) ⟨congrArg (fun z => some (Value.long z)) E.symm, rfl⟩
    · replace E := E.trans (if_neg h1_1)
      by_cases h1_2 : op = 14
      · replace E := E.trans (if_pos h1_2)
        refine V.swo (dflt := 78) (lo := 12) (hi := 18) (offs := #[43, 46, 52, 57, 62, 66, 72]) (len := 43) (off := 52) (tgt := 53) F (by decide +kernel) (by rw [h1_2]; rfl) rfl (by decide) ?_
        refine V.seg F floX7 cjoX7 [.lload_n 1, .l2i, .i2b, .i2l] (by decide +kernel) (pc2 := 57) (lv2 := [(0, .int op), (1, .long a)]) (st2 := [.long (Int32.toInt64 (Int8.toInt32 (Int32.toInt8 (Int64.toInt32 a))))]) (M2 := M) rfl ⟨trivial, trivial, trivial, trivial, trivial⟩ ?_
        exact V.lret F (by decide +kernel) ⟨congrArg (fun z => some (Value.long z)) E.symm, rfl⟩
      · replace E := E.trans (if_neg h1_2)
        by_cases h1_3 : op = 15
        · replace E := E.trans (if_pos h1_3)
          refine V.swo (dflt := 78) (lo := 12) (hi := 18) (offs := #[43, 46, 52, 57, 62, 66, 72]) (len := 43) (off := 57) (tgt := 58) F (by decide +kernel) (by rw [h1_3]; rfl) rfl (by decide) ?_
          refine V.seg F floX7 cjoX7 [.lload_n 1, .l2i, .i2s, .i2l] (by decide +kernel) (pc2 := 62) (lv2 := [(0, .int op), (1, .long a)]) (st2 := [.long (Int32.toInt64 (Int16.toInt32 (Int32.toInt16 (Int64.toInt32 a))))]) (M2 := M) rfl ⟨trivial, trivial, trivial, trivial, trivial⟩ ?_
          exact V.lret F (by decide +kernel) ⟨congrArg (fun z => some (Value.long z)) E.symm, rfl⟩
        · replace E := E.trans (if_neg h1_3)
          by_cases h1_4 : op = 16
          · replace E := E.trans (if_pos h1_4)
            refine V.swo (dflt := 78) (lo := 12) (hi := 18) (offs := #[43, 46, 52, 57, 62, 66, 72]) (len := 43) (off := 62) (tgt := 63) F (by decide +kernel) (by rw [h1_4]; rfl) rfl (by decide) ?_
            refine V.seg F floX7 cjoX7 [.lload_n 1, .l2i, .i2l] (by decide +kernel) (pc2 := 66) (lv2 := [(0, .int op), (1, .long a)]) (st2 := [.long (Int32.toInt64 (Int64.toInt32 a))]) (M2 := M) rfl ⟨trivial, trivial, trivial, trivial⟩ ?_
            exact V.lret F (by decide +kernel) ⟨congrArg (fun z => some (Value.long z)) E.symm, rfl⟩
          · replace E := E.trans (if_neg h1_4)
            by_cases h1_5 : op = 17
            · replace E := E.trans (if_pos h1_5)
              refine V.swo (dflt := 78) (lo := 12) (hi := 18) (offs := #[43, 46, 52, 57, 62, 66, 72]) (len := 43) (off := 66) (tgt := 67) F (by decide +kernel) (by rw [h1_5]; rfl) rfl (by decide) ?_
              refine V.seg F floX7 cjoX7 [.lload_n 1, .ldc2_w 174, .land] (by decide +kernel) (pc2 := 72) (lv2 := [(0, .int op), (1, .long a)]) (st2 := [.long (a &&& 255)]) (M2 := M) rfl ⟨trivial, trivial, trivial, trivial⟩ ?_
              exact V.lret F (by decide +kernel) ⟨congrArg (fun z => some (Value.long z)) E.symm, rfl⟩
            · replace E := E.trans (if_neg h1_5)
              by_cases h1_6 : op = 18
              · replace E := E.trans (if_pos h1_6)
                refine V.swo (dflt := 78) (lo := 12) (hi := 18) (offs := #[43, 46, 52, 57, 62, 66, 72]) (len := 43) (off := 72) (tgt := 73) F (by decide +kernel) (by rw [h1_6]; rfl) rfl (by decide) ?_
                refine V.seg F floX7 cjoX7 [.lload_n 1, .ldc2_w 176, .land] (by decide +kernel) (pc2 := 78) (lv2 := [(0, .int op), (1, .long a)]) (st2 := [.long (a &&& 65535)]) (M2 := M) rfl ⟨trivial, trivial, trivial, trivial⟩ ?_
                exact V.lret F (by decide +kernel) ⟨congrArg (fun z => some (Value.long z)) E.symm, rfl⟩
              · replace E := E.trans (if_neg h1_6)
                refine V.swo (dflt := 78) (lo := 12) (hi := 18) (offs := #[43, 46, 52, 57, 62, 66, 72]) (len := 43) (off := 78) (tgt := 79) F (by decide +kernel) (sw_dflt 7 (by decide) (h := fun k_ hk_ e_ => match k_, hk_, e_ with | 0, _, e_ => absurd ((e_.trans (by decide))) h1_0 | 1, _, e_ => absurd ((e_.trans (by decide))) h1_1 | 2, _, e_ => absurd ((e_.trans (by decide))) h1_2 | 3, _, e_ => absurd ((e_.trans (by decide))) h1_3 | 4, _, e_ => absurd ((e_.trans (by decide))) h1_4 | 5, _, e_ => absurd ((e_.trans (by decide))) h1_5 | 6, _, e_ => absurd ((e_.trans (by decide))) h1_6 | k_ + 7, hk_, _ => absurd hk_ (by omega))) rfl (by decide) ?_
                refine V.seg F floX7 cjoX7 [.lload_n 1, .ldc2_w 178, .land] (by decide +kernel) (pc2 := 84) (lv2 := [(0, .int op), (1, .long a)]) (st2 := [.long (a &&& 4294967295)]) (M2 := M) rfl ⟨trivial, trivial, trivial, trivial⟩ ?_
                exact V.lret F (by decide +kernel) ⟨congrArg (fun z => some (Value.long z)) E.symm, rfl⟩
def f_X7_reckon (op : Int32) (a : Int64) (b : Int64) : Int64 := if op = 0 then a + b else if op = 1 then a - b else if op = 2 then a * b else if op = 3 then a &&& b else if op = 4 then a ||| b else if op = 5 then a ^^^ b else if op = 6 then jshl a (Int64.toInt32 b) else if op = 7 then jshr a (Int64.toInt32 b) else if op = 8 then jushr a (Int64.toInt32 b) else if op = 9 then a / b else if op = 10 then jrem a b else if op = 11 then ((a ^^^ (jushr a 29)) * ((-4658895280553007687))) + b else f_X7_alone op a
abbrev p_X7_reckon (M : Mem) (op : Int32) (a : Int64) (b : Int64) : Option Value → Mem → Prop := fun r N => r = some (.long (f_X7_reckon op a b)) ∧ N = M
set_option maxRecDepth 100000 in
set_option maxHeartbeats 4000000 in
theorem c_X7_reckon (G : Ctx) (l : Launch) (M : Mem) (op : Int32) (a : Int64) (b : Int64) (hb : op = 9 ∨ op = 10 → ¬ b = 0) : CT G l 1 mX7_reckon [.int op, .long a, .long b] M 0 0 (p_X7_reckon M op a b) := by
  refine CT.of (by decide) (Nat.le_of_ble_eq_true rfl) ?_
  intro X d hd hl hRm hnm F
  subst hl
  have E : f_X7_reckon op a b = f_X7_reckon op a b := rfl
  show V G X 5 0 0 (Qx G X 0 0 (p_X7_reckon M op a b)) 0 [(0, .int op), (1, .long a), (3, .long b)] [] M
  refine V.seg F floX7 cjoX7 [.iload_n 0] (by decide +kernel) (pc2 := 1) (lv2 := [(0, .int op), (1, .long a), (3, .long b)]) (st2 := [.int op]) (M2 := M) rfl ⟨trivial, trivial⟩ ?_
  by_cases h1_0 : op = 0
  · replace E := E.trans (if_pos h1_0)
    refine V.swo (dflt := 123) (lo := 0) (hi := 11) (offs := #[63, 67, 71, 75, 79, 83, 87, 92, 97, 102, 106, 110]) (len := 63) (off := 63) (tgt := 64) F (by decide +kernel) (by rw [h1_0]; rfl) rfl (by decide) ?_
    refine V.seg F floX7 cjoX7 [.lload_n 1, .lload_n 3, .ladd] (by decide +kernel) (pc2 := 67) (lv2 := [(0, .int op), (1, .long a), (3, .long b)]) (st2 := [.long (a + b)]) (M2 := M) rfl ⟨trivial, trivial, trivial, trivial⟩ ?_
    exact V.lret F (by decide +kernel) ⟨congrArg (fun z => some (Value.long z)) E.symm, rfl⟩
  · replace E := E.trans (if_neg h1_0)
    by_cases h1_1 : op = 1
    · replace E := E.trans (if_pos h1_1)
      refine V.swo (dflt := 123) (lo := 0) (hi := 11) (offs := #[63, 67, 71, 75, 79, 83, 87, 92, 97, 102, 106, 110]) (len := 63) (off := 67) (tgt := 68) F (by decide +kernel) (by rw [h1_1]; rfl) rfl (by decide) ?_
      refine V.seg F floX7 cjoX7 [.lload_n 1, .lload_n 3, .lsub] (by decide +kernel) (pc2 := 71) (lv2 := [(0, .int op), (1, .long a), (3, .long b)]) (st2 := [.long (a - b)]) (M2 := M) rfl ⟨trivial, trivial, trivial, trivial⟩ ?_
      exact V.lret F (by decide +kernel) ⟨congrArg (fun z => some (Value.long z)) E.symm, rfl⟩
    · replace E := E.trans (if_neg h1_1)
      by_cases h1_2 : op = 2
      · replace E := E.trans (if_pos h1_2)
        refine V.swo (dflt := 123) (lo := 0) (hi := 11) (offs := #[63, 67, 71, 75, 79, 83, 87, 92, 97, 102, 106, 110]) (len := 63) (off := 71) (tgt := 72) F (by decide +kernel) (by rw [h1_2]; rfl) rfl (by decide) ?_
        refine V.seg F floX7 cjoX7 [.lload_n 1, .lload_n 3, .lmul] (by decide +kernel) (pc2 := 75) (lv2 := [(0, .int op), (1, .long a), (3, .long b)]) (st2 := [.long (a * b)]) (M2 := M) rfl ⟨trivial, trivial, trivial, trivial⟩ ?_
        exact V.lret F (by decide +kernel) ⟨congrArg (fun z => some (Value.long z)) E.symm, rfl⟩
      · replace E := E.trans (if_neg h1_2)
        by_cases h1_3 : op = 3
        · replace E := E.trans (if_pos h1_3)
          refine V.swo (dflt := 123) (lo := 0) (hi := 11) (offs := #[63, 67, 71, 75, 79, 83, 87, 92, 97, 102, 106, 110]) (len := 63) (off := 75) (tgt := 76) F (by decide +kernel) (by rw [h1_3]; rfl) rfl (by decide) ?_
          refine V.seg F floX7 cjoX7 [.lload_n 1, .lload_n 3, .land] (by decide +kernel) (pc2 := 79) (lv2 := [(0, .int op), (1, .long a), (3, .long b)]) (st2 := [.long (a &&& b)]) (M2 := M) rfl ⟨trivial, trivial, trivial, trivial⟩ ?_
          exact V.lret F (by decide +kernel) ⟨congrArg (fun z => some (Value.long z)) E.symm, rfl⟩
        · replace E := E.trans (if_neg h1_3)
          by_cases h1_4 : op = 4
          · replace E := E.trans (if_pos h1_4)
            refine V.swo (dflt := 123) (lo := 0) (hi := 11) (offs := #[63, 67, 71, 75, 79, 83, 87, 92, 97, 102, 106, 110]) (len := 63) (off := 79) (tgt := 80) F (by decide +kernel) (by rw [h1_4]; rfl) rfl (by decide) ?_
            refine V.seg F floX7 cjoX7 [.lload_n 1, .lload_n 3, .lor] (by decide +kernel) (pc2 := 83) (lv2 := [(0, .int op), (1, .long a), (3, .long b)]) (st2 := [.long (a ||| b)]) (M2 := M) rfl ⟨trivial, trivial, trivial, trivial⟩ ?_
            exact V.lret F (by decide +kernel) ⟨congrArg (fun z => some (Value.long z)) E.symm, rfl⟩
          · replace E := E.trans (if_neg h1_4)
            by_cases h1_5 : op = 5
            · replace E := E.trans (if_pos h1_5)
              refine V.swo (dflt := 123) (lo := 0) (hi := 11) (offs := #[63, 67, 71, 75, 79, 83, 87, 92, 97, 102, 106, 110]) (len := 63) (off := 83) (tgt := 84) F (by decide +kernel) (by rw [h1_5]; rfl) rfl (by decide) ?_
              refine V.seg F floX7 cjoX7 [.lload_n 1, .lload_n 3, .lxor] (by decide +kernel) (pc2 := 87) (lv2 := [(0, .int op), (1, .long a), (3, .long b)]) (st2 := [.long (a ^^^ b)]) (M2 := M) rfl ⟨trivial, trivial, trivial, trivial⟩ ?_
              exact V.lret F (by decide +kernel) ⟨congrArg (fun z => some (Value.long z)) E.symm, rfl⟩
            · replace E := E.trans (if_neg h1_5)
              by_cases h1_6 : op = 6
              · replace E := E.trans (if_pos h1_6)
                refine V.swo (dflt := 123) (lo := 0) (hi := 11) (offs := #[63, 67, 71, 75, 79, 83, 87, 92, 97, 102, 106, 110]) (len := 63) (off := 87) (tgt := 88) F (by decide +kernel) (by rw [h1_6]; rfl) rfl (by decide) ?_
                refine V.seg F floX7 cjoX7 [.lload_n 1, .lload_n 3, .l2i, .lshl] (by decide +kernel) (pc2 := 92) (lv2 := [(0, .int op), (1, .long a), (3, .long b)]) (st2 := [.long (jshl a (Int64.toInt32 b))]) (M2 := M) rfl ⟨trivial, trivial, trivial, trivial, trivial⟩ ?_
                exact V.lret F (by decide +kernel) ⟨congrArg (fun z => some (Value.long z)) E.symm, rfl⟩
              · replace E := E.trans (if_neg h1_6)
                by_cases h1_7 : op = 7
                · replace E := E.trans (if_pos h1_7)
                  refine V.swo (dflt := 123) (lo := 0) (hi := 11) (offs := #[63, 67, 71, 75, 79, 83, 87, 92, 97, 102, 106, 110]) (len := 63) (off := 92) (tgt := 93) F (by decide +kernel) (by rw [h1_7]; rfl) rfl (by decide) ?_
                  refine V.seg F floX7 cjoX7 [.lload_n 1, .lload_n 3, .l2i, .lshr] (by decide +kernel) (pc2 := 97) (lv2 := [(0, .int op), (1, .long a), (3, .long b)]) (st2 := [.long (jshr a (Int64.toInt32 b))]) (M2 := M) rfl ⟨trivial, trivial, trivial, trivial, trivial⟩ ?_
                  exact V.lret F (by decide +kernel) ⟨congrArg (fun z => some (Value.long z)) E.symm, rfl⟩
                · replace E := E.trans (if_neg h1_7)
                  by_cases h1_8 : op = 8
                  · replace E := E.trans (if_pos h1_8)
                    refine V.swo (dflt := 123) (lo := 0) (hi := 11) (offs := #[63, 67, 71, 75, 79, 83, 87, 92, 97, 102, 106, 110]) (len := 63) (off := 97) (tgt := 98) F (by decide +kernel) (by rw [h1_8]; rfl) rfl (by decide) ?_
                    refine V.seg F floX7 cjoX7 [.lload_n 1, .lload_n 3, .l2i, .lushr] (by decide +kernel) (pc2 := 102) (lv2 := [(0, .int op), (1, .long a), (3, .long b)]) (st2 := [.long (jushr a (Int64.toInt32 b))]) (M2 := M) rfl ⟨trivial, trivial, trivial, trivial, trivial⟩ ?_
                    exact V.lret F (by decide +kernel) ⟨congrArg (fun z => some (Value.long z)) E.symm, rfl⟩
                  · replace E := E.trans (if_neg h1_8)
                    by_cases h1_9 : op = 9
                    · replace E := E.trans (if_pos h1_9)
                      refine V.swo (dflt := 123) (lo := 0) (hi := 11) (offs := #[63, 67, 71, 75, 79, 83, 87, 92, 97, 102, 106, 110]) (len := 63) (off := 102) (tgt := 103) F (by decide +kernel) (by rw [h1_9]; rfl) rfl (by decide) ?_
                      refine V.seg F floX7 cjoX7 [.lload_n 1, .lload_n 3, .ldiv] (by decide +kernel) (pc2 := 106) (lv2 := [(0, .int op), (1, .long a), (3, .long b)]) (st2 := [.long (a / b)]) (M2 := M) rfl ⟨trivial, trivial, (hb (Or.inl h1_9)), trivial⟩ ?_
                      exact V.lret F (by decide +kernel) ⟨congrArg (fun z => some (Value.long z)) E.symm, rfl⟩
                    · replace E := E.trans (if_neg h1_9)
                      by_cases h1_10 : op = 10
                      · replace E := E.trans (if_pos h1_10)
                        refine V.swo (dflt := 123) (lo := 0) (hi := 11) (offs := #[63, 67, 71, 75, 79, 83, 87, 92, 97, 102, 106, 110]) (len := 63) (off := 106) (tgt := 107) F (by decide +kernel) (by rw [h1_10]; rfl) rfl (by decide) ?_
                        refine V.seg F floX7 cjoX7 [.lload_n 1, .lload_n 3, .lrem] (by decide +kernel) (pc2 := 110) (lv2 := [(0, .int op), (1, .long a), (3, .long b)]) (st2 := [.long (jrem a b)]) (M2 := M) rfl ⟨trivial, trivial, (hb (Or.inr h1_10)), trivial⟩ ?_
                        exact V.lret F (by decide +kernel) ⟨congrArg (fun z => some (Value.long z)) E.symm, rfl⟩
                      · replace E := E.trans (if_neg h1_10)
                        by_cases h1_11 : op = 11
                        · replace E := E.trans (if_pos h1_11)
                          refine V.swo (dflt := 123) (lo := 0) (hi := 11) (offs := #[63, 67, 71, 75, 79, 83, 87, 92, 97, 102, 106, 110]) (len := 63) (off := 110) (tgt := 111) F (by decide +kernel) (by rw [h1_11]; rfl) rfl (by decide) ?_
                          refine V.seg F floX7 cjoX7 [.lload_n 1, .lload_n 1, .bipush 29, .lushr, .lxor, .ldc2_w 168, .lmul, .lload_n 3, .ladd] (by decide +kernel) (pc2 := 123) (lv2 := [(0, .int op), (1, .long a), (3, .long b)]) (st2 := [.long (((a ^^^ (jushr a 29)) * ((-4658895280553007687))) + b)]) (M2 := M) rfl ⟨trivial, trivial, trivial, trivial, trivial, trivial, trivial, trivial, trivial, trivial⟩ ?_
                          exact V.lret F (by decide +kernel) ⟨congrArg (fun z => some (Value.long z)) E.symm, rfl⟩
                        · replace E := E.trans (if_neg h1_11)
                          refine V.swo (dflt := 123) (lo := 0) (hi := 11) (offs := #[63, 67, 71, 75, 79, 83, 87, 92, 97, 102, 106, 110]) (len := 63) (off := 123) (tgt := 124) F (by decide +kernel) (sw_dflt 12 (by decide) (h := fun k_ hk_ e_ => match k_, hk_, e_ with | 0, _, e_ => absurd ((e_.trans (by decide))) h1_0 | 1, _, e_ => absurd ((e_.trans (by decide))) h1_1 | 2, _, e_ => absurd ((e_.trans (by decide))) h1_2 | 3, _, e_ => absurd ((e_.trans (by decide))) h1_3 | 4, _, e_ => absurd ((e_.trans (by decide))) h1_4 | 5, _, e_ => absurd ((e_.trans (by decide))) h1_5 | 6, _, e_ => absurd ((e_.trans (by decide))) h1_6 | 7, _, e_ => absurd ((e_.trans (by decide))) h1_7 | 8, _, e_ => absurd ((e_.trans (by decide))) h1_8 | 9, _, e_ => absurd ((e_.trans (by decide))) h1_9 | 10, _, e_ => absurd ((e_.trans (by decide))) h1_10 | 11, _, e_ => absurd ((e_.trans (by decide))) h1_11 | k_ + 12, hk_, _ => absurd hk_ (by omega))) rfl (by decide) ?_
                          refine V.seg F floX7 cjoX7 [.iload_n 0, .lload_n 1] (by decide +kernel) (pc2 := 126) (lv2 := [(0, .int op), (1, .long a), (3, .long b)]) (st2 := [.long a, .int op]) (M2 := M) rfl ⟨trivial, trivial, trivial⟩ ?_
                          refine V.callS (as := [.int op, .long a]) (rest := []) F (by decide +kernel) lX7_170 bX7_alone (c_X7_alone G X.2.1 M op a) (rm_ok hRm hd (by decide) (by decide)) ⟨Nat.zero_le _, Nat.zero_le _⟩ (Nat.le_of_ble_eq_true rfl) (fun r_ N_ p_ => ?_)
                          obtain ⟨rfl, hN_⟩ := p_
                          rw [hN_]
                          clear hN_
                          exact V.lret F (by decide +kernel) ⟨congrArg (fun z => some (Value.long z)) E.symm, rfl⟩
def f_X7_turn_c35  (M35 : Mem) : Mem := M35
def f_X7_turn (M : Mem) (a : Int32) (t : Int32) : Mem := f_X7_turn_c35 (uL (uL M 56 (ix t) (mL M 56 (ix a))) 57 (ix t) (((mL (uL M 56 (ix t) (mL M 56 (ix a))) 57 (ix a)) ^^^ ((-1))) &&& (mL (uL M 56 (ix t) (mL M 56 (ix a))) 56 (ix a))))
abbrev p_X7_turn (M : Mem) (a : Int32) (t : Int32) : Option Value → Mem → Prop := fun r N => r = none ∧ N = f_X7_turn M a t ∧ SK wg M N
set_option maxRecDepth 100000 in
set_option maxHeartbeats 4000000 in
theorem c_X7_turn (G : Ctx) (l : Launch) (M : Mem) (a : Int32) (t : Int32) (q : Ok M) (gb : Gb M) (i_a : vp_in a 1648) (i_t : vp_in t 1648) : CT G l 0 mX7_turn [.ref 52, .int a, .int t] M 0 0 (p_X7_turn M a t) := by
  refine CT.of (by decide) (Nat.le_of_ble_eq_true rfl) ?_
  intro X d hd hl hRm hnm F
  subst hl
  have E : f_X7_turn M a t = f_X7_turn M a t := rfl
  show V G X 3 0 0 (Qx G X 0 0 (p_X7_turn M a t)) 0 [(0, .ref 52), (1, .int a), (2, .int t)] [] M
  refine V.seg F floX7 cjoX7 [.aload_n 0, .getfield 20, .iload_n 2, .aload_n 0, .getfield 20, .iload_n 1, .laload, .lastore, .aload_n 0, .getfield 23, .iload_n 2, .aload_n 0, .getfield 23, .iload_n 1, .laload, .ldc2_w 87, .lxor, .aload_n 0, .getfield 20, .iload_n 1, .laload, .land, .lastore] (by decide +kernel) (pc2 := 35) (lv2 := [(0, .ref 52), (1, .int a), (2, .int t)]) (st2 := []) (M2 := uL (uL M 56 (ix t) (mL M 56 (ix a))) 57 (ix t) (((mL (uL M 56 (ix t) (mL M 56 (ix a))) 57 (ix a)) ^^^ ((-1))) &&& (mL (uL M 56 (ix t) (mL M 56 (ix a))) 56 (ix a)))) rfl ⟨trivial, (q.f 52 7 3 rfl), trivial, trivial, (q.f 52 7 3 rfl), trivial, (q.a 56 22 1648 rfl (by first | assumption | exact vinc (by decide))), (q.a 56 22 1648 rfl (by first | assumption | exact vinc (by decide))), trivial, ((q.sm (SK.pL (SK.rf (w := wg) gb) rfl (by decide)).1).f 52 7 4 rfl), trivial, trivial, ((q.sm (SK.pL (SK.rf (w := wg) gb) rfl (by decide)).1).f 52 7 4 rfl), trivial, ((q.sm (SK.pL (SK.rf (w := wg) gb) rfl (by decide)).1).a 57 22 1648 rfl (by first | assumption | exact vinc (by decide))), trivial, trivial, trivial, ((q.sm (SK.pL (SK.rf (w := wg) gb) rfl (by decide)).1).f 52 7 3 rfl), trivial, ((q.sm (SK.pL (SK.rf (w := wg) gb) rfl (by decide)).1).a 56 22 1648 rfl (by first | assumption | exact vinc (by decide))), trivial, ((q.sm (SK.pL (SK.rf (w := wg) gb) rfl (by decide)).1).a 57 22 1648 rfl (by first | assumption | exact vinc (by decide))), trivial⟩ ?_
  refine (?_ : ∀ (M35 : Mem), (SK wg M M35) → f_X7_turn M a t = f_X7_turn_c35 M35 → V G X 3 0 0 (Qx G X 0 0 (p_X7_turn M a t)) 35 [(0, .ref 52), (1, .int a), (2, .int t)] [] M35) _ (SK.pL (SK.pL (SK.rf (w := wg) gb) rfl (by decide)) rfl (by decide)) E
  intro M35 s35 E
  exact V.vret F (by decide +kernel) ⟨rfl, E.symm, s35⟩
def f_X7_bit_30  (w0_30 : Int32) : Int32 := w0_30
def f_X7_bit (M : Mem) (f : Int32) (p : Int32) : Int32 := if ((jushr (mL M 56 (ix f)) p) &&& 1) = 0 then f_X7_bit_30 2 else f_X7_bit_30 (Int64.toInt32 ((jushr (mL M 57 (ix f)) p) &&& 1))
abbrev p_X7_bit (M : Mem) (f : Int32) (p : Int32) : Option Value → Mem → Prop := fun r N => r = some (.int (f_X7_bit M f p)) ∧ N = M
set_option maxRecDepth 100000 in
set_option maxHeartbeats 4000000 in
theorem c_X7_bit (G : Ctx) (l : Launch) (M : Mem) (f : Int32) (p : Int32) (q : Ok M) (gb : Gb M) (i_f : vp_in f 1648) : CT G l 0 mX7_bit [.ref 52, .int f, .int p] M 0 0 (p_X7_bit M f p) := by
  refine CT.of (by decide) (Nat.le_of_ble_eq_true rfl) ?_
  intro X d hd hl hRm hnm F
  subst hl
  have E : f_X7_bit M f p = f_X7_bit M f p := rfl
  show V G X 3 0 0 (Qx G X 0 0 (p_X7_bit M f p)) 0 [(0, .ref 52), (1, .int f), (2, .int p)] [] M
  refine V.seg F floX7 cjoX7 [.aload_n 0, .getfield 20, .iload_n 1, .laload, .iload_n 2, .lushr, .lconst 1, .land, .lconst 0, .lcmp] (by decide +kernel) (pc2 := 12) (lv2 := [(0, .ref 52), (1, .int f), (2, .int p)]) (st2 := [.int (lg_cmp ((jushr (mL M 56 (ix f)) p) &&& 1) 0)]) (M2 := M) rfl ⟨trivial, (q.f 52 7 3 rfl), trivial, (q.a 56 22 1648 rfl (by first | assumption | exact vinc (by decide))), trivial, trivial, trivial, trivial, trivial, trivial, trivial⟩ ?_
  have hJ30 : ∀ (w0_30 : Int32), f_X7_bit M f p = f_X7_bit_30 w0_30 → V G X 3 0 0 (Qx G X 0 0 (p_X7_bit M f p)) 30 [] [.int w0_30] M := by
    intro w0_30 E
    exact V.iret F (by decide +kernel) ⟨congrArg (fun z => some (Value.int z)) E.symm, rfl⟩
  refine V.lc_ne (off := 7) F (by decide +kernel) (tgt := 19) (by decide) (fun h12 => ?_) (fun h12 => ?_)
  · replace E := E.trans (if_neg h12)
    refine V.seg F floX7 cjoX7 [.aload_n 0, .getfield 23, .iload_n 1, .laload, .iload_n 2, .lushr, .lconst 1, .land, .l2i] (by decide +kernel) (pc2 := 30) (lv2 := [(0, .ref 52), (1, .int f), (2, .int p)]) (st2 := [.int (Int64.toInt32 ((jushr (mL M 57 (ix f)) p) &&& 1))]) (M2 := M) rfl ⟨trivial, (q.f 52 7 4 rfl), trivial, (q.a 57 22 1648 rfl (by first | assumption | exact vinc (by decide))), trivial, trivial, trivial, trivial, trivial, trivial⟩ ?_
    refine V.pick [] rfl ?_
    exact hJ30 (Int64.toInt32 ((jushr (mL M 57 (ix f)) p) &&& 1))  E
  · replace E := E.trans (if_pos h12)
    refine V.seg F floX7 cjoX7 [.iconst 2, .goto 14] (by decide +kernel) (pc2 := 30) (lv2 := [(0, .ref 52), (1, .int f), (2, .int p)]) (st2 := [.int 2]) (M2 := M) rfl ⟨trivial, (by decide), trivial⟩ ?_
    refine V.pick [] rfl ?_
    exact hJ30 2  E
def f_X7_ripple_183 (j20 : Nat) (R20_ : Int32 → Int64 → Int64 → Nat → Mem → Mem) (y6_91 : Int64) (y8_91 : Int64) (w0_183 : Int32) (M183 : Mem) : Mem := R20_ w0_183 y6_91 y8_91 (j20 + 1) M183
def f_X7_ripple_159 (j20 : Nat) (R20_ : Int32 → Int64 → Int64 → Nat → Mem → Mem) (y6_91 : Int64) (y8_91 : Int64) (w0_102 : Int32) (w0_113 : Int32) (w0_125 : Int32) (w0_138 : Int32) (w0_148 : Int32) (w0_159 : Int32) (M159 : Mem) : Mem := if ((w0_102 + w0_113) + w0_125) ≤ 1 then if ((w0_138 + w0_148) + w0_159) ≤ 1 then f_X7_ripple_183 j20 R20_ y6_91 y8_91 2 M159 else f_X7_ripple_183 j20 R20_ y6_91 y8_91 0 M159 else f_X7_ripple_183 j20 R20_ y6_91 y8_91 1 M159
def f_X7_ripple_148 (y5_20 : Int32) (j20 : Nat) (R20_ : Int32 → Int64 → Int64 → Nat → Mem → Mem) (y6_91 : Int64) (y8_91 : Int64) (w0_102 : Int32) (w0_113 : Int32) (w0_125 : Int32) (w0_138 : Int32) (w0_148 : Int32) (M148 : Mem) : Mem := if y5_20 = 0 then f_X7_ripple_159 j20 R20_ y6_91 y8_91 w0_102 w0_113 w0_125 w0_138 w0_148 1 M148 else f_X7_ripple_159 j20 R20_ y6_91 y8_91 w0_102 w0_113 w0_125 w0_138 w0_148 0 M148
def f_X7_ripple_138 (b : Int32) (y5_20 : Int32) (j20 : Nat) (M20 : Mem) (R20_ : Int32 → Int64 → Int64 → Nat → Mem → Mem) (y6_91 : Int64) (y8_91 : Int64) (w0_102 : Int32) (w0_113 : Int32) (w0_125 : Int32) (w0_138 : Int32) (M138 : Mem) : Mem := if (f_X7_bit M20 b (nI j20)) = 0 then f_X7_ripple_148 y5_20 j20 R20_ y6_91 y8_91 w0_102 w0_113 w0_125 w0_138 1 M138 else f_X7_ripple_148 y5_20 j20 R20_ y6_91 y8_91 w0_102 w0_113 w0_125 w0_138 0 M138
def f_X7_ripple_125 (a : Int32) (b : Int32) (y5_20 : Int32) (j20 : Nat) (M20 : Mem) (R20_ : Int32 → Int64 → Int64 → Nat → Mem → Mem) (y6_91 : Int64) (y8_91 : Int64) (w0_102 : Int32) (w0_113 : Int32) (w0_125 : Int32) (M125 : Mem) : Mem := if (f_X7_bit M20 a (nI j20)) = 0 then f_X7_ripple_138 b y5_20 j20 M20 R20_ y6_91 y8_91 w0_102 w0_113 w0_125 1 M125 else f_X7_ripple_138 b y5_20 j20 M20 R20_ y6_91 y8_91 w0_102 w0_113 w0_125 0 M125
def f_X7_ripple_113 (a : Int32) (b : Int32) (y5_20 : Int32) (j20 : Nat) (M20 : Mem) (R20_ : Int32 → Int64 → Int64 → Nat → Mem → Mem) (y6_91 : Int64) (y8_91 : Int64) (w0_102 : Int32) (w0_113 : Int32) (M113 : Mem) : Mem := if y5_20 = 1 then f_X7_ripple_125 a b y5_20 j20 M20 R20_ y6_91 y8_91 w0_102 w0_113 1 M113 else f_X7_ripple_125 a b y5_20 j20 M20 R20_ y6_91 y8_91 w0_102 w0_113 0 M113
def f_X7_ripple_102 (a : Int32) (b : Int32) (y5_20 : Int32) (j20 : Nat) (M20 : Mem) (R20_ : Int32 → Int64 → Int64 → Nat → Mem → Mem) (y6_91 : Int64) (y8_91 : Int64) (w0_102 : Int32) (M102 : Mem) : Mem := if (f_X7_bit M20 b (nI j20)) = 1 then f_X7_ripple_113 a b y5_20 j20 M20 R20_ y6_91 y8_91 w0_102 1 M102 else f_X7_ripple_113 a b y5_20 j20 M20 R20_ y6_91 y8_91 w0_102 0 M102
def f_X7_ripple_91 (a : Int32) (b : Int32) (y5_20 : Int32) (j20 : Nat) (M20 : Mem) (R20_ : Int32 → Int64 → Int64 → Nat → Mem → Mem) (y6_91 : Int64) (y8_91 : Int64) (M91 : Mem) : Mem := if (f_X7_bit M20 a (nI j20)) = 1 then f_X7_ripple_102 a b y5_20 j20 M20 R20_ y6_91 y8_91 1 M91 else f_X7_ripple_102 a b y5_20 j20 M20 R20_ y6_91 y8_91 0 M91
def f_X7_ripple_20 (a : Int32) (b : Int32) (t : Int32) : Nat → Int32 → Int64 → Int64 → Nat → Mem → Mem
  | 0, _, _, _, _, M20 => M20
  | n_ + 1, y5_20, y6_20, y8_20, j20, M20 => if 64 ≤ (nI j20) then uL (uL M20 56 (ix t) y6_20) 57 (ix t) y8_20 else if 2 ≤ (f_X7_bit M20 a (nI j20)) then f_X7_ripple_91 a b y5_20 j20 M20 (f_X7_ripple_20 a b t n_) y6_20 y8_20 M20 else if 2 ≤ (f_X7_bit M20 b (nI j20)) then f_X7_ripple_91 a b y5_20 j20 M20 (f_X7_ripple_20 a b t n_) y6_20 y8_20 M20 else if 2 ≤ y5_20 then f_X7_ripple_91 a b y5_20 j20 M20 (f_X7_ripple_20 a b t n_) y6_20 y8_20 M20 else f_X7_ripple_91 a b y5_20 j20 M20 (f_X7_ripple_20 a b t n_) (y6_20 ||| (jshl 1 (nI j20))) (y8_20 ||| (jshl (Int32.toInt64 ((((f_X7_bit M20 a (nI j20)) + (f_X7_bit M20 b (nI j20))) + y5_20) &&& 1)) (nI j20))) M20
def f_X7_ripple_9 (a : Int32) (b : Int32) (t : Int32) (w0_9 : Int32) (M9 : Mem) : Mem := f_X7_ripple_20 a b t 65 w0_9 0 0 0 M9
def f_X7_ripple (M : Mem) (a : Int32) (b : Int32) (c : Int32) (t : Int32) : Mem := if c = 0 then f_X7_ripple_9 a b t 0 M else f_X7_ripple_9 a b t 1 M
abbrev p_X7_ripple (M : Mem) (a : Int32) (b : Int32) (c : Int32) (t : Int32) : Option Value → Mem → Prop := fun r N => r = none ∧ N = f_X7_ripple M a b c t ∧ SK wg M N
set_option maxRecDepth 100000 in
set_option maxHeartbeats 4000000 in
theorem c_X7_ripple (G : Ctx) (l : Launch) (M : Mem) (a : Int32) (b : Int32) (c : Int32) (t : Int32) (z_c : c = 0 ∨ c = 1) (q : Ok M) (gb : Gb M) (i_a : vp_in a 1648) (i_b : vp_in b 1648) (i_t : vp_in t 1648) : CT G l 1 mX7_ripple [.ref 52, .int a, .int b, .int c, .int t] M 0 0 (p_X7_ripple M a b c t) := by
  refine CT.of (by decide) (Nat.le_of_ble_eq_true rfl) ?_
  intro X d hd hl hRm hnm F
  subst hl
  have E : f_X7_ripple M a b c t = f_X7_ripple M a b c t := rfl
  show V G X 15 0 0 (Qx G X 0 0 (p_X7_ripple M a b c t)) 0 [(0, .ref 52), (1, .int a), (2, .int b), (3, .int c), (4, .int t)] [] M
  refine V.seg F floX7 cjoX7 [.iload_n 3] (by decide +kernel) (pc2 := 1) (lv2 := [(0, .ref 52), (1, .int a), (2, .int b), (3, .int c), (4, .int t)]) (st2 := [.int c]) (M2 := M) rfl ⟨trivial, trivial⟩ ?_
  have hJ9 : ∀ (w0_9 : Int32) (M9 : Mem), (SK wg M M9) → f_X7_ripple M a b c t = f_X7_ripple_9 a b t w0_9 M9 → V G X 15 0 0 (Qx G X 0 0 (p_X7_ripple M a b c t)) 9 [(0, .ref 52), (1, .int a), (2, .int b), (4, .int t)] [.int w0_9] M9 := by
    intro w0_9 M9 s9 E
    refine V.seg F floX7 cjoX7 [.istore 5, .lconst 0, .lstore 6, .lconst 0, .lstore 8, .iconst 0] (by decide +kernel) (pc2 := 18) (lv2 := [(8, .long 0), (6, .long 0), (5, .int w0_9), (0, .ref 52), (1, .int a), (2, .int b), (4, .int t)]) (st2 := [.int 0]) (M2 := M9) rfl ⟨(by decide), trivial, (by decide), trivial, (by decide), trivial, trivial⟩ ?_
    refine V.seg F floX7 cjoX7 [.istore 10] (by decide +kernel) (pc2 := 20) (lv2 := [(10, .int 0), (8, .long 0), (6, .long 0), (5, .int w0_9), (0, .ref 52), (1, .int a), (2, .int b), (4, .int t)]) (st2 := []) (M2 := M9) rfl ⟨(by decide), trivial⟩ ?_
    have hJ20 : ∀ (n_ : Nat) (y5_20 : Int32) (y6_20 : Int64) (y8_20 : Int64) (j20 : Nat) (M20 : Mem), (SK wg M M20) → (j20 ≤ 64) → (64 - j20 < n_) → f_X7_ripple M a b c t = f_X7_ripple_20 a b t n_ y5_20 y6_20 y8_20 j20 M20 → V G X 15 0 0 (Qx G X 0 0 (p_X7_ripple M a b c t)) 20 [(0, .ref 52), (1, .int a), (2, .int b), (4, .int t), (5, .int y5_20), (6, .long y6_20), (8, .long y8_20), (10, .int (nI j20))] [] M20 := by
      intro n_
      induction n_ with
      | zero => intro y5_20 y6_20 y8_20 j20 M20 s20 b20 m20 E; omega
      | succ n_ ih_20 =>
        intro y5_20 y6_20 y8_20 j20 M20 s20 b20 m20 E
        rw [f_X7_ripple_20] at E
        refine V.seg F floX7 cjoX7 [.iload 10, .bipush 64] (by decide +kernel) (pc2 := 24) (lv2 := [(0, .ref 52), (1, .int a), (2, .int b), (4, .int t), (5, .int y5_20), (6, .long y6_20), (8, .long y8_20), (10, .int (nI j20))]) (st2 := [.int 64, .int (nI j20)]) (M2 := M20) rfl ⟨trivial, trivial, trivial⟩ ?_
        refine V.ic_ge (off := 167) F (by decide +kernel) (tgt := 191) (by decide) (fun h24 => ?_) (fun h24 => ?_)
        · replace E := E.trans (if_pos h24)
          refine V.seg F floX7 cjoX7 [.aload_n 0, .getfield 20, .iload 4, .lload 6, .lastore, .aload_n 0, .getfield 23, .iload 4, .lload 8, .lastore] (by decide +kernel) (pc2 := 209) (lv2 := [(0, .ref 52), (1, .int a), (2, .int b), (4, .int t), (5, .int y5_20), (6, .long y6_20), (8, .long y8_20), (10, .int (nI j20))]) (st2 := []) (M2 := uL (uL M20 56 (ix t) y6_20) 57 (ix t) y8_20) rfl ⟨trivial, ((q.sm s20.1).f 52 7 3 rfl), trivial, trivial, ((q.sm s20.1).a 56 22 1648 rfl (by first | assumption | exact vinc (by decide))), trivial, ((q.sm (SK.pL s20 rfl (by decide)).1).f 52 7 4 rfl), trivial, trivial, ((q.sm (SK.pL s20 rfl (by decide)).1).a 57 22 1648 rfl (by first | assumption | exact vinc (by decide))), trivial⟩ ?_
          exact V.vret F (by decide +kernel) ⟨rfl, E.symm, (SK.pL (SK.pL s20 rfl (by decide)) rfl (by decide))⟩
        · replace E := E.trans (if_neg h24)
          refine V.seg F floX7 cjoX7 [.aload_n 0, .iload_n 1, .iload 10] (by decide +kernel) (pc2 := 31) (lv2 := [(0, .ref 52), (1, .int a), (2, .int b), (4, .int t), (5, .int y5_20), (6, .long y6_20), (8, .long y8_20), (10, .int (nI j20))]) (st2 := [.int (nI j20), .int a, .ref 52]) (M2 := M20) rfl ⟨trivial, trivial, trivial, trivial⟩ ?_
          refine V.callV (as := [.int a, .int (nI j20)]) (rest := []) F (by decide +kernel) lX7_209 bX7_bit ⟨7, _, ((q.sm s20.1).o 52 7 rfl), rfl, rfl⟩ (c_X7_bit G X.2.1 M20 a (nI j20) (q.sm s20.1) s20.2.1 (by first | assumption | exact vinc (by decide))) (rm_ok hRm hd (by decide) (by decide)) ⟨Nat.zero_le _, Nat.zero_le _⟩ (Nat.le_of_ble_eq_true rfl) (fun r_ N_ p_ => ?_)
          obtain ⟨rfl, hN_⟩ := p_
          rw [hN_]
          clear hN_
          refine V.seg F floX7 cjoX7 [.istore 11, .aload_n 0, .iload_n 2, .iload 10] (by decide +kernel) (pc2 := 40) (lv2 := [(11, .int (f_X7_bit M20 a (nI j20))), (0, .ref 52), (1, .int a), (2, .int b), (4, .int t), (5, .int y5_20), (6, .long y6_20), (8, .long y8_20), (10, .int (nI j20))]) (st2 := [.int (nI j20), .int b, .ref 52]) (M2 := M20) rfl ⟨(by decide), trivial, trivial, trivial, trivial⟩ ?_
          refine V.callV (as := [.int b, .int (nI j20)]) (rest := []) F (by decide +kernel) lX7_209 bX7_bit ⟨7, _, ((q.sm s20.1).o 52 7 rfl), rfl, rfl⟩ (c_X7_bit G X.2.1 M20 b (nI j20) (q.sm s20.1) s20.2.1 (by first | assumption | exact vinc (by decide))) (rm_ok hRm hd (by decide) (by decide)) ⟨Nat.zero_le _, Nat.zero_le _⟩ (Nat.le_of_ble_eq_true rfl) (fun r_ N_ p_ => ?_)
          obtain ⟨rfl, hN_⟩ := p_
          rw [hN_]
          clear hN_
          refine V.seg F floX7 cjoX7 [.istore 12, .iload 11, .iconst 2] (by decide +kernel) (pc2 := 48) (lv2 := [(12, .int (f_X7_bit M20 b (nI j20))), (11, .int (f_X7_bit M20 a (nI j20))), (0, .ref 52), (1, .int a), (2, .int b), (4, .int t), (5, .int y5_20), (6, .long y6_20), (8, .long y8_20), (10, .int (nI j20))]) (st2 := [.int 2, .int (f_X7_bit M20 a (nI j20))]) (M2 := M20) rfl ⟨(by decide), trivial, trivial, trivial⟩ ?_
          have hJ91 : ∀ (y6_91 : Int64) (y8_91 : Int64) (M91 : Mem), (SK wg M M91) → f_X7_ripple M a b c t = f_X7_ripple_91 a b y5_20 j20 M20 (f_X7_ripple_20 a b t n_) y6_91 y8_91 M91 → V G X 15 0 0 (Qx G X 0 0 (p_X7_ripple M a b c t)) 91 [(0, .ref 52), (1, .int a), (2, .int b), (4, .int t), (5, .int y5_20), (6, .long y6_91), (8, .long y8_91), (10, .int (nI j20)), (11, .int (f_X7_bit M20 a (nI j20))), (12, .int (f_X7_bit M20 b (nI j20)))] [] M91 := by
            intro y6_91 y8_91 M91 s91 E
            refine V.seg F floX7 cjoX7 [.iload 11, .iconst 1] (by decide +kernel) (pc2 := 94) (lv2 := [(0, .ref 52), (1, .int a), (2, .int b), (4, .int t), (5, .int y5_20), (6, .long y6_91), (8, .long y8_91), (10, .int (nI j20)), (11, .int (f_X7_bit M20 a (nI j20))), (12, .int (f_X7_bit M20 b (nI j20)))]) (st2 := [.int 1, .int (f_X7_bit M20 a (nI j20))]) (M2 := M91) rfl ⟨trivial, trivial, trivial⟩ ?_
            have hJ102 : ∀ (w0_102 : Int32) (M102 : Mem), (SK wg M M102) → f_X7_ripple M a b c t = f_X7_ripple_102 a b y5_20 j20 M20 (f_X7_ripple_20 a b t n_) y6_91 y8_91 w0_102 M102 → V G X 15 0 0 (Qx G X 0 0 (p_X7_ripple M a b c t)) 102 [(0, .ref 52), (1, .int a), (2, .int b), (4, .int t), (5, .int y5_20), (6, .long y6_91), (8, .long y8_91), (10, .int (nI j20)), (11, .int (f_X7_bit M20 a (nI j20))), (12, .int (f_X7_bit M20 b (nI j20)))] [.int w0_102] M102 := by
              intro w0_102 M102 s102 E
              refine V.seg F floX7 cjoX7 [.iload 12, .iconst 1] (by decide +kernel) (pc2 := 105) (lv2 := [(0, .ref 52), (1, .int a), (2, .int b), (4, .int t), (5, .int y5_20), (6, .long y6_91), (8, .long y8_91), (10, .int (nI j20)), (11, .int (f_X7_bit M20 a (nI j20))), (12, .int (f_X7_bit M20 b (nI j20)))]) (st2 := [.int 1, .int (f_X7_bit M20 b (nI j20)), .int w0_102]) (M2 := M102) rfl ⟨trivial, trivial, trivial⟩ ?_
              have hJ113 : ∀ (w0_113 : Int32) (M113 : Mem), (SK wg M M113) → f_X7_ripple M a b c t = f_X7_ripple_113 a b y5_20 j20 M20 (f_X7_ripple_20 a b t n_) y6_91 y8_91 w0_102 w0_113 M113 → V G X 15 0 0 (Qx G X 0 0 (p_X7_ripple M a b c t)) 113 [(0, .ref 52), (1, .int a), (2, .int b), (4, .int t), (5, .int y5_20), (6, .long y6_91), (8, .long y8_91), (10, .int (nI j20)), (11, .int (f_X7_bit M20 a (nI j20))), (12, .int (f_X7_bit M20 b (nI j20)))] [.int w0_113, .int w0_102] M113 := by
                intro w0_113 M113 s113 E
                refine V.seg F floX7 cjoX7 [.iadd, .iload 5, .iconst 1] (by decide +kernel) (pc2 := 117) (lv2 := [(0, .ref 52), (1, .int a), (2, .int b), (4, .int t), (5, .int y5_20), (6, .long y6_91), (8, .long y8_91), (10, .int (nI j20)), (11, .int (f_X7_bit M20 a (nI j20))), (12, .int (f_X7_bit M20 b (nI j20)))]) (st2 := [.int 1, .int y5_20, .int (w0_102 + w0_113)]) (M2 := M113) rfl ⟨trivial, trivial, trivial, trivial⟩ ?_
                have hJ125 : ∀ (w0_125 : Int32) (M125 : Mem), (SK wg M M125) → f_X7_ripple M a b c t = f_X7_ripple_125 a b y5_20 j20 M20 (f_X7_ripple_20 a b t n_) y6_91 y8_91 w0_102 w0_113 w0_125 M125 → V G X 15 0 0 (Qx G X 0 0 (p_X7_ripple M a b c t)) 125 [(0, .ref 52), (1, .int a), (2, .int b), (4, .int t), (5, .int y5_20), (6, .long y6_91), (8, .long y8_91), (10, .int (nI j20)), (11, .int (f_X7_bit M20 a (nI j20))), (12, .int (f_X7_bit M20 b (nI j20)))] [.int w0_125, .int (w0_102 + w0_113)] M125 := by
                  intro w0_125 M125 s125 E
                  refine V.seg F floX7 cjoX7 [.iadd, .istore 13, .iload 11] (by decide +kernel) (pc2 := 130) (lv2 := [(13, .int ((w0_102 + w0_113) + w0_125)), (0, .ref 52), (1, .int a), (2, .int b), (4, .int t), (5, .int y5_20), (6, .long y6_91), (8, .long y8_91), (10, .int (nI j20)), (11, .int (f_X7_bit M20 a (nI j20))), (12, .int (f_X7_bit M20 b (nI j20)))]) (st2 := [.int (f_X7_bit M20 a (nI j20))]) (M2 := M125) rfl ⟨trivial, (by decide), trivial, trivial⟩ ?_
                  have hJ138 : ∀ (w0_138 : Int32) (M138 : Mem), (SK wg M M138) → f_X7_ripple M a b c t = f_X7_ripple_138 b y5_20 j20 M20 (f_X7_ripple_20 a b t n_) y6_91 y8_91 w0_102 w0_113 w0_125 w0_138 M138 → V G X 15 0 0 (Qx G X 0 0 (p_X7_ripple M a b c t)) 138 [(0, .ref 52), (1, .int a), (2, .int b), (4, .int t), (5, .int y5_20), (6, .long y6_91), (8, .long y8_91), (10, .int (nI j20)), (12, .int (f_X7_bit M20 b (nI j20))), (13, .int ((w0_102 + w0_113) + w0_125))] [.int w0_138] M138 := by
                    intro w0_138 M138 s138 E
                    refine V.seg F floX7 cjoX7 [.iload 12] (by decide +kernel) (pc2 := 140) (lv2 := [(0, .ref 52), (1, .int a), (2, .int b), (4, .int t), (5, .int y5_20), (6, .long y6_91), (8, .long y8_91), (10, .int (nI j20)), (12, .int (f_X7_bit M20 b (nI j20))), (13, .int ((w0_102 + w0_113) + w0_125))]) (st2 := [.int (f_X7_bit M20 b (nI j20)), .int w0_138]) (M2 := M138) rfl ⟨trivial, trivial⟩ ?_
                    have hJ148 : ∀ (w0_148 : Int32) (M148 : Mem), (SK wg M M148) → f_X7_ripple M a b c t = f_X7_ripple_148 y5_20 j20 (f_X7_ripple_20 a b t n_) y6_91 y8_91 w0_102 w0_113 w0_125 w0_138 w0_148 M148 → V G X 15 0 0 (Qx G X 0 0 (p_X7_ripple M a b c t)) 148 [(0, .ref 52), (1, .int a), (2, .int b), (4, .int t), (5, .int y5_20), (6, .long y6_91), (8, .long y8_91), (10, .int (nI j20)), (13, .int ((w0_102 + w0_113) + w0_125))] [.int w0_148, .int w0_138] M148 := by
                      intro w0_148 M148 s148 E
                      refine V.seg F floX7 cjoX7 [.iadd, .iload 5] (by decide +kernel) (pc2 := 151) (lv2 := [(0, .ref 52), (1, .int a), (2, .int b), (4, .int t), (5, .int y5_20), (6, .long y6_91), (8, .long y8_91), (10, .int (nI j20)), (13, .int ((w0_102 + w0_113) + w0_125))]) (st2 := [.int y5_20, .int (w0_138 + w0_148)]) (M2 := M148) rfl ⟨trivial, trivial, trivial⟩ ?_
                      have hJ159 : ∀ (w0_159 : Int32) (M159 : Mem), (SK wg M M159) → f_X7_ripple M a b c t = f_X7_ripple_159 j20 (f_X7_ripple_20 a b t n_) y6_91 y8_91 w0_102 w0_113 w0_125 w0_138 w0_148 w0_159 M159 → V G X 15 0 0 (Qx G X 0 0 (p_X7_ripple M a b c t)) 159 [(0, .ref 52), (1, .int a), (2, .int b), (4, .int t), (6, .long y6_91), (8, .long y8_91), (10, .int (nI j20)), (13, .int ((w0_102 + w0_113) + w0_125))] [.int w0_159, .int (w0_138 + w0_148)] M159 := by
                        intro w0_159 M159 s159 E
                        refine V.seg F floX7 cjoX7 [.iadd, .istore 14, .iload 13, .iconst 1] (by decide +kernel) (pc2 := 165) (lv2 := [(14, .int ((w0_138 + w0_148) + w0_159)), (0, .ref 52), (1, .int a), (2, .int b), (4, .int t), (6, .long y6_91), (8, .long y8_91), (10, .int (nI j20)), (13, .int ((w0_102 + w0_113) + w0_125))]) (st2 := [.int 1, .int ((w0_102 + w0_113) + w0_125)]) (M2 := M159) rfl ⟨trivial, (by decide), trivial, trivial, trivial⟩ ?_
                        have hJ183 : ∀ (w0_183 : Int32) (M183 : Mem), (SK wg M M183) → f_X7_ripple M a b c t = f_X7_ripple_183 j20 (f_X7_ripple_20 a b t n_) y6_91 y8_91 w0_183 M183 → V G X 15 0 0 (Qx G X 0 0 (p_X7_ripple M a b c t)) 183 [(0, .ref 52), (1, .int a), (2, .int b), (4, .int t), (6, .long y6_91), (8, .long y8_91), (10, .int (nI j20))] [.int w0_183] M183 := by
                          intro w0_183 M183 s183 E
                          refine V.seg F floX7 cjoX7 [.istore 5, .iinc 10 1, .goto (-168)] (by decide +kernel) (pc2 := 20) (lv2 := [(10, .int ((nI j20) + 1)), (5, .int w0_183), (0, .ref 52), (1, .int a), (2, .int b), (4, .int t), (6, .long y6_91), (8, .long y8_91)]) (st2 := []) (M2 := M183) rfl ⟨(by decide), (by decide), (by decide), trivial⟩ ?_
                          refine V.pick [2, 3, 4, 5, 1, 6, 7, 0] rfl ?_
                          rw [nI_1]
                          exact ih_20 w0_183 y6_91 y8_91 (j20 + 1) M183 s183 (by have hlt_ := cnt_lt (n := 64) h24 rfl (by omega) (by decide); omega) (by have hlt_ := cnt_lt (n := 64) h24 rfl (by omega) (by decide); omega) E
                        refine V.ic_le (off := 7) F (by decide +kernel) (tgt := 172) (by decide) (fun h165 => ?_) (fun h165 => ?_)
                        · replace E := E.trans (if_pos h165)
                          refine V.seg F floX7 cjoX7 [.iload 14, .iconst 1] (by decide +kernel) (pc2 := 175) (lv2 := [(14, .int ((w0_138 + w0_148) + w0_159)), (0, .ref 52), (1, .int a), (2, .int b), (4, .int t), (6, .long y6_91), (8, .long y8_91), (10, .int (nI j20)), (13, .int ((w0_102 + w0_113) + w0_125))]) (st2 := [.int 1, .int ((w0_138 + w0_148) + w0_159)]) (M2 := M159) rfl ⟨trivial, trivial, trivial⟩ ?_
                          refine V.ic_le (off := 7) F (by decide +kernel) (tgt := 182) (by decide) (fun h175 => ?_) (fun h175 => ?_)
                          · replace E := E.trans (if_pos h175)
                            refine V.seg F floX7 cjoX7 [.iconst 2] (by decide +kernel) (pc2 := 183) (lv2 := [(14, .int ((w0_138 + w0_148) + w0_159)), (0, .ref 52), (1, .int a), (2, .int b), (4, .int t), (6, .long y6_91), (8, .long y8_91), (10, .int (nI j20)), (13, .int ((w0_102 + w0_113) + w0_125))]) (st2 := [.int 2]) (M2 := M159) rfl ⟨trivial, trivial⟩ ?_
                            refine V.pick [1, 2, 3, 4, 5, 6, 7] rfl ?_
                            exact hJ183 2 M159 s159 E
                          · replace E := E.trans (if_neg h175)
                            refine V.seg F floX7 cjoX7 [.iconst 0, .goto 4] (by decide +kernel) (pc2 := 183) (lv2 := [(14, .int ((w0_138 + w0_148) + w0_159)), (0, .ref 52), (1, .int a), (2, .int b), (4, .int t), (6, .long y6_91), (8, .long y8_91), (10, .int (nI j20)), (13, .int ((w0_102 + w0_113) + w0_125))]) (st2 := [.int 0]) (M2 := M159) rfl ⟨trivial, (by decide), trivial⟩ ?_
                            refine V.pick [1, 2, 3, 4, 5, 6, 7] rfl ?_
                            exact hJ183 0 M159 s159 E
                        · replace E := E.trans (if_neg h165)
                          refine V.seg F floX7 cjoX7 [.iconst 1, .goto 14] (by decide +kernel) (pc2 := 183) (lv2 := [(14, .int ((w0_138 + w0_148) + w0_159)), (0, .ref 52), (1, .int a), (2, .int b), (4, .int t), (6, .long y6_91), (8, .long y8_91), (10, .int (nI j20)), (13, .int ((w0_102 + w0_113) + w0_125))]) (st2 := [.int 1]) (M2 := M159) rfl ⟨trivial, (by decide), trivial⟩ ?_
                          refine V.pick [1, 2, 3, 4, 5, 6, 7] rfl ?_
                          exact hJ183 1 M159 s159 E
                      refine V.if_ne (off := 7) F (by decide +kernel) (tgt := 158) (by decide) (fun h151 => ?_) (fun h151 => ?_)
                      · replace E := E.trans (if_neg h151)
                        refine V.seg F floX7 cjoX7 [.iconst 0] (by decide +kernel) (pc2 := 159) (lv2 := [(0, .ref 52), (1, .int a), (2, .int b), (4, .int t), (5, .int y5_20), (6, .long y6_91), (8, .long y8_91), (10, .int (nI j20)), (13, .int ((w0_102 + w0_113) + w0_125))]) (st2 := [.int 0, .int (w0_138 + w0_148)]) (M2 := M148) rfl ⟨trivial, trivial⟩ ?_
                        refine V.pick [0, 1, 2, 3, 5, 6, 7, 8] rfl ?_
                        exact hJ159 0 M148 s148 E
                      · replace E := E.trans (if_pos h151)
                        refine V.seg F floX7 cjoX7 [.iconst 1, .goto 4] (by decide +kernel) (pc2 := 159) (lv2 := [(0, .ref 52), (1, .int a), (2, .int b), (4, .int t), (5, .int y5_20), (6, .long y6_91), (8, .long y8_91), (10, .int (nI j20)), (13, .int ((w0_102 + w0_113) + w0_125))]) (st2 := [.int 1, .int (w0_138 + w0_148)]) (M2 := M148) rfl ⟨trivial, (by decide), trivial⟩ ?_
                        refine V.pick [0, 1, 2, 3, 5, 6, 7, 8] rfl ?_
                        exact hJ159 1 M148 s148 E
                    refine V.if_ne (off := 7) F (by decide +kernel) (tgt := 147) (by decide) (fun h140 => ?_) (fun h140 => ?_)
                    · replace E := E.trans (if_neg h140)
                      refine V.seg F floX7 cjoX7 [.iconst 0] (by decide +kernel) (pc2 := 148) (lv2 := [(0, .ref 52), (1, .int a), (2, .int b), (4, .int t), (5, .int y5_20), (6, .long y6_91), (8, .long y8_91), (10, .int (nI j20)), (12, .int (f_X7_bit M20 b (nI j20))), (13, .int ((w0_102 + w0_113) + w0_125))]) (st2 := [.int 0, .int w0_138]) (M2 := M138) rfl ⟨trivial, trivial⟩ ?_
                      refine V.pick [0, 1, 2, 3, 4, 5, 6, 7, 9] rfl ?_
                      exact hJ148 0 M138 s138 E
                    · replace E := E.trans (if_pos h140)
                      refine V.seg F floX7 cjoX7 [.iconst 1, .goto 4] (by decide +kernel) (pc2 := 148) (lv2 := [(0, .ref 52), (1, .int a), (2, .int b), (4, .int t), (5, .int y5_20), (6, .long y6_91), (8, .long y8_91), (10, .int (nI j20)), (12, .int (f_X7_bit M20 b (nI j20))), (13, .int ((w0_102 + w0_113) + w0_125))]) (st2 := [.int 1, .int w0_138]) (M2 := M138) rfl ⟨trivial, (by decide), trivial⟩ ?_
                      refine V.pick [0, 1, 2, 3, 4, 5, 6, 7, 9] rfl ?_
                      exact hJ148 1 M138 s138 E
                  refine V.if_ne (off := 7) F (by decide +kernel) (tgt := 137) (by decide) (fun h130 => ?_) (fun h130 => ?_)
                  · replace E := E.trans (if_neg h130)
                    refine V.seg F floX7 cjoX7 [.iconst 0] (by decide +kernel) (pc2 := 138) (lv2 := [(13, .int ((w0_102 + w0_113) + w0_125)), (0, .ref 52), (1, .int a), (2, .int b), (4, .int t), (5, .int y5_20), (6, .long y6_91), (8, .long y8_91), (10, .int (nI j20)), (11, .int (f_X7_bit M20 a (nI j20))), (12, .int (f_X7_bit M20 b (nI j20)))]) (st2 := [.int 0]) (M2 := M125) rfl ⟨trivial, trivial⟩ ?_
                    refine V.pick [1, 2, 3, 4, 5, 6, 7, 8, 10, 0] rfl ?_
                    exact hJ138 0 M125 s125 E
                  · replace E := E.trans (if_pos h130)
                    refine V.seg F floX7 cjoX7 [.iconst 1, .goto 4] (by decide +kernel) (pc2 := 138) (lv2 := [(13, .int ((w0_102 + w0_113) + w0_125)), (0, .ref 52), (1, .int a), (2, .int b), (4, .int t), (5, .int y5_20), (6, .long y6_91), (8, .long y8_91), (10, .int (nI j20)), (11, .int (f_X7_bit M20 a (nI j20))), (12, .int (f_X7_bit M20 b (nI j20)))]) (st2 := [.int 1]) (M2 := M125) rfl ⟨trivial, (by decide), trivial⟩ ?_
                    refine V.pick [1, 2, 3, 4, 5, 6, 7, 8, 10, 0] rfl ?_
                    exact hJ138 1 M125 s125 E
                refine V.ic_ne (off := 7) F (by decide +kernel) (tgt := 124) (by decide) (fun h117 => ?_) (fun h117 => ?_)
                · replace E := E.trans (if_neg h117)
                  refine V.seg F floX7 cjoX7 [.iconst 0] (by decide +kernel) (pc2 := 125) (lv2 := [(0, .ref 52), (1, .int a), (2, .int b), (4, .int t), (5, .int y5_20), (6, .long y6_91), (8, .long y8_91), (10, .int (nI j20)), (11, .int (f_X7_bit M20 a (nI j20))), (12, .int (f_X7_bit M20 b (nI j20)))]) (st2 := [.int 0, .int (w0_102 + w0_113)]) (M2 := M113) rfl ⟨trivial, trivial⟩ ?_
                  refine V.pick [0, 1, 2, 3, 4, 5, 6, 7, 8, 9] rfl ?_
                  exact hJ125 0 M113 s113 E
                · replace E := E.trans (if_pos h117)
                  refine V.seg F floX7 cjoX7 [.iconst 1, .goto 4] (by decide +kernel) (pc2 := 125) (lv2 := [(0, .ref 52), (1, .int a), (2, .int b), (4, .int t), (5, .int y5_20), (6, .long y6_91), (8, .long y8_91), (10, .int (nI j20)), (11, .int (f_X7_bit M20 a (nI j20))), (12, .int (f_X7_bit M20 b (nI j20)))]) (st2 := [.int 1, .int (w0_102 + w0_113)]) (M2 := M113) rfl ⟨trivial, (by decide), trivial⟩ ?_
                  refine V.pick [0, 1, 2, 3, 4, 5, 6, 7, 8, 9] rfl ?_
                  exact hJ125 1 M113 s113 E
              refine V.ic_ne (off := 7) F (by decide +kernel) (tgt := 112) (by decide) (fun h105 => ?_) (fun h105 => ?_)
              · replace E := E.trans (if_neg h105)
                refine V.seg F floX7 cjoX7 [.iconst 0] (by decide +kernel) (pc2 := 113) (lv2 := [(0, .ref 52), (1, .int a), (2, .int b), (4, .int t), (5, .int y5_20), (6, .long y6_91), (8, .long y8_91), (10, .int (nI j20)), (11, .int (f_X7_bit M20 a (nI j20))), (12, .int (f_X7_bit M20 b (nI j20)))]) (st2 := [.int 0, .int w0_102]) (M2 := M102) rfl ⟨trivial, trivial⟩ ?_
                refine V.pick [0, 1, 2, 3, 4, 5, 6, 7, 8, 9] rfl ?_
                exact hJ113 0 M102 s102 E
              · replace E := E.trans (if_pos h105)
                refine V.seg F floX7 cjoX7 [.iconst 1, .goto 4] (by decide +kernel) (pc2 := 113) (lv2 := [(0, .ref 52), (1, .int a), (2, .int b), (4, .int t), (5, .int y5_20), (6, .long y6_91), (8, .long y8_91), (10, .int (nI j20)), (11, .int (f_X7_bit M20 a (nI j20))), (12, .int (f_X7_bit M20 b (nI j20)))]) (st2 := [.int 1, .int w0_102]) (M2 := M102) rfl ⟨trivial, (by decide), trivial⟩ ?_
                refine V.pick [0, 1, 2, 3, 4, 5, 6, 7, 8, 9] rfl ?_
                exact hJ113 1 M102 s102 E
            refine V.ic_ne (off := 7) F (by decide +kernel) (tgt := 101) (by decide) (fun h94 => ?_) (fun h94 => ?_)
            · replace E := E.trans (if_neg h94)
              refine V.seg F floX7 cjoX7 [.iconst 0] (by decide +kernel) (pc2 := 102) (lv2 := [(0, .ref 52), (1, .int a), (2, .int b), (4, .int t), (5, .int y5_20), (6, .long y6_91), (8, .long y8_91), (10, .int (nI j20)), (11, .int (f_X7_bit M20 a (nI j20))), (12, .int (f_X7_bit M20 b (nI j20)))]) (st2 := [.int 0]) (M2 := M91) rfl ⟨trivial, trivial⟩ ?_
              refine V.pick [0, 1, 2, 3, 4, 5, 6, 7, 8, 9] rfl ?_
              exact hJ102 0 M91 s91 E
            · replace E := E.trans (if_pos h94)
              refine V.seg F floX7 cjoX7 [.iconst 1, .goto 4] (by decide +kernel) (pc2 := 102) (lv2 := [(0, .ref 52), (1, .int a), (2, .int b), (4, .int t), (5, .int y5_20), (6, .long y6_91), (8, .long y8_91), (10, .int (nI j20)), (11, .int (f_X7_bit M20 a (nI j20))), (12, .int (f_X7_bit M20 b (nI j20)))]) (st2 := [.int 1]) (M2 := M91) rfl ⟨trivial, (by decide), trivial⟩ ?_
              refine V.pick [0, 1, 2, 3, 4, 5, 6, 7, 8, 9] rfl ?_
              exact hJ102 1 M91 s91 E
          refine V.ic_ge (off := 43) F (by decide +kernel) (tgt := 91) (by decide) (fun h48 => ?_) (fun h48 => ?_)
          · replace E := E.trans (if_pos h48)
            refine V.pick [2, 3, 4, 5, 6, 7, 8, 9, 1, 0] rfl ?_
            exact hJ91 y6_20 y8_20 M20 s20 E
          · replace E := E.trans (if_neg h48)
            refine V.seg F floX7 cjoX7 [.iload 12, .iconst 2] (by decide +kernel) (pc2 := 54) (lv2 := [(12, .int (f_X7_bit M20 b (nI j20))), (11, .int (f_X7_bit M20 a (nI j20))), (0, .ref 52), (1, .int a), (2, .int b), (4, .int t), (5, .int y5_20), (6, .long y6_20), (8, .long y8_20), (10, .int (nI j20))]) (st2 := [.int 2, .int (f_X7_bit M20 b (nI j20))]) (M2 := M20) rfl ⟨trivial, trivial, trivial⟩ ?_
            refine V.ic_ge (off := 37) F (by decide +kernel) (tgt := 91) (by decide) (fun h54 => ?_) (fun h54 => ?_)
            · replace E := E.trans (if_pos h54)
              refine V.pick [2, 3, 4, 5, 6, 7, 8, 9, 1, 0] rfl ?_
              exact hJ91 y6_20 y8_20 M20 s20 E
            · replace E := E.trans (if_neg h54)
              refine V.seg F floX7 cjoX7 [.iload 5, .iconst 2] (by decide +kernel) (pc2 := 60) (lv2 := [(12, .int (f_X7_bit M20 b (nI j20))), (11, .int (f_X7_bit M20 a (nI j20))), (0, .ref 52), (1, .int a), (2, .int b), (4, .int t), (5, .int y5_20), (6, .long y6_20), (8, .long y8_20), (10, .int (nI j20))]) (st2 := [.int 2, .int y5_20]) (M2 := M20) rfl ⟨trivial, trivial, trivial⟩ ?_
              refine V.ic_ge (off := 31) F (by decide +kernel) (tgt := 91) (by decide) (fun h60 => ?_) (fun h60 => ?_)
              · replace E := E.trans (if_pos h60)
                refine V.pick [2, 3, 4, 5, 6, 7, 8, 9, 1, 0] rfl ?_
                exact hJ91 y6_20 y8_20 M20 s20 E
              · replace E := E.trans (if_neg h60)
                refine V.seg F floX7 cjoX7 [.lload 6, .lconst 1, .iload 10, .lshl, .lor, .lstore 6, .lload 8, .iload 11, .iload 12, .iadd, .iload 5, .iadd, .iconst 1, .iand, .i2l, .iload 10, .lshl, .lor, .lstore 8] (by decide +kernel) (pc2 := 91) (lv2 := [(8, .long (y8_20 ||| (jshl (Int32.toInt64 ((((f_X7_bit M20 a (nI j20)) + (f_X7_bit M20 b (nI j20))) + y5_20) &&& 1)) (nI j20)))), (6, .long (y6_20 ||| (jshl 1 (nI j20)))), (12, .int (f_X7_bit M20 b (nI j20))), (11, .int (f_X7_bit M20 a (nI j20))), (0, .ref 52), (1, .int a), (2, .int b), (4, .int t), (5, .int y5_20), (10, .int (nI j20))]) (st2 := []) (M2 := M20) rfl ⟨trivial, trivial, trivial, trivial, trivial, (by decide), trivial, trivial, trivial, trivial, trivial, trivial, trivial, trivial, trivial, trivial, trivial, trivial, (by decide), trivial⟩ ?_
                refine V.pick [4, 5, 6, 7, 8, 1, 0, 9, 3, 2] rfl ?_
                exact hJ91 (y6_20 ||| (jshl 1 (nI j20))) (y8_20 ||| (jshl (Int32.toInt64 ((((f_X7_bit M20 a (nI j20)) + (f_X7_bit M20 b (nI j20))) + y5_20) &&& 1)) (nI j20))) M20 s20 E
    refine V.pick [4, 5, 6, 7, 3, 2, 1, 0] rfl ?_
    exact hJ20 _ w0_9 0 0 0 M9 s9 (by omega) (by omega) E
  refine V.if_eq (off := 7) F (by decide +kernel) (tgt := 8) (by decide) (fun h1 => ?_) (fun h1 => ?_)
  · replace E := E.trans (if_pos h1)
    refine V.seg F floX7 cjoX7 [.iconst 0] (by decide +kernel) (pc2 := 9) (lv2 := [(0, .ref 52), (1, .int a), (2, .int b), (3, .int c), (4, .int t)]) (st2 := [.int 0]) (M2 := M) rfl ⟨trivial, trivial⟩ ?_
    refine V.pick [0, 1, 2, 4] rfl ?_
    exact hJ9 0 M (SK.rf (w := wg) gb) E
  · replace E := E.trans (if_neg h1)
    refine V.seg F floX7 cjoX7 [.iconst 1, .goto 4] (by decide +kernel) (pc2 := 9) (lv2 := [(0, .ref 52), (1, .int a), (2, .int b), (3, .int c), (4, .int t)]) (st2 := [.int 1]) (M2 := M) rfl ⟨trivial, (by decide), trivial⟩ ?_
    refine V.pick [0, 1, 2, 4] rfl ?_
    exact hJ9 1 M (SK.rf (w := wg) gb) E
