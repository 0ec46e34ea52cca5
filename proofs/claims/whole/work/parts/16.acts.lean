theorem oddmul_ne0 {a m : Int64} (ha : ¬ (a &&& 1) = 0) (hm : ¬ m = 0) : ¬ a * m = 0 := by
  intro h
  have h1 := uN_0.mp h
  rw [uN_mul] at h1
  have hodd : uN a % 2 = 1 := by
    have : ¬ uN a % 2 = 0 := fun q => ha ((uN_bit a).mpr q)
    omega
  have hd : 2 ^ 64 ∣ uN a * uN m := Nat.dvd_of_mod_eq_zero h1
  have hc : Nat.Coprime (2 ^ 64) (uN a) := by
    apply Nat.Coprime.pow_left
    unfold Nat.Coprime
    rw [Nat.gcd_rec, hodd]
    rfl
  have hd2 : 2 ^ 64 ∣ uN m := Nat.Coprime.dvd_of_dvd_mul_left hc hd
  have hlt := uN_lt m
  have : uN m = 0 := Nat.eq_zero_of_dvd_of_lt hd2 hlt
  exact hm (uN_0.mpr this)
theorem oddP_ne0 {M : Mem} (gb : Gb M) : ¬ f_X7_oddProduct M = 0 := by
  have hl : ∀ (w : Int64), ¬ w = 0 → ∀ (n : Nat) (v : Int64), ¬ v = 0 → uN v < 2 ^ n → ¬ f_X7_oddProduct_94 w n v = 0 := by
    intro w hw n
    induction n with
    | zero => intro v hz h; exact absurd (uN_0.mpr (Nat.lt_one_iff.mp h)) hz
    | succ n ih =>
      intro v hz h
      rw [f_X7_oddProduct_94]
      split
      · rename_i e; exact ih _ (odd_nz e hz) (odd_lt h)
      · rename_i e
        split
        · exact oddmul_ne0 e hw
        · show ¬ (1 : Int64) = 0; decide
  have h71 : ∀ c w : Int64, ¬ w = 0 → ¬ f_X7_oddProduct_71 c w = 0 := by
    intro c w hw
    unfold f_X7_oddProduct_71 f_X7_oddProduct_92
    split
    · decide
    · rename_i hc
      split
      · exact hl w hw 64 _ hc (uN_lt _)
      · exact hl w hw 64 _ (fun z => hc (neg0 z)) (uN_lt _)
  have h18 : ¬ f_X7_oddProduct_18 M = 0 := by
    have h16 := gb (ix 16) (by decide)
    have h17 := gb (ix 17) (by decide)
    unfold f_X7_oddProduct_18 f_X7_oddProduct_44
    split
    · exact h71 _ _ h16
    · exact h71 _ _ h17
  unfold f_X7_oddProduct f_X7_oddProduct_c166
  split
  · split
    · exact odd_ne0 _
    · exact h18
  · exact h18
def f_X7_multiply_328 (j219 : Nat) (R219_ : Nat → Mem → Mem) (M328 : Mem) : Mem := R219_ (j219 + 1) M328
def f_X7_multiply_c328 (j219 : Nat) (R219_ : Nat → Mem → Mem) (M328 : Mem) : Mem := f_X7_multiply_328 j219 R219_ M328
def f_X7_multiply_317 (j219 : Nat) (R219_ : Nat → Mem → Mem) (M317 : Mem) : Mem := f_X7_multiply_c328 j219 R219_ (f_X7_ripple M317 22 23 0 22)
def f_X7_multiply_c282 (j219 : Nat) (M219 : Mem) (R219_ : Nat → Mem → Mem) (M282 : Mem) : Mem := if (f_X7_bit M219 17 (nI j219)) = 2 then f_X7_multiply_317 j219 R219_ (uL (uL M282 56 (ix 23) ((mL M282 56 (ix 23)) &&& ((mL M282 57 (ix 23)) ^^^ ((-1))))) 57 (ix 23) 0) else f_X7_multiply_317 j219 R219_ M282
def f_X7_multiply_219  : Nat → Nat → Mem → Mem
  | 0, _, M219 => M219
  | n219_ + 1, j219, M219 => if 64 ≤ (nI j219) then uL (uL M219 56 (ix 18) (mL M219 56 (ix 22))) 57 (ix 18) (mL (uL M219 56 (ix 18) (mL M219 56 (ix 22))) 57 (ix 22)) else if (f_X7_bit M219 17 (nI j219)) ≤ 0 then f_X7_multiply_328 j219 (f_X7_multiply_219 n219_) M219 else f_X7_multiply_c282 j219 M219 (f_X7_multiply_219 n219_) (uL (uL M219 56 (ix 23) ((jshl (mL M219 56 (ix 16)) (nI j219)) ||| ((jshl 1 (nI j219)) - 1))) 57 (ix 23) (jshl (mL (uL M219 56 (ix 23) ((jshl (mL M219 56 (ix 16)) (nI j219)) ||| ((jshl 1 (nI j219)) - 1))) 57 (ix 16)) (nI j219)))
def f_X7_multiply_c216  (M216 : Mem) : Mem := f_X7_multiply_219  65 0 M216
def f_X7_multiply_204  (M204 : Mem) : Mem := f_X7_multiply_c216 (f_X7_put M204 22 0 0 ((-1)) 0)
def f_X7_multiply_c204  (M204 : Mem) : Mem := f_X7_multiply_204 M204
def f_X7_multiply_c173 (y2_14 : Int64) (y4_14 : Int64) (M14 : Mem) (x173 : Int64) : Mem := f_X7_multiply_c204 (f_X7_setRest (uL (uL M14 54 (ix 18) y2_14) 55 (ix 18) y4_14) 18 x173 ((f_X7_rem (f_X7_restOf (uL (uL M14 54 (ix 18) y2_14) 55 (ix 18) y4_14) 16) x173) * (f_X7_rem (f_X7_restOf (uL (uL M14 54 (ix 18) y2_14) 55 (ix 18) y4_14) 17) x173)))
def f_X7_multiply_123 (y2_14 : Int64) (y4_14 : Int64) (j14 : Nat) (R14_ : Int32 → Int64 → Int64 → Nat → Mem → Mem) (w0_43 : Int64) (w0_69 : Int64) (w0_123 : Int32) (M123 : Mem) : Mem := R14_ w0_123 (f_X7_less y2_14 (w0_43 * w0_69)) (f_X7_more y4_14 (w0_43 * w0_69)) (j14 + 1) M123
def f_X7_multiply_118 (y2_14 : Int64) (y4_14 : Int64) (j14 : Nat) (R14_ : Int32 → Int64 → Int64 → Nat → Mem → Mem) (w0_43 : Int64) (w0_69 : Int64) (M118 : Mem) : Mem := f_X7_multiply_123 y2_14 y4_14 j14 R14_ w0_43 w0_69 1 M118
def f_X7_multiply_122 (y2_14 : Int64) (y4_14 : Int64) (j14 : Nat) (R14_ : Int32 → Int64 → Int64 → Nat → Mem → Mem) (w0_43 : Int64) (w0_69 : Int64) (M122 : Mem) : Mem := f_X7_multiply_123 y2_14 y4_14 j14 R14_ w0_43 w0_69 0 M122
def f_X7_multiply_69 (y1_14 : Int32) (y2_14 : Int64) (y4_14 : Int64) (j14 : Nat) (R14_ : Int32 → Int64 → Int64 → Nat → Mem → Mem) (w0_43 : Int64) (w0_69 : Int64) (M69 : Mem) : Mem := if y1_14 = 0 then if w0_43 = 0 then f_X7_multiply_122 y2_14 y4_14 j14 R14_ w0_43 w0_69 M69 else if ((w0_43 * w0_69) / w0_43) = w0_69 then if w0_43 = ((-1)) then if w0_69 = ((-9223372036854775808)) then f_X7_multiply_118 y2_14 y4_14 j14 R14_ w0_43 w0_69 M69 else f_X7_multiply_122 y2_14 y4_14 j14 R14_ w0_43 w0_69 M69 else f_X7_multiply_122 y2_14 y4_14 j14 R14_ w0_43 w0_69 M69 else f_X7_multiply_118 y2_14 y4_14 j14 R14_ w0_43 w0_69 M69 else f_X7_multiply_118 y2_14 y4_14 j14 R14_ w0_43 w0_69 M69
def f_X7_multiply_43 (y1_14 : Int32) (y2_14 : Int64) (y4_14 : Int64) (j14 : Nat) (R14_ : Int32 → Int64 → Int64 → Nat → Mem → Mem) (w0_43 : Int64) (M43 : Mem) : Mem := if (irem (nI j14) 2) = 0 then f_X7_multiply_69 y1_14 y2_14 y4_14 j14 R14_ w0_43 (mL M43 54 (ix 17)) M43 else f_X7_multiply_69 y1_14 y2_14 y4_14 j14 R14_ w0_43 (mL M43 55 (ix 17)) M43
def f_X7_multiply_14  : Nat → Int32 → Int64 → Int64 → Nat → Mem → Mem
  | 0, _, _, _, _, M14 => M14
  | n_ + 1, y1_14, y2_14, y4_14, j14, M14 => if 4 ≤ (nI j14) then if y1_14 = 0 then f_X7_multiply_c173 y2_14 y4_14 M14 (f_X7_oddProduct (uL (uL M14 54 (ix 18) y2_14) 55 (ix 18) y4_14)) else f_X7_multiply_204 M14 else if 2 ≤ (nI j14) then f_X7_multiply_43 y1_14 y2_14 y4_14 j14 (f_X7_multiply_14 n_) (mL M14 55 (ix 16)) M14 else f_X7_multiply_43 y1_14 y2_14 y4_14 j14 (f_X7_multiply_14 n_) (mL M14 54 (ix 16)) M14
def f_X7_multiply (M : Mem) : Mem := f_X7_multiply_14  5 0 9223372036854775807 ((-9223372036854775808)) 0 M
abbrev p_X7_multiply (M : Mem) : Option Value → Mem → Prop := fun r N => r = none ∧ N = f_X7_multiply M ∧ SK wg M N
set_option maxRecDepth 100000 in
set_option maxHeartbeats 4000000 in
theorem c_X7_multiply (G : Ctx) (l : Launch) (M : Mem) (q : Ok M) (gb : Gb M) : CT G l 3 mX7_multiply [.ref 52] M 0 0 (p_X7_multiply M) := by
  refine CT.of (by decide) (Nat.le_of_ble_eq_true rfl) ?_
  intro X d hd hl hRm hnm F
  subst hl
  have E : f_X7_multiply M = f_X7_multiply M := rfl
  show V G X 13 0 0 (Qx G X 0 0 (p_X7_multiply M)) 0 [(0, .ref 52)] [] M
  refine V.seg F floX7 cjoX7 [.iconst 0, .istore_n 1, .ldc2_w 85, .lstore_n 2, .ldc2_w 83, .lstore 4, .iconst 0] (by decide +kernel) (pc2 := 12) (lv2 := [(4, .long ((-9223372036854775808))), (2, .long 9223372036854775807), (1, .int 0), (0, .ref 52)]) (st2 := [.int 0]) (M2 := M) rfl ⟨trivial, (by decide), trivial, (by decide), trivial, (by decide), trivial, trivial⟩ ?_
  refine V.seg F floX7 cjoX7 [.istore 6] (by decide +kernel) (pc2 := 14) (lv2 := [(6, .int 0), (4, .long ((-9223372036854775808))), (2, .long 9223372036854775807), (1, .int 0), (0, .ref 52)]) (st2 := []) (M2 := M) rfl ⟨(by decide), trivial⟩ ?_
  have hJ14 : ∀ (n_ : Nat) (y1_14 : Int32) (y2_14 : Int64) (y4_14 : Int64) (j14 : Nat) (M14 : Mem), (SK wg M M14) → (j14 ≤ 4) → (4 - j14 < n_) → f_X7_multiply M = f_X7_multiply_14 n_ y1_14 y2_14 y4_14 j14 M14 → V G X 13 0 0 (Qx G X 0 0 (p_X7_multiply M)) 14 [(0, .ref 52), (1, .int y1_14), (2, .long y2_14), (4, .long y4_14), (6, .int (nI j14))] [] M14 := by
    intro n_
    induction n_ with
    | zero => intro y1_14 y2_14 y4_14 j14 M14 s14 b14 m14 E; omega
    | succ n_ ih_14 =>
      intro y1_14 y2_14 y4_14 j14 M14 s14 b14 m14 E
      rw [f_X7_multiply_14] at E
      refine V.seg F floX7 cjoX7 [.iload 6, .iconst 4] (by decide +kernel) (pc2 := 17) (lv2 := [(0, .ref 52), (1, .int y1_14), (2, .long y2_14), (4, .long y4_14), (6, .int (nI j14))]) (st2 := [.int 4, .int (nI j14)]) (M2 := M14) rfl ⟨trivial, trivial, trivial⟩ ?_
      refine V.ic_ge (off := 129) F (by decide +kernel) (tgt := 146) (by decide) (fun h17 => ?_) (fun h17 => ?_)
      · replace E := E.trans (if_pos h17)
        refine V.seg F floX7 cjoX7 [.iload_n 1] (by decide +kernel) (pc2 := 147) (lv2 := [(0, .ref 52), (1, .int y1_14), (2, .long y2_14), (4, .long y4_14), (6, .int (nI j14))]) (st2 := [.int y1_14]) (M2 := M14) rfl ⟨trivial, trivial⟩ ?_
        have hJ204 : ∀ (M204 : Mem), (SK wg M M204) → f_X7_multiply M = f_X7_multiply_204 M204 → V G X 13 0 0 (Qx G X 0 0 (p_X7_multiply M)) 204 [(0, .ref 52)] [] M204 := by
          intro M204 s204 E
          refine V.seg F floX7 cjoX7 [.aload_n 0, .bipush 22, .lconst 0, .lconst 0, .ldc2_w 87, .lconst 0] (by decide +kernel) (pc2 := 213) (lv2 := [(0, .ref 52)]) (st2 := [.long 0, .long ((-1)), .long 0, .long 0, .int 22, .ref 52]) (M2 := M204) rfl ⟨trivial, trivial, trivial, trivial, trivial, trivial, trivial⟩ ?_
          refine V.callV (as := [.int 22, .long 0, .long 0, .long ((-1)), .long 0]) (rest := []) F (by decide +kernel) lX7_157 bX7_put ⟨7, _, ((q.sm s204.1).o 52 7 rfl), rfl, rfl⟩ (c_X7_put G X.2.1 M204 22 0 0 ((-1)) 0 (q.sm s204.1) s204.2.1 (vinc (by decide))) (rm_ok hRm hd (by decide) (by decide)) ⟨Nat.zero_le _, Nat.zero_le _⟩ (Nat.le_of_ble_eq_true rfl) (fun r_ N_ p_ => ?_)
          obtain ⟨rfl, rfl, t213⟩ := p_
          refine (?_ : ∀ (M216 : Mem), (SK wg M M216) → f_X7_multiply M = f_X7_multiply_c216 M216 → V G X 13 0 0 (Qx G X 0 0 (p_X7_multiply M)) 216 [(0, .ref 52)] [] M216) _ (SK.tr s204 t213) E
          intro M216 s216 E
          refine V.seg F floX7 cjoX7 [.iconst 0] (by decide +kernel) (pc2 := 217) (lv2 := [(0, .ref 52)]) (st2 := [.int 0]) (M2 := M216) rfl ⟨trivial, trivial⟩ ?_
          refine V.seg F floX7 cjoX7 [.istore 6] (by decide +kernel) (pc2 := 219) (lv2 := [(6, .int 0), (0, .ref 52)]) (st2 := []) (M2 := M216) rfl ⟨(by decide), trivial⟩ ?_
          have hJ219 : ∀ (n219_ : Nat) (j219 : Nat) (M219 : Mem), (SK wg M M219) → (j219 ≤ 64) → (64 - j219 < n219_) → f_X7_multiply M = f_X7_multiply_219 n219_ j219 M219 → V G X 13 0 0 (Qx G X 0 0 (p_X7_multiply M)) 219 [(0, .ref 52), (6, .int (nI j219))] [] M219 := by
            intro n219_
            induction n219_ with
            | zero => intro j219 M219 s219 b219 m219 E; omega
            | succ n219_ ih_219 =>
              intro j219 M219 s219 b219 m219 E
              rw [f_X7_multiply_219] at E
              refine V.seg F floX7 cjoX7 [.iload 6, .bipush 64] (by decide +kernel) (pc2 := 223) (lv2 := [(0, .ref 52), (6, .int (nI j219))]) (st2 := [.int 64, .int (nI j219)]) (M2 := M219) rfl ⟨trivial, trivial, trivial⟩ ?_
              refine V.ic_ge (off := 111) F (by decide +kernel) (tgt := 334) (by decide) (fun h223 => ?_) (fun h223 => ?_)
              · replace E := E.trans (if_pos h223)
                refine V.seg F floX7 cjoX7 [.aload_n 0, .getfield 20, .bipush 18, .aload_n 0, .getfield 20, .bipush 22, .laload, .lastore, .aload_n 0, .getfield 23, .bipush 18, .aload_n 0, .getfield 23, .bipush 22, .laload, .lastore] (by decide +kernel) (pc2 := 362) (lv2 := [(0, .ref 52), (6, .int (nI j219))]) (st2 := []) (M2 := uL (uL M219 56 (ix 18) (mL M219 56 (ix 22))) 57 (ix 18) (mL (uL M219 56 (ix 18) (mL M219 56 (ix 22))) 57 (ix 22))) rfl ⟨trivial, ((q.sm s219.1).f 52 7 3 rfl), trivial, trivial, ((q.sm s219.1).f 52 7 3 rfl), trivial, ((q.sm s219.1).a 56 22 1648 rfl (vinc (by decide))), ((q.sm s219.1).a 56 22 1648 rfl (vinc (by decide))), trivial, ((q.sm (SK.pL s219 rfl (by decide)).1).f 52 7 4 rfl), trivial, trivial, ((q.sm (SK.pL s219 rfl (by decide)).1).f 52 7 4 rfl), trivial, ((q.sm (SK.pL s219 rfl (by decide)).1).a 57 22 1648 rfl (vinc (by decide))), ((q.sm (SK.pL s219 rfl (by decide)).1).a 57 22 1648 rfl (vinc (by decide))), trivial⟩ ?_
                exact V.vret F (by decide +kernel) ⟨rfl, E.symm, (SK.pL (SK.pL s219 rfl (by decide)) rfl (by decide))⟩
              · replace E := E.trans (if_neg h223)
                refine V.seg F floX7 cjoX7 [.aload_n 0, .bipush 17, .iload 6] (by decide +kernel) (pc2 := 231) (lv2 := [(0, .ref 52), (6, .int (nI j219))]) (st2 := [.int (nI j219), .int 17, .ref 52]) (M2 := M219) rfl ⟨trivial, trivial, trivial, trivial⟩ ?_
                refine V.callV (as := [.int 17, .int (nI j219)]) (rest := []) F (by decide +kernel) lX7_209 bX7_bit ⟨7, _, ((q.sm s219.1).o 52 7 rfl), rfl, rfl⟩ (c_X7_bit G X.2.1 M219 17 (nI j219) (q.sm s219.1) s219.2.1 (vinc (by decide))) (rm_ok hRm hd (by decide) (by decide)) ⟨Nat.zero_le _, Nat.zero_le _⟩ (Nat.le_of_ble_eq_true rfl) (fun r_ N_ p_ => ?_)
                obtain ⟨rfl, hN_⟩ := p_
                rw [hN_]
                clear hN_
                refine V.seg F floX7 cjoX7 [.istore 7, .iload 7] (by decide +kernel) (pc2 := 238) (lv2 := [(7, .int (f_X7_bit M219 17 (nI j219))), (0, .ref 52), (6, .int (nI j219))]) (st2 := [.int (f_X7_bit M219 17 (nI j219))]) (M2 := M219) rfl ⟨(by decide), trivial, trivial⟩ ?_
                have hJ328 : ∀ (M328 : Mem), (SK wg M M328) → f_X7_multiply M = f_X7_multiply_328 j219 (f_X7_multiply_219 n219_) M328 → V G X 13 0 0 (Qx G X 0 0 (p_X7_multiply M)) 328 [(0, .ref 52), (6, .int (nI j219))] [] M328 := by
                  intro M328 s328 E
                  refine V.seg F floX7 cjoX7 [.iinc 6 1, .goto (-112)] (by decide +kernel) (pc2 := 219) (lv2 := [(6, .int ((nI j219) + 1)), (0, .ref 52)]) (st2 := []) (M2 := M328) rfl ⟨(by decide), (by decide), trivial⟩ ?_
                  refine V.pick [1, 0] rfl ?_
                  rw [nI_1]
                  exact ih_219 (j219 + 1) M328 s328 (by have hlt_ := cnt_lt (n := 64) h223 rfl (by omega) (by decide); omega) (by have hlt_ := cnt_lt (n := 64) h223 rfl (by omega) (by decide); omega) E
                refine V.if_le (off := 90) F (by decide +kernel) (tgt := 328) (by decide) (fun h238 => ?_) (fun h238 => ?_)
                · replace E := E.trans (if_pos h238)
                  refine V.pick [1, 2] rfl ?_
                  exact hJ328 M219 s219 E
                · replace E := E.trans (if_neg h238)
                  refine V.seg F floX7 cjoX7 [.aload_n 0, .getfield 20, .bipush 23, .aload_n 0, .getfield 20, .bipush 16, .laload, .iload 6, .lshl, .lconst 1, .iload 6, .lshl, .lconst 1, .lsub, .lor, .lastore, .aload_n 0, .getfield 23, .bipush 23, .aload_n 0, .getfield 23, .bipush 16, .laload, .iload 6, .lshl, .lastore] (by decide +kernel) (pc2 := 282) (lv2 := [(7, .int (f_X7_bit M219 17 (nI j219))), (0, .ref 52), (6, .int (nI j219))]) (st2 := []) (M2 := uL (uL M219 56 (ix 23) ((jshl (mL M219 56 (ix 16)) (nI j219)) ||| ((jshl 1 (nI j219)) - 1))) 57 (ix 23) (jshl (mL (uL M219 56 (ix 23) ((jshl (mL M219 56 (ix 16)) (nI j219)) ||| ((jshl 1 (nI j219)) - 1))) 57 (ix 16)) (nI j219))) rfl ⟨trivial, ((q.sm s219.1).f 52 7 3 rfl), trivial, trivial, ((q.sm s219.1).f 52 7 3 rfl), trivial, ((q.sm s219.1).a 56 22 1648 rfl (vinc (by decide))), trivial, trivial, trivial, trivial, trivial, trivial, trivial, trivial, ((q.sm s219.1).a 56 22 1648 rfl (vinc (by decide))), trivial, ((q.sm (SK.pL s219 rfl (by decide)).1).f 52 7 4 rfl), trivial, trivial, ((q.sm (SK.pL s219 rfl (by decide)).1).f 52 7 4 rfl), trivial, ((q.sm (SK.pL s219 rfl (by decide)).1).a 57 22 1648 rfl (vinc (by decide))), trivial, trivial, ((q.sm (SK.pL s219 rfl (by decide)).1).a 57 22 1648 rfl (vinc (by decide))), trivial⟩ ?_
                  refine (?_ : ∀ (M282 : Mem), (SK wg M M282) → f_X7_multiply M = f_X7_multiply_c282 j219 M219 (f_X7_multiply_219 n219_) M282 → V G X 13 0 0 (Qx G X 0 0 (p_X7_multiply M)) 282 [(7, .int (f_X7_bit M219 17 (nI j219))), (0, .ref 52), (6, .int (nI j219))] [] M282) _ (SK.pL (SK.pL s219 rfl (by decide)) rfl (by decide)) E
                  intro M282 s282 E
                  refine V.seg F floX7 cjoX7 [.iload 7, .iconst 2] (by decide +kernel) (pc2 := 285) (lv2 := [(7, .int (f_X7_bit M219 17 (nI j219))), (0, .ref 52), (6, .int (nI j219))]) (st2 := [.int 2, .int (f_X7_bit M219 17 (nI j219))]) (M2 := M282) rfl ⟨trivial, trivial, trivial⟩ ?_
                  have hJ317 : ∀ (M317 : Mem), (SK wg M M317) → f_X7_multiply M = f_X7_multiply_317 j219 (f_X7_multiply_219 n219_) M317 → V G X 13 0 0 (Qx G X 0 0 (p_X7_multiply M)) 317 [(0, .ref 52), (6, .int (nI j219))] [] M317 := by
                    intro M317 s317 E
                    refine V.seg F floX7 cjoX7 [.aload_n 0, .bipush 22, .bipush 23, .iconst 0, .bipush 22] (by decide +kernel) (pc2 := 325) (lv2 := [(0, .ref 52), (6, .int (nI j219))]) (st2 := [.int 22, .int 0, .int 23, .int 22, .ref 52]) (M2 := M317) rfl ⟨trivial, trivial, trivial, trivial, trivial, trivial⟩ ?_
                    refine V.callV (as := [.int 22, .int 23, .int 0, .int 22]) (rest := []) F (by decide +kernel) lX7_216 bX7_ripple ⟨7, _, ((q.sm s317.1).o 52 7 rfl), rfl, rfl⟩ (c_X7_ripple G X.2.1 M317 22 23 0 22 (Or.inl rfl) (q.sm s317.1) s317.2.1 (vinc (by decide)) (vinc (by decide)) (vinc (by decide))) (rm_ok hRm hd (by decide) (by decide)) ⟨Nat.zero_le _, Nat.zero_le _⟩ (Nat.le_of_ble_eq_true rfl) (fun r_ N_ p_ => ?_)
                    obtain ⟨rfl, rfl, t325⟩ := p_
                    refine (?_ : ∀ (M328 : Mem), (SK wg M M328) → f_X7_multiply M = f_X7_multiply_c328 j219 (f_X7_multiply_219 n219_) M328 → V G X 13 0 0 (Qx G X 0 0 (p_X7_multiply M)) 328 [(0, .ref 52), (6, .int (nI j219))] [] M328) _ (SK.tr s317 t325) E
                    intro M328 s328 E
                    refine V.pick [0, 1] rfl ?_
                    exact hJ328 M328 s328 E
                  refine V.ic_ne (off := 32) F (by decide +kernel) (tgt := 317) (by decide) (fun h285 => ?_) (fun h285 => ?_)
                  · replace E := E.trans (if_neg h285)
                    refine V.pick [1, 2] rfl ?_
                    exact hJ317 M282 s282 E
                  · replace E := E.trans (if_pos h285)
                    refine V.seg F floX7 cjoX7 [.aload_n 0, .getfield 20, .bipush 23, .dup2, .laload, .aload_n 0, .getfield 23, .bipush 23, .laload, .ldc2_w 87, .lxor, .land, .lastore, .aload_n 0, .getfield 23, .bipush 23, .lconst 0, .lastore] (by decide +kernel) (pc2 := 317) (lv2 := [(7, .int (f_X7_bit M219 17 (nI j219))), (0, .ref 52), (6, .int (nI j219))]) (st2 := []) (M2 := uL (uL M282 56 (ix 23) ((mL M282 56 (ix 23)) &&& ((mL M282 57 (ix 23)) ^^^ ((-1))))) 57 (ix 23) 0) rfl ⟨trivial, ((q.sm s282.1).f 52 7 3 rfl), trivial, trivial, ((q.sm s282.1).a 56 22 1648 rfl (vinc (by decide))), trivial, ((q.sm s282.1).f 52 7 4 rfl), trivial, ((q.sm s282.1).a 57 22 1648 rfl (vinc (by decide))), trivial, trivial, trivial, ((q.sm s282.1).a 56 22 1648 rfl (vinc (by decide))), trivial, ((q.sm (SK.pL s282 rfl (by decide)).1).f 52 7 4 rfl), trivial, trivial, ((q.sm (SK.pL s282 rfl (by decide)).1).a 57 22 1648 rfl (vinc (by decide))), trivial⟩ ?_
                    refine V.pick [1, 2] rfl ?_
                    exact hJ317 (uL (uL M282 56 (ix 23) ((mL M282 56 (ix 23)) &&& ((mL M282 57 (ix 23)) ^^^ ((-1))))) 57 (ix 23) 0) (SK.pL (SK.pL s282 rfl (by decide)) rfl (by decide)) E
          refine V.pick [1, 0] rfl ?_
          exact hJ219 _ 0 M216 s216 (by omega) (by omega) E
        refine V.if_ne (off := 57) F (by decide +kernel) (tgt := 204) (by decide) (fun h147 => ?_) (fun h147 => ?_)
        · replace E := E.trans (if_neg h147)
          refine V.pick [0] rfl ?_
          exact hJ204 M14 s14 E
        · replace E := E.trans (if_pos h147)
          refine V.seg F floX7 cjoX7 [.aload_n 0, .getfield 13, .bipush 18, .lload_n 2, .lastore, .aload_n 0, .getfield 17, .bipush 18, .lload 4, .lastore, .aload_n 0] (by decide +kernel) (pc2 := 168) (lv2 := [(0, .ref 52), (1, .int y1_14), (2, .long y2_14), (4, .long y4_14), (6, .int (nI j14))]) (st2 := [.ref 52]) (M2 := uL (uL M14 54 (ix 18) y2_14) 55 (ix 18) y4_14) rfl ⟨trivial, ((q.sm s14.1).f 52 7 1 rfl), trivial, trivial, ((q.sm s14.1).a 54 22 1648 rfl (vinc (by decide))), trivial, ((q.sm (SK.pL s14 rfl (by decide)).1).f 52 7 2 rfl), trivial, trivial, ((q.sm (SK.pL s14 rfl (by decide)).1).a 55 22 1648 rfl (vinc (by decide))), trivial, trivial⟩ ?_
          refine V.callV (as := []) (rest := []) F (by decide +kernel) lX7_220 bX7_oddProduct ⟨7, _, ((q.sm (SK.pL (SK.pL s14 rfl (by decide)) rfl (by decide)).1).o 52 7 rfl), rfl, rfl⟩ (c_X7_oddProduct G X.2.1 (uL (uL M14 54 (ix 18) y2_14) 55 (ix 18) y4_14) (q.sm (SK.pL (SK.pL s14 rfl (by decide)) rfl (by decide)).1) (SK.pL (SK.pL s14 rfl (by decide)) rfl (by decide)).2.1) (rm_ok hRm hd (by decide) (by decide)) ⟨Nat.zero_le _, Nat.zero_le _⟩ (Nat.le_of_ble_eq_true rfl) (fun r_ N_ p_ => ?_)
          obtain ⟨rfl, hN_⟩ := p_
          rw [hN_]
          clear hN_
          refine V.seg F floX7 cjoX7 [.lstore 6] (by decide +kernel) (pc2 := 173) (lv2 := [(6, .long (f_X7_oddProduct (uL (uL M14 54 (ix 18) y2_14) 55 (ix 18) y4_14))), (0, .ref 52), (1, .int y1_14), (2, .long y2_14), (4, .long y4_14)]) (st2 := []) (M2 := uL (uL M14 54 (ix 18) y2_14) 55 (ix 18) y4_14) rfl ⟨(by decide), trivial⟩ ?_
          refine (?_ : ∀ (x173 : Int64), (¬ x173 = 0) → f_X7_multiply M = f_X7_multiply_c173 y2_14 y4_14 M14 x173 → V G X 13 0 0 (Qx G X 0 0 (p_X7_multiply M)) 173 [(6, .long x173), (0, .ref 52), (1, .int y1_14), (2, .long y2_14), (4, .long y4_14)] [] (uL (uL M14 54 (ix 18) y2_14) 55 (ix 18) y4_14)) _ (oddP_ne0 (SK.pL (SK.pL s14 rfl (by decide)) rfl (by decide)).2.1) E
          intro x173 nz_x173 E
          refine V.seg F floX7 cjoX7 [.aload_n 0, .bipush 18, .lload 6, .aload_n 0, .bipush 16] (by decide +kernel) (pc2 := 181) (lv2 := [(6, .long x173), (0, .ref 52), (1, .int y1_14), (2, .long y2_14), (4, .long y4_14)]) (st2 := [.int 16, .ref 52, .long x173, .int 18, .ref 52]) (M2 := uL (uL M14 54 (ix 18) y2_14) 55 (ix 18) y4_14) rfl ⟨trivial, trivial, trivial, trivial, trivial, trivial⟩ ?_
          refine V.callV (as := [.int 16]) (rest := [.long x173, .int 18, .ref 52]) F (by decide +kernel) lX7_137 bX7_restOf ⟨7, _, ((q.sm (SK.pL (SK.pL s14 rfl (by decide)) rfl (by decide)).1).o 52 7 rfl), rfl, rfl⟩ (c_X7_restOf G X.2.1 (uL (uL M14 54 (ix 18) y2_14) 55 (ix 18) y4_14) 16 (q.sm (SK.pL (SK.pL s14 rfl (by decide)) rfl (by decide)).1) (SK.pL (SK.pL s14 rfl (by decide)) rfl (by decide)).2.1 (vinc (by decide))) (rm_ok hRm hd (by decide) (by decide)) ⟨Nat.zero_le _, Nat.zero_le _⟩ (Nat.le_of_ble_eq_true rfl) (fun r_ N_ p_ => ?_)
          obtain ⟨rfl, hN_⟩ := p_
          rw [hN_]
          clear hN_
          refine V.seg F floX7 cjoX7 [.lload 6] (by decide +kernel) (pc2 := 186) (lv2 := [(6, .long x173), (0, .ref 52), (1, .int y1_14), (2, .long y2_14), (4, .long y4_14)]) (st2 := [.long x173, .long (f_X7_restOf (uL (uL M14 54 (ix 18) y2_14) 55 (ix 18) y4_14) 16), .long x173, .int 18, .ref 52]) (M2 := uL (uL M14 54 (ix 18) y2_14) 55 (ix 18) y4_14) rfl ⟨trivial, trivial⟩ ?_
          refine V.callS (as := [.long (f_X7_restOf (uL (uL M14 54 (ix 18) y2_14) 55 (ix 18) y4_14) 16), .long x173]) (rest := [.long x173, .int 18, .ref 52]) F (by decide +kernel) lX7_93 bX7_rem (c_X7_rem G X.2.1 (uL (uL M14 54 (ix 18) y2_14) 55 (ix 18) y4_14) (f_X7_restOf (uL (uL M14 54 (ix 18) y2_14) 55 (ix 18) y4_14) 16) x173 nz_x173) (rm_ok hRm hd (by decide) (by decide)) ⟨Nat.zero_le _, Nat.zero_le _⟩ (Nat.le_of_ble_eq_true rfl) (fun r_ N_ p_ => ?_)
          obtain ⟨rfl, hN_⟩ := p_
          rw [hN_]
          clear hN_
          refine V.seg F floX7 cjoX7 [.aload_n 0, .bipush 17] (by decide +kernel) (pc2 := 192) (lv2 := [(6, .long x173), (0, .ref 52), (1, .int y1_14), (2, .long y2_14), (4, .long y4_14)]) (st2 := [.int 17, .ref 52, .long (f_X7_rem (f_X7_restOf (uL (uL M14 54 (ix 18) y2_14) 55 (ix 18) y4_14) 16) x173), .long x173, .int 18, .ref 52]) (M2 := uL (uL M14 54 (ix 18) y2_14) 55 (ix 18) y4_14) rfl ⟨trivial, trivial, trivial⟩ ?_
          refine V.callV (as := [.int 17]) (rest := [.long (f_X7_rem (f_X7_restOf (uL (uL M14 54 (ix 18) y2_14) 55 (ix 18) y4_14) 16) x173), .long x173, .int 18, .ref 52]) F (by decide +kernel) lX7_137 bX7_restOf ⟨7, _, ((q.sm (SK.pL (SK.pL s14 rfl (by decide)) rfl (by decide)).1).o 52 7 rfl), rfl, rfl⟩ (c_X7_restOf G X.2.1 (uL (uL M14 54 (ix 18) y2_14) 55 (ix 18) y4_14) 17 (q.sm (SK.pL (SK.pL s14 rfl (by decide)) rfl (by decide)).1) (SK.pL (SK.pL s14 rfl (by decide)) rfl (by decide)).2.1 (vinc (by decide))) (rm_ok hRm hd (by decide) (by decide)) ⟨Nat.zero_le _, Nat.zero_le _⟩ (Nat.le_of_ble_eq_true rfl) (fun r_ N_ p_ => ?_)
          obtain ⟨rfl, hN_⟩ := p_
          rw [hN_]
          clear hN_
          refine V.seg F floX7 cjoX7 [.lload 6] (by decide +kernel) (pc2 := 197) (lv2 := [(6, .long x173), (0, .ref 52), (1, .int y1_14), (2, .long y2_14), (4, .long y4_14)]) (st2 := [.long x173, .long (f_X7_restOf (uL (uL M14 54 (ix 18) y2_14) 55 (ix 18) y4_14) 17), .long (f_X7_rem (f_X7_restOf (uL (uL M14 54 (ix 18) y2_14) 55 (ix 18) y4_14) 16) x173), .long x173, .int 18, .ref 52]) (M2 := uL (uL M14 54 (ix 18) y2_14) 55 (ix 18) y4_14) rfl ⟨trivial, trivial⟩ ?_
          refine V.callS (as := [.long (f_X7_restOf (uL (uL M14 54 (ix 18) y2_14) 55 (ix 18) y4_14) 17), .long x173]) (rest := [.long (f_X7_rem (f_X7_restOf (uL (uL M14 54 (ix 18) y2_14) 55 (ix 18) y4_14) 16) x173), .long x173, .int 18, .ref 52]) F (by decide +kernel) lX7_93 bX7_rem (c_X7_rem G X.2.1 (uL (uL M14 54 (ix 18) y2_14) 55 (ix 18) y4_14) (f_X7_restOf (uL (uL M14 54 (ix 18) y2_14) 55 (ix 18) y4_14) 17) x173 nz_x173) (rm_ok hRm hd (by decide) (by decide)) ⟨Nat.zero_le _, Nat.zero_le _⟩ (Nat.le_of_ble_eq_true rfl) (fun r_ N_ p_ => ?_)
          obtain ⟨rfl, hN_⟩ := p_
          rw [hN_]
          clear hN_
          refine V.seg F floX7 cjoX7 [.lmul] (by decide +kernel) (pc2 := 201) (lv2 := [(6, .long x173), (0, .ref 52), (1, .int y1_14), (2, .long y2_14), (4, .long y4_14)]) (st2 := [.long ((f_X7_rem (f_X7_restOf (uL (uL M14 54 (ix 18) y2_14) 55 (ix 18) y4_14) 16) x173) * (f_X7_rem (f_X7_restOf (uL (uL M14 54 (ix 18) y2_14) 55 (ix 18) y4_14) 17) x173)), .long x173, .int 18, .ref 52]) (M2 := uL (uL M14 54 (ix 18) y2_14) 55 (ix 18) y4_14) rfl ⟨trivial, trivial⟩ ?_
          refine V.callV (as := [.int 18, .long x173, .long ((f_X7_rem (f_X7_restOf (uL (uL M14 54 (ix 18) y2_14) 55 (ix 18) y4_14) 16) x173) * (f_X7_rem (f_X7_restOf (uL (uL M14 54 (ix 18) y2_14) 55 (ix 18) y4_14) 17) x173))]) (rest := []) F (by decide +kernel) lX7_161 bX7_setRest ⟨7, _, ((q.sm (SK.pL (SK.pL s14 rfl (by decide)) rfl (by decide)).1).o 52 7 rfl), rfl, rfl⟩ (c_X7_setRest G X.2.1 (uL (uL M14 54 (ix 18) y2_14) 55 (ix 18) y4_14) 18 x173 ((f_X7_rem (f_X7_restOf (uL (uL M14 54 (ix 18) y2_14) 55 (ix 18) y4_14) 16) x173) * (f_X7_rem (f_X7_restOf (uL (uL M14 54 (ix 18) y2_14) 55 (ix 18) y4_14) 17) x173)) (q.sm (SK.pL (SK.pL s14 rfl (by decide)) rfl (by decide)).1) (SK.pL (SK.pL s14 rfl (by decide)) rfl (by decide)).2.1 (vinc (by decide)) nz_x173) (rm_ok hRm hd (by decide) (by decide)) ⟨Nat.zero_le _, Nat.zero_le _⟩ (Nat.le_of_ble_eq_true rfl) (fun r_ N_ p_ => ?_)
          obtain ⟨rfl, rfl, t201⟩ := p_
          refine (?_ : ∀ (M204 : Mem), (SK wg M M204) → f_X7_multiply M = f_X7_multiply_c204 M204 → V G X 13 0 0 (Qx G X 0 0 (p_X7_multiply M)) 204 [(6, .long x173), (0, .ref 52), (1, .int y1_14), (2, .long y2_14), (4, .long y4_14)] [] M204) _ (SK.tr (SK.pL (SK.pL s14 rfl (by decide)) rfl (by decide)) t201) E
          intro M204 s204 E
          refine V.pick [1] rfl ?_
          exact hJ204 M204 s204 E
      · replace E := E.trans (if_neg h17)
        refine V.seg F floX7 cjoX7 [.iload 6, .iconst 2] (by decide +kernel) (pc2 := 23) (lv2 := [(0, .ref 52), (1, .int y1_14), (2, .long y2_14), (4, .long y4_14), (6, .int (nI j14))]) (st2 := [.int 2, .int (nI j14)]) (M2 := M14) rfl ⟨trivial, trivial, trivial⟩ ?_
        have hJ43 : ∀ (w0_43 : Int64) (M43 : Mem), (SK wg M M43) → f_X7_multiply M = f_X7_multiply_43 y1_14 y2_14 y4_14 j14 (f_X7_multiply_14 n_) w0_43 M43 → V G X 13 0 0 (Qx G X 0 0 (p_X7_multiply M)) 43 [(0, .ref 52), (1, .int y1_14), (2, .long y2_14), (4, .long y4_14), (6, .int (nI j14))] [.long w0_43] M43 := by
          intro w0_43 M43 s43 E
          refine V.seg F floX7 cjoX7 [.lstore 7, .iload 6, .iconst 2, .irem] (by decide +kernel) (pc2 := 49) (lv2 := [(7, .long w0_43), (0, .ref 52), (1, .int y1_14), (2, .long y2_14), (4, .long y4_14), (6, .int (nI j14))]) (st2 := [.int (irem (nI j14) 2)]) (M2 := M43) rfl ⟨(by decide), trivial, trivial, (by decide), trivial⟩ ?_
          have hJ69 : ∀ (w0_69 : Int64) (M69 : Mem), (SK wg M M69) → f_X7_multiply M = f_X7_multiply_69 y1_14 y2_14 y4_14 j14 (f_X7_multiply_14 n_) w0_43 w0_69 M69 → V G X 13 0 0 (Qx G X 0 0 (p_X7_multiply M)) 69 [(0, .ref 52), (1, .int y1_14), (2, .long y2_14), (4, .long y4_14), (6, .int (nI j14)), (7, .long w0_43)] [.long w0_69] M69 := by
            intro w0_69 M69 s69 E
            refine V.seg F floX7 cjoX7 [.lstore 9, .lload 7, .lload 9, .lmul, .lstore 11, .iload_n 1] (by decide +kernel) (pc2 := 79) (lv2 := [(11, .long (w0_43 * w0_69)), (9, .long w0_69), (0, .ref 52), (1, .int y1_14), (2, .long y2_14), (4, .long y4_14), (6, .int (nI j14)), (7, .long w0_43)]) (st2 := [.int y1_14]) (M2 := M69) rfl ⟨(by decide), trivial, trivial, trivial, (by decide), trivial, trivial⟩ ?_
            have hJ123 : ∀ (w0_123 : Int32) (M123 : Mem), (SK wg M M123) → f_X7_multiply M = f_X7_multiply_123 y2_14 y4_14 j14 (f_X7_multiply_14 n_) w0_43 w0_69 w0_123 M123 → V G X 13 0 0 (Qx G X 0 0 (p_X7_multiply M)) 123 [(0, .ref 52), (2, .long y2_14), (4, .long y4_14), (6, .int (nI j14)), (11, .long (w0_43 * w0_69))] [.int w0_123] M123 := by
              intro w0_123 M123 s123 E
              refine V.seg F floX7 cjoX7 [.istore_n 1, .lload_n 2, .lload 11] (by decide +kernel) (pc2 := 127) (lv2 := [(1, .int w0_123), (0, .ref 52), (2, .long y2_14), (4, .long y4_14), (6, .int (nI j14)), (11, .long (w0_43 * w0_69))]) (st2 := [.long (w0_43 * w0_69), .long y2_14]) (M2 := M123) rfl ⟨(by decide), trivial, trivial, trivial⟩ ?_
              refine V.callS (as := [.long y2_14, .long (w0_43 * w0_69)]) (rest := []) F (by decide +kernel) lX7_151 bX7_less (c_X7_less G X.2.1 M123 y2_14 (w0_43 * w0_69)) (rm_ok hRm hd (by decide) (by decide)) ⟨Nat.zero_le _, Nat.zero_le _⟩ (Nat.le_of_ble_eq_true rfl) (fun r_ N_ p_ => ?_)
              obtain ⟨rfl, hN_⟩ := p_
              rw [hN_]
              clear hN_
              refine V.seg F floX7 cjoX7 [.lstore_n 2, .lload 4, .lload 11] (by decide +kernel) (pc2 := 135) (lv2 := [(2, .long (f_X7_less y2_14 (w0_43 * w0_69))), (1, .int w0_123), (0, .ref 52), (4, .long y4_14), (6, .int (nI j14)), (11, .long (w0_43 * w0_69))]) (st2 := [.long (w0_43 * w0_69), .long y4_14]) (M2 := M123) rfl ⟨(by decide), trivial, trivial, trivial⟩ ?_
              refine V.callS (as := [.long y4_14, .long (w0_43 * w0_69)]) (rest := []) F (by decide +kernel) lX7_154 bX7_more (c_X7_more G X.2.1 M123 y4_14 (w0_43 * w0_69)) (rm_ok hRm hd (by decide) (by decide)) ⟨Nat.zero_le _, Nat.zero_le _⟩ (Nat.le_of_ble_eq_true rfl) (fun r_ N_ p_ => ?_)
              obtain ⟨rfl, hN_⟩ := p_
              rw [hN_]
              clear hN_
              refine V.seg F floX7 cjoX7 [.lstore 4, .iinc 6 1, .goto (-129)] (by decide +kernel) (pc2 := 14) (lv2 := [(6, .int ((nI j14) + 1)), (4, .long (f_X7_more y4_14 (w0_43 * w0_69))), (2, .long (f_X7_less y2_14 (w0_43 * w0_69))), (1, .int w0_123), (0, .ref 52), (11, .long (w0_43 * w0_69))]) (st2 := []) (M2 := M123) rfl ⟨(by decide), (by decide), (by decide), trivial⟩ ?_
              refine V.pick [4, 3, 2, 1, 0] rfl ?_
              rw [nI_1]
              exact ih_14 w0_123 (f_X7_less y2_14 (w0_43 * w0_69)) (f_X7_more y4_14 (w0_43 * w0_69)) (j14 + 1) M123 s123 (by have hlt_ := cnt_lt (n := 4) h17 rfl (by omega) (by decide); omega) (by have hlt_ := cnt_lt (n := 4) h17 rfl (by omega) (by decide); omega) E
            have hJ118 : ∀ (M118 : Mem), (SK wg M M118) → f_X7_multiply M = f_X7_multiply_118 y2_14 y4_14 j14 (f_X7_multiply_14 n_) w0_43 w0_69 M118 → V G X 13 0 0 (Qx G X 0 0 (p_X7_multiply M)) 118 [(0, .ref 52), (2, .long y2_14), (4, .long y4_14), (6, .int (nI j14)), (11, .long (w0_43 * w0_69))] [] M118 := by
              intro M118 s118 E
              refine V.seg F floX7 cjoX7 [.iconst 1, .goto 4] (by decide +kernel) (pc2 := 123) (lv2 := [(0, .ref 52), (2, .long y2_14), (4, .long y4_14), (6, .int (nI j14)), (11, .long (w0_43 * w0_69))]) (st2 := [.int 1]) (M2 := M118) rfl ⟨trivial, (by decide), trivial⟩ ?_
              refine V.pick [0, 1, 2, 3, 4] rfl ?_
              exact hJ123 1 M118 s118 E
            refine V.if_ne (off := 39) F (by decide +kernel) (tgt := 118) (by decide) (fun h79 => ?_) (fun h79 => ?_)
            · replace E := E.trans (if_neg h79)
              refine V.pick [2, 4, 5, 6, 0] rfl ?_
              exact hJ118 M69 s69 E
            · replace E := E.trans (if_pos h79)
              refine V.seg F floX7 cjoX7 [.lload 7, .lconst 0, .lcmp] (by decide +kernel) (pc2 := 86) (lv2 := [(11, .long (w0_43 * w0_69)), (9, .long w0_69), (0, .ref 52), (1, .int y1_14), (2, .long y2_14), (4, .long y4_14), (6, .int (nI j14)), (7, .long w0_43)]) (st2 := [.int (lg_cmp w0_43 0)]) (M2 := M69) rfl ⟨trivial, trivial, trivial, trivial⟩ ?_
              have hJ122 : ∀ (M122 : Mem), (SK wg M M122) → f_X7_multiply M = f_X7_multiply_122 y2_14 y4_14 j14 (f_X7_multiply_14 n_) w0_43 w0_69 M122 → V G X 13 0 0 (Qx G X 0 0 (p_X7_multiply M)) 122 [(0, .ref 52), (2, .long y2_14), (4, .long y4_14), (6, .int (nI j14)), (11, .long (w0_43 * w0_69))] [] M122 := by
                intro M122 s122 E
                refine V.seg F floX7 cjoX7 [.iconst 0] (by decide +kernel) (pc2 := 123) (lv2 := [(0, .ref 52), (2, .long y2_14), (4, .long y4_14), (6, .int (nI j14)), (11, .long (w0_43 * w0_69))]) (st2 := [.int 0]) (M2 := M122) rfl ⟨trivial, trivial⟩ ?_
                refine V.pick [0, 1, 2, 3, 4] rfl ?_
                exact hJ123 0 M122 s122 E
              refine V.lc_eq (off := 36) F (by decide +kernel) (tgt := 122) (by decide) (fun h86 => ?_) (fun h86 => ?_)
              · replace E := E.trans (if_pos h86)
                refine V.pick [2, 4, 5, 6, 0] rfl ?_
                exact hJ122 M69 s69 E
              · replace E := E.trans (if_neg h86)
                refine V.seg F floX7 cjoX7 [.lload 11, .lload 7, .ldiv, .lload 9, .lcmp] (by decide +kernel) (pc2 := 97) (lv2 := [(11, .long (w0_43 * w0_69)), (9, .long w0_69), (0, .ref 52), (1, .int y1_14), (2, .long y2_14), (4, .long y4_14), (6, .int (nI j14)), (7, .long w0_43)]) (st2 := [.int (lg_cmp ((w0_43 * w0_69) / w0_43) w0_69)]) (M2 := M69) rfl ⟨trivial, trivial, h86, trivial, trivial, trivial⟩ ?_
                refine V.lc_ne (off := 21) F (by decide +kernel) (tgt := 118) (by decide) (fun h97 => ?_) (fun h97 => ?_)
                · replace E := E.trans (if_neg h97)
                  refine V.pick [2, 4, 5, 6, 0] rfl ?_
                  exact hJ118 M69 s69 E
                · replace E := E.trans (if_pos h97)
                  refine V.seg F floX7 cjoX7 [.lload 7, .ldc2_w 87, .lcmp] (by decide +kernel) (pc2 := 106) (lv2 := [(11, .long (w0_43 * w0_69)), (9, .long w0_69), (0, .ref 52), (1, .int y1_14), (2, .long y2_14), (4, .long y4_14), (6, .int (nI j14)), (7, .long w0_43)]) (st2 := [.int (lg_cmp w0_43 ((-1)))]) (M2 := M69) rfl ⟨trivial, trivial, trivial, trivial⟩ ?_
                  refine V.lc_ne (off := 16) F (by decide +kernel) (tgt := 122) (by decide) (fun h106 => ?_) (fun h106 => ?_)
                  · replace E := E.trans (if_neg h106)
                    refine V.pick [2, 4, 5, 6, 0] rfl ?_
                    exact hJ122 M69 s69 E
                  · replace E := E.trans (if_pos h106)
                    refine V.seg F floX7 cjoX7 [.lload 9, .ldc2_w 83, .lcmp] (by decide +kernel) (pc2 := 115) (lv2 := [(11, .long (w0_43 * w0_69)), (9, .long w0_69), (0, .ref 52), (1, .int y1_14), (2, .long y2_14), (4, .long y4_14), (6, .int (nI j14)), (7, .long w0_43)]) (st2 := [.int (lg_cmp w0_69 ((-9223372036854775808)))]) (M2 := M69) rfl ⟨trivial, trivial, trivial, trivial⟩ ?_
                    refine V.lc_ne (off := 7) F (by decide +kernel) (tgt := 122) (by decide) (fun h115 => ?_) (fun h115 => ?_)
                    · replace E := E.trans (if_neg h115)
                      refine V.pick [2, 4, 5, 6, 0] rfl ?_
                      exact hJ122 M69 s69 E
                    · replace E := E.trans (if_pos h115)
                      refine V.pick [2, 4, 5, 6, 0] rfl ?_
                      exact hJ118 M69 s69 E
          refine V.if_ne (off := 13) F (by decide +kernel) (tgt := 62) (by decide) (fun h49 => ?_) (fun h49 => ?_)
          · replace E := E.trans (if_neg h49)
            refine V.seg F floX7 cjoX7 [.aload_n 0, .getfield 17, .bipush 17, .laload] (by decide +kernel) (pc2 := 69) (lv2 := [(7, .long w0_43), (0, .ref 52), (1, .int y1_14), (2, .long y2_14), (4, .long y4_14), (6, .int (nI j14))]) (st2 := [.long (mL M43 55 (ix 17))]) (M2 := M43) rfl ⟨trivial, ((q.sm s43.1).f 52 7 2 rfl), trivial, ((q.sm s43.1).a 55 22 1648 rfl (vinc (by decide))), trivial⟩ ?_
            refine V.pick [1, 2, 3, 4, 5, 0] rfl ?_
            exact hJ69 (mL M43 55 (ix 17)) M43 s43 E
          · replace E := E.trans (if_pos h49)
            refine V.seg F floX7 cjoX7 [.aload_n 0, .getfield 13, .bipush 17, .laload, .goto 10] (by decide +kernel) (pc2 := 69) (lv2 := [(7, .long w0_43), (0, .ref 52), (1, .int y1_14), (2, .long y2_14), (4, .long y4_14), (6, .int (nI j14))]) (st2 := [.long (mL M43 54 (ix 17))]) (M2 := M43) rfl ⟨trivial, ((q.sm s43.1).f 52 7 1 rfl), trivial, ((q.sm s43.1).a 54 22 1648 rfl (vinc (by decide))), (by decide), trivial⟩ ?_
            refine V.pick [1, 2, 3, 4, 5, 0] rfl ?_
            exact hJ69 (mL M43 54 (ix 17)) M43 s43 E
        refine V.ic_ge (off := 13) F (by decide +kernel) (tgt := 36) (by decide) (fun h23 => ?_) (fun h23 => ?_)
        · replace E := E.trans (if_pos h23)
          refine V.seg F floX7 cjoX7 [.aload_n 0, .getfield 17, .bipush 16, .laload] (by decide +kernel) (pc2 := 43) (lv2 := [(0, .ref 52), (1, .int y1_14), (2, .long y2_14), (4, .long y4_14), (6, .int (nI j14))]) (st2 := [.long (mL M14 55 (ix 16))]) (M2 := M14) rfl ⟨trivial, ((q.sm s14.1).f 52 7 2 rfl), trivial, ((q.sm s14.1).a 55 22 1648 rfl (vinc (by decide))), trivial⟩ ?_
          refine V.pick [0, 1, 2, 3, 4] rfl ?_
          exact hJ43 (mL M14 55 (ix 16)) M14 s14 E
        · replace E := E.trans (if_neg h23)
          refine V.seg F floX7 cjoX7 [.aload_n 0, .getfield 13, .bipush 16, .laload, .goto 10] (by decide +kernel) (pc2 := 43) (lv2 := [(0, .ref 52), (1, .int y1_14), (2, .long y2_14), (4, .long y4_14), (6, .int (nI j14))]) (st2 := [.long (mL M14 54 (ix 16))]) (M2 := M14) rfl ⟨trivial, ((q.sm s14.1).f 52 7 1 rfl), trivial, ((q.sm s14.1).a 54 22 1648 rfl (vinc (by decide))), (by decide), trivial⟩ ?_
          refine V.pick [0, 1, 2, 3, 4] rfl ?_
          exact hJ43 (mL M14 54 (ix 16)) M14 s14 E
  refine V.pick [4, 3, 2, 1, 0] rfl ?_
  exact hJ14 _ 0 9223372036854775807 ((-9223372036854775808)) 0 M (SK.rf (w := wg) gb) (by omega) (by omega) E
def f_X7_move_c433  (M433 : Mem) : Mem := M433
def f_X7_move_427  (M427 : Mem) : Mem := f_X7_move_c433 (f_X7_sharpen M427 20)
def f_X7_move_426  (w0_426 : Int64) (M426 : Mem) : Mem := f_X7_move_427 (uL M426 55 (ix 20) w0_426)
def f_X7_move_398 (c : Nat) (w0_374 : Int32) (w0_398 : Int64) (M398 : Mem) : Mem := if w0_374 = 0 then f_X7_move_426 (jushr ((-1)) (nI c)) (uL M398 54 (ix 20) w0_398) else f_X7_move_426 (jushr (mL (uL M398 54 (ix 20) w0_398) 55 (ix 16)) (nI c)) (uL M398 54 (ix 20) w0_398)
def f_X7_move_374 (c : Nat) (w0_374 : Int32) (M374 : Mem) : Mem := if w0_374 = 0 then f_X7_move_398 c w0_374 0 M374 else f_X7_move_398 c w0_374 (jushr (mL M374 54 (ix 16)) (nI c)) M374
def f_X7_move_366 (c : Nat) (w0_349 : Int32) (w0_366 : Int32) (M366 : Mem) : Mem := if w0_349 = w0_366 then f_X7_move_374 c 1 M366 else f_X7_move_374 c 0 M366
def f_X7_move_349 (c : Nat) (w0_349 : Int32) (M349 : Mem) : Mem := if 0 ≤ (mL M349 55 (ix 16)) then f_X7_move_366 c w0_349 0 M349 else f_X7_move_366 c w0_349 1 M349
def f_X7_move_c332 (c : Nat) (M332 : Mem) : Mem := if 0 ≤ (mL M332 54 (ix 16)) then f_X7_move_349 c 0 M332 else f_X7_move_349 c 1 M332
def f_X7_move_c271 (c : Nat) (M271 : Mem) : Mem := f_X7_move_427 (uL M271 55 (ix 20) (jshr (mL M271 55 (ix 16)) (nI c)))
def f_X7_move_214  (M214 : Mem) : Mem := f_X7_move_427 M214
def f_X7_move_c214  (M214 : Mem) : Mem := f_X7_move_214 M214
def f_X7_move_171 (c : Nat) : Nat → Int64 → Nat → Mem → Mem
  | 0, _, _, M171 => M171
  | n_ + 1, y7_171, j171, M171 => if (nI c) ≤ (nI j171) then f_X7_move_c214 (f_X7_setRest M171 20 (mL M171 58 (ix 16)) y7_171) else (f_X7_move_171 c n_) (jrem (2 * y7_171) (mL M171 58 (ix 16))) (j171 + 1) M171
def f_X7_move_c168 (c : Nat) (x168 : Int64) (M168 : Mem) : Mem := f_X7_move_171 c (c + 1) x168 0 M168
def f_X7_move_c92 (c : Nat) (M92 : Mem) : Mem := if (jshr (jshl (mL M92 54 (ix 16)) (nI c)) (nI c)) = (mL M92 54 (ix 16)) then if (jshr (jshl (mL M92 55 (ix 16)) (nI c)) (nI c)) = (mL M92 55 (ix 16)) then f_X7_move_c168 c (mL (uL (uL M92 54 (ix 20) (jshl (mL M92 54 (ix 16)) (nI c))) 55 (ix 20) (jshl (mL M92 55 (ix 16)) (nI c))) 59 (ix 16)) (uL (uL M92 54 (ix 20) (jshl (mL M92 54 (ix 16)) (nI c))) 55 (ix 20) (jshl (mL M92 55 (ix 16)) (nI c))) else f_X7_move_214 M92 else f_X7_move_214 M92
def f_X7_move_c48 (op : Int32) (c : Nat) (M48 : Mem) : Mem := if op = 6 then f_X7_move_c92 c (uL (uL M48 56 (ix 20) ((jshl (mL M48 56 (ix 16)) (nI c)) ||| ((jshl 1 (nI c)) - 1))) 57 (ix 20) (jshl (mL (uL M48 56 (ix 20) ((jshl (mL M48 56 (ix 16)) (nI c)) ||| ((jshl 1 (nI c)) - 1))) 57 (ix 16)) (nI c))) else if op = 7 then f_X7_move_c271 c (uL (uL (uL M48 56 (ix 20) (jshr (mL M48 56 (ix 16)) (nI c))) 57 (ix 20) (jshr (mL (uL M48 56 (ix 20) (jshr (mL M48 56 (ix 16)) (nI c))) 57 (ix 16)) (nI c))) 54 (ix 20) (jshr (mL (uL (uL M48 56 (ix 20) (jshr (mL M48 56 (ix 16)) (nI c))) 57 (ix 20) (jshr (mL (uL M48 56 (ix 20) (jshr (mL M48 56 (ix 16)) (nI c))) 57 (ix 16)) (nI c))) 54 (ix 16)) (nI c))) else f_X7_move_c332 c (uL (uL M48 56 (ix 20) ((jushr (mL M48 56 (ix 16)) (nI c)) ||| ((jushr ((-1)) (nI c)) ^^^ ((-1))))) 57 (ix 20) (jushr (mL (uL M48 56 (ix 20) ((jushr (mL M48 56 (ix 16)) (nI c)) ||| ((jushr ((-1)) (nI c)) ^^^ ((-1))))) 57 (ix 16)) (nI c)))
def f_X7_move_c41  (M41 : Mem) : Mem := M41
def f_X7_move_c12  (M12 : Mem) : Mem := M12
def f_X7_move (M : Mem) (op : Int32) (c : Nat) : Mem := if (nI c) = 0 then f_X7_move_c12 (f_X7_copy M 20 16) else if (f_X7_isNumber M 16) = 0 then f_X7_move_c48 op c (f_X7_all M 20) else f_X7_move_c41 (f_X7_number M 20 (f_X7_reckon op (mL M 54 (ix 16)) (Int32.toInt64 (nI c))))
abbrev p_X7_move (M : Mem) (op : Int32) (c : Nat) : Option Value → Mem → Prop := fun r N => r = none ∧ N = f_X7_move M op c ∧ SK wg M N
set_option maxRecDepth 100000 in
set_option maxHeartbeats 4000000 in
theorem c_X7_move (G : Ctx) (l : Launch) (M : Mem) (op : Int32) (c : Nat) (b_c : c < 64) (q : Ok M) (gb : Gb M) (hop : ¬ (op = 9 ∨ op = 10)) : CT G l 4 mX7_move [.ref 52, .int op, .int (nI c)] M 0 0 (p_X7_move M op c) := by
  refine CT.of (by decide) (Nat.le_of_ble_eq_true rfl) ?_
  intro X d hd hl hRm hnm F
  subst hl
  have E : f_X7_move M op c = f_X7_move M op c := rfl
  show V G X 10 0 0 (Qx G X 0 0 (p_X7_move M op c)) 0 [(0, .ref 52), (1, .int op), (2, .int (nI c))] [] M
  refine V.seg F floX7 cjoX7 [.iload_n 2] (by decide +kernel) (pc2 := 1) (lv2 := [(0, .ref 52), (1, .int op), (2, .int (nI c))]) (st2 := [.int (nI c)]) (M2 := M) rfl ⟨trivial, trivial⟩ ?_
  refine V.if_ne (off := 12) F (by decide +kernel) (tgt := 13) (by decide) (fun h1 => ?_) (fun h1 => ?_)
  · replace E := E.trans (if_neg h1)
    refine V.seg F floX7 cjoX7 [.aload_n 0, .bipush 16] (by decide +kernel) (pc2 := 16) (lv2 := [(0, .ref 52), (1, .int op), (2, .int (nI c))]) (st2 := [.int 16, .ref 52]) (M2 := M) rfl ⟨trivial, trivial, trivial⟩ ?_
    refine V.callV (as := [.int 16]) (rest := []) F (by decide +kernel) lX7_130 bX7_isNumber ⟨7, _, (q.o 52 7 rfl), rfl, rfl⟩ (c_X7_isNumber G X.2.1 M 16 q gb (vinc (by decide))) (rm_ok hRm hd (by decide) (by decide)) ⟨Nat.zero_le _, Nat.zero_le _⟩ (Nat.le_of_ble_eq_true rfl) (fun r_ N_ p_ => ?_)
    obtain ⟨rfl, hN_, z16⟩ := p_
    rw [hN_]
    clear hN_
    refine V.if_eq (off := 23) F (by decide +kernel) (tgt := 42) (by decide) (fun h19 => ?_) (fun h19 => ?_)
    · replace E := E.trans (if_pos h19)
      refine V.seg F floX7 cjoX7 [.aload_n 0, .bipush 20] (by decide +kernel) (pc2 := 45) (lv2 := [(0, .ref 52), (1, .int op), (2, .int (nI c))]) (st2 := [.int 20, .ref 52]) (M2 := M) rfl ⟨trivial, trivial, trivial⟩ ?_
      refine V.callV (as := [.int 20]) (rest := []) F (by decide +kernel) lX7_79 bX7_all ⟨7, _, (q.o 52 7 rfl), rfl, rfl⟩ (c_X7_all G X.2.1 M 20 q gb (vinc (by decide))) (rm_ok hRm hd (by decide) (by decide)) ⟨Nat.zero_le _, Nat.zero_le _⟩ (Nat.le_of_ble_eq_true rfl) (fun r_ N_ p_ => ?_)
      obtain ⟨rfl, rfl, t45⟩ := p_
      refine (?_ : ∀ (M48 : Mem), (SK wg M M48) → f_X7_move M op c = f_X7_move_c48 op c M48 → V G X 10 0 0 (Qx G X 0 0 (p_X7_move M op c)) 48 [(0, .ref 52), (1, .int op), (2, .int (nI c))] [] M48) _ t45 E
      intro M48 s48 E
      refine V.seg F floX7 cjoX7 [.iload_n 1, .bipush 6] (by decide +kernel) (pc2 := 51) (lv2 := [(0, .ref 52), (1, .int op), (2, .int (nI c))]) (st2 := [.int 6, .int op]) (M2 := M48) rfl ⟨trivial, trivial, trivial⟩ ?_
      have hJ427 : ∀ (M427 : Mem), (SK wg M M427) → f_X7_move M op c = f_X7_move_427 M427 → V G X 10 0 0 (Qx G X 0 0 (p_X7_move M op c)) 427 [(0, .ref 52)] [] M427 := by
        intro M427 s427 E
        refine V.seg F floX7 cjoX7 [.aload_n 0, .bipush 20] (by decide +kernel) (pc2 := 430) (lv2 := [(0, .ref 52)]) (st2 := [.int 20, .ref 52]) (M2 := M427) rfl ⟨trivial, trivial, trivial⟩ ?_
        refine V.callV (as := [.int 20]) (rest := []) F (by decide +kernel) lX7_165 bX7_sharpen ⟨7, _, ((q.sm s427.1).o 52 7 rfl), rfl, rfl⟩ (c_X7_sharpen G X.2.1 M427 20 (q.sm s427.1) s427.2.1 (vinc (by decide))) (rm_ok hRm hd (by decide) (by decide)) ⟨Nat.zero_le _, Nat.zero_le _⟩ (Nat.le_of_ble_eq_true rfl) (fun r_ N_ p_ => ?_)
        obtain ⟨rfl, rfl, t430⟩ := p_
        refine (?_ : ∀ (M433 : Mem), (SK wg M M433) → f_X7_move M op c = f_X7_move_c433 M433 → V G X 10 0 0 (Qx G X 0 0 (p_X7_move M op c)) 433 [(0, .ref 52)] [] M433) _ (SK.tr s427 t430) E
        intro M433 s433 E
        exact V.vret F (by decide +kernel) ⟨rfl, E.symm, s433⟩
      refine V.ic_ne (off := 166) F (by decide +kernel) (tgt := 217) (by decide) (fun h51 => ?_) (fun h51 => ?_)
      · replace E := E.trans (if_neg h51)
        refine V.seg F floX7 cjoX7 [.iload_n 1, .bipush 7] (by decide +kernel) (pc2 := 220) (lv2 := [(0, .ref 52), (1, .int op), (2, .int (nI c))]) (st2 := [.int 7, .int op]) (M2 := M48) rfl ⟨trivial, trivial, trivial⟩ ?_
        refine V.ic_ne (off := 70) F (by decide +kernel) (tgt := 290) (by decide) (fun h220 => ?_) (fun h220 => ?_)
        · replace E := E.trans (if_neg h220)
          refine V.seg F floX7 cjoX7 [.aload_n 0, .getfield 20, .bipush 20, .aload_n 0, .getfield 20, .bipush 16, .laload, .iload_n 2, .lushr, .ldc2_w 87, .iload_n 2, .lushr, .ldc2_w 87, .lxor, .lor, .lastore, .aload_n 0, .getfield 23, .bipush 20, .aload_n 0, .getfield 23, .bipush 16, .laload, .iload_n 2, .lushr, .lastore] (by decide +kernel) (pc2 := 332) (lv2 := [(0, .ref 52), (1, .int op), (2, .int (nI c))]) (st2 := []) (M2 := uL (uL M48 56 (ix 20) ((jushr (mL M48 56 (ix 16)) (nI c)) ||| ((jushr ((-1)) (nI c)) ^^^ ((-1))))) 57 (ix 20) (jushr (mL (uL M48 56 (ix 20) ((jushr (mL M48 56 (ix 16)) (nI c)) ||| ((jushr ((-1)) (nI c)) ^^^ ((-1))))) 57 (ix 16)) (nI c))) rfl ⟨trivial, ((q.sm s48.1).f 52 7 3 rfl), trivial, trivial, ((q.sm s48.1).f 52 7 3 rfl), trivial, ((q.sm s48.1).a 56 22 1648 rfl (vinc (by decide))), trivial, trivial, trivial, trivial, trivial, trivial, trivial, trivial, ((q.sm s48.1).a 56 22 1648 rfl (vinc (by decide))), trivial, ((q.sm (SK.pL s48 rfl (by decide)).1).f 52 7 4 rfl), trivial, trivial, ((q.sm (SK.pL s48 rfl (by decide)).1).f 52 7 4 rfl), trivial, ((q.sm (SK.pL s48 rfl (by decide)).1).a 57 22 1648 rfl (vinc (by decide))), trivial, trivial, ((q.sm (SK.pL s48 rfl (by decide)).1).a 57 22 1648 rfl (vinc (by decide))), trivial⟩ ?_
          refine (?_ : ∀ (M332 : Mem), (SK wg M M332) → f_X7_move M op c = f_X7_move_c332 c M332 → V G X 10 0 0 (Qx G X 0 0 (p_X7_move M op c)) 332 [(0, .ref 52), (1, .int op), (2, .int (nI c))] [] M332) _ (SK.pL (SK.pL s48 rfl (by decide)) rfl (by decide)) E
          intro M332 s332 E
          refine V.seg F floX7 cjoX7 [.aload_n 0, .getfield 13, .bipush 16, .laload, .lconst 0, .lcmp] (by decide +kernel) (pc2 := 341) (lv2 := [(0, .ref 52), (1, .int op), (2, .int (nI c))]) (st2 := [.int (lg_cmp (mL M332 54 (ix 16)) 0)]) (M2 := M332) rfl ⟨trivial, ((q.sm s332.1).f 52 7 1 rfl), trivial, ((q.sm s332.1).a 54 22 1648 rfl (vinc (by decide))), trivial, trivial, trivial⟩ ?_
          have hJ349 : ∀ (w0_349 : Int32) (M349 : Mem), (SK wg M M349) → f_X7_move M op c = f_X7_move_349 c w0_349 M349 → V G X 10 0 0 (Qx G X 0 0 (p_X7_move M op c)) 349 [(0, .ref 52), (2, .int (nI c))] [.int w0_349] M349 := by
            intro w0_349 M349 s349 E
            refine V.seg F floX7 cjoX7 [.aload_n 0, .getfield 17, .bipush 16, .laload, .lconst 0, .lcmp] (by decide +kernel) (pc2 := 358) (lv2 := [(0, .ref 52), (2, .int (nI c))]) (st2 := [.int (lg_cmp (mL M349 55 (ix 16)) 0), .int w0_349]) (M2 := M349) rfl ⟨trivial, ((q.sm s349.1).f 52 7 2 rfl), trivial, ((q.sm s349.1).a 55 22 1648 rfl (vinc (by decide))), trivial, trivial, trivial⟩ ?_
            have hJ366 : ∀ (w0_366 : Int32) (M366 : Mem), (SK wg M M366) → f_X7_move M op c = f_X7_move_366 c w0_349 w0_366 M366 → V G X 10 0 0 (Qx G X 0 0 (p_X7_move M op c)) 366 [(0, .ref 52), (2, .int (nI c))] [.int w0_366, .int w0_349] M366 := by
              intro w0_366 M366 s366 E
              have hJ374 : ∀ (w0_374 : Int32) (M374 : Mem), (SK wg M M374) → f_X7_move M op c = f_X7_move_374 c w0_374 M374 → V G X 10 0 0 (Qx G X 0 0 (p_X7_move M op c)) 374 [(0, .ref 52), (2, .int (nI c))] [.int w0_374] M374 := by
                intro w0_374 M374 s374 E
                refine V.seg F floX7 cjoX7 [.istore_n 3, .aload_n 0, .getfield 13, .bipush 20, .iload_n 3] (by decide +kernel) (pc2 := 382) (lv2 := [(3, .int w0_374), (0, .ref 52), (2, .int (nI c))]) (st2 := [.int w0_374, .int 20, .ref 54]) (M2 := M374) rfl ⟨(by decide), trivial, ((q.sm s374.1).f 52 7 1 rfl), trivial, trivial, trivial⟩ ?_
                have hJ398 : ∀ (w0_398 : Int64) (M398 : Mem), (SK wg M M398) → f_X7_move M op c = f_X7_move_398 c w0_374 w0_398 M398 → V G X 10 0 0 (Qx G X 0 0 (p_X7_move M op c)) 398 [(0, .ref 52), (2, .int (nI c)), (3, .int w0_374)] [.long w0_398, .int 20, .ref 54] M398 := by
                  intro w0_398 M398 s398 E
                  refine V.seg F floX7 cjoX7 [.lastore, .aload_n 0, .getfield 17, .bipush 20, .iload_n 3] (by decide +kernel) (pc2 := 406) (lv2 := [(0, .ref 52), (2, .int (nI c)), (3, .int w0_374)]) (st2 := [.int w0_374, .int 20, .ref 55]) (M2 := uL M398 54 (ix 20) w0_398) rfl ⟨((q.sm s398.1).a 54 22 1648 rfl (vinc (by decide))), trivial, ((q.sm (SK.pL s398 rfl (by decide)).1).f 52 7 2 rfl), trivial, trivial, trivial⟩ ?_
                  have hJ426 : ∀ (w0_426 : Int64) (M426 : Mem), (SK wg M M426) → f_X7_move M op c = f_X7_move_426 w0_426 M426 → V G X 10 0 0 (Qx G X 0 0 (p_X7_move M op c)) 426 [(0, .ref 52)] [.long w0_426, .int 20, .ref 55] M426 := by
                    intro w0_426 M426 s426 E
                    refine V.seg F floX7 cjoX7 [.lastore] (by decide +kernel) (pc2 := 427) (lv2 := [(0, .ref 52)]) (st2 := []) (M2 := uL M426 55 (ix 20) w0_426) rfl ⟨((q.sm s426.1).a 55 22 1648 rfl (vinc (by decide))), trivial⟩ ?_
                    refine V.pick [0] rfl ?_
                    exact hJ427 (uL M426 55 (ix 20) w0_426) (SK.pL s426 rfl (by decide)) E
                  refine V.if_eq (off := 15) F (by decide +kernel) (tgt := 421) (by decide) (fun h406 => ?_) (fun h406 => ?_)
                  · replace E := E.trans (if_pos h406)
                    refine V.seg F floX7 cjoX7 [.ldc2_w 87, .iload_n 2, .lushr] (by decide +kernel) (pc2 := 426) (lv2 := [(0, .ref 52), (2, .int (nI c)), (3, .int w0_374)]) (st2 := [.long (jushr ((-1)) (nI c)), .int 20, .ref 55]) (M2 := uL M398 54 (ix 20) w0_398) rfl ⟨trivial, trivial, trivial, trivial⟩ ?_
                    refine V.pick [0] rfl ?_
                    exact hJ426 (jushr ((-1)) (nI c)) (uL M398 54 (ix 20) w0_398) (SK.pL s398 rfl (by decide)) E
                  · replace E := E.trans (if_neg h406)
                    refine V.seg F floX7 cjoX7 [.aload_n 0, .getfield 17, .bipush 16, .laload, .iload_n 2, .lushr, .goto 8] (by decide +kernel) (pc2 := 426) (lv2 := [(0, .ref 52), (2, .int (nI c)), (3, .int w0_374)]) (st2 := [.long (jushr (mL (uL M398 54 (ix 20) w0_398) 55 (ix 16)) (nI c)), .int 20, .ref 55]) (M2 := uL M398 54 (ix 20) w0_398) rfl ⟨trivial, ((q.sm (SK.pL s398 rfl (by decide)).1).f 52 7 2 rfl), trivial, ((q.sm (SK.pL s398 rfl (by decide)).1).a 55 22 1648 rfl (vinc (by decide))), trivial, trivial, (by decide), trivial⟩ ?_
                    refine V.pick [0] rfl ?_
                    exact hJ426 (jushr (mL (uL M398 54 (ix 20) w0_398) 55 (ix 16)) (nI c)) (uL M398 54 (ix 20) w0_398) (SK.pL s398 rfl (by decide)) E
                refine V.if_eq (off := 15) F (by decide +kernel) (tgt := 397) (by decide) (fun h382 => ?_) (fun h382 => ?_)
                · replace E := E.trans (if_pos h382)
                  refine V.seg F floX7 cjoX7 [.lconst 0] (by decide +kernel) (pc2 := 398) (lv2 := [(3, .int w0_374), (0, .ref 52), (2, .int (nI c))]) (st2 := [.long 0, .int 20, .ref 54]) (M2 := M374) rfl ⟨trivial, trivial⟩ ?_
                  refine V.pick [1, 2, 0] rfl ?_
                  exact hJ398 0 M374 s374 E
                · replace E := E.trans (if_neg h382)
                  refine V.seg F floX7 cjoX7 [.aload_n 0, .getfield 13, .bipush 16, .laload, .iload_n 2, .lushr, .goto 4] (by decide +kernel) (pc2 := 398) (lv2 := [(3, .int w0_374), (0, .ref 52), (2, .int (nI c))]) (st2 := [.long (jushr (mL M374 54 (ix 16)) (nI c)), .int 20, .ref 54]) (M2 := M374) rfl ⟨trivial, ((q.sm s374.1).f 52 7 1 rfl), trivial, ((q.sm s374.1).a 54 22 1648 rfl (vinc (by decide))), trivial, trivial, (by decide), trivial⟩ ?_
                  refine V.pick [1, 2, 0] rfl ?_
                  exact hJ398 (jushr (mL M374 54 (ix 16)) (nI c)) M374 s374 E
              refine V.ic_ne (off := 7) F (by decide +kernel) (tgt := 373) (by decide) (fun h366 => ?_) (fun h366 => ?_)
              · replace E := E.trans (if_neg h366)
                refine V.seg F floX7 cjoX7 [.iconst 0] (by decide +kernel) (pc2 := 374) (lv2 := [(0, .ref 52), (2, .int (nI c))]) (st2 := [.int 0]) (M2 := M366) rfl ⟨trivial, trivial⟩ ?_
                refine V.pick [0, 1] rfl ?_
                exact hJ374 0 M366 s366 E
              · replace E := E.trans (if_pos h366)
                refine V.seg F floX7 cjoX7 [.iconst 1, .goto 4] (by decide +kernel) (pc2 := 374) (lv2 := [(0, .ref 52), (2, .int (nI c))]) (st2 := [.int 1]) (M2 := M366) rfl ⟨trivial, (by decide), trivial⟩ ?_
                refine V.pick [0, 1] rfl ?_
                exact hJ374 1 M366 s366 E
            refine V.lc_ge (off := 7) F (by decide +kernel) (tgt := 365) (by decide) (fun h358 => ?_) (fun h358 => ?_)
            · replace E := E.trans (if_pos h358)
              refine V.seg F floX7 cjoX7 [.iconst 0] (by decide +kernel) (pc2 := 366) (lv2 := [(0, .ref 52), (2, .int (nI c))]) (st2 := [.int 0, .int w0_349]) (M2 := M349) rfl ⟨trivial, trivial⟩ ?_
              refine V.pick [0, 1] rfl ?_
              exact hJ366 0 M349 s349 E
            · replace E := E.trans (if_neg h358)
              refine V.seg F floX7 cjoX7 [.iconst 1, .goto 4] (by decide +kernel) (pc2 := 366) (lv2 := [(0, .ref 52), (2, .int (nI c))]) (st2 := [.int 1, .int w0_349]) (M2 := M349) rfl ⟨trivial, (by decide), trivial⟩ ?_
              refine V.pick [0, 1] rfl ?_
              exact hJ366 1 M349 s349 E
          refine V.lc_ge (off := 7) F (by decide +kernel) (tgt := 348) (by decide) (fun h341 => ?_) (fun h341 => ?_)
          · replace E := E.trans (if_pos h341)
            refine V.seg F floX7 cjoX7 [.iconst 0] (by decide +kernel) (pc2 := 349) (lv2 := [(0, .ref 52), (1, .int op), (2, .int (nI c))]) (st2 := [.int 0]) (M2 := M332) rfl ⟨trivial, trivial⟩ ?_
            refine V.pick [0, 2] rfl ?_
            exact hJ349 0 M332 s332 E
          · replace E := E.trans (if_neg h341)
            refine V.seg F floX7 cjoX7 [.iconst 1, .goto 4] (by decide +kernel) (pc2 := 349) (lv2 := [(0, .ref 52), (1, .int op), (2, .int (nI c))]) (st2 := [.int 1]) (M2 := M332) rfl ⟨trivial, (by decide), trivial⟩ ?_
            refine V.pick [0, 2] rfl ?_
            exact hJ349 1 M332 s332 E
        · replace E := E.trans (if_pos h220)
          refine V.seg F floX7 cjoX7 [.aload_n 0, .getfield 20, .bipush 20, .aload_n 0, .getfield 20, .bipush 16, .laload, .iload_n 2, .lshr, .lastore, .aload_n 0, .getfield 23, .bipush 20, .aload_n 0, .getfield 23, .bipush 16, .laload, .iload_n 2, .lshr, .lastore, .aload_n 0, .getfield 13, .bipush 20, .aload_n 0, .getfield 13, .bipush 16, .laload, .iload_n 2, .lshr, .lastore] (by decide +kernel) (pc2 := 271) (lv2 := [(0, .ref 52), (1, .int op), (2, .int (nI c))]) (st2 := []) (M2 := uL (uL (uL M48 56 (ix 20) (jshr (mL M48 56 (ix 16)) (nI c))) 57 (ix 20) (jshr (mL (uL M48 56 (ix 20) (jshr (mL M48 56 (ix 16)) (nI c))) 57 (ix 16)) (nI c))) 54 (ix 20) (jshr (mL (uL (uL M48 56 (ix 20) (jshr (mL M48 56 (ix 16)) (nI c))) 57 (ix 20) (jshr (mL (uL M48 56 (ix 20) (jshr (mL M48 56 (ix 16)) (nI c))) 57 (ix 16)) (nI c))) 54 (ix 16)) (nI c))) rfl ⟨trivial, ((q.sm s48.1).f 52 7 3 rfl), trivial, trivial, ((q.sm s48.1).f 52 7 3 rfl), trivial, ((q.sm s48.1).a 56 22 1648 rfl (vinc (by decide))), trivial, trivial, ((q.sm s48.1).a 56 22 1648 rfl (vinc (by decide))), trivial, ((q.sm (SK.pL s48 rfl (by decide)).1).f 52 7 4 rfl), trivial, trivial, ((q.sm (SK.pL s48 rfl (by decide)).1).f 52 7 4 rfl), trivial, ((q.sm (SK.pL s48 rfl (by decide)).1).a 57 22 1648 rfl (vinc (by decide))), trivial, trivial, ((q.sm (SK.pL s48 rfl (by decide)).1).a 57 22 1648 rfl (vinc (by decide))), trivial, ((q.sm (SK.pL (SK.pL s48 rfl (by decide)) rfl (by decide)).1).f 52 7 1 rfl), trivial, trivial, ((q.sm (SK.pL (SK.pL s48 rfl (by decide)) rfl (by decide)).1).f 52 7 1 rfl), trivial, ((q.sm (SK.pL (SK.pL s48 rfl (by decide)) rfl (by decide)).1).a 54 22 1648 rfl (vinc (by decide))), trivial, trivial, ((q.sm (SK.pL (SK.pL s48 rfl (by decide)) rfl (by decide)).1).a 54 22 1648 rfl (vinc (by decide))), trivial⟩ ?_
          refine (?_ : ∀ (M271 : Mem), (SK wg M M271) → f_X7_move M op c = f_X7_move_c271 c M271 → V G X 10 0 0 (Qx G X 0 0 (p_X7_move M op c)) 271 [(0, .ref 52), (1, .int op), (2, .int (nI c))] [] M271) _ (SK.pL (SK.pL (SK.pL s48 rfl (by decide)) rfl (by decide)) rfl (by decide)) E
          intro M271 s271 E
          refine V.seg F floX7 cjoX7 [.aload_n 0, .getfield 17, .bipush 20, .aload_n 0, .getfield 17, .bipush 16, .laload, .iload_n 2, .lshr, .lastore, .goto 140] (by decide +kernel) (pc2 := 427) (lv2 := [(0, .ref 52), (1, .int op), (2, .int (nI c))]) (st2 := []) (M2 := uL M271 55 (ix 20) (jshr (mL M271 55 (ix 16)) (nI c))) rfl ⟨trivial, ((q.sm s271.1).f 52 7 2 rfl), trivial, trivial, ((q.sm s271.1).f 52 7 2 rfl), trivial, ((q.sm s271.1).a 55 22 1648 rfl (vinc (by decide))), trivial, trivial, ((q.sm s271.1).a 55 22 1648 rfl (vinc (by decide))), (by decide), trivial⟩ ?_
          refine V.pick [0] rfl ?_
          exact hJ427 (uL M271 55 (ix 20) (jshr (mL M271 55 (ix 16)) (nI c))) (SK.pL s271 rfl (by decide)) E
      · replace E := E.trans (if_pos h51)
        refine V.seg F floX7 cjoX7 [.aload_n 0, .getfield 20, .bipush 20, .aload_n 0, .getfield 20, .bipush 16, .laload, .iload_n 2, .lshl, .lconst 1, .iload_n 2, .lshl, .lconst 1, .lsub, .lor, .lastore, .aload_n 0, .getfield 23, .bipush 20, .aload_n 0, .getfield 23, .bipush 16, .laload, .iload_n 2, .lshl, .lastore] (by decide +kernel) (pc2 := 92) (lv2 := [(0, .ref 52), (1, .int op), (2, .int (nI c))]) (st2 := []) (M2 := uL (uL M48 56 (ix 20) ((jshl (mL M48 56 (ix 16)) (nI c)) ||| ((jshl 1 (nI c)) - 1))) 57 (ix 20) (jshl (mL (uL M48 56 (ix 20) ((jshl (mL M48 56 (ix 16)) (nI c)) ||| ((jshl 1 (nI c)) - 1))) 57 (ix 16)) (nI c))) rfl ⟨trivial, ((q.sm s48.1).f 52 7 3 rfl), trivial, trivial, ((q.sm s48.1).f 52 7 3 rfl), trivial, ((q.sm s48.1).a 56 22 1648 rfl (vinc (by decide))), trivial, trivial, trivial, trivial, trivial, trivial, trivial, trivial, ((q.sm s48.1).a 56 22 1648 rfl (vinc (by decide))), trivial, ((q.sm (SK.pL s48 rfl (by decide)).1).f 52 7 4 rfl), trivial, trivial, ((q.sm (SK.pL s48 rfl (by decide)).1).f 52 7 4 rfl), trivial, ((q.sm (SK.pL s48 rfl (by decide)).1).a 57 22 1648 rfl (vinc (by decide))), trivial, trivial, ((q.sm (SK.pL s48 rfl (by decide)).1).a 57 22 1648 rfl (vinc (by decide))), trivial⟩ ?_
        refine (?_ : ∀ (M92 : Mem), (SK wg M M92) → f_X7_move M op c = f_X7_move_c92 c M92 → V G X 10 0 0 (Qx G X 0 0 (p_X7_move M op c)) 92 [(0, .ref 52), (1, .int op), (2, .int (nI c))] [] M92) _ (SK.pL (SK.pL s48 rfl (by decide)) rfl (by decide)) E
        intro M92 s92 E
        refine V.seg F floX7 cjoX7 [.aload_n 0, .getfield 13, .bipush 16, .laload, .iload_n 2, .lshl, .lstore_n 3, .aload_n 0, .getfield 17, .bipush 16, .laload, .iload_n 2, .lshl, .lstore 5, .lload_n 3, .iload_n 2, .lshr, .aload_n 0, .getfield 13, .bipush 16, .laload, .lcmp] (by decide +kernel) (pc2 := 124) (lv2 := [(5, .long (jshl (mL M92 55 (ix 16)) (nI c))), (3, .long (jshl (mL M92 54 (ix 16)) (nI c))), (0, .ref 52), (1, .int op), (2, .int (nI c))]) (st2 := [.int (lg_cmp (jshr (jshl (mL M92 54 (ix 16)) (nI c)) (nI c)) (mL M92 54 (ix 16)))]) (M2 := M92) rfl ⟨trivial, ((q.sm s92.1).f 52 7 1 rfl), trivial, ((q.sm s92.1).a 54 22 1648 rfl (vinc (by decide))), trivial, trivial, (by decide), trivial, ((q.sm s92.1).f 52 7 2 rfl), trivial, ((q.sm s92.1).a 55 22 1648 rfl (vinc (by decide))), trivial, trivial, (by decide), trivial, trivial, trivial, trivial, ((q.sm s92.1).f 52 7 1 rfl), trivial, ((q.sm s92.1).a 54 22 1648 rfl (vinc (by decide))), trivial, trivial⟩ ?_
        have hJ214 : ∀ (M214 : Mem), (SK wg M M214) → f_X7_move M op c = f_X7_move_214 M214 → V G X 10 0 0 (Qx G X 0 0 (p_X7_move M op c)) 214 [(0, .ref 52)] [] M214 := by
          intro M214 s214 E
          refine V.seg F floX7 cjoX7 [.goto 213] (by decide +kernel) (pc2 := 427) (lv2 := [(0, .ref 52)]) (st2 := []) (M2 := M214) rfl ⟨(by decide), trivial⟩ ?_
          refine V.pick [0] rfl ?_
          exact hJ427 M214 s214 E
        refine V.lc_ne (off := 90) F (by decide +kernel) (tgt := 214) (by decide) (fun h124 => ?_) (fun h124 => ?_)
        · replace E := E.trans (if_neg h124)
          refine V.pick [2] rfl ?_
          exact hJ214 M92 s92 E
        · replace E := E.trans (if_pos h124)
          refine V.seg F floX7 cjoX7 [.lload 5, .iload_n 2, .lshr, .aload_n 0, .getfield 17, .bipush 16, .laload, .lcmp] (by decide +kernel) (pc2 := 139) (lv2 := [(5, .long (jshl (mL M92 55 (ix 16)) (nI c))), (3, .long (jshl (mL M92 54 (ix 16)) (nI c))), (0, .ref 52), (1, .int op), (2, .int (nI c))]) (st2 := [.int (lg_cmp (jshr (jshl (mL M92 55 (ix 16)) (nI c)) (nI c)) (mL M92 55 (ix 16)))]) (M2 := M92) rfl ⟨trivial, trivial, trivial, trivial, ((q.sm s92.1).f 52 7 2 rfl), trivial, ((q.sm s92.1).a 55 22 1648 rfl (vinc (by decide))), trivial, trivial⟩ ?_
          refine V.lc_ne (off := 75) F (by decide +kernel) (tgt := 214) (by decide) (fun h139 => ?_) (fun h139 => ?_)
          · replace E := E.trans (if_neg h139)
            refine V.pick [2] rfl ?_
            exact hJ214 M92 s92 E
          · replace E := E.trans (if_pos h139)
            refine V.seg F floX7 cjoX7 [.aload_n 0, .getfield 13, .bipush 20, .lload_n 3, .lastore, .aload_n 0, .getfield 17, .bipush 20, .lload 5, .lastore, .aload_n 0, .getfield 29, .bipush 16, .laload, .lstore 7] (by decide +kernel) (pc2 := 168) (lv2 := [(7, .long (mL (uL (uL M92 54 (ix 20) (jshl (mL M92 54 (ix 16)) (nI c))) 55 (ix 20) (jshl (mL M92 55 (ix 16)) (nI c))) 59 (ix 16))), (5, .long (jshl (mL M92 55 (ix 16)) (nI c))), (3, .long (jshl (mL M92 54 (ix 16)) (nI c))), (0, .ref 52), (1, .int op), (2, .int (nI c))]) (st2 := []) (M2 := uL (uL M92 54 (ix 20) (jshl (mL M92 54 (ix 16)) (nI c))) 55 (ix 20) (jshl (mL M92 55 (ix 16)) (nI c))) rfl ⟨trivial, ((q.sm s92.1).f 52 7 1 rfl), trivial, trivial, ((q.sm s92.1).a 54 22 1648 rfl (vinc (by decide))), trivial, ((q.sm (SK.pL s92 rfl (by decide)).1).f 52 7 2 rfl), trivial, trivial, ((q.sm (SK.pL s92 rfl (by decide)).1).a 55 22 1648 rfl (vinc (by decide))), trivial, ((q.sm (SK.pL (SK.pL s92 rfl (by decide)) rfl (by decide)).1).f 52 7 6 rfl), trivial, ((q.sm (SK.pL (SK.pL s92 rfl (by decide)) rfl (by decide)).1).a 59 22 1648 rfl (vinc (by decide))), (by decide), trivial⟩ ?_
            refine (?_ : ∀ (x168 : Int64) (M168 : Mem), (SK wg M M168) → f_X7_move M op c = f_X7_move_c168 c x168 M168 → V G X 10 0 0 (Qx G X 0 0 (p_X7_move M op c)) 168 [(7, .long x168), (5, .long (jshl (mL M92 55 (ix 16)) (nI c))), (3, .long (jshl (mL M92 54 (ix 16)) (nI c))), (0, .ref 52), (1, .int op), (2, .int (nI c))] [] M168) _ _ (SK.pL (SK.pL s92 rfl (by decide)) rfl (by decide)) E
            intro x168 M168 s168 E
            refine V.seg F floX7 cjoX7 [.iconst 0] (by decide +kernel) (pc2 := 169) (lv2 := [(7, .long x168), (5, .long (jshl (mL M92 55 (ix 16)) (nI c))), (3, .long (jshl (mL M92 54 (ix 16)) (nI c))), (0, .ref 52), (1, .int op), (2, .int (nI c))]) (st2 := [.int 0]) (M2 := M168) rfl ⟨trivial, trivial⟩ ?_
            refine V.seg F floX7 cjoX7 [.istore 9] (by decide +kernel) (pc2 := 171) (lv2 := [(9, .int 0), (7, .long x168), (5, .long (jshl (mL M92 55 (ix 16)) (nI c))), (3, .long (jshl (mL M92 54 (ix 16)) (nI c))), (0, .ref 52), (1, .int op), (2, .int (nI c))]) (st2 := []) (M2 := M168) rfl ⟨(by decide), trivial⟩ ?_
            have hJ171 : ∀ (n_ : Nat) (y7_171 : Int64) (j171 : Nat) (M171 : Mem), (SK wg M M171) → (j171 ≤ c) → (c - j171 < n_) → f_X7_move M op c = f_X7_move_171 c n_ y7_171 j171 M171 → V G X 10 0 0 (Qx G X 0 0 (p_X7_move M op c)) 171 [(0, .ref 52), (2, .int (nI c)), (7, .long y7_171), (9, .int (nI j171))] [] M171 := by
              intro n_
              induction n_ with
              | zero => intro y7_171 j171 M171 s171 b171 m171 E; omega
              | succ n_ ih_171 =>
                intro y7_171 j171 M171 s171 b171 m171 E
                rw [f_X7_move_171] at E
                refine V.seg F floX7 cjoX7 [.iload 9, .iload_n 2] (by decide +kernel) (pc2 := 174) (lv2 := [(0, .ref 52), (2, .int (nI c)), (7, .long y7_171), (9, .int (nI j171))]) (st2 := [.int (nI c), .int (nI j171)]) (M2 := M171) rfl ⟨trivial, trivial, trivial⟩ ?_
                refine V.ic_ge (off := 25) F (by decide +kernel) (tgt := 199) (by decide) (fun h174 => ?_) (fun h174 => ?_)
                · replace E := E.trans (if_pos h174)
                  refine V.seg F floX7 cjoX7 [.aload_n 0, .bipush 20, .aload_n 0, .getfield 26, .bipush 16, .laload, .lload 7] (by decide +kernel) (pc2 := 211) (lv2 := [(0, .ref 52), (2, .int (nI c)), (7, .long y7_171), (9, .int (nI j171))]) (st2 := [.long y7_171, .long (mL M171 58 (ix 16)), .int 20, .ref 52]) (M2 := M171) rfl ⟨trivial, trivial, trivial, ((q.sm s171.1).f 52 7 5 rfl), trivial, ((q.sm s171.1).a 58 22 1648 rfl (vinc (by decide))), trivial, trivial⟩ ?_
                  refine V.callV (as := [.int 20, .long (mL M171 58 (ix 16)), .long y7_171]) (rest := []) F (by decide +kernel) lX7_161 bX7_setRest ⟨7, _, ((q.sm s171.1).o 52 7 rfl), rfl, rfl⟩ (c_X7_setRest G X.2.1 M171 20 (mL M171 58 (ix 16)) y7_171 (q.sm s171.1) s171.2.1 (vinc (by decide)) (s171.2.1 _ (vin_lt (vinc (by decide))))) (rm_ok hRm hd (by decide) (by decide)) ⟨Nat.zero_le _, Nat.zero_le _⟩ (Nat.le_of_ble_eq_true rfl) (fun r_ N_ p_ => ?_)
                  obtain ⟨rfl, rfl, t211⟩ := p_
                  refine (?_ : ∀ (M214 : Mem), (SK wg M M214) → f_X7_move M op c = f_X7_move_c214 M214 → V G X 10 0 0 (Qx G X 0 0 (p_X7_move M op c)) 214 [(0, .ref 52), (2, .int (nI c)), (7, .long y7_171), (9, .int (nI j171))] [] M214) _ (SK.tr s171 t211) E
                  intro M214 s214 E
                  refine V.pick [0] rfl ?_
                  exact hJ214 M214 s214 E
                · replace E := E.trans (if_neg h174)
                  refine V.seg F floX7 cjoX7 [.ldc2_w 233, .lload 7, .lmul, .aload_n 0, .getfield 26, .bipush 16, .laload, .lrem, .lstore 7, .iinc 9 1, .goto (-25)] (by decide +kernel) (pc2 := 171) (lv2 := [(9, .int ((nI j171) + 1)), (7, .long (jrem (2 * y7_171) (mL M171 58 (ix 16)))), (0, .ref 52), (2, .int (nI c))]) (st2 := []) (M2 := M171) rfl ⟨trivial, trivial, trivial, trivial, ((q.sm s171.1).f 52 7 5 rfl), trivial, ((q.sm s171.1).a 58 22 1648 rfl (vinc (by decide))), (s171.2.1 _ (vin_lt (vinc (by decide)))), (by decide), (by decide), (by decide), trivial⟩ ?_
                  refine V.pick [2, 3, 1, 0] rfl ?_
                  rw [nI_1]
                  exact ih_171 (jrem (2 * y7_171) (mL M171 58 (ix 16))) (j171 + 1) M171 s171 (by have hlt_ := cnt_lt (n := c) h174 rfl (by omega) (by omega); omega) (by have hlt_ := cnt_lt (n := c) h174 rfl (by omega) (by omega); omega) E
            refine V.pick [4, 6, 1, 0] rfl ?_
            exact hJ171 _ x168 0 M168 s168 (by omega) (by omega) E
    · replace E := E.trans (if_neg h19)
      refine V.seg F floX7 cjoX7 [.aload_n 0, .bipush 20, .iload_n 1, .aload_n 0, .getfield 13, .bipush 16, .laload, .iload_n 2, .i2l] (by decide +kernel) (pc2 := 35) (lv2 := [(0, .ref 52), (1, .int op), (2, .int (nI c))]) (st2 := [.long (Int32.toInt64 (nI c)), .long (mL M 54 (ix 16)), .int op, .int 20, .ref 52]) (M2 := M) rfl ⟨trivial, trivial, trivial, trivial, (q.f 52 7 1 rfl), trivial, (q.a 54 22 1648 rfl (vinc (by decide))), trivial, trivial, trivial⟩ ?_
      refine V.callS (as := [.int op, .long (mL M 54 (ix 16)), .long (Int32.toInt64 (nI c))]) (rest := [.int 20, .ref 52]) F (by decide +kernel) lX7_183 bX7_reckon (c_X7_reckon G X.2.1 M op (mL M 54 (ix 16)) (Int32.toInt64 (nI c)) (fun z => absurd z hop)) (rm_ok hRm hd (by decide) (by decide)) ⟨Nat.zero_le _, Nat.zero_le _⟩ (Nat.le_of_ble_eq_true rfl) (fun r_ N_ p_ => ?_)
      obtain ⟨rfl, hN_⟩ := p_
      rw [hN_]
      clear hN_
      refine V.callV (as := [.int 20, .long (f_X7_reckon op (mL M 54 (ix 16)) (Int32.toInt64 (nI c)))]) (rest := []) F (by decide +kernel) lX7_118 bX7_number ⟨7, _, (q.o 52 7 rfl), rfl, rfl⟩ (c_X7_number G X.2.1 M 20 (f_X7_reckon op (mL M 54 (ix 16)) (Int32.toInt64 (nI c))) q gb (vinc (by decide))) (rm_ok hRm hd (by decide) (by decide)) ⟨Nat.zero_le _, Nat.zero_le _⟩ (Nat.le_of_ble_eq_true rfl) (fun r_ N_ p_ => ?_)
      obtain ⟨rfl, rfl, t38⟩ := p_
      refine (?_ : ∀ (M41 : Mem), (SK wg M M41) → f_X7_move M op c = f_X7_move_c41 M41 → V G X 10 0 0 (Qx G X 0 0 (p_X7_move M op c)) 41 [(0, .ref 52), (1, .int op), (2, .int (nI c))] [] M41) _ t38 E
      intro M41 s41 E
      exact V.vret F (by decide +kernel) ⟨rfl, E.symm, s41⟩
  · replace E := E.trans (if_pos h1)
    refine V.seg F floX7 cjoX7 [.aload_n 0, .bipush 20, .bipush 16] (by decide +kernel) (pc2 := 9) (lv2 := [(0, .ref 52), (1, .int op), (2, .int (nI c))]) (st2 := [.int 16, .int 20, .ref 52]) (M2 := M) rfl ⟨trivial, trivial, trivial, trivial⟩ ?_
    refine V.callV (as := [.int 20, .int 16]) (rest := []) F (by decide +kernel) lX7_133 bX7_copy ⟨7, _, (q.o 52 7 rfl), rfl, rfl⟩ (c_X7_copy G X.2.1 M 20 16 q gb (vinc (by decide)) (vinc (by decide))) (rm_ok hRm hd (by decide) (by decide)) ⟨Nat.zero_le _, Nat.zero_le _⟩ (Nat.le_of_ble_eq_true rfl) (fun r_ N_ p_ => ?_)
    obtain ⟨rfl, rfl, t9⟩ := p_
    refine (?_ : ∀ (M12 : Mem), (SK wg M M12) → f_X7_move M op c = f_X7_move_c12 M12 → V G X 10 0 0 (Qx G X 0 0 (p_X7_move M op c)) 12 [(0, .ref 52), (1, .int op), (2, .int (nI c))] [] M12) _ t9 E
    intro M12 s12 E
    exact V.vret F (by decide +kernel) ⟨rfl, E.symm, s12⟩
def f_X7_shift_c146  (M146 : Mem) : Mem := M146
def f_X7_shift_132 (j73 : Nat) (R73_ : Nat → Mem → Mem) (M132 : Mem) : Mem := R73_ (j73 + 1) M132
def f_X7_shift_c132 (j73 : Nat) (R73_ : Nat → Mem → Mem) (M132 : Mem) : Mem := f_X7_shift_132 j73 R73_ M132
def f_X7_shift_c124 (j73 : Nat) (R73_ : Nat → Mem → Mem) (M124 : Mem) : Mem := f_X7_shift_c132 j73 R73_ (f_X7_copy M124 19 25)
def f_X7_shift_c114 (j73 : Nat) (R73_ : Nat → Mem → Mem) (M114 : Mem) : Mem := f_X7_shift_c124 j73 R73_ (f_X7_join M114 19 20 25)
def f_X7_shift_73 (op : Int32) : Nat → Nat → Mem → Mem
  | 0, _, M73 => M73
  | n73_ + 1, j73, M73 => if 64 ≤ (nI j73) then f_X7_shift_c146 (f_X7_copy M73 18 19) else if (((Int32.toInt64 (nI j73)) &&& (mL M73 56 (ix 17))) &&& 63) = ((mL M73 57 (ix 17)) &&& 63) then f_X7_shift_c114 j73 (f_X7_shift_73 op n73_) (f_X7_move M73 op j73) else f_X7_shift_132 j73 (f_X7_shift_73 op n73_) M73
def f_X7_shift_c71 (op : Int32) (M71 : Mem) : Mem := f_X7_shift_73 op 65 0 M71
def f_X7_shift_45 (y2_4 : Int32) (j4 : Nat) (R4_ : Int32 → Nat → Mem → Mem) (w0_45 : Int32) (M45 : Mem) : Mem := R4_ (y2_4 + w0_45) (j4 + 1) M45
def f_X7_shift_4 (op : Int32) : Nat → Int32 → Nat → Mem → Mem
  | 0, _, _, M4 => M4
  | n_ + 1, y2_4, j4, M4 => if 64 ≤ (nI j4) then if y2_4 ≤ 8 then f_X7_shift_c71 op (f_X7_nothing M4 19) else uI M4 52 8 1 else if (((Int32.toInt64 (nI j4)) &&& (mL M4 56 (ix 17))) &&& 63) = ((mL M4 57 (ix 17)) &&& 63) then f_X7_shift_45 y2_4 j4 (f_X7_shift_4 op n_) 1 M4 else f_X7_shift_45 y2_4 j4 (f_X7_shift_4 op n_) 0 M4
def f_X7_shift (M : Mem) (op : Int32) : Mem := f_X7_shift_4 op 65 0 0 M
abbrev p_X7_shift (M : Mem) (op : Int32) : Option Value → Mem → Prop := fun r N => r = none ∧ N = f_X7_shift M op ∧ SK wg M N
set_option maxRecDepth 100000 in
set_option maxHeartbeats 4000000 in
theorem c_X7_shift (G : Ctx) (l : Launch) (M : Mem) (op : Int32) (q : Ok M) (gb : Gb M) (hop : ¬ (op = 9 ∨ op = 10)) : CT G l 5 mX7_shift [.ref 52, .int op] M 0 0 (p_X7_shift M op) := by
  refine CT.of (by decide) (Nat.le_of_ble_eq_true rfl) ?_
  intro X d hd hl hRm hnm F
  subst hl
  have E : f_X7_shift M op = f_X7_shift M op := rfl
  show V G X 4 0 0 (Qx G X 0 0 (p_X7_shift M op)) 0 [(0, .ref 52), (1, .int op)] [] M
  refine V.seg F floX7 cjoX7 [.iconst 0, .istore_n 2, .iconst 0] (by decide +kernel) (pc2 := 3) (lv2 := [(2, .int 0), (0, .ref 52), (1, .int op)]) (st2 := [.int 0]) (M2 := M) rfl ⟨trivial, (by decide), trivial, trivial⟩ ?_
  refine V.seg F floX7 cjoX7 [.istore_n 3] (by decide +kernel) (pc2 := 4) (lv2 := [(3, .int 0), (2, .int 0), (0, .ref 52), (1, .int op)]) (st2 := []) (M2 := M) rfl ⟨(by decide), trivial⟩ ?_
  have hJ4 : ∀ (n_ : Nat) (y2_4 : Int32) (j4 : Nat) (M4 : Mem), (SK wg M M4) → (j4 ≤ 64) → (64 - j4 < n_) → f_X7_shift M op = f_X7_shift_4 op n_ y2_4 j4 M4 → V G X 4 0 0 (Qx G X 0 0 (p_X7_shift M op)) 4 [(0, .ref 52), (1, .int op), (2, .int y2_4), (3, .int (nI j4))] [] M4 := by
    intro n_
    induction n_ with
    | zero => intro y2_4 j4 M4 s4 b4 m4 E; omega
    | succ n_ ih_4 =>
      intro y2_4 j4 M4 s4 b4 m4 E
      rw [f_X7_shift_4] at E
      refine V.seg F floX7 cjoX7 [.iload_n 3, .bipush 64] (by decide +kernel) (pc2 := 7) (lv2 := [(0, .ref 52), (1, .int op), (2, .int y2_4), (3, .int (nI j4))]) (st2 := [.int 64, .int (nI j4)]) (M2 := M4) rfl ⟨trivial, trivial, trivial⟩ ?_
      refine V.ic_ge (off := 46) F (by decide +kernel) (tgt := 53) (by decide) (fun h7 => ?_) (fun h7 => ?_)
      · replace E := E.trans (if_pos h7)
        refine V.seg F floX7 cjoX7 [.iload_n 2, .bipush 8] (by decide +kernel) (pc2 := 56) (lv2 := [(0, .ref 52), (1, .int op), (2, .int y2_4), (3, .int (nI j4))]) (st2 := [.int 8, .int y2_4]) (M2 := M4) rfl ⟨trivial, trivial, trivial⟩ ?_
        refine V.ic_le (off := 9) F (by decide +kernel) (tgt := 65) (by decide) (fun h56 => ?_) (fun h56 => ?_)
        · replace E := E.trans (if_pos h56)
          refine V.seg F floX7 cjoX7 [.aload_n 0, .bipush 19] (by decide +kernel) (pc2 := 68) (lv2 := [(0, .ref 52), (1, .int op), (2, .int y2_4), (3, .int (nI j4))]) (st2 := [.int 19, .ref 52]) (M2 := M4) rfl ⟨trivial, trivial, trivial⟩ ?_
          refine V.callV (as := [.int 19]) (rest := []) F (by decide +kernel) lX7_115 bX7_nothing ⟨7, _, ((q.sm s4.1).o 52 7 rfl), rfl, rfl⟩ (c_X7_nothing G X.2.1 M4 19 (q.sm s4.1) s4.2.1 (vinc (by decide))) (rm_ok hRm hd (by decide) (by decide)) ⟨Nat.zero_le _, Nat.zero_le _⟩ (Nat.le_of_ble_eq_true rfl) (fun r_ N_ p_ => ?_)
          obtain ⟨rfl, rfl, t68⟩ := p_
          refine (?_ : ∀ (M71 : Mem), (SK wg M M71) → f_X7_shift M op = f_X7_shift_c71 op M71 → V G X 4 0 0 (Qx G X 0 0 (p_X7_shift M op)) 71 [(0, .ref 52), (1, .int op), (2, .int y2_4), (3, .int (nI j4))] [] M71) _ (SK.tr s4 t68) E
          intro M71 s71 E
          refine V.seg F floX7 cjoX7 [.iconst 0] (by decide +kernel) (pc2 := 72) (lv2 := [(0, .ref 52), (1, .int op), (2, .int y2_4), (3, .int (nI j4))]) (st2 := [.int 0]) (M2 := M71) rfl ⟨trivial, trivial⟩ ?_
          refine V.seg F floX7 cjoX7 [.istore_n 3] (by decide +kernel) (pc2 := 73) (lv2 := [(3, .int 0), (0, .ref 52), (1, .int op), (2, .int y2_4)]) (st2 := []) (M2 := M71) rfl ⟨(by decide), trivial⟩ ?_
          have hJ73 : ∀ (n73_ : Nat) (j73 : Nat) (M73 : Mem), (SK wg M M73) → (j73 ≤ 64) → (64 - j73 < n73_) → f_X7_shift M op = f_X7_shift_73 op n73_ j73 M73 → V G X 4 0 0 (Qx G X 0 0 (p_X7_shift M op)) 73 [(0, .ref 52), (1, .int op), (3, .int (nI j73))] [] M73 := by
            intro n73_
            induction n73_ with
            | zero => intro j73 M73 s73 b73 m73 E; omega
            | succ n73_ ih_73 =>
              intro j73 M73 s73 b73 m73 E
              rw [f_X7_shift_73] at E
              refine V.seg F floX7 cjoX7 [.iload_n 3, .bipush 64] (by decide +kernel) (pc2 := 76) (lv2 := [(0, .ref 52), (1, .int op), (3, .int (nI j73))]) (st2 := [.int 64, .int (nI j73)]) (M2 := M73) rfl ⟨trivial, trivial, trivial⟩ ?_
              refine V.ic_ge (off := 62) F (by decide +kernel) (tgt := 138) (by decide) (fun h76 => ?_) (fun h76 => ?_)
              · replace E := E.trans (if_pos h76)
                refine V.seg F floX7 cjoX7 [.aload_n 0, .bipush 18, .bipush 19] (by decide +kernel) (pc2 := 143) (lv2 := [(0, .ref 52), (1, .int op), (3, .int (nI j73))]) (st2 := [.int 19, .int 18, .ref 52]) (M2 := M73) rfl ⟨trivial, trivial, trivial, trivial⟩ ?_
                refine V.callV (as := [.int 18, .int 19]) (rest := []) F (by decide +kernel) lX7_133 bX7_copy ⟨7, _, ((q.sm s73.1).o 52 7 rfl), rfl, rfl⟩ (c_X7_copy G X.2.1 M73 18 19 (q.sm s73.1) s73.2.1 (vinc (by decide)) (vinc (by decide))) (rm_ok hRm hd (by decide) (by decide)) ⟨Nat.zero_le _, Nat.zero_le _⟩ (Nat.le_of_ble_eq_true rfl) (fun r_ N_ p_ => ?_)
                obtain ⟨rfl, rfl, t143⟩ := p_
                refine (?_ : ∀ (M146 : Mem), (SK wg M M146) → f_X7_shift M op = f_X7_shift_c146 M146 → V G X 4 0 0 (Qx G X 0 0 (p_X7_shift M op)) 146 [(0, .ref 52), (1, .int op), (3, .int (nI j73))] [] M146) _ (SK.tr s73 t143) E
                intro M146 s146 E
                exact V.vret F (by decide +kernel) ⟨rfl, E.symm, s146⟩
              · replace E := E.trans (if_neg h76)
                refine V.seg F floX7 cjoX7 [.iload_n 3, .i2l, .aload_n 0, .getfield 20, .bipush 17, .laload, .land, .ldc2_w 224, .land, .aload_n 0, .getfield 23, .bipush 17, .laload, .ldc2_w 224, .land, .lcmp] (by decide +kernel) (pc2 := 105) (lv2 := [(0, .ref 52), (1, .int op), (3, .int (nI j73))]) (st2 := [.int (lg_cmp (((Int32.toInt64 (nI j73)) &&& (mL M73 56 (ix 17))) &&& 63) ((mL M73 57 (ix 17)) &&& 63))]) (M2 := M73) rfl ⟨trivial, trivial, trivial, ((q.sm s73.1).f 52 7 3 rfl), trivial, ((q.sm s73.1).a 56 22 1648 rfl (vinc (by decide))), trivial, trivial, trivial, trivial, ((q.sm s73.1).f 52 7 4 rfl), trivial, ((q.sm s73.1).a 57 22 1648 rfl (vinc (by decide))), trivial, trivial, trivial, trivial⟩ ?_
                have hJ132 : ∀ (M132 : Mem), (SK wg M M132) → f_X7_shift M op = f_X7_shift_132 j73 (f_X7_shift_73 op n73_) M132 → V G X 4 0 0 (Qx G X 0 0 (p_X7_shift M op)) 132 [(0, .ref 52), (1, .int op), (3, .int (nI j73))] [] M132 := by
                  intro M132 s132 E
                  refine V.seg F floX7 cjoX7 [.iinc 3 1, .goto (-62)] (by decide +kernel) (pc2 := 73) (lv2 := [(3, .int ((nI j73) + 1)), (0, .ref 52), (1, .int op)]) (st2 := []) (M2 := M132) rfl ⟨(by decide), (by decide), trivial⟩ ?_
                  refine V.pick [1, 2, 0] rfl ?_
                  rw [nI_1]
                  exact ih_73 (j73 + 1) M132 s132 (by have hlt_ := cnt_lt (n := 64) h76 rfl (by omega) (by decide); omega) (by have hlt_ := cnt_lt (n := 64) h76 rfl (by omega) (by decide); omega) E
                refine V.lc_ne (off := 27) F (by decide +kernel) (tgt := 132) (by decide) (fun h105 => ?_) (fun h105 => ?_)
                · replace E := E.trans (if_neg h105)
                  refine V.pick [0, 1, 2] rfl ?_
                  exact hJ132 M73 s73 E
                · replace E := E.trans (if_pos h105)
                  refine V.seg F floX7 cjoX7 [.aload_n 0, .iload_n 1, .iload_n 3] (by decide +kernel) (pc2 := 111) (lv2 := [(0, .ref 52), (1, .int op), (3, .int (nI j73))]) (st2 := [.int (nI j73), .int op, .ref 52]) (M2 := M73) rfl ⟨trivial, trivial, trivial, trivial⟩ ?_
                  refine V.callV (as := [.int op, .int (nI j73)]) (rest := []) F (by decide +kernel) lX7_226 bX7_move ⟨7, _, ((q.sm s73.1).o 52 7 rfl), rfl, rfl⟩ (c_X7_move G X.2.1 M73 op j73 (by have hlt_ := cnt_lt (n := 64) h76 rfl (by omega) (by decide); omega) (q.sm s73.1) s73.2.1 (by first | assumption | decide)) (rm_ok hRm hd (by decide) (by decide)) ⟨Nat.zero_le _, Nat.zero_le _⟩ (Nat.le_of_ble_eq_true rfl) (fun r_ N_ p_ => ?_)
                  obtain ⟨rfl, rfl, t111⟩ := p_
                  refine (?_ : ∀ (M114 : Mem), (SK wg M M114) → f_X7_shift M op = f_X7_shift_c114 j73 (f_X7_shift_73 op n73_) M114 → V G X 4 0 0 (Qx G X 0 0 (p_X7_shift M op)) 114 [(0, .ref 52), (1, .int op), (3, .int (nI j73))] [] M114) _ (SK.tr s73 t111) E
                  intro M114 s114 E
                  refine V.seg F floX7 cjoX7 [.aload_n 0, .bipush 19, .bipush 20, .bipush 25] (by decide +kernel) (pc2 := 121) (lv2 := [(0, .ref 52), (1, .int op), (3, .int (nI j73))]) (st2 := [.int 25, .int 20, .int 19, .ref 52]) (M2 := M114) rfl ⟨trivial, trivial, trivial, trivial, trivial⟩ ?_
                  refine V.callV (as := [.int 19, .int 20, .int 25]) (rest := []) F (by decide +kernel) lX7_229 bX7_join ⟨7, _, ((q.sm s114.1).o 52 7 rfl), rfl, rfl⟩ (c_X7_join G X.2.1 M114 19 20 25 (q.sm s114.1) s114.2.1 (vinc (by decide)) (vinc (by decide)) (vinc (by decide))) (rm_ok hRm hd (by decide) (by decide)) ⟨Nat.zero_le _, Nat.zero_le _⟩ (Nat.le_of_ble_eq_true rfl) (fun r_ N_ p_ => ?_)
                  obtain ⟨rfl, rfl, t121⟩ := p_
                  refine (?_ : ∀ (M124 : Mem), (SK wg M M124) → f_X7_shift M op = f_X7_shift_c124 j73 (f_X7_shift_73 op n73_) M124 → V G X 4 0 0 (Qx G X 0 0 (p_X7_shift M op)) 124 [(0, .ref 52), (1, .int op), (3, .int (nI j73))] [] M124) _ (SK.tr s114 t121) E
                  intro M124 s124 E
                  refine V.seg F floX7 cjoX7 [.aload_n 0, .bipush 19, .bipush 25] (by decide +kernel) (pc2 := 129) (lv2 := [(0, .ref 52), (1, .int op), (3, .int (nI j73))]) (st2 := [.int 25, .int 19, .ref 52]) (M2 := M124) rfl ⟨trivial, trivial, trivial, trivial⟩ ?_
                  refine V.callV (as := [.int 19, .int 25]) (rest := []) F (by decide +kernel) lX7_133 bX7_copy ⟨7, _, ((q.sm s124.1).o 52 7 rfl), rfl, rfl⟩ (c_X7_copy G X.2.1 M124 19 25 (q.sm s124.1) s124.2.1 (vinc (by decide)) (vinc (by decide))) (rm_ok hRm hd (by decide) (by decide)) ⟨Nat.zero_le _, Nat.zero_le _⟩ (Nat.le_of_ble_eq_true rfl) (fun r_ N_ p_ => ?_)
                  obtain ⟨rfl, rfl, t129⟩ := p_
                  refine (?_ : ∀ (M132 : Mem), (SK wg M M132) → f_X7_shift M op = f_X7_shift_c132 j73 (f_X7_shift_73 op n73_) M132 → V G X 4 0 0 (Qx G X 0 0 (p_X7_shift M op)) 132 [(0, .ref 52), (1, .int op), (3, .int (nI j73))] [] M132) _ (SK.tr s124 t129) E
                  intro M132 s132 E
                  refine V.pick [0, 1, 2] rfl ?_
                  exact hJ132 M132 s132 E
          refine V.pick [1, 2, 0] rfl ?_
          exact hJ73 _ 0 M71 s71 (by omega) (by omega) E
        · replace E := E.trans (if_neg h56)
          refine V.seg F floX7 cjoX7 [.aload_n 0, .iconst 1, .putfield 180] (by decide +kernel) (pc2 := 64) (lv2 := [(0, .ref 52), (1, .int op), (2, .int y2_4), (3, .int (nI j4))]) (st2 := []) (M2 := uI M4 52 8 1) rfl ⟨trivial, trivial, ⟨((q.sm s4.1).o 52 7 rfl), Or.inr rfl⟩, trivial⟩ ?_
          exact V.vret F (by decide +kernel) ⟨rfl, E.symm, (SK.pI s4 rfl)⟩
      · replace E := E.trans (if_neg h7)
        refine V.seg F floX7 cjoX7 [.iload_n 2, .iload_n 3, .i2l, .aload_n 0, .getfield 20, .bipush 17, .laload, .land, .ldc2_w 224, .land, .aload_n 0, .getfield 23, .bipush 17, .laload, .ldc2_w 224, .land, .lcmp] (by decide +kernel) (pc2 := 37) (lv2 := [(0, .ref 52), (1, .int op), (2, .int y2_4), (3, .int (nI j4))]) (st2 := [.int (lg_cmp (((Int32.toInt64 (nI j4)) &&& (mL M4 56 (ix 17))) &&& 63) ((mL M4 57 (ix 17)) &&& 63)), .int y2_4]) (M2 := M4) rfl ⟨trivial, trivial, trivial, trivial, ((q.sm s4.1).f 52 7 3 rfl), trivial, ((q.sm s4.1).a 56 22 1648 rfl (vinc (by decide))), trivial, trivial, trivial, trivial, ((q.sm s4.1).f 52 7 4 rfl), trivial, ((q.sm s4.1).a 57 22 1648 rfl (vinc (by decide))), trivial, trivial, trivial, trivial⟩ ?_
        have hJ45 : ∀ (w0_45 : Int32) (M45 : Mem), (SK wg M M45) → f_X7_shift M op = f_X7_shift_45 y2_4 j4 (f_X7_shift_4 op n_) w0_45 M45 → V G X 4 0 0 (Qx G X 0 0 (p_X7_shift M op)) 45 [(0, .ref 52), (1, .int op), (3, .int (nI j4))] [.int w0_45, .int y2_4] M45 := by
          intro w0_45 M45 s45 E
          refine V.seg F floX7 cjoX7 [.iadd, .istore_n 2, .iinc 3 1, .goto (-46)] (by decide +kernel) (pc2 := 4) (lv2 := [(3, .int ((nI j4) + 1)), (2, .int (y2_4 + w0_45)), (0, .ref 52), (1, .int op)]) (st2 := []) (M2 := M45) rfl ⟨trivial, (by decide), (by decide), (by decide), trivial⟩ ?_
          refine V.pick [2, 3, 1, 0] rfl ?_
          rw [nI_1]
          exact ih_4 (y2_4 + w0_45) (j4 + 1) M45 s45 (by have hlt_ := cnt_lt (n := 64) h7 rfl (by omega) (by decide); omega) (by have hlt_ := cnt_lt (n := 64) h7 rfl (by omega) (by decide); omega) E
        refine V.lc_ne (off := 7) F (by decide +kernel) (tgt := 44) (by decide) (fun h37 => ?_) (fun h37 => ?_)
        · replace E := E.trans (if_neg h37)
          refine V.seg F floX7 cjoX7 [.iconst 0] (by decide +kernel) (pc2 := 45) (lv2 := [(0, .ref 52), (1, .int op), (2, .int y2_4), (3, .int (nI j4))]) (st2 := [.int 0, .int y2_4]) (M2 := M4) rfl ⟨trivial, trivial⟩ ?_
          refine V.pick [0, 1, 3] rfl ?_
          exact hJ45 0 M4 s4 E
        · replace E := E.trans (if_pos h37)
          refine V.seg F floX7 cjoX7 [.iconst 1, .goto 4] (by decide +kernel) (pc2 := 45) (lv2 := [(0, .ref 52), (1, .int op), (2, .int y2_4), (3, .int (nI j4))]) (st2 := [.int 1, .int y2_4]) (M2 := M4) rfl ⟨trivial, (by decide), trivial⟩ ?_
          refine V.pick [0, 1, 3] rfl ?_
          exact hJ45 1 M4 s4 E
  refine V.pick [2, 3, 1, 0] rfl ?_
  exact hJ4 _ 0 0 M (SK.rf (w := wg) gb) (by omega) (by omega) E
theorem hop_lt9 {op : Int32} (h : ¬ (9 : Int32) ≤ op) : ¬ (op = 9 ∨ op = 10) := fun z => by rcases z with z | z <;> rw [z] at h <;> exact absurd (by decide) h
theorem hop_gt {op : Int32} (h : ¬ op ≤ 11) : ¬ (op = 9 ∨ op = 10) := fun z => by rcases z with z | z <;> rw [z] at h <;> exact absurd (by decide) h
def f_X7_does_c47  (M47 : Mem) : Mem := M47
def f_X7_does_41 (t : Int32) (M41 : Mem) : Mem := f_X7_does_c47 (f_X7_nothing M41 t)
def f_X7_does_c380  (M380 : Mem) : Mem := M380
def f_X7_does_c374 (t : Int32) (M374 : Mem) : Mem := f_X7_does_c380 (f_X7_sharpen M374 t)
def f_X7_does_366 (t : Int32) (M366 : Mem) : Mem := f_X7_does_c374 t (f_X7_copy M366 t 18)
def f_X7_does_c366 (t : Int32) (M366 : Mem) : Mem := f_X7_does_366 t M366
def f_X7_does_c322 (t : Int32) (M322 : Mem) : Mem := f_X7_does_366 t (uL (uL M322 54 (ix 18) ((mL M322 55 (ix 16)) ^^^ ((-1)))) 55 (ix 18) ((mL (uL M322 54 (ix 18) ((mL M322 55 (ix 16)) ^^^ ((-1)))) 54 (ix 16)) ^^^ ((-1))))
def f_X7_does_c298 (t : Int32) (M298 : Mem) : Mem := f_X7_does_c322 t (f_X7_setRest M298 18 (mL M298 58 (ix 16)) (((-1)) - (mL M298 59 (ix 16))))
def f_X7_does_c281 (t : Int32) (M281 : Mem) : Mem := f_X7_does_366 t M281
def f_X7_does_c272 (t : Int32) (M272 : Mem) : Mem := f_X7_does_c281 t (f_X7_add M272 16 17 1)
def f_X7_does_c264 (t : Int32) (M264 : Mem) : Mem := f_X7_does_c272 t (f_X7_copy M264 16 19)
def f_X7_does_c256 (t : Int32) (M256 : Mem) : Mem := f_X7_does_c264 t (f_X7_copy M256 17 16)
def f_X7_does_c240 (t : Int32) (M240 : Mem) : Mem := f_X7_does_366 t M240
def f_X7_does_c226 (t : Int32) (M226 : Mem) : Mem := f_X7_does_366 t M226
def f_X7_does_c212 (t : Int32) (M212 : Mem) : Mem := f_X7_does_366 t M212
def f_X7_does_c198 (t : Int32) (M198 : Mem) : Mem := f_X7_does_366 t M198
def f_X7_does_c186 (t : Int32) (M186 : Mem) : Mem := f_X7_does_366 t M186
def f_X7_does_183 (t : Int32) (w0_183 : Int32) (M183 : Mem) : Mem := f_X7_does_c186 t (f_X7_add M183 16 17 w0_183)
def f_X7_does_c163 (op : Int32) (t : Int32) (M163 : Mem) : Mem := if 2 ≤ op then if op = 2 then f_X7_does_c198 t (f_X7_multiply M163) else if 6 ≤ op then if 9 ≤ op then if 12 ≤ op then if op = 12 then f_X7_does_c256 t (f_X7_number M163 19 0) else if op = 13 then f_X7_does_c298 t (f_X7_turn M163 16 18) else f_X7_does_c366 t (f_X7_narrow M163 op) else f_X7_does_c240 t (f_X7_divide M163 op) else f_X7_does_c226 t (f_X7_shift M163 op) else f_X7_does_c212 t (f_X7_bitwise M163 op) else if op = 1 then f_X7_does_183 t 1 M163 else f_X7_does_183 t 0 M163
def f_X7_does_c157 (op : Int32) (t : Int32) (M157 : Mem) : Mem := f_X7_does_c163 op t (f_X7_all M157 18)
def f_X7_does_154 (op : Int32) (t : Int32) (w0_154 : Int32) (M154 : Mem) : Mem := f_X7_does_c157 op t (f_X7_copy M154 17 w0_154)
def f_X7_does_c140 (op : Int32) (g : Int32) (t : Int32) (w0_16 : Int32) (M140 : Mem) : Mem := if w0_16 = 0 then f_X7_does_154 op t g M140 else f_X7_does_154 op t 24 M140
def f_X7_does_133 (op : Int32) (f : Int32) (g : Int32) (t : Int32) (w0_16 : Int32) (M133 : Mem) : Mem := f_X7_does_c140 op g t w0_16 (f_X7_copy M133 16 f)
def f_X7_does_132  (M132 : Mem) : Mem := M132
def f_X7_does_c132  (M132 : Mem) : Mem := f_X7_does_132 M132
def f_X7_does_126 (op : Int32) (f : Int32) (t : Int32) (M101 : Mem) (w0_126 : Int64) (M126 : Mem) : Mem := f_X7_does_c132 (f_X7_number M126 t (f_X7_reckon op (mL M101 54 (ix f)) w0_126))
def f_X7_does_101 (op : Int32) (f : Int32) (g : Int32) (t : Int32) (w0_16 : Int32) (M101 : Mem) : Mem := if w0_16 = 0 then f_X7_does_126 op f t M101 (mL M101 54 (ix g)) M101 else f_X7_does_126 op f t M101 0 M101
def f_X7_does_c98  (M98 : Mem) : Mem := f_X7_does_132 M98
def f_X7_does_81 (op : Int32) (f : Int32) (g : Int32) (t : Int32) (w0_16 : Int32) (M81 : Mem) : Mem := if (mL M81 54 (ix g)) = 0 then f_X7_does_c98 (f_X7_nothing M81 t) else f_X7_does_101 op f g t w0_16 M81
def f_X7_does_69 (op : Int32) (f : Int32) (g : Int32) (t : Int32) (w0_16 : Int32) (M69 : Mem) : Mem := if op = 9 then f_X7_does_81 op f g t w0_16 M69 else if op = 10 then f_X7_does_81 op f g t w0_16 M69 else f_X7_does_101 op f g t w0_16 M69
def f_X7_does_48 (op : Int32) (f : Int32) (g : Int32) (t : Int32) (w0_16 : Int32) (M48 : Mem) : Mem := if (f_X7_isNumber M48 f) = 0 then f_X7_does_133 op f g t w0_16 M48 else if w0_16 = 0 then if (f_X7_isNumber M48 g) = 0 then f_X7_does_133 op f g t w0_16 M48 else f_X7_does_69 op f g t w0_16 M48 else f_X7_does_69 op f g t w0_16 M48
def f_X7_does_16 (op : Int32) (f : Int32) (g : Int32) (t : Int32) (w0_16 : Int32) (M16 : Mem) : Mem := if (mI M16 53 (ix f)) = 0 then if w0_16 = 0 then if (mI M16 53 (ix g)) = 0 then f_X7_does_48 op f g t w0_16 M16 else f_X7_does_41 t M16 else f_X7_does_48 op f g t w0_16 M16 else f_X7_does_41 t M16
def f_X7_does (M : Mem) (op : Int32) (f : Int32) (g : Int32) (t : Int32) : Mem := if op ≤ 11 then f_X7_does_16 op f g t 0 (uI M 52 8 0) else f_X7_does_16 op f g t 1 (uI M 52 8 0)
abbrev p_X7_does (M : Mem) (op : Int32) (f : Int32) (g : Int32) (t : Int32) : Option Value → Mem → Prop := fun r N => r = none ∧ N = f_X7_does M op f g t ∧ SK wg M N
set_option maxRecDepth 100000 in
set_option maxHeartbeats 4000000 in
theorem c_X7_does (G : Ctx) (l : Launch) (M : Mem) (op : Int32) (f : Int32) (g : Int32) (t : Int32) (q : Ok M) (gb : Gb M) (i_f : vp_in f 1648) (i_g : vp_in g 1648) (i_t : vp_in t 1648) : CT G l 6 mX7_does [.ref 52, .int op, .int f, .int g, .int t] M 0 0 (p_X7_does M op f g t) := by
  refine CT.of (by decide) (Nat.le_of_ble_eq_true rfl) ?_
  intro X d hd hl hRm hnm F
  subst hl
  have E : f_X7_does M op f g t = f_X7_does M op f g t := rfl
  show V G X 6 0 0 (Qx G X 0 0 (p_X7_does M op f g t)) 0 [(0, .ref 52), (1, .int op), (2, .int f), (3, .int g), (4, .int t)] [] M
  refine V.seg F floX7 cjoX7 [.aload_n 0, .iconst 0, .putfield 180, .iload_n 1, .bipush 11] (by decide +kernel) (pc2 := 8) (lv2 := [(0, .ref 52), (1, .int op), (2, .int f), (3, .int g), (4, .int t)]) (st2 := [.int 11, .int op]) (M2 := uI M 52 8 0) rfl ⟨trivial, trivial, ⟨(q.o 52 7 rfl), Or.inl rfl⟩, trivial, trivial, trivial⟩ ?_
  have hJ16 : ∀ (w0_16 : Int32) (M16 : Mem), (SK wg M M16) → (¬ w0_16 = 0 → ¬ (op = 9 ∨ op = 10)) → f_X7_does M op f g t = f_X7_does_16 op f g t w0_16 M16 → V G X 6 0 0 (Qx G X 0 0 (p_X7_does M op f g t)) 16 [(0, .ref 52), (1, .int op), (2, .int f), (3, .int g), (4, .int t)] [.int w0_16] M16 := by
    intro w0_16 M16 s16 jo16 E
    refine V.seg F floX7 cjoX7 [.istore 5, .aload_n 0, .getfield 9, .iload_n 2, .baload] (by decide +kernel) (pc2 := 24) (lv2 := [(5, .int w0_16), (0, .ref 52), (1, .int op), (2, .int f), (3, .int g), (4, .int t)]) (st2 := [.int (mI M16 53 (ix f))]) (M2 := M16) rfl ⟨(by decide), trivial, ((q.sm s16.1).f 52 7 0 rfl), trivial, ((q.sm s16.1).a 53 21 1648 rfl (by first | assumption | exact vinc (by decide))), trivial⟩ ?_
    have hJ41 : ∀ (M41 : Mem), (SK wg M M41) → f_X7_does M op f g t = f_X7_does_41 t M41 → V G X 6 0 0 (Qx G X 0 0 (p_X7_does M op f g t)) 41 [(0, .ref 52), (4, .int t)] [] M41 := by
      intro M41 s41 E
      refine V.seg F floX7 cjoX7 [.aload_n 0, .iload 4] (by decide +kernel) (pc2 := 44) (lv2 := [(0, .ref 52), (4, .int t)]) (st2 := [.int t, .ref 52]) (M2 := M41) rfl ⟨trivial, trivial, trivial⟩ ?_
      refine V.callV (as := [.int t]) (rest := []) F (by decide +kernel) lX7_115 bX7_nothing ⟨7, _, ((q.sm s41.1).o 52 7 rfl), rfl, rfl⟩ (c_X7_nothing G X.2.1 M41 t (q.sm s41.1) s41.2.1 (by first | assumption | exact vinc (by decide))) (rm_ok hRm hd (by decide) (by decide)) ⟨Nat.zero_le _, Nat.zero_le _⟩ (Nat.le_of_ble_eq_true rfl) (fun r_ N_ p_ => ?_)
      obtain ⟨rfl, rfl, t44⟩ := p_
      refine (?_ : ∀ (M47 : Mem), (SK wg M M47) → f_X7_does M op f g t = f_X7_does_c47 M47 → V G X 6 0 0 (Qx G X 0 0 (p_X7_does M op f g t)) 47 [(0, .ref 52), (4, .int t)] [] M47) _ (SK.tr s41 t44) E
      intro M47 s47 E
      exact V.vret F (by decide +kernel) ⟨rfl, E.symm, s47⟩
    refine V.if_ne (off := 17) F (by decide +kernel) (tgt := 41) (by decide) (fun h24 => ?_) (fun h24 => ?_)
    · replace E := E.trans (if_neg h24)
      refine V.pick [1, 5] rfl ?_
      exact hJ41 M16 s16 E
    · replace E := E.trans (if_pos h24)
      refine V.seg F floX7 cjoX7 [.iload 5] (by decide +kernel) (pc2 := 29) (lv2 := [(5, .int w0_16), (0, .ref 52), (1, .int op), (2, .int f), (3, .int g), (4, .int t)]) (st2 := [.int w0_16]) (M2 := M16) rfl ⟨trivial, trivial⟩ ?_
      have hJ48 : ∀ (M48 : Mem), (SK wg M M48) → f_X7_does M op f g t = f_X7_does_48 op f g t w0_16 M48 → V G X 6 0 0 (Qx G X 0 0 (p_X7_does M op f g t)) 48 [(0, .ref 52), (1, .int op), (2, .int f), (3, .int g), (4, .int t), (5, .int w0_16)] [] M48 := by
        intro M48 s48 E
        refine V.seg F floX7 cjoX7 [.aload_n 0, .iload_n 2] (by decide +kernel) (pc2 := 50) (lv2 := [(0, .ref 52), (1, .int op), (2, .int f), (3, .int g), (4, .int t), (5, .int w0_16)]) (st2 := [.int f, .ref 52]) (M2 := M48) rfl ⟨trivial, trivial, trivial⟩ ?_
        refine V.callV (as := [.int f]) (rest := []) F (by decide +kernel) lX7_130 bX7_isNumber ⟨7, _, ((q.sm s48.1).o 52 7 rfl), rfl, rfl⟩ (c_X7_isNumber G X.2.1 M48 f (q.sm s48.1) s48.2.1 (by first | assumption | exact vinc (by decide))) (rm_ok hRm hd (by decide) (by decide)) ⟨Nat.zero_le _, Nat.zero_le _⟩ (Nat.le_of_ble_eq_true rfl) (fun r_ N_ p_ => ?_)
        obtain ⟨rfl, hN_, z50⟩ := p_
        rw [hN_]
        clear hN_
        have hJ133 : ∀ (M133 : Mem), (SK wg M M133) → f_X7_does M op f g t = f_X7_does_133 op f g t w0_16 M133 → V G X 6 0 0 (Qx G X 0 0 (p_X7_does M op f g t)) 133 [(0, .ref 52), (1, .int op), (2, .int f), (3, .int g), (4, .int t), (5, .int w0_16)] [] M133 := by
          intro M133 s133 E
          refine V.seg F floX7 cjoX7 [.aload_n 0, .bipush 16, .iload_n 2] (by decide +kernel) (pc2 := 137) (lv2 := [(0, .ref 52), (1, .int op), (2, .int f), (3, .int g), (4, .int t), (5, .int w0_16)]) (st2 := [.int f, .int 16, .ref 52]) (M2 := M133) rfl ⟨trivial, trivial, trivial, trivial⟩ ?_
          refine V.callV (as := [.int 16, .int f]) (rest := []) F (by decide +kernel) lX7_133 bX7_copy ⟨7, _, ((q.sm s133.1).o 52 7 rfl), rfl, rfl⟩ (c_X7_copy G X.2.1 M133 16 f (q.sm s133.1) s133.2.1 (vinc (by decide)) (by first | assumption | exact vinc (by decide))) (rm_ok hRm hd (by decide) (by decide)) ⟨Nat.zero_le _, Nat.zero_le _⟩ (Nat.le_of_ble_eq_true rfl) (fun r_ N_ p_ => ?_)
          obtain ⟨rfl, rfl, t137⟩ := p_
          refine (?_ : ∀ (M140 : Mem), (SK wg M M140) → f_X7_does M op f g t = f_X7_does_c140 op g t w0_16 M140 → V G X 6 0 0 (Qx G X 0 0 (p_X7_does M op f g t)) 140 [(0, .ref 52), (1, .int op), (2, .int f), (3, .int g), (4, .int t), (5, .int w0_16)] [] M140) _ (SK.tr s133 t137) E
          intro M140 s140 E
          refine V.seg F floX7 cjoX7 [.aload_n 0, .bipush 17, .iload 5] (by decide +kernel) (pc2 := 145) (lv2 := [(0, .ref 52), (1, .int op), (2, .int f), (3, .int g), (4, .int t), (5, .int w0_16)]) (st2 := [.int w0_16, .int 17, .ref 52]) (M2 := M140) rfl ⟨trivial, trivial, trivial, trivial⟩ ?_
          have hJ154 : ∀ (w0_154 : Int32) (M154 : Mem), (SK wg M M154) → (vp_in w0_154 1648) → f_X7_does M op f g t = f_X7_does_154 op t w0_154 M154 → V G X 6 0 0 (Qx G X 0 0 (p_X7_does M op f g t)) 154 [(0, .ref 52), (1, .int op), (4, .int t)] [.int w0_154, .int 17, .ref 52] M154 := by
            intro w0_154 M154 s154 jw154 E
            refine V.callV (as := [.int 17, .int w0_154]) (rest := []) F (by decide +kernel) lX7_133 bX7_copy ⟨7, _, ((q.sm s154.1).o 52 7 rfl), rfl, rfl⟩ (c_X7_copy G X.2.1 M154 17 w0_154 (q.sm s154.1) s154.2.1 (vinc (by decide)) (by first | assumption | exact vinc (by decide))) (rm_ok hRm hd (by decide) (by decide)) ⟨Nat.zero_le _, Nat.zero_le _⟩ (Nat.le_of_ble_eq_true rfl) (fun r_ N_ p_ => ?_)
            obtain ⟨rfl, rfl, t154⟩ := p_
            refine (?_ : ∀ (M157 : Mem), (SK wg M M157) → f_X7_does M op f g t = f_X7_does_c157 op t M157 → V G X 6 0 0 (Qx G X 0 0 (p_X7_does M op f g t)) 157 [(0, .ref 52), (1, .int op), (4, .int t)] [] M157) _ (SK.tr s154 t154) E
            intro M157 s157 E
            refine V.seg F floX7 cjoX7 [.aload_n 0, .bipush 18] (by decide +kernel) (pc2 := 160) (lv2 := [(0, .ref 52), (1, .int op), (4, .int t)]) (st2 := [.int 18, .ref 52]) (M2 := M157) rfl ⟨trivial, trivial, trivial⟩ ?_
            refine V.callV (as := [.int 18]) (rest := []) F (by decide +kernel) lX7_79 bX7_all ⟨7, _, ((q.sm s157.1).o 52 7 rfl), rfl, rfl⟩ (c_X7_all G X.2.1 M157 18 (q.sm s157.1) s157.2.1 (vinc (by decide))) (rm_ok hRm hd (by decide) (by decide)) ⟨Nat.zero_le _, Nat.zero_le _⟩ (Nat.le_of_ble_eq_true rfl) (fun r_ N_ p_ => ?_)
            obtain ⟨rfl, rfl, t160⟩ := p_
            refine (?_ : ∀ (M163 : Mem), (SK wg M M163) → f_X7_does M op f g t = f_X7_does_c163 op t M163 → V G X 6 0 0 (Qx G X 0 0 (p_X7_does M op f g t)) 163 [(0, .ref 52), (1, .int op), (4, .int t)] [] M163) _ (SK.tr s157 t160) E
            intro M163 s163 E
            refine V.seg F floX7 cjoX7 [.iload_n 1, .iconst 2] (by decide +kernel) (pc2 := 165) (lv2 := [(0, .ref 52), (1, .int op), (4, .int t)]) (st2 := [.int 2, .int op]) (M2 := M163) rfl ⟨trivial, trivial, trivial⟩ ?_
            have hJ366 : ∀ (M366 : Mem), (SK wg M M366) → f_X7_does M op f g t = f_X7_does_366 t M366 → V G X 6 0 0 (Qx G X 0 0 (p_X7_does M op f g t)) 366 [(0, .ref 52), (4, .int t)] [] M366 := by
              intro M366 s366 E
              refine V.seg F floX7 cjoX7 [.aload_n 0, .iload 4, .bipush 18] (by decide +kernel) (pc2 := 371) (lv2 := [(0, .ref 52), (4, .int t)]) (st2 := [.int 18, .int t, .ref 52]) (M2 := M366) rfl ⟨trivial, trivial, trivial, trivial⟩ ?_
              refine V.callV (as := [.int t, .int 18]) (rest := []) F (by decide +kernel) lX7_133 bX7_copy ⟨7, _, ((q.sm s366.1).o 52 7 rfl), rfl, rfl⟩ (c_X7_copy G X.2.1 M366 t 18 (q.sm s366.1) s366.2.1 (by first | assumption | exact vinc (by decide)) (vinc (by decide))) (rm_ok hRm hd (by decide) (by decide)) ⟨Nat.zero_le _, Nat.zero_le _⟩ (Nat.le_of_ble_eq_true rfl) (fun r_ N_ p_ => ?_)
              obtain ⟨rfl, rfl, t371⟩ := p_
              refine (?_ : ∀ (M374 : Mem), (SK wg M M374) → f_X7_does M op f g t = f_X7_does_c374 t M374 → V G X 6 0 0 (Qx G X 0 0 (p_X7_does M op f g t)) 374 [(0, .ref 52), (4, .int t)] [] M374) _ (SK.tr s366 t371) E
              intro M374 s374 E
              refine V.seg F floX7 cjoX7 [.aload_n 0, .iload 4] (by decide +kernel) (pc2 := 377) (lv2 := [(0, .ref 52), (4, .int t)]) (st2 := [.int t, .ref 52]) (M2 := M374) rfl ⟨trivial, trivial, trivial⟩ ?_
              refine V.callV (as := [.int t]) (rest := []) F (by decide +kernel) lX7_165 bX7_sharpen ⟨7, _, ((q.sm s374.1).o 52 7 rfl), rfl, rfl⟩ (c_X7_sharpen G X.2.1 M374 t (q.sm s374.1) s374.2.1 (by first | assumption | exact vinc (by decide))) (rm_ok hRm hd (by decide) (by decide)) ⟨Nat.zero_le _, Nat.zero_le _⟩ (Nat.le_of_ble_eq_true rfl) (fun r_ N_ p_ => ?_)
              obtain ⟨rfl, rfl, t377⟩ := p_
              refine (?_ : ∀ (M380 : Mem), (SK wg M M380) → f_X7_does M op f g t = f_X7_does_c380 M380 → V G X 6 0 0 (Qx G X 0 0 (p_X7_does M op f g t)) 380 [(0, .ref 52), (4, .int t)] [] M380) _ (SK.tr s374 t377) E
              intro M380 s380 E
              exact V.vret F (by decide +kernel) ⟨rfl, E.symm, s380⟩
            refine V.ic_ge (off := 24) F (by decide +kernel) (tgt := 189) (by decide) (fun h165 => ?_) (fun h165 => ?_)
            · replace E := E.trans (if_pos h165)
              refine V.seg F floX7 cjoX7 [.iload_n 1, .iconst 2] (by decide +kernel) (pc2 := 191) (lv2 := [(0, .ref 52), (1, .int op), (4, .int t)]) (st2 := [.int 2, .int op]) (M2 := M163) rfl ⟨trivial, trivial, trivial⟩ ?_
              refine V.ic_ne (off := 10) F (by decide +kernel) (tgt := 201) (by decide) (fun h191 => ?_) (fun h191 => ?_)
              · replace E := E.trans (if_neg h191)
                refine V.seg F floX7 cjoX7 [.iload_n 1, .bipush 6] (by decide +kernel) (pc2 := 204) (lv2 := [(0, .ref 52), (1, .int op), (4, .int t)]) (st2 := [.int 6, .int op]) (M2 := M163) rfl ⟨trivial, trivial, trivial⟩ ?_
                refine V.ic_ge (off := 11) F (by decide +kernel) (tgt := 215) (by decide) (fun h204 => ?_) (fun h204 => ?_)
                · replace E := E.trans (if_pos h204)
                  refine V.seg F floX7 cjoX7 [.iload_n 1, .bipush 9] (by decide +kernel) (pc2 := 218) (lv2 := [(0, .ref 52), (1, .int op), (4, .int t)]) (st2 := [.int 9, .int op]) (M2 := M163) rfl ⟨trivial, trivial, trivial⟩ ?_
                  refine V.ic_ge (off := 11) F (by decide +kernel) (tgt := 229) (by decide) (fun h218 => ?_) (fun h218 => ?_)
                  · replace E := E.trans (if_pos h218)
                    refine V.seg F floX7 cjoX7 [.iload_n 1, .bipush 12] (by decide +kernel) (pc2 := 232) (lv2 := [(0, .ref 52), (1, .int op), (4, .int t)]) (st2 := [.int 12, .int op]) (M2 := M163) rfl ⟨trivial, trivial, trivial⟩ ?_
                    refine V.ic_ge (off := 11) F (by decide +kernel) (tgt := 243) (by decide) (fun h232 => ?_) (fun h232 => ?_)
                    · replace E := E.trans (if_pos h232)
                      refine V.seg F floX7 cjoX7 [.iload_n 1, .bipush 12] (by decide +kernel) (pc2 := 246) (lv2 := [(0, .ref 52), (1, .int op), (4, .int t)]) (st2 := [.int 12, .int op]) (M2 := M163) rfl ⟨trivial, trivial, trivial⟩ ?_
                      refine V.ic_ne (off := 38) F (by decide +kernel) (tgt := 284) (by decide) (fun h246 => ?_) (fun h246 => ?_)
                      · replace E := E.trans (if_neg h246)
                        refine V.seg F floX7 cjoX7 [.iload_n 1, .bipush 13] (by decide +kernel) (pc2 := 287) (lv2 := [(0, .ref 52), (1, .int op), (4, .int t)]) (st2 := [.int 13, .int op]) (M2 := M163) rfl ⟨trivial, trivial, trivial⟩ ?_
                        refine V.ic_ne (off := 74) F (by decide +kernel) (tgt := 361) (by decide) (fun h287 => ?_) (fun h287 => ?_)
                        · replace E := E.trans (if_neg h287)
                          refine V.seg F floX7 cjoX7 [.aload_n 0, .iload_n 1] (by decide +kernel) (pc2 := 363) (lv2 := [(0, .ref 52), (1, .int op), (4, .int t)]) (st2 := [.int op, .ref 52]) (M2 := M163) rfl ⟨trivial, trivial, trivial⟩ ?_
                          refine V.callV (as := [.int op]) (rest := []) F (by decide +kernel) lX7_206 bX7_narrow ⟨7, _, ((q.sm s163.1).o 52 7 rfl), rfl, rfl⟩ (c_X7_narrow G X.2.1 M163 op (q.sm s163.1) s163.2.1) (rm_ok hRm hd (by decide) (by decide)) ⟨Nat.zero_le _, Nat.zero_le _⟩ (Nat.le_of_ble_eq_true rfl) (fun r_ N_ p_ => ?_)
                          obtain ⟨rfl, rfl, t363⟩ := p_
                          refine (?_ : ∀ (M366 : Mem), (SK wg M M366) → f_X7_does M op f g t = f_X7_does_c366 t M366 → V G X 6 0 0 (Qx G X 0 0 (p_X7_does M op f g t)) 366 [(0, .ref 52), (1, .int op), (4, .int t)] [] M366) _ (SK.tr s163 t363) E
                          intro M366 s366 E
                          refine V.pick [0, 2] rfl ?_
                          exact hJ366 M366 s366 E
                        · replace E := E.trans (if_pos h287)
                          refine V.seg F floX7 cjoX7 [.aload_n 0, .bipush 16, .bipush 18] (by decide +kernel) (pc2 := 295) (lv2 := [(0, .ref 52), (1, .int op), (4, .int t)]) (st2 := [.int 18, .int 16, .ref 52]) (M2 := M163) rfl ⟨trivial, trivial, trivial, trivial⟩ ?_
                          refine V.callV (as := [.int 16, .int 18]) (rest := []) F (by decide +kernel) lX7_203 bX7_turn ⟨7, _, ((q.sm s163.1).o 52 7 rfl), rfl, rfl⟩ (c_X7_turn G X.2.1 M163 16 18 (q.sm s163.1) s163.2.1 (vinc (by decide)) (vinc (by decide))) (rm_ok hRm hd (by decide) (by decide)) ⟨Nat.zero_le _, Nat.zero_le _⟩ (Nat.le_of_ble_eq_true rfl) (fun r_ N_ p_ => ?_)
                          obtain ⟨rfl, rfl, t295⟩ := p_
                          refine (?_ : ∀ (M298 : Mem), (SK wg M M298) → f_X7_does M op f g t = f_X7_does_c298 t M298 → V G X 6 0 0 (Qx G X 0 0 (p_X7_does M op f g t)) 298 [(0, .ref 52), (1, .int op), (4, .int t)] [] M298) _ (SK.tr s163 t295) E
                          intro M298 s298 E
                          refine V.seg F floX7 cjoX7 [.aload_n 0, .bipush 18, .aload_n 0, .getfield 26, .bipush 16, .laload, .ldc2_w 87, .aload_n 0, .getfield 29, .bipush 16, .laload, .lsub] (by decide +kernel) (pc2 := 319) (lv2 := [(0, .ref 52), (1, .int op), (4, .int t)]) (st2 := [.long (((-1)) - (mL M298 59 (ix 16))), .long (mL M298 58 (ix 16)), .int 18, .ref 52]) (M2 := M298) rfl ⟨trivial, trivial, trivial, ((q.sm s298.1).f 52 7 5 rfl), trivial, ((q.sm s298.1).a 58 22 1648 rfl (vinc (by decide))), trivial, trivial, ((q.sm s298.1).f 52 7 6 rfl), trivial, ((q.sm s298.1).a 59 22 1648 rfl (vinc (by decide))), trivial, trivial⟩ ?_
                          refine V.callV (as := [.int 18, .long (mL M298 58 (ix 16)), .long (((-1)) - (mL M298 59 (ix 16)))]) (rest := []) F (by decide +kernel) lX7_161 bX7_setRest ⟨7, _, ((q.sm s298.1).o 52 7 rfl), rfl, rfl⟩ (c_X7_setRest G X.2.1 M298 18 (mL M298 58 (ix 16)) (((-1)) - (mL M298 59 (ix 16))) (q.sm s298.1) s298.2.1 (vinc (by decide)) (s298.2.1 _ (vin_lt (vinc (by decide))))) (rm_ok hRm hd (by decide) (by decide)) ⟨Nat.zero_le _, Nat.zero_le _⟩ (Nat.le_of_ble_eq_true rfl) (fun r_ N_ p_ => ?_)
                          obtain ⟨rfl, rfl, t319⟩ := p_
                          refine (?_ : ∀ (M322 : Mem), (SK wg M M322) → f_X7_does M op f g t = f_X7_does_c322 t M322 → V G X 6 0 0 (Qx G X 0 0 (p_X7_does M op f g t)) 322 [(0, .ref 52), (1, .int op), (4, .int t)] [] M322) _ (SK.tr s298 t319) E
                          intro M322 s322 E
                          refine V.seg F floX7 cjoX7 [.aload_n 0, .getfield 13, .bipush 18, .aload_n 0, .getfield 17, .bipush 16, .laload, .ldc2_w 87, .lxor, .lastore, .aload_n 0, .getfield 17, .bipush 18, .aload_n 0, .getfield 13, .bipush 16, .laload, .ldc2_w 87, .lxor, .lastore, .goto 8] (by decide +kernel) (pc2 := 366) (lv2 := [(0, .ref 52), (1, .int op), (4, .int t)]) (st2 := []) (M2 := uL (uL M322 54 (ix 18) ((mL M322 55 (ix 16)) ^^^ ((-1)))) 55 (ix 18) ((mL (uL M322 54 (ix 18) ((mL M322 55 (ix 16)) ^^^ ((-1)))) 54 (ix 16)) ^^^ ((-1)))) rfl ⟨trivial, ((q.sm s322.1).f 52 7 1 rfl), trivial, trivial, ((q.sm s322.1).f 52 7 2 rfl), trivial, ((q.sm s322.1).a 55 22 1648 rfl (vinc (by decide))), trivial, trivial, ((q.sm s322.1).a 54 22 1648 rfl (vinc (by decide))), trivial, ((q.sm (SK.pL s322 rfl (by decide)).1).f 52 7 2 rfl), trivial, trivial, ((q.sm (SK.pL s322 rfl (by decide)).1).f 52 7 1 rfl), trivial, ((q.sm (SK.pL s322 rfl (by decide)).1).a 54 22 1648 rfl (vinc (by decide))), trivial, trivial, ((q.sm (SK.pL s322 rfl (by decide)).1).a 55 22 1648 rfl (vinc (by decide))), (by decide), trivial⟩ ?_
                          refine V.pick [0, 2] rfl ?_
                          exact hJ366 (uL (uL M322 54 (ix 18) ((mL M322 55 (ix 16)) ^^^ ((-1)))) 55 (ix 18) ((mL (uL M322 54 (ix 18) ((mL M322 55 (ix 16)) ^^^ ((-1)))) 54 (ix 16)) ^^^ ((-1)))) (SK.pL (SK.pL s322 rfl (by decide)) rfl (by decide)) E
                      · replace E := E.trans (if_pos h246)
                        refine V.seg F floX7 cjoX7 [.aload_n 0, .bipush 19, .lconst 0] (by decide +kernel) (pc2 := 253) (lv2 := [(0, .ref 52), (1, .int op), (4, .int t)]) (st2 := [.long 0, .int 19, .ref 52]) (M2 := M163) rfl ⟨trivial, trivial, trivial, trivial⟩ ?_
                        refine V.callV (as := [.int 19, .long 0]) (rest := []) F (by decide +kernel) lX7_118 bX7_number ⟨7, _, ((q.sm s163.1).o 52 7 rfl), rfl, rfl⟩ (c_X7_number G X.2.1 M163 19 0 (q.sm s163.1) s163.2.1 (vinc (by decide))) (rm_ok hRm hd (by decide) (by decide)) ⟨Nat.zero_le _, Nat.zero_le _⟩ (Nat.le_of_ble_eq_true rfl) (fun r_ N_ p_ => ?_)
                        obtain ⟨rfl, rfl, t253⟩ := p_
                        refine (?_ : ∀ (M256 : Mem), (SK wg M M256) → f_X7_does M op f g t = f_X7_does_c256 t M256 → V G X 6 0 0 (Qx G X 0 0 (p_X7_does M op f g t)) 256 [(0, .ref 52), (1, .int op), (4, .int t)] [] M256) _ (SK.tr s163 t253) E
                        intro M256 s256 E
                        refine V.seg F floX7 cjoX7 [.aload_n 0, .bipush 17, .bipush 16] (by decide +kernel) (pc2 := 261) (lv2 := [(0, .ref 52), (1, .int op), (4, .int t)]) (st2 := [.int 16, .int 17, .ref 52]) (M2 := M256) rfl ⟨trivial, trivial, trivial, trivial⟩ ?_
                        refine V.callV (as := [.int 17, .int 16]) (rest := []) F (by decide +kernel) lX7_133 bX7_copy ⟨7, _, ((q.sm s256.1).o 52 7 rfl), rfl, rfl⟩ (c_X7_copy G X.2.1 M256 17 16 (q.sm s256.1) s256.2.1 (vinc (by decide)) (vinc (by decide))) (rm_ok hRm hd (by decide) (by decide)) ⟨Nat.zero_le _, Nat.zero_le _⟩ (Nat.le_of_ble_eq_true rfl) (fun r_ N_ p_ => ?_)
                        obtain ⟨rfl, rfl, t261⟩ := p_
                        refine (?_ : ∀ (M264 : Mem), (SK wg M M264) → f_X7_does M op f g t = f_X7_does_c264 t M264 → V G X 6 0 0 (Qx G X 0 0 (p_X7_does M op f g t)) 264 [(0, .ref 52), (1, .int op), (4, .int t)] [] M264) _ (SK.tr s256 t261) E
                        intro M264 s264 E
                        refine V.seg F floX7 cjoX7 [.aload_n 0, .bipush 16, .bipush 19] (by decide +kernel) (pc2 := 269) (lv2 := [(0, .ref 52), (1, .int op), (4, .int t)]) (st2 := [.int 19, .int 16, .ref 52]) (M2 := M264) rfl ⟨trivial, trivial, trivial, trivial⟩ ?_
                        refine V.callV (as := [.int 16, .int 19]) (rest := []) F (by decide +kernel) lX7_133 bX7_copy ⟨7, _, ((q.sm s264.1).o 52 7 rfl), rfl, rfl⟩ (c_X7_copy G X.2.1 M264 16 19 (q.sm s264.1) s264.2.1 (vinc (by decide)) (vinc (by decide))) (rm_ok hRm hd (by decide) (by decide)) ⟨Nat.zero_le _, Nat.zero_le _⟩ (Nat.le_of_ble_eq_true rfl) (fun r_ N_ p_ => ?_)
                        obtain ⟨rfl, rfl, t269⟩ := p_
                        refine (?_ : ∀ (M272 : Mem), (SK wg M M272) → f_X7_does M op f g t = f_X7_does_c272 t M272 → V G X 6 0 0 (Qx G X 0 0 (p_X7_does M op f g t)) 272 [(0, .ref 52), (1, .int op), (4, .int t)] [] M272) _ (SK.tr s264 t269) E
                        intro M272 s272 E
                        refine V.seg F floX7 cjoX7 [.aload_n 0, .bipush 16, .bipush 17, .iconst 1] (by decide +kernel) (pc2 := 278) (lv2 := [(0, .ref 52), (1, .int op), (4, .int t)]) (st2 := [.int 1, .int 17, .int 16, .ref 52]) (M2 := M272) rfl ⟨trivial, trivial, trivial, trivial, trivial⟩ ?_
                        refine V.callV (as := [.int 16, .int 17, .int 1]) (rest := []) F (by decide +kernel) lX7_187 bX7_add ⟨7, _, ((q.sm s272.1).o 52 7 rfl), rfl, rfl⟩ (c_X7_add G X.2.1 M272 16 17 1 (Or.inr rfl) (q.sm s272.1) s272.2.1 (vinc (by decide)) (vinc (by decide))) (rm_ok hRm hd (by decide) (by decide)) ⟨Nat.zero_le _, Nat.zero_le _⟩ (Nat.le_of_ble_eq_true rfl) (fun r_ N_ p_ => ?_)
                        obtain ⟨rfl, rfl, t278⟩ := p_
                        refine (?_ : ∀ (M281 : Mem), (SK wg M M281) → f_X7_does M op f g t = f_X7_does_c281 t M281 → V G X 6 0 0 (Qx G X 0 0 (p_X7_does M op f g t)) 281 [(0, .ref 52), (1, .int op), (4, .int t)] [] M281) _ (SK.tr s272 t278) E
                        intro M281 s281 E
                        refine V.seg F floX7 cjoX7 [.goto 85] (by decide +kernel) (pc2 := 366) (lv2 := [(0, .ref 52), (1, .int op), (4, .int t)]) (st2 := []) (M2 := M281) rfl ⟨(by decide), trivial⟩ ?_
                        refine V.pick [0, 2] rfl ?_
                        exact hJ366 M281 s281 E
                    · replace E := E.trans (if_neg h232)
                      refine V.seg F floX7 cjoX7 [.aload_n 0, .iload_n 1] (by decide +kernel) (pc2 := 237) (lv2 := [(0, .ref 52), (1, .int op), (4, .int t)]) (st2 := [.int op, .ref 52]) (M2 := M163) rfl ⟨trivial, trivial, trivial⟩ ?_
                      refine V.callV (as := [.int op]) (rest := []) F (by decide +kernel) lX7_200 bX7_divide ⟨7, _, ((q.sm s163.1).o 52 7 rfl), rfl, rfl⟩ (c_X7_divide G X.2.1 M163 op (q.sm s163.1) s163.2.1) (rm_ok hRm hd (by decide) (by decide)) ⟨Nat.zero_le _, Nat.zero_le _⟩ (Nat.le_of_ble_eq_true rfl) (fun r_ N_ p_ => ?_)
                      obtain ⟨rfl, rfl, t237⟩ := p_
                      refine (?_ : ∀ (M240 : Mem), (SK wg M M240) → f_X7_does M op f g t = f_X7_does_c240 t M240 → V G X 6 0 0 (Qx G X 0 0 (p_X7_does M op f g t)) 240 [(0, .ref 52), (1, .int op), (4, .int t)] [] M240) _ (SK.tr s163 t237) E
                      intro M240 s240 E
                      refine V.seg F floX7 cjoX7 [.goto 126] (by decide +kernel) (pc2 := 366) (lv2 := [(0, .ref 52), (1, .int op), (4, .int t)]) (st2 := []) (M2 := M240) rfl ⟨(by decide), trivial⟩ ?_
                      refine V.pick [0, 2] rfl ?_
                      exact hJ366 M240 s240 E
                  · replace E := E.trans (if_neg h218)
                    refine V.seg F floX7 cjoX7 [.aload_n 0, .iload_n 1] (by decide +kernel) (pc2 := 223) (lv2 := [(0, .ref 52), (1, .int op), (4, .int t)]) (st2 := [.int op, .ref 52]) (M2 := M163) rfl ⟨trivial, trivial, trivial⟩ ?_
                    refine V.callV (as := [.int op]) (rest := []) F (by decide +kernel) lX7_197 bX7_shift ⟨7, _, ((q.sm s163.1).o 52 7 rfl), rfl, rfl⟩ (c_X7_shift G X.2.1 M163 op (q.sm s163.1) s163.2.1 (hop_lt9 h218)) (rm_ok hRm hd (by decide) (by decide)) ⟨Nat.zero_le _, Nat.zero_le _⟩ (Nat.le_of_ble_eq_true rfl) (fun r_ N_ p_ => ?_)
                    obtain ⟨rfl, rfl, t223⟩ := p_
                    refine (?_ : ∀ (M226 : Mem), (SK wg M M226) → f_X7_does M op f g t = f_X7_does_c226 t M226 → V G X 6 0 0 (Qx G X 0 0 (p_X7_does M op f g t)) 226 [(0, .ref 52), (1, .int op), (4, .int t)] [] M226) _ (SK.tr s163 t223) E
                    intro M226 s226 E
                    refine V.seg F floX7 cjoX7 [.goto 140] (by decide +kernel) (pc2 := 366) (lv2 := [(0, .ref 52), (1, .int op), (4, .int t)]) (st2 := []) (M2 := M226) rfl ⟨(by decide), trivial⟩ ?_
                    refine V.pick [0, 2] rfl ?_
                    exact hJ366 M226 s226 E
                · replace E := E.trans (if_neg h204)
                  refine V.seg F floX7 cjoX7 [.aload_n 0, .iload_n 1] (by decide +kernel) (pc2 := 209) (lv2 := [(0, .ref 52), (1, .int op), (4, .int t)]) (st2 := [.int op, .ref 52]) (M2 := M163) rfl ⟨trivial, trivial, trivial⟩ ?_
                  refine V.callV (as := [.int op]) (rest := []) F (by decide +kernel) lX7_194 bX7_bitwise ⟨7, _, ((q.sm s163.1).o 52 7 rfl), rfl, rfl⟩ (c_X7_bitwise G X.2.1 M163 op (q.sm s163.1) s163.2.1) (rm_ok hRm hd (by decide) (by decide)) ⟨Nat.zero_le _, Nat.zero_le _⟩ (Nat.le_of_ble_eq_true rfl) (fun r_ N_ p_ => ?_)
                  obtain ⟨rfl, rfl, t209⟩ := p_
                  refine (?_ : ∀ (M212 : Mem), (SK wg M M212) → f_X7_does M op f g t = f_X7_does_c212 t M212 → V G X 6 0 0 (Qx G X 0 0 (p_X7_does M op f g t)) 212 [(0, .ref 52), (1, .int op), (4, .int t)] [] M212) _ (SK.tr s163 t209) E
                  intro M212 s212 E
                  refine V.seg F floX7 cjoX7 [.goto 154] (by decide +kernel) (pc2 := 366) (lv2 := [(0, .ref 52), (1, .int op), (4, .int t)]) (st2 := []) (M2 := M212) rfl ⟨(by decide), trivial⟩ ?_
                  refine V.pick [0, 2] rfl ?_
                  exact hJ366 M212 s212 E
              · replace E := E.trans (if_pos h191)
                refine V.seg F floX7 cjoX7 [.aload_n 0] (by decide +kernel) (pc2 := 195) (lv2 := [(0, .ref 52), (1, .int op), (4, .int t)]) (st2 := [.ref 52]) (M2 := M163) rfl ⟨trivial, trivial⟩ ?_
                refine V.callV (as := []) (rest := []) F (by decide +kernel) lX7_191 bX7_multiply ⟨7, _, ((q.sm s163.1).o 52 7 rfl), rfl, rfl⟩ (c_X7_multiply G X.2.1 M163 (q.sm s163.1) s163.2.1) (rm_ok hRm hd (by decide) (by decide)) ⟨Nat.zero_le _, Nat.zero_le _⟩ (Nat.le_of_ble_eq_true rfl) (fun r_ N_ p_ => ?_)
                obtain ⟨rfl, rfl, t195⟩ := p_
                refine (?_ : ∀ (M198 : Mem), (SK wg M M198) → f_X7_does M op f g t = f_X7_does_c198 t M198 → V G X 6 0 0 (Qx G X 0 0 (p_X7_does M op f g t)) 198 [(0, .ref 52), (1, .int op), (4, .int t)] [] M198) _ (SK.tr s163 t195) E
                intro M198 s198 E
                refine V.seg F floX7 cjoX7 [.goto 168] (by decide +kernel) (pc2 := 366) (lv2 := [(0, .ref 52), (1, .int op), (4, .int t)]) (st2 := []) (M2 := M198) rfl ⟨(by decide), trivial⟩ ?_
                refine V.pick [0, 2] rfl ?_
                exact hJ366 M198 s198 E
            · replace E := E.trans (if_neg h165)
              refine V.seg F floX7 cjoX7 [.aload_n 0, .bipush 16, .bipush 17, .iload_n 1, .iconst 1] (by decide +kernel) (pc2 := 175) (lv2 := [(0, .ref 52), (1, .int op), (4, .int t)]) (st2 := [.int 1, .int op, .int 17, .int 16, .ref 52]) (M2 := M163) rfl ⟨trivial, trivial, trivial, trivial, trivial, trivial⟩ ?_
              have hJ183 : ∀ (w0_183 : Int32) (M183 : Mem), (SK wg M M183) → (w0_183 = 0 ∨ w0_183 = 1) → f_X7_does M op f g t = f_X7_does_183 t w0_183 M183 → V G X 6 0 0 (Qx G X 0 0 (p_X7_does M op f g t)) 183 [(0, .ref 52), (4, .int t)] [.int w0_183, .int 17, .int 16, .ref 52] M183 := by
                intro w0_183 M183 s183 zw0_183 E
                refine V.callV (as := [.int 16, .int 17, .int w0_183]) (rest := []) F (by decide +kernel) lX7_187 bX7_add ⟨7, _, ((q.sm s183.1).o 52 7 rfl), rfl, rfl⟩ (c_X7_add G X.2.1 M183 16 17 w0_183 (zw0_183) (q.sm s183.1) s183.2.1 (vinc (by decide)) (vinc (by decide))) (rm_ok hRm hd (by decide) (by decide)) ⟨Nat.zero_le _, Nat.zero_le _⟩ (Nat.le_of_ble_eq_true rfl) (fun r_ N_ p_ => ?_)
                obtain ⟨rfl, rfl, t183⟩ := p_
                refine (?_ : ∀ (M186 : Mem), (SK wg M M186) → f_X7_does M op f g t = f_X7_does_c186 t M186 → V G X 6 0 0 (Qx G X 0 0 (p_X7_does M op f g t)) 186 [(0, .ref 52), (4, .int t)] [] M186) _ (SK.tr s183 t183) E
                intro M186 s186 E
                refine V.seg F floX7 cjoX7 [.goto 180] (by decide +kernel) (pc2 := 366) (lv2 := [(0, .ref 52), (4, .int t)]) (st2 := []) (M2 := M186) rfl ⟨(by decide), trivial⟩ ?_
                refine V.pick [0, 1] rfl ?_
                exact hJ366 M186 s186 E
              refine V.ic_ne (off := 7) F (by decide +kernel) (tgt := 182) (by decide) (fun h175 => ?_) (fun h175 => ?_)
              · replace E := E.trans (if_neg h175)
                refine V.seg F floX7 cjoX7 [.iconst 0] (by decide +kernel) (pc2 := 183) (lv2 := [(0, .ref 52), (1, .int op), (4, .int t)]) (st2 := [.int 0, .int 17, .int 16, .ref 52]) (M2 := M163) rfl ⟨trivial, trivial⟩ ?_
                refine V.pick [0, 2] rfl ?_
                exact hJ183 0 M163 s163 (Or.inl rfl) E
              · replace E := E.trans (if_pos h175)
                refine V.seg F floX7 cjoX7 [.iconst 1, .goto 4] (by decide +kernel) (pc2 := 183) (lv2 := [(0, .ref 52), (1, .int op), (4, .int t)]) (st2 := [.int 1, .int 17, .int 16, .ref 52]) (M2 := M163) rfl ⟨trivial, (by decide), trivial⟩ ?_
                refine V.pick [0, 2] rfl ?_
                exact hJ183 1 M163 s163 (Or.inr rfl) E
          refine V.if_eq (off := 8) F (by decide +kernel) (tgt := 153) (by decide) (fun h145 => ?_) (fun h145 => ?_)
          · replace E := E.trans (if_pos h145)
            refine V.seg F floX7 cjoX7 [.iload_n 3] (by decide +kernel) (pc2 := 154) (lv2 := [(0, .ref 52), (1, .int op), (2, .int f), (3, .int g), (4, .int t), (5, .int w0_16)]) (st2 := [.int g, .int 17, .ref 52]) (M2 := M140) rfl ⟨trivial, trivial⟩ ?_
            refine V.pick [0, 1, 4] rfl ?_
            exact hJ154 g M140 s140 (by first | exact i_g | exact vinc (by decide)) E
          · replace E := E.trans (if_neg h145)
            refine V.seg F floX7 cjoX7 [.bipush 24, .goto 4] (by decide +kernel) (pc2 := 154) (lv2 := [(0, .ref 52), (1, .int op), (2, .int f), (3, .int g), (4, .int t), (5, .int w0_16)]) (st2 := [.int 24, .int 17, .ref 52]) (M2 := M140) rfl ⟨trivial, (by decide), trivial⟩ ?_
            refine V.pick [0, 1, 4] rfl ?_
            exact hJ154 24 M140 s140 (by first | exact i_g | exact vinc (by decide)) E
        refine V.if_eq (off := 80) F (by decide +kernel) (tgt := 133) (by decide) (fun h53 => ?_) (fun h53 => ?_)
        · replace E := E.trans (if_pos h53)
          refine V.pick [0, 1, 2, 3, 4, 5] rfl ?_
          exact hJ133 M48 s48 E
        · replace E := E.trans (if_neg h53)
          refine V.seg F floX7 cjoX7 [.iload 5] (by decide +kernel) (pc2 := 58) (lv2 := [(0, .ref 52), (1, .int op), (2, .int f), (3, .int g), (4, .int t), (5, .int w0_16)]) (st2 := [.int w0_16]) (M2 := M48) rfl ⟨trivial, trivial⟩ ?_
          have hJ69 : ∀ (M69 : Mem), (SK wg M M69) → f_X7_does M op f g t = f_X7_does_69 op f g t w0_16 M69 → V G X 6 0 0 (Qx G X 0 0 (p_X7_does M op f g t)) 69 [(0, .ref 52), (1, .int op), (2, .int f), (3, .int g), (4, .int t), (5, .int w0_16)] [] M69 := by
            intro M69 s69 E
            refine V.seg F floX7 cjoX7 [.iload_n 1, .bipush 9] (by decide +kernel) (pc2 := 72) (lv2 := [(0, .ref 52), (1, .int op), (2, .int f), (3, .int g), (4, .int t), (5, .int w0_16)]) (st2 := [.int 9, .int op]) (M2 := M69) rfl ⟨trivial, trivial, trivial⟩ ?_
            have hJ132 : ∀ (M132 : Mem), (SK wg M M132) → f_X7_does M op f g t = f_X7_does_132 M132 → V G X 6 0 0 (Qx G X 0 0 (p_X7_does M op f g t)) 132 [] [] M132 := by
              intro M132 s132 E
              exact V.vret F (by decide +kernel) ⟨rfl, E.symm, s132⟩
            have hJ101 : ∀ (M101 : Mem), (SK wg M M101) → (op = 9 ∨ op = 10 → ¬ mL M101 54 (ix g) = 0) → f_X7_does M op f g t = f_X7_does_101 op f g t w0_16 M101 → V G X 6 0 0 (Qx G X 0 0 (p_X7_does M op f g t)) 101 [(0, .ref 52), (1, .int op), (2, .int f), (3, .int g), (4, .int t), (5, .int w0_16)] [] M101 := by
              intro M101 s101 jo101 E
              refine V.seg F floX7 cjoX7 [.aload_n 0, .iload 4, .iload_n 1, .aload_n 0, .getfield 13, .iload_n 2, .laload, .iload 5] (by decide +kernel) (pc2 := 113) (lv2 := [(0, .ref 52), (1, .int op), (2, .int f), (3, .int g), (4, .int t), (5, .int w0_16)]) (st2 := [.int w0_16, .long (mL M101 54 (ix f)), .int op, .int t, .ref 52]) (M2 := M101) rfl ⟨trivial, trivial, trivial, trivial, ((q.sm s101.1).f 52 7 1 rfl), trivial, ((q.sm s101.1).a 54 22 1648 rfl (by first | assumption | exact vinc (by decide))), trivial, trivial⟩ ?_
              have hJ126 : ∀ (w0_126 : Int64) (M126 : Mem), (SK wg M M126) → (op = 9 ∨ op = 10 → ¬ w0_126 = 0) → f_X7_does M op f g t = f_X7_does_126 op f t M101 w0_126 M126 → V G X 6 0 0 (Qx G X 0 0 (p_X7_does M op f g t)) 126 [] [.long w0_126, .long (mL M101 54 (ix f)), .int op, .int t, .ref 52] M126 := by
                intro w0_126 M126 s126 jo126 E
                refine V.callS (as := [.int op, .long (mL M101 54 (ix f)), .long w0_126]) (rest := [.int t, .ref 52]) F (by decide +kernel) lX7_183 bX7_reckon (c_X7_reckon G X.2.1 M126 op (mL M101 54 (ix f)) w0_126 (by first | assumption | decide)) (rm_ok hRm hd (by decide) (by decide)) ⟨Nat.zero_le _, Nat.zero_le _⟩ (Nat.le_of_ble_eq_true rfl) (fun r_ N_ p_ => ?_)
                obtain ⟨rfl, hN_⟩ := p_
                rw [hN_]
                clear hN_
                refine V.callV (as := [.int t, .long (f_X7_reckon op (mL M101 54 (ix f)) w0_126)]) (rest := []) F (by decide +kernel) lX7_118 bX7_number ⟨7, _, ((q.sm s126.1).o 52 7 rfl), rfl, rfl⟩ (c_X7_number G X.2.1 M126 t (f_X7_reckon op (mL M101 54 (ix f)) w0_126) (q.sm s126.1) s126.2.1 (by first | assumption | exact vinc (by decide))) (rm_ok hRm hd (by decide) (by decide)) ⟨Nat.zero_le _, Nat.zero_le _⟩ (Nat.le_of_ble_eq_true rfl) (fun r_ N_ p_ => ?_)
                obtain ⟨rfl, rfl, t129⟩ := p_
                refine (?_ : ∀ (M132 : Mem), (SK wg M M132) → f_X7_does M op f g t = f_X7_does_c132 M132 → V G X 6 0 0 (Qx G X 0 0 (p_X7_does M op f g t)) 132 [] [] M132) _ (SK.tr s126 t129) E
                intro M132 s132 E
                refine V.pick [] rfl ?_
                exact hJ132 M132 s132 E
              refine V.if_eq (off := 7) F (by decide +kernel) (tgt := 120) (by decide) (fun h113 => ?_) (fun h113 => ?_)
              · replace E := E.trans (if_pos h113)
                refine V.seg F floX7 cjoX7 [.aload_n 0, .getfield 13, .iload_n 3, .laload] (by decide +kernel) (pc2 := 126) (lv2 := [(0, .ref 52), (1, .int op), (2, .int f), (3, .int g), (4, .int t), (5, .int w0_16)]) (st2 := [.long (mL M101 54 (ix g)), .long (mL M101 54 (ix f)), .int op, .int t, .ref 52]) (M2 := M101) rfl ⟨trivial, ((q.sm s101.1).f 52 7 1 rfl), trivial, ((q.sm s101.1).a 54 22 1648 rfl (by first | assumption | exact vinc (by decide))), trivial⟩ ?_
                refine V.pick [] rfl ?_
                exact hJ126 (mL M101 54 (ix g)) M101 s101 (by first | exact jo101 | exact fun z => absurd z (jo16 h113)) E
              · replace E := E.trans (if_neg h113)
                refine V.seg F floX7 cjoX7 [.lconst 0, .goto 9] (by decide +kernel) (pc2 := 126) (lv2 := [(0, .ref 52), (1, .int op), (2, .int f), (3, .int g), (4, .int t), (5, .int w0_16)]) (st2 := [.long 0, .long (mL M101 54 (ix f)), .int op, .int t, .ref 52]) (M2 := M101) rfl ⟨trivial, (by decide), trivial⟩ ?_
                refine V.pick [] rfl ?_
                exact hJ126 0 M101 s101 (by first | exact jo101 | exact fun z => absurd z (jo16 h113)) E
            have hJ81 : ∀ (M81 : Mem), (SK wg M M81) → f_X7_does M op f g t = f_X7_does_81 op f g t w0_16 M81 → V G X 6 0 0 (Qx G X 0 0 (p_X7_does M op f g t)) 81 [(0, .ref 52), (1, .int op), (2, .int f), (3, .int g), (4, .int t), (5, .int w0_16)] [] M81 := by
              intro M81 s81 E
              refine V.seg F floX7 cjoX7 [.aload_n 0, .getfield 13, .iload_n 3, .laload, .lconst 0, .lcmp] (by decide +kernel) (pc2 := 89) (lv2 := [(0, .ref 52), (1, .int op), (2, .int f), (3, .int g), (4, .int t), (5, .int w0_16)]) (st2 := [.int (lg_cmp (mL M81 54 (ix g)) 0)]) (M2 := M81) rfl ⟨trivial, ((q.sm s81.1).f 52 7 1 rfl), trivial, ((q.sm s81.1).a 54 22 1648 rfl (by first | assumption | exact vinc (by decide))), trivial, trivial, trivial⟩ ?_
              refine V.lc_ne (off := 12) F (by decide +kernel) (tgt := 101) (by decide) (fun h89 => ?_) (fun h89 => ?_)
              · replace E := E.trans (if_neg h89)
                refine V.pick [0, 1, 2, 3, 4, 5] rfl ?_
                exact hJ101 M81 s81 (by first | exact fun _ => h89 | exact fun z => z.elim (fun y => absurd y h72) (fun y => absurd y h78)) E
              · replace E := E.trans (if_pos h89)
                refine V.seg F floX7 cjoX7 [.aload_n 0, .iload 4] (by decide +kernel) (pc2 := 95) (lv2 := [(0, .ref 52), (1, .int op), (2, .int f), (3, .int g), (4, .int t), (5, .int w0_16)]) (st2 := [.int t, .ref 52]) (M2 := M81) rfl ⟨trivial, trivial, trivial⟩ ?_
                refine V.callV (as := [.int t]) (rest := []) F (by decide +kernel) lX7_115 bX7_nothing ⟨7, _, ((q.sm s81.1).o 52 7 rfl), rfl, rfl⟩ (c_X7_nothing G X.2.1 M81 t (q.sm s81.1) s81.2.1 (by first | assumption | exact vinc (by decide))) (rm_ok hRm hd (by decide) (by decide)) ⟨Nat.zero_le _, Nat.zero_le _⟩ (Nat.le_of_ble_eq_true rfl) (fun r_ N_ p_ => ?_)
                obtain ⟨rfl, rfl, t95⟩ := p_
                refine (?_ : ∀ (M98 : Mem), (SK wg M M98) → f_X7_does M op f g t = f_X7_does_c98 M98 → V G X 6 0 0 (Qx G X 0 0 (p_X7_does M op f g t)) 98 [(0, .ref 52), (1, .int op), (2, .int f), (3, .int g), (4, .int t), (5, .int w0_16)] [] M98) _ (SK.tr s81 t95) E
                intro M98 s98 E
                refine V.seg F floX7 cjoX7 [.goto 34] (by decide +kernel) (pc2 := 132) (lv2 := [(0, .ref 52), (1, .int op), (2, .int f), (3, .int g), (4, .int t), (5, .int w0_16)]) (st2 := []) (M2 := M98) rfl ⟨(by decide), trivial⟩ ?_
                refine V.pick [] rfl ?_
                exact hJ132 M98 s98 E
            refine V.ic_eq (off := 9) F (by decide +kernel) (tgt := 81) (by decide) (fun h72 => ?_) (fun h72 => ?_)
            · replace E := E.trans (if_pos h72)
              refine V.pick [0, 1, 2, 3, 4, 5] rfl ?_
              exact hJ81 M69 s69 E
            · replace E := E.trans (if_neg h72)
              refine V.seg F floX7 cjoX7 [.iload_n 1, .bipush 10] (by decide +kernel) (pc2 := 78) (lv2 := [(0, .ref 52), (1, .int op), (2, .int f), (3, .int g), (4, .int t), (5, .int w0_16)]) (st2 := [.int 10, .int op]) (M2 := M69) rfl ⟨trivial, trivial, trivial⟩ ?_
              refine V.ic_ne (off := 23) F (by decide +kernel) (tgt := 101) (by decide) (fun h78 => ?_) (fun h78 => ?_)
              · replace E := E.trans (if_neg h78)
                refine V.pick [0, 1, 2, 3, 4, 5] rfl ?_
                exact hJ101 M69 s69 (by first | exact fun _ => h89 | exact fun z => z.elim (fun y => absurd y h72) (fun y => absurd y h78)) E
              · replace E := E.trans (if_pos h78)
                refine V.pick [0, 1, 2, 3, 4, 5] rfl ?_
                exact hJ81 M69 s69 E
          refine V.if_ne (off := 11) F (by decide +kernel) (tgt := 69) (by decide) (fun h58 => ?_) (fun h58 => ?_)
          · replace E := E.trans (if_neg h58)
            refine V.pick [0, 1, 2, 3, 4, 5] rfl ?_
            exact hJ69 M48 s48 E
          · replace E := E.trans (if_pos h58)
            refine V.seg F floX7 cjoX7 [.aload_n 0, .iload_n 3] (by decide +kernel) (pc2 := 63) (lv2 := [(0, .ref 52), (1, .int op), (2, .int f), (3, .int g), (4, .int t), (5, .int w0_16)]) (st2 := [.int g, .ref 52]) (M2 := M48) rfl ⟨trivial, trivial, trivial⟩ ?_
            refine V.callV (as := [.int g]) (rest := []) F (by decide +kernel) lX7_130 bX7_isNumber ⟨7, _, ((q.sm s48.1).o 52 7 rfl), rfl, rfl⟩ (c_X7_isNumber G X.2.1 M48 g (q.sm s48.1) s48.2.1 (by first | assumption | exact vinc (by decide))) (rm_ok hRm hd (by decide) (by decide)) ⟨Nat.zero_le _, Nat.zero_le _⟩ (Nat.le_of_ble_eq_true rfl) (fun r_ N_ p_ => ?_)
            obtain ⟨rfl, hN_, z63⟩ := p_
            rw [hN_]
            clear hN_
            refine V.if_eq (off := 67) F (by decide +kernel) (tgt := 133) (by decide) (fun h66 => ?_) (fun h66 => ?_)
            · replace E := E.trans (if_pos h66)
              refine V.pick [0, 1, 2, 3, 4, 5] rfl ?_
              exact hJ133 M48 s48 E
            · replace E := E.trans (if_neg h66)
              refine V.pick [0, 1, 2, 3, 4, 5] rfl ?_
              exact hJ69 M48 s48 E
      refine V.if_ne (off := 19) F (by decide +kernel) (tgt := 48) (by decide) (fun h29 => ?_) (fun h29 => ?_)
      · replace E := E.trans (if_neg h29)
        refine V.pick [1, 2, 3, 4, 5, 0] rfl ?_
        exact hJ48 M16 s16 E
      · replace E := E.trans (if_pos h29)
        refine V.seg F floX7 cjoX7 [.aload_n 0, .getfield 9, .iload_n 3, .baload] (by decide +kernel) (pc2 := 38) (lv2 := [(5, .int w0_16), (0, .ref 52), (1, .int op), (2, .int f), (3, .int g), (4, .int t)]) (st2 := [.int (mI M16 53 (ix g))]) (M2 := M16) rfl ⟨trivial, ((q.sm s16.1).f 52 7 0 rfl), trivial, ((q.sm s16.1).a 53 21 1648 rfl (by first | assumption | exact vinc (by decide))), trivial⟩ ?_
        refine V.if_eq (off := 10) F (by decide +kernel) (tgt := 48) (by decide) (fun h38 => ?_) (fun h38 => ?_)
        · replace E := E.trans (if_pos h38)
          refine V.pick [1, 2, 3, 4, 5, 0] rfl ?_
          exact hJ48 M16 s16 E
        · replace E := E.trans (if_neg h38)
          refine V.pick [1, 5] rfl ?_
          exact hJ41 M16 s16 E
  refine V.ic_le (off := 7) F (by decide +kernel) (tgt := 15) (by decide) (fun h8 => ?_) (fun h8 => ?_)
  · replace E := E.trans (if_pos h8)
    refine V.seg F floX7 cjoX7 [.iconst 0] (by decide +kernel) (pc2 := 16) (lv2 := [(0, .ref 52), (1, .int op), (2, .int f), (3, .int g), (4, .int t)]) (st2 := [.int 0]) (M2 := uI M 52 8 0) rfl ⟨trivial, trivial⟩ ?_
    refine V.pick [0, 1, 2, 3, 4] rfl ?_
    exact hJ16 0 (uI M 52 8 0) (SK.pI (SK.rf (w := wg) gb) rfl) (by first | exact fun _ => hop_gt h8 | exact fun z => absurd rfl z) E
  · replace E := E.trans (if_neg h8)
    refine V.seg F floX7 cjoX7 [.iconst 1, .goto 4] (by decide +kernel) (pc2 := 16) (lv2 := [(0, .ref 52), (1, .int op), (2, .int f), (3, .int g), (4, .int t)]) (st2 := [.int 1]) (M2 := uI M 52 8 0) rfl ⟨trivial, (by decide), trivial⟩ ?_
    refine V.pick [0, 1, 2, 3, 4] rfl ?_
    exact hJ16 1 (uI M 52 8 0) (SK.pI (SK.rf (w := wg) gb) rfl) (by first | exact fun _ => hop_gt h8 | exact fun z => absurd rfl z) E
