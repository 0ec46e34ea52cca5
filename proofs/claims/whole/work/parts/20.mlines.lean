theorem addN {a b : Int32} {i j : Nat} (h : a = nI i) (h2 : b = nI j) : a + b = nI (i + j) := by rw [h, h2, nI_add]
theorem mulN {a b : Int32} {i j : Nat} (h : a = nI i) (h2 : b = nI j) : a * b = nI (i * j) := by rw [h, h2, pk_mul]
theorem vpn {x : Int32} {k n : Nat} (h : x = nI k) (hk : k < n) (hn : n < 2 ^ 31) : vp_in x n := by rw [h]; exact vp_in_nI hk hn
def f_X7_cell (m : Int32) (ln : Int32) (p : Int32) : Int32 := (112 + (8 * ((32 * m) + ln))) + p
abbrev p_X7_cell (M : Mem) (m : Int32) (ln : Int32) (p : Int32) : Option Value → Mem → Prop := fun r N => r = some (.int (f_X7_cell m ln p)) ∧ N = M
set_option maxRecDepth 100000 in
set_option maxHeartbeats 4000000 in
theorem c_X7_cell (G : Ctx) (l : Launch) (M : Mem) (m : Int32) (ln : Int32) (p : Int32) (q : Ok M) (gb : Gb M) : CT G l 0 mX7_cell [.ref 52, .int m, .int ln, .int p] M 0 0 (p_X7_cell M m ln p) := by
  refine CT.of (by decide) (Nat.le_of_ble_eq_true rfl) ?_
  intro X d hd hl hRm hnm F
  subst hl
  have E : f_X7_cell m ln p = f_X7_cell m ln p := rfl
  show V G X 4 0 0 (Qx G X 0 0 (p_X7_cell M m ln p)) 0 [(0, .ref 52), (1, .int m), (2, .int ln), (3, .int p)] [] M
  refine V.seg F floX7 cjoX7 [.bipush 112, .bipush 8, .bipush 32, .iload_n 1, .imul, .iload_n 2, .iadd, .imul, .iadd, .iload_n 3, .iadd] (by decide +kernel) (pc2 := 14) (lv2 := [(0, .ref 52), (1, .int m), (2, .int ln), (3, .int p)]) (st2 := [.int ((112 + (8 * ((32 * m) + ln))) + p)]) (M2 := M) rfl ⟨trivial, trivial, trivial, trivial, trivial, trivial, trivial, trivial, trivial, trivial, trivial, trivial⟩ ?_
  exact V.iret F (by decide +kernel) ⟨congrArg (fun z => some (Value.int z)) E.symm, rfl⟩
theorem cell_in {m l p : Int32} (hm : vp_in m 6) (hl : vp_in l 32) (hp : vp_in p 8) : vp_in (f_X7_cell m l p) 1648 := by
  obtain ⟨a, ha, rfl⟩ := vp_in_of hm (by decide)
  obtain ⟨b, hb, rfl⟩ := vp_in_of hl (by decide)
  obtain ⟨c, hc, rfl⟩ := vp_in_of hp (by decide)
  exact vpn (k := 112 + 8 * (32 * a + b) + c) (addN (addN (rfl : (112 : Int32) = nI 112) (mulN (rfl : (8 : Int32) = nI 8) (addN (mulN (rfl : (32 : Int32) = nI 32) rfl) rfl))) rfl) (by omega) (by decide)
theorem rl_in {m l : Int32} (hm : vp_in m 6) (hl : vp_in l 32) : vp_in (32 * m + l) 192 := by
  obtain ⟨a, ha, rfl⟩ := vp_in_of hm (by decide)
  obtain ⟨b, hb, rfl⟩ := vp_in_of hl (by decide)
  exact vpn (k := 32 * a + b) (addN (mulN (rfl : (32 : Int32) = nI 32) rfl) rfl) (by omega) (by decide)
theorem lp_in {l p : Int32} (hl : vp_in l 32) (hp : vp_in p 8) : vp_in (8 * l + p) 256 := by
  obtain ⟨a, ha, rfl⟩ := vp_in_of hl (by decide)
  obtain ⟨b, hb, rfl⟩ := vp_in_of hp (by decide)
  exact vpn (k := 8 * a + b) (addN (mulN (rfl : (8 : Int32) = nI 8) rfl) rfl) (by omega) (by decide)
theorem tb_in {l p : Int32} (hl : vp_in l 4) (hp : vp_in p 16) : vp_in (16 * l + p) 64 := by
  obtain ⟨a, ha, rfl⟩ := vp_in_of hl (by decide)
  obtain ⟨b, hb, rfl⟩ := vp_in_of hp (by decide)
  exact vpn (k := 16 * a + b) (addN (mulN (rfl : (16 : Int32) = nI 16) rfl) rfl) (by omega) (by decide)
theorem v48 {b : Int32} (h : vp_in b 8) : vp_in (48 + b) 1648 := by
  obtain ⟨j, hj, rfl⟩ := vp_in_of h (by decide)
  exact vpn (addN (i := 48) rfl rfl) (by omega) (by decide)
theorem v40 {b : Int32} (h : vp_in b 8) : vp_in (40 + b) 1648 := by
  obtain ⟨j, hj, rfl⟩ := vp_in_of h (by decide)
  exact vpn (addN (i := 40) rfl rfl) (by omega) (by decide)
def f_X7_ready_c20 (j2 : Nat) (R2_ : Nat → Mem → Mem) (M20 : Mem) : Mem := R2_ (j2 + 1) M20
def f_X7_ready_2  : Nat → Nat → Mem → Mem
  | 0, _, M2 => M2
  | n_ + 1, j2, M2 => if 8 ≤ (nI j2) then M2 else f_X7_ready_c20 j2 (f_X7_ready_2 n_) (f_X7_copy M2 (48 + (nI j2)) (40 + (nI j2)))
def f_X7_ready (M : Mem) : Mem := f_X7_ready_2  9 0 M
abbrev p_X7_ready (M : Mem) : Option Value → Mem → Prop := fun r N => r = none ∧ N = f_X7_ready M ∧ SK wg M N
set_option maxRecDepth 100000 in
set_option maxHeartbeats 4000000 in
theorem c_X7_ready (G : Ctx) (l : Launch) (M : Mem) (q : Ok M) (gb : Gb M) : CT G l 1 mX7_ready [.ref 52] M 0 0 (p_X7_ready M) := by
  refine CT.of (by decide) (Nat.le_of_ble_eq_true rfl) ?_
  intro X d hd hl hRm hnm F
  subst hl
  have E : f_X7_ready M = f_X7_ready M := rfl
  show V G X 2 0 0 (Qx G X 0 0 (p_X7_ready M)) 0 [(0, .ref 52)] [] M
  refine V.seg F floX7 cjoX7 [.iconst 0] (by decide +kernel) (pc2 := 1) (lv2 := [(0, .ref 52)]) (st2 := [.int 0]) (M2 := M) rfl ⟨trivial, trivial⟩ ?_
  refine V.seg F floX7 cjoX7 [.istore_n 1] (by decide +kernel) (pc2 := 2) (lv2 := [(1, .int 0), (0, .ref 52)]) (st2 := []) (M2 := M) rfl ⟨(by decide), trivial⟩ ?_
  have hJ2 : ∀ (n_ : Nat) (j2 : Nat) (M2 : Mem), (SK wg M M2) → (j2 ≤ 8) → (8 - j2 < n_) → f_X7_ready M = f_X7_ready_2 n_ j2 M2 → V G X 2 0 0 (Qx G X 0 0 (p_X7_ready M)) 2 [(0, .ref 52), (1, .int (nI j2))] [] M2 := by
    intro n_
    induction n_ with
    | zero => intro j2 M2 s2 b2 m2 E; omega
    | succ n_ ih_2 =>
      intro j2 M2 s2 b2 m2 E
      rw [f_X7_ready_2] at E
      refine V.seg F floX7 cjoX7 [.iload_n 1, .bipush 8] (by decide +kernel) (pc2 := 5) (lv2 := [(0, .ref 52), (1, .int (nI j2))]) (st2 := [.int 8, .int (nI j2)]) (M2 := M2) rfl ⟨trivial, trivial, trivial⟩ ?_
      refine V.ic_ge (off := 21) F (by decide +kernel) (tgt := 26) (by decide) (fun h5 => ?_) (fun h5 => ?_)
      · replace E := E.trans (if_pos h5)
        exact V.vret F (by decide +kernel) ⟨rfl, E.symm, s2⟩
      · replace E := E.trans (if_neg h5)
        refine V.seg F floX7 cjoX7 [.aload_n 0, .bipush 48, .iload_n 1, .iadd, .bipush 40, .iload_n 1, .iadd] (by decide +kernel) (pc2 := 17) (lv2 := [(0, .ref 52), (1, .int (nI j2))]) (st2 := [.int (40 + (nI j2)), .int (48 + (nI j2)), .ref 52]) (M2 := M2) rfl ⟨trivial, trivial, trivial, trivial, trivial, trivial, trivial, trivial⟩ ?_
        refine V.callV (as := [.int (48 + (nI j2)), .int (40 + (nI j2))]) (rest := []) F (by decide +kernel) lX7_133 bX7_copy ⟨7, _, ((q.sm s2.1).o 52 7 rfl), rfl, rfl⟩ (c_X7_copy G X.2.1 M2 (48 + (nI j2)) (40 + (nI j2)) (q.sm s2.1) s2.2.1 (v48 (vnj (cnt_lt (n := 8) h5 rfl (by omega) (by decide)) (by decide) (by decide))) (v40 (vnj (cnt_lt (n := 8) h5 rfl (by omega) (by decide)) (by decide) (by decide)))) (rm_ok hRm hd (by decide) (by decide)) ⟨Nat.zero_le _, Nat.zero_le _⟩ (Nat.le_of_ble_eq_true rfl) (fun r_ N_ p_ => ?_)
        obtain ⟨rfl, rfl, t17⟩ := p_
        refine (?_ : ∀ (M20 : Mem), (SK wg M M20) → f_X7_ready M = f_X7_ready_c20 j2 (f_X7_ready_2 n_) M20 → V G X 2 0 0 (Qx G X 0 0 (p_X7_ready M)) 20 [(0, .ref 52), (1, .int (nI j2))] [] M20) _ (SK.tr s2 t17) E
        intro M20 s20 E
        refine V.seg F floX7 cjoX7 [.iinc 1 1, .goto (-21)] (by decide +kernel) (pc2 := 2) (lv2 := [(1, .int ((nI j2) + 1)), (0, .ref 52)]) (st2 := []) (M2 := M20) rfl ⟨(by decide), (by decide), trivial⟩ ?_
        refine V.pick [1, 0] rfl ?_
        rw [nI_1]
        exact ih_2 (j2 + 1) M20 s20 (by have hlt_ := cnt_lt (n := 8) h5 rfl (by omega) (by decide); omega) (by have hlt_ := cnt_lt (n := 8) h5 rfl (by omega) (by decide); omega) E
  refine V.pick [1, 0] rfl ?_
  exact hJ2 _ 0 M (SK.rf (w := wg) gb) (by omega) (by omega) E
def f_X7_numbers_33 (y3_5 : Int32) (j5 : Nat) (R5_ : Int32 → Nat → Int32) (w0_33 : Int32) : Int32 := R5_ (y3_5 + w0_33) (j5 + 1)
def f_X7_numbers_5 (m : Int32) (ln : Int32) (M : Mem) : Nat → Int32 → Nat → Int32
  | 0, _, _ => 0
  | n_ + 1, y3_5, j5 => if 8 ≤ (nI j5) then y3_5 else if (f_X7_isNumber M (f_X7_cell m ln (nI j5))) = 0 then f_X7_numbers_33 y3_5 j5 (f_X7_numbers_5 m ln M n_) 0 else f_X7_numbers_33 y3_5 j5 (f_X7_numbers_5 m ln M n_) 1
def f_X7_numbers (M : Mem) (m : Int32) (ln : Int32) : Int32 := f_X7_numbers_5 m ln M 9 0 0
abbrev p_X7_numbers (M : Mem) (m : Int32) (ln : Int32) : Option Value → Mem → Prop := fun r N => r = some (.int (f_X7_numbers M m ln)) ∧ N = M
set_option maxRecDepth 100000 in
set_option maxHeartbeats 4000000 in
theorem c_X7_numbers (G : Ctx) (l : Launch) (M : Mem) (m : Int32) (ln : Int32) (q : Ok M) (gb : Gb M) (i_m : vp_in m 6) (i_ln : vp_in ln 32) : CT G l 1 mX7_numbers [.ref 52, .int m, .int ln] M 0 0 (p_X7_numbers M m ln) := by
  refine CT.of (by decide) (Nat.le_of_ble_eq_true rfl) ?_
  intro X d hd hl hRm hnm F
  subst hl
  have E : f_X7_numbers M m ln = f_X7_numbers M m ln := rfl
  show V G X 5 0 0 (Qx G X 0 0 (p_X7_numbers M m ln)) 0 [(0, .ref 52), (1, .int m), (2, .int ln)] [] M
  refine V.seg F floX7 cjoX7 [.iconst 0, .istore_n 3, .iconst 0] (by decide +kernel) (pc2 := 3) (lv2 := [(3, .int 0), (0, .ref 52), (1, .int m), (2, .int ln)]) (st2 := [.int 0]) (M2 := M) rfl ⟨trivial, (by decide), trivial, trivial⟩ ?_
  refine V.seg F floX7 cjoX7 [.istore 4] (by decide +kernel) (pc2 := 5) (lv2 := [(4, .int 0), (3, .int 0), (0, .ref 52), (1, .int m), (2, .int ln)]) (st2 := []) (M2 := M) rfl ⟨(by decide), trivial⟩ ?_
  have hJ5 : ∀ (n_ : Nat) (y3_5 : Int32) (j5 : Nat), (j5 ≤ 8) → (8 - j5 < n_) → f_X7_numbers M m ln = f_X7_numbers_5 m ln M n_ y3_5 j5 → V G X 5 0 0 (Qx G X 0 0 (p_X7_numbers M m ln)) 5 [(0, .ref 52), (1, .int m), (2, .int ln), (3, .int y3_5), (4, .int (nI j5))] [] M := by
    intro n_
    induction n_ with
    | zero => intro y3_5 j5 b5 m5 E; omega
    | succ n_ ih_5 =>
      intro y3_5 j5 b5 m5 E
      rw [f_X7_numbers_5] at E
      refine V.seg F floX7 cjoX7 [.iload 4, .bipush 8] (by decide +kernel) (pc2 := 9) (lv2 := [(0, .ref 52), (1, .int m), (2, .int ln), (3, .int y3_5), (4, .int (nI j5))]) (st2 := [.int 8, .int (nI j5)]) (M2 := M) rfl ⟨trivial, trivial, trivial⟩ ?_
      refine V.ic_ge (off := 32) F (by decide +kernel) (tgt := 41) (by decide) (fun h9 => ?_) (fun h9 => ?_)
      · replace E := E.trans (if_pos h9)
        refine V.seg F floX7 cjoX7 [.iload_n 3] (by decide +kernel) (pc2 := 42) (lv2 := [(0, .ref 52), (1, .int m), (2, .int ln), (3, .int y3_5), (4, .int (nI j5))]) (st2 := [.int y3_5]) (M2 := M) rfl ⟨trivial, trivial⟩ ?_
        exact V.iret F (by decide +kernel) ⟨congrArg (fun z => some (Value.int z)) E.symm, rfl⟩
      · replace E := E.trans (if_neg h9)
        refine V.seg F floX7 cjoX7 [.iload_n 3, .aload_n 0, .aload_n 0, .iload_n 1, .iload_n 2, .iload 4] (by decide +kernel) (pc2 := 19) (lv2 := [(0, .ref 52), (1, .int m), (2, .int ln), (3, .int y3_5), (4, .int (nI j5))]) (st2 := [.int (nI j5), .int ln, .int m, .ref 52, .ref 52, .int y3_5]) (M2 := M) rfl ⟨trivial, trivial, trivial, trivial, trivial, trivial, trivial⟩ ?_
        refine V.callV (as := [.int m, .int ln, .int (nI j5)]) (rest := [.ref 52, .int y3_5]) F (by decide +kernel) lX7_276 bX7_cell ⟨7, _, (q.o 52 7 rfl), rfl, rfl⟩ (c_X7_cell G X.2.1 M m ln (nI j5) q gb) (rm_ok hRm hd (by decide) (by decide)) ⟨Nat.zero_le _, Nat.zero_le _⟩ (Nat.le_of_ble_eq_true rfl) (fun r_ N_ p_ => ?_)
        obtain ⟨rfl, hN_⟩ := p_
        rw [hN_]
        clear hN_
        refine V.callV (as := [.int (f_X7_cell m ln (nI j5))]) (rest := [.int y3_5]) F (by decide +kernel) lX7_130 bX7_isNumber ⟨7, _, (q.o 52 7 rfl), rfl, rfl⟩ (c_X7_isNumber G X.2.1 M (f_X7_cell m ln (nI j5)) q gb (cell_in i_m i_ln (vnj (cnt_lt (n := 8) h9 rfl (by omega) (by decide)) (by decide) (by decide)))) (rm_ok hRm hd (by decide) (by decide)) ⟨Nat.zero_le _, Nat.zero_le _⟩ (Nat.le_of_ble_eq_true rfl) (fun r_ N_ p_ => ?_)
        obtain ⟨rfl, hN_, z22⟩ := p_
        rw [hN_]
        clear hN_
        have hJ33 : ∀ (w0_33 : Int32), f_X7_numbers M m ln = f_X7_numbers_33 y3_5 j5 (f_X7_numbers_5 m ln M n_) w0_33 → V G X 5 0 0 (Qx G X 0 0 (p_X7_numbers M m ln)) 33 [(0, .ref 52), (1, .int m), (2, .int ln), (4, .int (nI j5))] [.int w0_33, .int y3_5] M := by
          intro w0_33 E
          refine V.seg F floX7 cjoX7 [.iadd, .istore_n 3, .iinc 4 1, .goto (-33)] (by decide +kernel) (pc2 := 5) (lv2 := [(4, .int ((nI j5) + 1)), (3, .int (y3_5 + w0_33)), (0, .ref 52), (1, .int m), (2, .int ln)]) (st2 := []) (M2 := M) rfl ⟨trivial, (by decide), (by decide), (by decide), trivial⟩ ?_
          refine V.pick [2, 3, 4, 1, 0] rfl ?_
          rw [nI_1]
          exact ih_5 (y3_5 + w0_33) (j5 + 1) (by have hlt_ := cnt_lt (n := 8) h9 rfl (by omega) (by decide); omega) (by have hlt_ := cnt_lt (n := 8) h9 rfl (by omega) (by decide); omega) E
        refine V.if_eq (off := 7) F (by decide +kernel) (tgt := 32) (by decide) (fun h25 => ?_) (fun h25 => ?_)
        · replace E := E.trans (if_pos h25)
          refine V.seg F floX7 cjoX7 [.iconst 0] (by decide +kernel) (pc2 := 33) (lv2 := [(0, .ref 52), (1, .int m), (2, .int ln), (3, .int y3_5), (4, .int (nI j5))]) (st2 := [.int 0, .int y3_5]) (M2 := M) rfl ⟨trivial, trivial⟩ ?_
          refine V.pick [0, 1, 2, 4] rfl ?_
          exact hJ33 0  E
        · replace E := E.trans (if_neg h25)
          refine V.seg F floX7 cjoX7 [.iconst 1, .goto 4] (by decide +kernel) (pc2 := 33) (lv2 := [(0, .ref 52), (1, .int m), (2, .int ln), (3, .int y3_5), (4, .int (nI j5))]) (st2 := [.int 1, .int y3_5]) (M2 := M) rfl ⟨trivial, (by decide), trivial⟩ ?_
          refine V.pick [0, 1, 2, 4] rfl ?_
          exact hJ33 1  E
  refine V.pick [2, 3, 4, 1, 0] rfl ?_
  exact hJ5 _ 0 0 (by omega) (by omega) E
def f_X7_apart_c106  (M106 : Mem) : Mem := M106
def f_X7_apart_99 (t : Int32) (M6 : Mem) (w0_73 : Int64) (M73 : Mem) (w0_99 : Int64) (M99 : Mem) : Mem := f_X7_apart_c106 (f_X7_sharpen (uL M99 55 (ix t) ((mL (uL M73 54 (ix t) ((mL M6 54 (ix t)) + w0_73)) 55 (ix t)) - w0_99)) t)
def f_X7_apart_73 (f : Int32) (g : Int32) (t : Int32) (M6 : Mem) (w0_73 : Int64) (M73 : Mem) : Mem := if (mL (uL M73 54 (ix t) ((mL M6 54 (ix t)) + w0_73)) 55 (ix f)) = (mL M6 54 (ix g)) then f_X7_apart_99 t M6 w0_73 M73 1 (uL M73 54 (ix t) ((mL M6 54 (ix t)) + w0_73)) else f_X7_apart_99 t M6 w0_73 M73 0 (uL M73 54 (ix t) ((mL M6 54 (ix t)) + w0_73))
def f_X7_apart_48  (M48 : Mem) : Mem := M48
def f_X7_apart_c48  (M48 : Mem) : Mem := f_X7_apart_48 M48
def f_X7_apart_c6 (f : Int32) (g : Int32) (t : Int32) (M6 : Mem) : Mem := if (f_X7_isNumber M6 g) = 0 then M6 else if (f_X7_isNumber M6 f) = 0 then if (mL M6 54 (ix f)) = (mL M6 54 (ix g)) then f_X7_apart_73 f g t M6 1 M6 else f_X7_apart_73 f g t M6 0 M6 else if (mL M6 54 (ix f)) = (mL M6 54 (ix g)) then f_X7_apart_c48 (f_X7_nothing M6 t) else f_X7_apart_48 M6
def f_X7_apart (M : Mem) (f : Int32) (g : Int32) (t : Int32) : Mem := f_X7_apart_c6 f g t (f_X7_copy M t f)
abbrev p_X7_apart (M : Mem) (f : Int32) (g : Int32) (t : Int32) : Option Value → Mem → Prop := fun r N => r = none ∧ N = f_X7_apart M f g t ∧ SK wg M N
set_option maxRecDepth 100000 in
set_option maxHeartbeats 4000000 in
theorem c_X7_apart (G : Ctx) (l : Launch) (M : Mem) (f : Int32) (g : Int32) (t : Int32) (q : Ok M) (gb : Gb M) (i_f : vp_in f 1648) (i_g : vp_in g 1648) (i_t : vp_in t 1648) : CT G l 4 mX7_apart [.ref 52, .int f, .int g, .int t] M 0 0 (p_X7_apart M f g t) := by
  refine CT.of (by decide) (Nat.le_of_ble_eq_true rfl) ?_
  intro X d hd hl hRm hnm F
  subst hl
  have E : f_X7_apart M f g t = f_X7_apart M f g t := rfl
  show V G X 6 0 0 (Qx G X 0 0 (p_X7_apart M f g t)) 0 [(0, .ref 52), (1, .int f), (2, .int g), (3, .int t)] [] M
  refine V.seg F floX7 cjoX7 [.aload_n 0, .iload_n 3, .iload_n 1] (by decide +kernel) (pc2 := 3) (lv2 := [(0, .ref 52), (1, .int f), (2, .int g), (3, .int t)]) (st2 := [.int f, .int t, .ref 52]) (M2 := M) rfl ⟨trivial, trivial, trivial, trivial⟩ ?_
  refine V.callV (as := [.int t, .int f]) (rest := []) F (by decide +kernel) lX7_133 bX7_copy ⟨7, _, (q.o 52 7 rfl), rfl, rfl⟩ (c_X7_copy G X.2.1 M t f q gb (by first | assumption | exact vinc (by decide)) (by first | assumption | exact vinc (by decide))) (rm_ok hRm hd (by decide) (by decide)) ⟨Nat.zero_le _, Nat.zero_le _⟩ (Nat.le_of_ble_eq_true rfl) (fun r_ N_ p_ => ?_)
  obtain ⟨rfl, rfl, t3⟩ := p_
  refine (?_ : ∀ (M6 : Mem), (SK wg M M6) → f_X7_apart M f g t = f_X7_apart_c6 f g t M6 → V G X 6 0 0 (Qx G X 0 0 (p_X7_apart M f g t)) 6 [(0, .ref 52), (1, .int f), (2, .int g), (3, .int t)] [] M6) _ t3 E
  intro M6 s6 E
  refine V.seg F floX7 cjoX7 [.aload_n 0, .iload_n 2] (by decide +kernel) (pc2 := 8) (lv2 := [(0, .ref 52), (1, .int f), (2, .int g), (3, .int t)]) (st2 := [.int g, .ref 52]) (M2 := M6) rfl ⟨trivial, trivial, trivial⟩ ?_
  refine V.callV (as := [.int g]) (rest := []) F (by decide +kernel) lX7_130 bX7_isNumber ⟨7, _, ((q.sm s6.1).o 52 7 rfl), rfl, rfl⟩ (c_X7_isNumber G X.2.1 M6 g (q.sm s6.1) s6.2.1 (by first | assumption | exact vinc (by decide))) (rm_ok hRm hd (by decide) (by decide)) ⟨Nat.zero_le _, Nat.zero_le _⟩ (Nat.le_of_ble_eq_true rfl) (fun r_ N_ p_ => ?_)
  obtain ⟨rfl, hN_, z8⟩ := p_
  rw [hN_]
  clear hN_
  refine V.if_ne (off := 4) F (by decide +kernel) (tgt := 15) (by decide) (fun h11 => ?_) (fun h11 => ?_)
  · replace E := E.trans (if_neg h11)
    refine V.seg F floX7 cjoX7 [.aload_n 0, .getfield 13, .iload_n 2, .laload, .lstore 4, .aload_n 0, .iload_n 1] (by decide +kernel) (pc2 := 25) (lv2 := [(4, .long (mL M6 54 (ix g))), (0, .ref 52), (1, .int f), (2, .int g), (3, .int t)]) (st2 := [.int f, .ref 52]) (M2 := M6) rfl ⟨trivial, ((q.sm s6.1).f 52 7 1 rfl), trivial, ((q.sm s6.1).a 54 22 1648 rfl (by first | assumption | exact vinc (by decide))), (by decide), trivial, trivial, trivial⟩ ?_
    refine V.callV (as := [.int f]) (rest := []) F (by decide +kernel) lX7_130 bX7_isNumber ⟨7, _, ((q.sm s6.1).o 52 7 rfl), rfl, rfl⟩ (c_X7_isNumber G X.2.1 M6 f (q.sm s6.1) s6.2.1 (by first | assumption | exact vinc (by decide))) (rm_ok hRm hd (by decide) (by decide)) ⟨Nat.zero_le _, Nat.zero_le _⟩ (Nat.le_of_ble_eq_true rfl) (fun r_ N_ p_ => ?_)
    obtain ⟨rfl, hN_, z25⟩ := p_
    rw [hN_]
    clear hN_
    refine V.if_eq (off := 21) F (by decide +kernel) (tgt := 49) (by decide) (fun h28 => ?_) (fun h28 => ?_)
    · replace E := E.trans (if_pos h28)
      refine V.seg F floX7 cjoX7 [.aload_n 0, .getfield 13, .iload_n 3, .dup2, .laload, .aload_n 0, .getfield 13, .iload_n 1, .laload, .lload 4, .lcmp] (by decide +kernel) (pc2 := 65) (lv2 := [(4, .long (mL M6 54 (ix g))), (0, .ref 52), (1, .int f), (2, .int g), (3, .int t)]) (st2 := [.int (lg_cmp (mL M6 54 (ix f)) (mL M6 54 (ix g))), .long (mL M6 54 (ix t)), .int t, .ref 54]) (M2 := M6) rfl ⟨trivial, ((q.sm s6.1).f 52 7 1 rfl), trivial, trivial, ((q.sm s6.1).a 54 22 1648 rfl (by first | assumption | exact vinc (by decide))), trivial, ((q.sm s6.1).f 52 7 1 rfl), trivial, ((q.sm s6.1).a 54 22 1648 rfl (by first | assumption | exact vinc (by decide))), trivial, trivial, trivial⟩ ?_
      have hJ73 : ∀ (w0_73 : Int64) (M73 : Mem), (SK wg M M73) → f_X7_apart M f g t = f_X7_apart_73 f g t M6 w0_73 M73 → V G X 6 0 0 (Qx G X 0 0 (p_X7_apart M f g t)) 73 [(0, .ref 52), (1, .int f), (3, .int t), (4, .long (mL M6 54 (ix g)))] [.long w0_73, .long (mL M6 54 (ix t)), .int t, .ref 54] M73 := by
        intro w0_73 M73 s73 E
        refine V.seg F floX7 cjoX7 [.ladd, .lastore, .aload_n 0, .getfield 17, .iload_n 3, .dup2, .laload, .aload_n 0, .getfield 17, .iload_n 1, .laload, .lload 4, .lcmp] (by decide +kernel) (pc2 := 91) (lv2 := [(0, .ref 52), (1, .int f), (3, .int t), (4, .long (mL M6 54 (ix g)))]) (st2 := [.int (lg_cmp (mL (uL M73 54 (ix t) ((mL M6 54 (ix t)) + w0_73)) 55 (ix f)) (mL M6 54 (ix g))), .long (mL (uL M73 54 (ix t) ((mL M6 54 (ix t)) + w0_73)) 55 (ix t)), .int t, .ref 55]) (M2 := uL M73 54 (ix t) ((mL M6 54 (ix t)) + w0_73)) rfl ⟨trivial, ((q.sm s73.1).a 54 22 1648 rfl (by first | assumption | exact vinc (by decide))), trivial, ((q.sm (SK.pL s73 rfl (by decide)).1).f 52 7 2 rfl), trivial, trivial, ((q.sm (SK.pL s73 rfl (by decide)).1).a 55 22 1648 rfl (by first | assumption | exact vinc (by decide))), trivial, ((q.sm (SK.pL s73 rfl (by decide)).1).f 52 7 2 rfl), trivial, ((q.sm (SK.pL s73 rfl (by decide)).1).a 55 22 1648 rfl (by first | assumption | exact vinc (by decide))), trivial, trivial, trivial⟩ ?_
        have hJ99 : ∀ (w0_99 : Int64) (M99 : Mem), (SK wg M M99) → f_X7_apart M f g t = f_X7_apart_99 t M6 w0_73 M73 w0_99 M99 → V G X 6 0 0 (Qx G X 0 0 (p_X7_apart M f g t)) 99 [(0, .ref 52), (3, .int t)] [.long w0_99, .long (mL (uL M73 54 (ix t) ((mL M6 54 (ix t)) + w0_73)) 55 (ix t)), .int t, .ref 55] M99 := by
          intro w0_99 M99 s99 E
          refine V.seg F floX7 cjoX7 [.lsub, .lastore, .aload_n 0, .iload_n 3] (by decide +kernel) (pc2 := 103) (lv2 := [(0, .ref 52), (3, .int t)]) (st2 := [.int t, .ref 52]) (M2 := uL M99 55 (ix t) ((mL (uL M73 54 (ix t) ((mL M6 54 (ix t)) + w0_73)) 55 (ix t)) - w0_99)) rfl ⟨trivial, ((q.sm s99.1).a 55 22 1648 rfl (by first | assumption | exact vinc (by decide))), trivial, trivial, trivial⟩ ?_
          refine V.callV (as := [.int t]) (rest := []) F (by decide +kernel) lX7_165 bX7_sharpen ⟨7, _, ((q.sm (SK.pL s99 rfl (by decide)).1).o 52 7 rfl), rfl, rfl⟩ (c_X7_sharpen G X.2.1 (uL M99 55 (ix t) ((mL (uL M73 54 (ix t) ((mL M6 54 (ix t)) + w0_73)) 55 (ix t)) - w0_99)) t (q.sm (SK.pL s99 rfl (by decide)).1) (SK.pL s99 rfl (by decide)).2.1 (by first | assumption | exact vinc (by decide))) (rm_ok hRm hd (by decide) (by decide)) ⟨Nat.zero_le _, Nat.zero_le _⟩ (Nat.le_of_ble_eq_true rfl) (fun r_ N_ p_ => ?_)
          obtain ⟨rfl, rfl, t103⟩ := p_
          refine (?_ : ∀ (M106 : Mem), (SK wg M M106) → f_X7_apart M f g t = f_X7_apart_c106 M106 → V G X 6 0 0 (Qx G X 0 0 (p_X7_apart M f g t)) 106 [(0, .ref 52), (3, .int t)] [] M106) _ (SK.tr (SK.pL s99 rfl (by decide)) t103) E
          intro M106 s106 E
          exact V.vret F (by decide +kernel) ⟨rfl, E.symm, s106⟩
        refine V.lc_ne (off := 7) F (by decide +kernel) (tgt := 98) (by decide) (fun h91 => ?_) (fun h91 => ?_)
        · replace E := E.trans (if_neg h91)
          refine V.seg F floX7 cjoX7 [.lconst 0] (by decide +kernel) (pc2 := 99) (lv2 := [(0, .ref 52), (1, .int f), (3, .int t), (4, .long (mL M6 54 (ix g)))]) (st2 := [.long 0, .long (mL (uL M73 54 (ix t) ((mL M6 54 (ix t)) + w0_73)) 55 (ix t)), .int t, .ref 55]) (M2 := uL M73 54 (ix t) ((mL M6 54 (ix t)) + w0_73)) rfl ⟨trivial, trivial⟩ ?_
          refine V.pick [0, 2] rfl ?_
          exact hJ99 0 (uL M73 54 (ix t) ((mL M6 54 (ix t)) + w0_73)) (SK.pL s73 rfl (by decide)) E
        · replace E := E.trans (if_pos h91)
          refine V.seg F floX7 cjoX7 [.lconst 1, .goto 4] (by decide +kernel) (pc2 := 99) (lv2 := [(0, .ref 52), (1, .int f), (3, .int t), (4, .long (mL M6 54 (ix g)))]) (st2 := [.long 1, .long (mL (uL M73 54 (ix t) ((mL M6 54 (ix t)) + w0_73)) 55 (ix t)), .int t, .ref 55]) (M2 := uL M73 54 (ix t) ((mL M6 54 (ix t)) + w0_73)) rfl ⟨trivial, (by decide), trivial⟩ ?_
          refine V.pick [0, 2] rfl ?_
          exact hJ99 1 (uL M73 54 (ix t) ((mL M6 54 (ix t)) + w0_73)) (SK.pL s73 rfl (by decide)) E
      refine V.lc_ne (off := 7) F (by decide +kernel) (tgt := 72) (by decide) (fun h65 => ?_) (fun h65 => ?_)
      · replace E := E.trans (if_neg h65)
        refine V.seg F floX7 cjoX7 [.lconst 0] (by decide +kernel) (pc2 := 73) (lv2 := [(4, .long (mL M6 54 (ix g))), (0, .ref 52), (1, .int f), (2, .int g), (3, .int t)]) (st2 := [.long 0, .long (mL M6 54 (ix t)), .int t, .ref 54]) (M2 := M6) rfl ⟨trivial, trivial⟩ ?_
        refine V.pick [1, 2, 4, 0] rfl ?_
        exact hJ73 0 M6 s6 E
      · replace E := E.trans (if_pos h65)
        refine V.seg F floX7 cjoX7 [.lconst 1, .goto 4] (by decide +kernel) (pc2 := 73) (lv2 := [(4, .long (mL M6 54 (ix g))), (0, .ref 52), (1, .int f), (2, .int g), (3, .int t)]) (st2 := [.long 1, .long (mL M6 54 (ix t)), .int t, .ref 54]) (M2 := M6) rfl ⟨trivial, (by decide), trivial⟩ ?_
        refine V.pick [1, 2, 4, 0] rfl ?_
        exact hJ73 1 M6 s6 E
    · replace E := E.trans (if_neg h28)
      refine V.seg F floX7 cjoX7 [.aload_n 0, .getfield 13, .iload_n 1, .laload, .lload 4, .lcmp] (by decide +kernel) (pc2 := 40) (lv2 := [(4, .long (mL M6 54 (ix g))), (0, .ref 52), (1, .int f), (2, .int g), (3, .int t)]) (st2 := [.int (lg_cmp (mL M6 54 (ix f)) (mL M6 54 (ix g)))]) (M2 := M6) rfl ⟨trivial, ((q.sm s6.1).f 52 7 1 rfl), trivial, ((q.sm s6.1).a 54 22 1648 rfl (by first | assumption | exact vinc (by decide))), trivial, trivial, trivial⟩ ?_
      have hJ48 : ∀ (M48 : Mem), (SK wg M M48) → f_X7_apart M f g t = f_X7_apart_48 M48 → V G X 6 0 0 (Qx G X 0 0 (p_X7_apart M f g t)) 48 [] [] M48 := by
        intro M48 s48 E
        exact V.vret F (by decide +kernel) ⟨rfl, E.symm, s48⟩
      refine V.lc_ne (off := 8) F (by decide +kernel) (tgt := 48) (by decide) (fun h40 => ?_) (fun h40 => ?_)
      · replace E := E.trans (if_neg h40)
        refine V.pick [] rfl ?_
        exact hJ48 M6 s6 E
      · replace E := E.trans (if_pos h40)
        refine V.seg F floX7 cjoX7 [.aload_n 0, .iload_n 3] (by decide +kernel) (pc2 := 45) (lv2 := [(4, .long (mL M6 54 (ix g))), (0, .ref 52), (1, .int f), (2, .int g), (3, .int t)]) (st2 := [.int t, .ref 52]) (M2 := M6) rfl ⟨trivial, trivial, trivial⟩ ?_
        refine V.callV (as := [.int t]) (rest := []) F (by decide +kernel) lX7_115 bX7_nothing ⟨7, _, ((q.sm s6.1).o 52 7 rfl), rfl, rfl⟩ (c_X7_nothing G X.2.1 M6 t (q.sm s6.1) s6.2.1 (by first | assumption | exact vinc (by decide))) (rm_ok hRm hd (by decide) (by decide)) ⟨Nat.zero_le _, Nat.zero_le _⟩ (Nat.le_of_ble_eq_true rfl) (fun r_ N_ p_ => ?_)
        obtain ⟨rfl, rfl, t45⟩ := p_
        refine (?_ : ∀ (M48 : Mem), (SK wg M M48) → f_X7_apart M f g t = f_X7_apart_c48 M48 → V G X 6 0 0 (Qx G X 0 0 (p_X7_apart M f g t)) 48 [(4, .long (mL M6 54 (ix g))), (0, .ref 52), (1, .int f), (2, .int g), (3, .int t)] [] M48) _ (SK.tr s6 t45) E
        intro M48 s48 E
        refine V.pick [] rfl ?_
        exact hJ48 M48 s48 E
  · replace E := E.trans (if_pos h11)
    exact V.vret F (by decide +kernel) ⟨rfl, E.symm, s6⟩
def f_X7_atMost_c28  (M28 : Mem) : Mem := M28
def f_X7_atMost_22 (t : Int32) (M22 : Mem) : Mem := f_X7_atMost_c28 (f_X7_nothing M22 t)
def f_X7_atMost_c52  (M52 : Mem) : Mem := M52
def f_X7_atMost_c7 (f : Int32) (n : Int32) (v : Int64) (t : Int32) (M7 : Mem) : Mem := if n = 0 then if (mL M7 54 (ix f)) ≤ v then f_X7_atMost_c52 (f_X7_sharpen (uL M7 55 (ix t) (f_X7_less (mL M7 55 (ix f)) v)) t) else f_X7_atMost_22 t M7 else f_X7_atMost_22 t M7
def f_X7_atMost (M : Mem) (f : Int32) (n : Int32) (v : Int64) (t : Int32) : Mem := f_X7_atMost_c7 f n v t (f_X7_copy M t f)
abbrev p_X7_atMost (M : Mem) (f : Int32) (n : Int32) (v : Int64) (t : Int32) : Option Value → Mem → Prop := fun r N => r = none ∧ N = f_X7_atMost M f n v t ∧ SK wg M N
set_option maxRecDepth 100000 in
set_option maxHeartbeats 4000000 in
theorem c_X7_atMost (G : Ctx) (l : Launch) (M : Mem) (f : Int32) (n : Int32) (v : Int64) (t : Int32) (z_n : n = 0 ∨ n = 1) (q : Ok M) (gb : Gb M) (i_f : vp_in f 1648) (i_t : vp_in t 1648) : CT G l 4 mX7_atMost [.ref 52, .int f, .int n, .long v, .int t] M 0 0 (p_X7_atMost M f n v t) := by
  refine CT.of (by decide) (Nat.le_of_ble_eq_true rfl) ?_
  intro X d hd hl hRm hnm F
  subst hl
  have E : f_X7_atMost M f n v t = f_X7_atMost M f n v t := rfl
  show V G X 6 0 0 (Qx G X 0 0 (p_X7_atMost M f n v t)) 0 [(0, .ref 52), (1, .int f), (2, .int n), (3, .long v), (5, .int t)] [] M
  refine V.seg F floX7 cjoX7 [.aload_n 0, .iload 5, .iload_n 1] (by decide +kernel) (pc2 := 4) (lv2 := [(0, .ref 52), (1, .int f), (2, .int n), (3, .long v), (5, .int t)]) (st2 := [.int f, .int t, .ref 52]) (M2 := M) rfl ⟨trivial, trivial, trivial, trivial⟩ ?_
  refine V.callV (as := [.int t, .int f]) (rest := []) F (by decide +kernel) lX7_133 bX7_copy ⟨7, _, (q.o 52 7 rfl), rfl, rfl⟩ (c_X7_copy G X.2.1 M t f q gb (by first | assumption | exact vinc (by decide)) (by first | assumption | exact vinc (by decide))) (rm_ok hRm hd (by decide) (by decide)) ⟨Nat.zero_le _, Nat.zero_le _⟩ (Nat.le_of_ble_eq_true rfl) (fun r_ N_ p_ => ?_)
  obtain ⟨rfl, rfl, t4⟩ := p_
  refine (?_ : ∀ (M7 : Mem), (SK wg M M7) → f_X7_atMost M f n v t = f_X7_atMost_c7 f n v t M7 → V G X 6 0 0 (Qx G X 0 0 (p_X7_atMost M f n v t)) 7 [(0, .ref 52), (1, .int f), (2, .int n), (3, .long v), (5, .int t)] [] M7) _ t4 E
  intro M7 s7 E
  refine V.seg F floX7 cjoX7 [.iload_n 2] (by decide +kernel) (pc2 := 8) (lv2 := [(0, .ref 52), (1, .int f), (2, .int n), (3, .long v), (5, .int t)]) (st2 := [.int n]) (M2 := M7) rfl ⟨trivial, trivial⟩ ?_
  have hJ22 : ∀ (M22 : Mem), (SK wg M M22) → f_X7_atMost M f n v t = f_X7_atMost_22 t M22 → V G X 6 0 0 (Qx G X 0 0 (p_X7_atMost M f n v t)) 22 [(0, .ref 52), (5, .int t)] [] M22 := by
    intro M22 s22 E
    refine V.seg F floX7 cjoX7 [.aload_n 0, .iload 5] (by decide +kernel) (pc2 := 25) (lv2 := [(0, .ref 52), (5, .int t)]) (st2 := [.int t, .ref 52]) (M2 := M22) rfl ⟨trivial, trivial, trivial⟩ ?_
    refine V.callV (as := [.int t]) (rest := []) F (by decide +kernel) lX7_115 bX7_nothing ⟨7, _, ((q.sm s22.1).o 52 7 rfl), rfl, rfl⟩ (c_X7_nothing G X.2.1 M22 t (q.sm s22.1) s22.2.1 (by first | assumption | exact vinc (by decide))) (rm_ok hRm hd (by decide) (by decide)) ⟨Nat.zero_le _, Nat.zero_le _⟩ (Nat.le_of_ble_eq_true rfl) (fun r_ N_ p_ => ?_)
    obtain ⟨rfl, rfl, t25⟩ := p_
    refine (?_ : ∀ (M28 : Mem), (SK wg M M28) → f_X7_atMost M f n v t = f_X7_atMost_c28 M28 → V G X 6 0 0 (Qx G X 0 0 (p_X7_atMost M f n v t)) 28 [(0, .ref 52), (5, .int t)] [] M28) _ (SK.tr s22 t25) E
    intro M28 s28 E
    exact V.vret F (by decide +kernel) ⟨rfl, E.symm, s28⟩
  refine V.if_ne (off := 14) F (by decide +kernel) (tgt := 22) (by decide) (fun h8 => ?_) (fun h8 => ?_)
  · replace E := E.trans (if_neg h8)
    refine V.pick [0, 4] rfl ?_
    exact hJ22 M7 s7 E
  · replace E := E.trans (if_pos h8)
    refine V.seg F floX7 cjoX7 [.aload_n 0, .getfield 13, .iload_n 1, .laload, .lload_n 3, .lcmp] (by decide +kernel) (pc2 := 19) (lv2 := [(0, .ref 52), (1, .int f), (2, .int n), (3, .long v), (5, .int t)]) (st2 := [.int (lg_cmp (mL M7 54 (ix f)) v)]) (M2 := M7) rfl ⟨trivial, ((q.sm s7.1).f 52 7 1 rfl), trivial, ((q.sm s7.1).a 54 22 1648 rfl (by first | assumption | exact vinc (by decide))), trivial, trivial, trivial⟩ ?_
    refine V.lc_le (off := 10) F (by decide +kernel) (tgt := 29) (by decide) (fun h19 => ?_) (fun h19 => ?_)
    · replace E := E.trans (if_pos h19)
      refine V.seg F floX7 cjoX7 [.aload_n 0, .getfield 17, .iload 5, .aload_n 0, .getfield 17, .iload_n 1, .laload, .lload_n 3] (by decide +kernel) (pc2 := 42) (lv2 := [(0, .ref 52), (1, .int f), (2, .int n), (3, .long v), (5, .int t)]) (st2 := [.long v, .long (mL M7 55 (ix f)), .int t, .ref 55]) (M2 := M7) rfl ⟨trivial, ((q.sm s7.1).f 52 7 2 rfl), trivial, trivial, ((q.sm s7.1).f 52 7 2 rfl), trivial, ((q.sm s7.1).a 55 22 1648 rfl (by first | assumption | exact vinc (by decide))), trivial, trivial⟩ ?_
      refine V.callS (as := [.long (mL M7 55 (ix f)), .long v]) (rest := [.int t, .ref 55]) F (by decide +kernel) lX7_151 bX7_less (c_X7_less G X.2.1 M7 (mL M7 55 (ix f)) v) (rm_ok hRm hd (by decide) (by decide)) ⟨Nat.zero_le _, Nat.zero_le _⟩ (Nat.le_of_ble_eq_true rfl) (fun r_ N_ p_ => ?_)
      obtain ⟨rfl, hN_⟩ := p_
      rw [hN_]
      clear hN_
      refine V.seg F floX7 cjoX7 [.lastore, .aload_n 0, .iload 5] (by decide +kernel) (pc2 := 49) (lv2 := [(0, .ref 52), (1, .int f), (2, .int n), (3, .long v), (5, .int t)]) (st2 := [.int t, .ref 52]) (M2 := uL M7 55 (ix t) (f_X7_less (mL M7 55 (ix f)) v)) rfl ⟨((q.sm s7.1).a 55 22 1648 rfl (by first | assumption | exact vinc (by decide))), trivial, trivial, trivial⟩ ?_
      refine V.callV (as := [.int t]) (rest := []) F (by decide +kernel) lX7_165 bX7_sharpen ⟨7, _, ((q.sm (SK.pL s7 rfl (by decide)).1).o 52 7 rfl), rfl, rfl⟩ (c_X7_sharpen G X.2.1 (uL M7 55 (ix t) (f_X7_less (mL M7 55 (ix f)) v)) t (q.sm (SK.pL s7 rfl (by decide)).1) (SK.pL s7 rfl (by decide)).2.1 (by first | assumption | exact vinc (by decide))) (rm_ok hRm hd (by decide) (by decide)) ⟨Nat.zero_le _, Nat.zero_le _⟩ (Nat.le_of_ble_eq_true rfl) (fun r_ N_ p_ => ?_)
      obtain ⟨rfl, rfl, t49⟩ := p_
      refine (?_ : ∀ (M52 : Mem), (SK wg M M52) → f_X7_atMost M f n v t = f_X7_atMost_c52 M52 → V G X 6 0 0 (Qx G X 0 0 (p_X7_atMost M f n v t)) 52 [(0, .ref 52), (1, .int f), (2, .int n), (3, .long v), (5, .int t)] [] M52) _ (SK.tr (SK.pL s7 rfl (by decide)) t49) E
      intro M52 s52 E
      exact V.vret F (by decide +kernel) ⟨rfl, E.symm, s52⟩
    · replace E := E.trans (if_neg h19)
      refine V.pick [0, 4] rfl ?_
      exact hJ22 M7 s7 E
def f_X7_atLeast_c28  (M28 : Mem) : Mem := M28
def f_X7_atLeast_22 (t : Int32) (M22 : Mem) : Mem := f_X7_atLeast_c28 (f_X7_nothing M22 t)
def f_X7_atLeast_c52  (M52 : Mem) : Mem := M52
def f_X7_atLeast_c7 (f : Int32) (n : Int32) (v : Int64) (t : Int32) (M7 : Mem) : Mem := if n = 0 then if v ≤ (mL M7 55 (ix f)) then f_X7_atLeast_c52 (f_X7_sharpen (uL M7 54 (ix t) (f_X7_more (mL M7 54 (ix f)) v)) t) else f_X7_atLeast_22 t M7 else f_X7_atLeast_22 t M7
def f_X7_atLeast (M : Mem) (f : Int32) (n : Int32) (v : Int64) (t : Int32) : Mem := f_X7_atLeast_c7 f n v t (f_X7_copy M t f)
abbrev p_X7_atLeast (M : Mem) (f : Int32) (n : Int32) (v : Int64) (t : Int32) : Option Value → Mem → Prop := fun r N => r = none ∧ N = f_X7_atLeast M f n v t ∧ SK wg M N
set_option maxRecDepth 100000 in
set_option maxHeartbeats 4000000 in
theorem c_X7_atLeast (G : Ctx) (l : Launch) (M : Mem) (f : Int32) (n : Int32) (v : Int64) (t : Int32) (z_n : n = 0 ∨ n = 1) (q : Ok M) (gb : Gb M) (i_f : vp_in f 1648) (i_t : vp_in t 1648) : CT G l 4 mX7_atLeast [.ref 52, .int f, .int n, .long v, .int t] M 0 0 (p_X7_atLeast M f n v t) := by
  refine CT.of (by decide) (Nat.le_of_ble_eq_true rfl) ?_
  intro X d hd hl hRm hnm F
  subst hl
  have E : f_X7_atLeast M f n v t = f_X7_atLeast M f n v t := rfl
  show V G X 6 0 0 (Qx G X 0 0 (p_X7_atLeast M f n v t)) 0 [(0, .ref 52), (1, .int f), (2, .int n), (3, .long v), (5, .int t)] [] M
  refine V.seg F floX7 cjoX7 [.aload_n 0, .iload 5, .iload_n 1] (by decide +kernel) (pc2 := 4) (lv2 := [(0, .ref 52), (1, .int f), (2, .int n), (3, .long v), (5, .int t)]) (st2 := [.int f, .int t, .ref 52]) (M2 := M) rfl ⟨trivial, trivial, trivial, trivial⟩ ?_
  refine V.callV (as := [.int t, .int f]) (rest := []) F (by decide +kernel) lX7_133 bX7_copy ⟨7, _, (q.o 52 7 rfl), rfl, rfl⟩ (c_X7_copy G X.2.1 M t f q gb (by first | assumption | exact vinc (by decide)) (by first | assumption | exact vinc (by decide))) (rm_ok hRm hd (by decide) (by decide)) ⟨Nat.zero_le _, Nat.zero_le _⟩ (Nat.le_of_ble_eq_true rfl) (fun r_ N_ p_ => ?_)
  obtain ⟨rfl, rfl, t4⟩ := p_
  refine (?_ : ∀ (M7 : Mem), (SK wg M M7) → f_X7_atLeast M f n v t = f_X7_atLeast_c7 f n v t M7 → V G X 6 0 0 (Qx G X 0 0 (p_X7_atLeast M f n v t)) 7 [(0, .ref 52), (1, .int f), (2, .int n), (3, .long v), (5, .int t)] [] M7) _ t4 E
  intro M7 s7 E
  refine V.seg F floX7 cjoX7 [.iload_n 2] (by decide +kernel) (pc2 := 8) (lv2 := [(0, .ref 52), (1, .int f), (2, .int n), (3, .long v), (5, .int t)]) (st2 := [.int n]) (M2 := M7) rfl ⟨trivial, trivial⟩ ?_
  have hJ22 : ∀ (M22 : Mem), (SK wg M M22) → f_X7_atLeast M f n v t = f_X7_atLeast_22 t M22 → V G X 6 0 0 (Qx G X 0 0 (p_X7_atLeast M f n v t)) 22 [(0, .ref 52), (5, .int t)] [] M22 := by
    intro M22 s22 E
    refine V.seg F floX7 cjoX7 [.aload_n 0, .iload 5] (by decide +kernel) (pc2 := 25) (lv2 := [(0, .ref 52), (5, .int t)]) (st2 := [.int t, .ref 52]) (M2 := M22) rfl ⟨trivial, trivial, trivial⟩ ?_
    refine V.callV (as := [.int t]) (rest := []) F (by decide +kernel) lX7_115 bX7_nothing ⟨7, _, ((q.sm s22.1).o 52 7 rfl), rfl, rfl⟩ (c_X7_nothing G X.2.1 M22 t (q.sm s22.1) s22.2.1 (by first | assumption | exact vinc (by decide))) (rm_ok hRm hd (by decide) (by decide)) ⟨Nat.zero_le _, Nat.zero_le _⟩ (Nat.le_of_ble_eq_true rfl) (fun r_ N_ p_ => ?_)
    obtain ⟨rfl, rfl, t25⟩ := p_
    refine (?_ : ∀ (M28 : Mem), (SK wg M M28) → f_X7_atLeast M f n v t = f_X7_atLeast_c28 M28 → V G X 6 0 0 (Qx G X 0 0 (p_X7_atLeast M f n v t)) 28 [(0, .ref 52), (5, .int t)] [] M28) _ (SK.tr s22 t25) E
    intro M28 s28 E
    exact V.vret F (by decide +kernel) ⟨rfl, E.symm, s28⟩
  refine V.if_ne (off := 14) F (by decide +kernel) (tgt := 22) (by decide) (fun h8 => ?_) (fun h8 => ?_)
  · replace E := E.trans (if_neg h8)
    refine V.pick [0, 4] rfl ?_
    exact hJ22 M7 s7 E
  · replace E := E.trans (if_pos h8)
    refine V.seg F floX7 cjoX7 [.aload_n 0, .getfield 17, .iload_n 1, .laload, .lload_n 3, .lcmp] (by decide +kernel) (pc2 := 19) (lv2 := [(0, .ref 52), (1, .int f), (2, .int n), (3, .long v), (5, .int t)]) (st2 := [.int (lg_cmp (mL M7 55 (ix f)) v)]) (M2 := M7) rfl ⟨trivial, ((q.sm s7.1).f 52 7 2 rfl), trivial, ((q.sm s7.1).a 55 22 1648 rfl (by first | assumption | exact vinc (by decide))), trivial, trivial, trivial⟩ ?_
    refine V.lc_ge (off := 10) F (by decide +kernel) (tgt := 29) (by decide) (fun h19 => ?_) (fun h19 => ?_)
    · replace E := E.trans (if_pos h19)
      refine V.seg F floX7 cjoX7 [.aload_n 0, .getfield 13, .iload 5, .aload_n 0, .getfield 13, .iload_n 1, .laload, .lload_n 3] (by decide +kernel) (pc2 := 42) (lv2 := [(0, .ref 52), (1, .int f), (2, .int n), (3, .long v), (5, .int t)]) (st2 := [.long v, .long (mL M7 54 (ix f)), .int t, .ref 54]) (M2 := M7) rfl ⟨trivial, ((q.sm s7.1).f 52 7 1 rfl), trivial, trivial, ((q.sm s7.1).f 52 7 1 rfl), trivial, ((q.sm s7.1).a 54 22 1648 rfl (by first | assumption | exact vinc (by decide))), trivial, trivial⟩ ?_
      refine V.callS (as := [.long (mL M7 54 (ix f)), .long v]) (rest := [.int t, .ref 54]) F (by decide +kernel) lX7_154 bX7_more (c_X7_more G X.2.1 M7 (mL M7 54 (ix f)) v) (rm_ok hRm hd (by decide) (by decide)) ⟨Nat.zero_le _, Nat.zero_le _⟩ (Nat.le_of_ble_eq_true rfl) (fun r_ N_ p_ => ?_)
      obtain ⟨rfl, hN_⟩ := p_
      rw [hN_]
      clear hN_
      refine V.seg F floX7 cjoX7 [.lastore, .aload_n 0, .iload 5] (by decide +kernel) (pc2 := 49) (lv2 := [(0, .ref 52), (1, .int f), (2, .int n), (3, .long v), (5, .int t)]) (st2 := [.int t, .ref 52]) (M2 := uL M7 54 (ix t) (f_X7_more (mL M7 54 (ix f)) v)) rfl ⟨((q.sm s7.1).a 54 22 1648 rfl (by first | assumption | exact vinc (by decide))), trivial, trivial, trivial⟩ ?_
      refine V.callV (as := [.int t]) (rest := []) F (by decide +kernel) lX7_165 bX7_sharpen ⟨7, _, ((q.sm (SK.pL s7 rfl (by decide)).1).o 52 7 rfl), rfl, rfl⟩ (c_X7_sharpen G X.2.1 (uL M7 54 (ix t) (f_X7_more (mL M7 54 (ix f)) v)) t (q.sm (SK.pL s7 rfl (by decide)).1) (SK.pL s7 rfl (by decide)).2.1 (by first | assumption | exact vinc (by decide))) (rm_ok hRm hd (by decide) (by decide)) ⟨Nat.zero_le _, Nat.zero_le _⟩ (Nat.le_of_ble_eq_true rfl) (fun r_ N_ p_ => ?_)
      obtain ⟨rfl, rfl, t49⟩ := p_
      refine (?_ : ∀ (M52 : Mem), (SK wg M M52) → f_X7_atLeast M f n v t = f_X7_atLeast_c52 M52 → V G X 6 0 0 (Qx G X 0 0 (p_X7_atLeast M f n v t)) 52 [(0, .ref 52), (1, .int f), (2, .int n), (3, .long v), (5, .int t)] [] M52) _ (SK.tr (SK.pL s7 rfl (by decide)) t49) E
      intro M52 s52 E
      exact V.vret F (by decide +kernel) ⟨rfl, E.symm, s52⟩
    · replace E := E.trans (if_neg h19)
      refine V.pick [0, 4] rfl ?_
      exact hJ22 M7 s7 E
