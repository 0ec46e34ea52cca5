theorem cn.of {x y : Int32} {N : Nat} (h : x = y) (c : cn y N) : cn x N := by rw [h]; exact c
theorem ln1 {l : Int32} (h : vp_in l 32) : vp_in (l + 1) 34 := by
  obtain ⟨a, ha, rfl⟩ := vp_in_of h (by decide)
  exact vpn (k := a + 1) (addN rfl (rfl : (1 : Int32) = nI 1)) (by omega) (by decide)
theorem ln2 {l : Int32} (h : vp_in l 32) : vp_in (l + 2) 34 := by
  obtain ⟨a, ha, rfl⟩ := vp_in_of h (by decide)
  exact vpn (k := a + 2) (addN rfl (rfl : (2 : Int32) = nI 2)) (by omega) (by decide)
/-- a line of a method, as op takes it -/
def LnOK (op a b : Int32) : Prop := vp_in a 8 ∧ (¬ 20 ≤ op → vp_in b 8) ∧ (op = 21 → vp_in b 8) ∧ (op = 22 → vp_in b 4) ∧ (¬ op ≤ 22 → ¬ 26 ≤ op → ¬ op = 25 → vp_in b 8) ∧ (op = 26 → vp_in b 34)
def f_X7_work_259  (M259 : Mem) : Mem := M259
def f_X7_work_c259  (M259 : Mem) : Mem := f_X7_work_259 M259
def f_X7_work_256 (m : Int32) (w0_256 : Int32) (M256 : Mem) : Mem := f_X7_work_c259 (f_X7_goTo M256 m w0_256)
def f_X7_work_234 (m : Int32) (ln : Int32) (M : Mem) (M234 : Mem) : Mem := if (mI M 61 (ix ((32 * m) + ln))) = 27 then f_X7_work_259 M234 else if (mI M 61 (ix ((32 * m) + ln))) = 26 then f_X7_work_256 m (mI M 63 (ix ((32 * m) + ln))) M234 else f_X7_work_256 m (ln + 1) M234
def f_X7_work_c234 (m : Int32) (ln : Int32) (M : Mem) (M234 : Mem) : Mem := f_X7_work_234 m ln M M234
def f_X7_work_c217 (m : Int32) (ln : Int32) (M : Mem) (M217 : Mem) : Mem := f_X7_work_234 m ln M M217
def f_X7_work_c194 (m : Int32) (ln : Int32) (M : Mem) (M194 : Mem) : Mem := f_X7_work_234 m ln M M194
def f_X7_work_c173 (m : Int32) (ln : Int32) (M : Mem) (M173 : Mem) : Mem := f_X7_work_234 m ln M M173
def f_X7_work_c162 (m : Int32) (ln : Int32) (M : Mem) (M162 : Mem) : Mem := f_X7_work_c173 m ln M (f_X7_copy M162 (48 + (mI M 62 (ix ((32 * m) + ln)))) 26)
def f_X7_work_151 (m : Int32) (ln : Int32) (M : Mem) (w0_151 : Int32) (M151 : Mem) : Mem := f_X7_work_c162 m ln M (f_X7_does M151 (mI M 61 (ix ((32 * m) + ln))) (40 + w0_151) (40 + (mI M 63 (ix ((32 * m) + ln)))) 26)
def f_X7_work_128 (m : Int32) (ln : Int32) (M : Mem) (M128 : Mem) : Mem := if 20 ≤ (mI M 61 (ix ((32 * m) + ln))) then if (mI M 61 (ix ((32 * m) + ln))) = 20 then f_X7_work_c194 m ln M (f_X7_number M128 (48 + (mI M 62 (ix ((32 * m) + ln)))) (Int32.toInt64 (mI M 63 (ix ((32 * m) + ln))))) else if (mI M 61 (ix ((32 * m) + ln))) = 21 then f_X7_work_c217 m ln M (f_X7_copy M128 (48 + (mI M 62 (ix ((32 * m) + ln)))) (40 + (mI M 63 (ix ((32 * m) + ln))))) else if (mI M 61 (ix ((32 * m) + ln))) = 22 then f_X7_work_c234 m ln M (f_X7_look M128 (mI M 62 (ix ((32 * m) + ln))) (mI M 63 (ix ((32 * m) + ln)))) else f_X7_work_234 m ln M M128 else if 12 ≤ (mI M 61 (ix ((32 * m) + ln))) then f_X7_work_151 m ln M (mI M 63 (ix ((32 * m) + ln))) M128 else f_X7_work_151 m ln M (mI M 62 (ix ((32 * m) + ln))) M128
def f_X7_work_c127  (M127 : Mem) : Mem := M127
def f_X7_work_c119 (m : Int32) (ln : Int32) (M119 : Mem) : Mem := f_X7_work_c127 (f_X7_goTo M119 m (ln + 2))
def f_X7_work_c109 (m : Int32) (ln : Int32) (M : Mem) (M109 : Mem) : Mem := f_X7_work_c119 m ln (f_X7_asked M109 (mI M 61 (ix ((32 * m) + ln))) (mI M 62 (ix ((32 * m) + ln))) (mI M 63 (ix ((32 * m) + ln))) 1)
def f_X7_work_c105 (m : Int32) (ln : Int32) (M : Mem) (M105 : Mem) : Mem := f_X7_work_c109 m ln M (f_X7_ready M105)
def f_X7_work_c97 (m : Int32) (ln : Int32) (M : Mem) (M97 : Mem) : Mem := f_X7_work_c105 m ln M (f_X7_goTo M97 m (ln + 1))
def f_X7_work_c75 (m : Int32) (ln : Int32) (M : Mem) (M75 : Mem) : Mem := if (mI M 61 (ix ((32 * m) + ln))) ≤ 22 then f_X7_work_128 m ln M M75 else if 26 ≤ (mI M 61 (ix ((32 * m) + ln))) then f_X7_work_128 m ln M M75 else f_X7_work_c97 m ln M (f_X7_asked M75 (mI M 61 (ix ((32 * m) + ln))) (mI M 62 (ix ((32 * m) + ln))) (mI M 63 (ix ((32 * m) + ln))) 0)
def f_X7_work_c65 (j41 : Nat) (R41_ : Nat → Mem → Mem) (M65 : Mem) : Mem := R41_ (j41 + 1) M65
def f_X7_work_41 (m : Int32) (ln : Int32) (M : Mem) : Nat → Nat → Mem → Mem
  | 0, _, M41 => M41
  | n_ + 1, j41, M41 => if 8 ≤ (nI j41) then f_X7_work_c75 m ln M (f_X7_ready M41) else f_X7_work_c65 j41 (f_X7_work_41 m ln M n_) (f_X7_copy M41 (40 + (nI j41)) (f_X7_cell m ln (nI j41)))
def f_X7_work (M : Mem) (m : Int32) (ln : Int32) : Mem := f_X7_work_41 m ln M 9 0 M
abbrev p_X7_work (M : Mem) (m : Int32) (ln : Int32) : Option Value → Mem → Prop := fun r N => r = none ∧ N = f_X7_work M m ln ∧ SK wh M N
set_option maxRecDepth 100000 in
set_option maxHeartbeats 4000000 in
theorem c_X7_work (G : Ctx) (l : Launch) (M : Mem) (m : Int32) (ln : Int32) (q : Ok M) (gb : Gb M) (i_m : vp_in m 6) (i_ln : vp_in ln 32) (cL : cn (mI M 60 (ix m)) 32) (hT : ∀ t, t < 4 → cn (mI M 64 t) 16) (hL : LnOK (mI M 61 (ix ((32 * m) + ln))) (mI M 62 (ix ((32 * m) + ln))) (mI M 63 (ix ((32 * m) + ln)))) : CT G l 7 mX7_work [.ref 52, .int m, .int ln] M 0 0 (p_X7_work M m ln) := by
  refine CT.of (by decide) (Nat.le_of_ble_eq_true rfl) ?_
  intro X d hd hl hRm hnm F
  subst hl
  have E : f_X7_work M m ln = f_X7_work M m ln := rfl
  show V G X 7 0 0 (Qx G X 0 0 (p_X7_work M m ln)) 0 [(0, .ref 52), (1, .int m), (2, .int ln)] [] M
  refine V.seg F floX7 cjoX7 [.aload_n 0, .getfield 36, .bipush 32, .iload_n 1, .imul, .iload_n 2, .iadd, .iaload, .istore_n 3, .aload_n 0, .getfield 39, .bipush 32, .iload_n 1, .imul, .iload_n 2, .iadd, .iaload, .istore 4, .aload_n 0, .getfield 42, .bipush 32, .iload_n 1, .imul, .iload_n 2, .iadd, .iaload, .istore 5, .iconst 0] (by decide +kernel) (pc2 := 39) (lv2 := [(5, .int (mI M 63 (ix ((32 * m) + ln)))), (4, .int (mI M 62 (ix ((32 * m) + ln)))), (3, .int (mI M 61 (ix ((32 * m) + ln)))), (0, .ref 52), (1, .int m), (2, .int ln)]) (st2 := [.int 0]) (M2 := M) rfl ⟨trivial, (q.f 52 7 11 rfl), trivial, trivial, trivial, trivial, trivial, (q.a 61 20 192 rfl (rl_in i_m i_ln)), (by decide), trivial, (q.f 52 7 12 rfl), trivial, trivial, trivial, trivial, trivial, (q.a 62 20 192 rfl (rl_in i_m i_ln)), (by decide), trivial, (q.f 52 7 13 rfl), trivial, trivial, trivial, trivial, trivial, (q.a 63 20 192 rfl (rl_in i_m i_ln)), (by decide), trivial, trivial⟩ ?_
  refine V.seg F floX7 cjoX7 [.istore 6] (by decide +kernel) (pc2 := 41) (lv2 := [(6, .int 0), (5, .int (mI M 63 (ix ((32 * m) + ln)))), (4, .int (mI M 62 (ix ((32 * m) + ln)))), (3, .int (mI M 61 (ix ((32 * m) + ln)))), (0, .ref 52), (1, .int m), (2, .int ln)]) (st2 := []) (M2 := M) rfl ⟨(by decide), trivial⟩ ?_
  have hJ41 : ∀ (n_ : Nat) (j41 : Nat) (M41 : Mem), (SK wh M M41) → (j41 ≤ 8) → (8 - j41 < n_) → f_X7_work M m ln = f_X7_work_41 m ln M n_ j41 M41 → V G X 7 0 0 (Qx G X 0 0 (p_X7_work M m ln)) 41 [(0, .ref 52), (1, .int m), (2, .int ln), (3, .int (mI M 61 (ix ((32 * m) + ln)))), (4, .int (mI M 62 (ix ((32 * m) + ln)))), (5, .int (mI M 63 (ix ((32 * m) + ln)))), (6, .int (nI j41))] [] M41 := by
    intro n_
    induction n_ with
    | zero => intro j41 M41 s41 b41 m41 E; omega
    | succ n_ ih_41 =>
      intro j41 M41 s41 b41 m41 E
      rw [f_X7_work_41] at E
      refine V.seg F floX7 cjoX7 [.iload 6, .bipush 8] (by decide +kernel) (pc2 := 45) (lv2 := [(0, .ref 52), (1, .int m), (2, .int ln), (3, .int (mI M 61 (ix ((32 * m) + ln)))), (4, .int (mI M 62 (ix ((32 * m) + ln)))), (5, .int (mI M 63 (ix ((32 * m) + ln)))), (6, .int (nI j41))]) (st2 := [.int 8, .int (nI j41)]) (M2 := M41) rfl ⟨trivial, trivial, trivial⟩ ?_
      refine V.ic_ge (off := 26) F (by decide +kernel) (tgt := 71) (by decide) (fun h45 => ?_) (fun h45 => ?_)
      · replace E := E.trans (if_pos h45)
        refine V.seg F floX7 cjoX7 [.aload_n 0] (by decide +kernel) (pc2 := 72) (lv2 := [(0, .ref 52), (1, .int m), (2, .int ln), (3, .int (mI M 61 (ix ((32 * m) + ln)))), (4, .int (mI M 62 (ix ((32 * m) + ln)))), (5, .int (mI M 63 (ix ((32 * m) + ln)))), (6, .int (nI j41))]) (st2 := [.ref 52]) (M2 := M41) rfl ⟨trivial, trivial⟩ ?_
        refine V.callV (as := []) (rest := []) F (by decide +kernel) lX7_286 bX7_ready ⟨7, _, ((q.sm s41.1).o 52 7 rfl), rfl, rfl⟩ (c_X7_ready G X.2.1 M41 (q.sm s41.1) s41.2.1) (rm_ok hRm hd (by decide) (by decide)) ⟨Nat.zero_le _, Nat.zero_le _⟩ (Nat.le_of_ble_eq_true rfl) (fun r_ N_ p_ => ?_)
        obtain ⟨rfl, rfl, t72⟩ := p_
        refine (?_ : ∀ (M75 : Mem), (SK wh M M75) → f_X7_work M m ln = f_X7_work_c75 m ln M M75 → V G X 7 0 0 (Qx G X 0 0 (p_X7_work M m ln)) 75 [(0, .ref 52), (1, .int m), (2, .int ln), (3, .int (mI M 61 (ix ((32 * m) + ln)))), (4, .int (mI M 62 (ix ((32 * m) + ln)))), (5, .int (mI M 63 (ix ((32 * m) + ln)))), (6, .int (nI j41))] [] M75) _ (SK.tr s41 (t72.mono sub_wg_wh)) E
        intro M75 s75 E
        refine V.seg F floX7 cjoX7 [.iload_n 3, .bipush 22] (by decide +kernel) (pc2 := 78) (lv2 := [(0, .ref 52), (1, .int m), (2, .int ln), (3, .int (mI M 61 (ix ((32 * m) + ln)))), (4, .int (mI M 62 (ix ((32 * m) + ln)))), (5, .int (mI M 63 (ix ((32 * m) + ln)))), (6, .int (nI j41))]) (st2 := [.int 22, .int (mI M 61 (ix ((32 * m) + ln)))]) (M2 := M75) rfl ⟨trivial, trivial, trivial⟩ ?_
        have hJ128 : ∀ (M128 : Mem), (SK wh M M128) → f_X7_work M m ln = f_X7_work_128 m ln M M128 → V G X 7 0 0 (Qx G X 0 0 (p_X7_work M m ln)) 128 [(0, .ref 52), (1, .int m), (2, .int ln), (3, .int (mI M 61 (ix ((32 * m) + ln)))), (4, .int (mI M 62 (ix ((32 * m) + ln)))), (5, .int (mI M 63 (ix ((32 * m) + ln))))] [] M128 := by
          intro M128 s128 E
          refine V.seg F floX7 cjoX7 [.iload_n 3, .bipush 20] (by decide +kernel) (pc2 := 131) (lv2 := [(0, .ref 52), (1, .int m), (2, .int ln), (3, .int (mI M 61 (ix ((32 * m) + ln)))), (4, .int (mI M 62 (ix ((32 * m) + ln)))), (5, .int (mI M 63 (ix ((32 * m) + ln))))]) (st2 := [.int 20, .int (mI M 61 (ix ((32 * m) + ln)))]) (M2 := M128) rfl ⟨trivial, trivial, trivial⟩ ?_
          have hJ234 : ∀ (M234 : Mem), (SK wh M M234) → f_X7_work M m ln = f_X7_work_234 m ln M M234 → V G X 7 0 0 (Qx G X 0 0 (p_X7_work M m ln)) 234 [(0, .ref 52), (1, .int m), (2, .int ln), (3, .int (mI M 61 (ix ((32 * m) + ln)))), (5, .int (mI M 63 (ix ((32 * m) + ln))))] [] M234 := by
            intro M234 s234 E
            refine V.seg F floX7 cjoX7 [.iload_n 3, .bipush 27] (by decide +kernel) (pc2 := 237) (lv2 := [(0, .ref 52), (1, .int m), (2, .int ln), (3, .int (mI M 61 (ix ((32 * m) + ln)))), (5, .int (mI M 63 (ix ((32 * m) + ln))))]) (st2 := [.int 27, .int (mI M 61 (ix ((32 * m) + ln)))]) (M2 := M234) rfl ⟨trivial, trivial, trivial⟩ ?_
            have hJ259 : ∀ (M259 : Mem), (SK wh M M259) → f_X7_work M m ln = f_X7_work_259 M259 → V G X 7 0 0 (Qx G X 0 0 (p_X7_work M m ln)) 259 [] [] M259 := by
              intro M259 s259 E
              exact V.vret F (by decide +kernel) ⟨rfl, E.symm, s259⟩
            refine V.ic_eq (off := 22) F (by decide +kernel) (tgt := 259) (by decide) (fun h237 => ?_) (fun h237 => ?_)
            · replace E := E.trans (if_pos h237)
              refine V.pick [] rfl ?_
              exact hJ259 M234 s234 E
            · replace E := E.trans (if_neg h237)
              refine V.seg F floX7 cjoX7 [.aload_n 0, .iload_n 1, .iload_n 3, .bipush 26] (by decide +kernel) (pc2 := 245) (lv2 := [(0, .ref 52), (1, .int m), (2, .int ln), (3, .int (mI M 61 (ix ((32 * m) + ln)))), (5, .int (mI M 63 (ix ((32 * m) + ln))))]) (st2 := [.int 26, .int (mI M 61 (ix ((32 * m) + ln))), .int m, .ref 52]) (M2 := M234) rfl ⟨trivial, trivial, trivial, trivial, trivial⟩ ?_
              have hJ256 : ∀ (w0_256 : Int32) (M256 : Mem), (SK wh M M256) → (vp_in w0_256 34) → f_X7_work M m ln = f_X7_work_256 m w0_256 M256 → V G X 7 0 0 (Qx G X 0 0 (p_X7_work M m ln)) 256 [] [.int w0_256, .int m, .ref 52] M256 := by
                intro w0_256 M256 s256 j256 E
                refine V.callV (as := [.int m, .int w0_256]) (rest := []) F (by decide +kernel) lX7_293 bX7_goTo ⟨7, _, ((q.sm s256.1).o 52 7 rfl), rfl, rfl⟩ (c_X7_goTo G X.2.1 M256 m w0_256 (q.sm s256.1) s256.2.1 i_m j256 (cn.of (s256.2.2 60 _ rfl).1 cL)) (rm_ok hRm hd (by decide) (by decide)) ⟨Nat.zero_le _, Nat.zero_le _⟩ (Nat.le_of_ble_eq_true rfl) (fun r_ N_ p_ => ?_)
                obtain ⟨rfl, rfl, t256⟩ := p_
                refine (?_ : ∀ (M259 : Mem), (SK wh M M259) → f_X7_work M m ln = f_X7_work_c259 M259 → V G X 7 0 0 (Qx G X 0 0 (p_X7_work M m ln)) 259 [] [] M259) _ (SK.tr s256 t256) E
                intro M259 s259 E
                refine V.pick [] rfl ?_
                exact hJ259 M259 s259 E
              refine V.ic_ne (off := 8) F (by decide +kernel) (tgt := 253) (by decide) (fun h245 => ?_) (fun h245 => ?_)
              · replace E := E.trans (if_neg h245)
                refine V.seg F floX7 cjoX7 [.iload_n 2, .iconst 1, .iadd] (by decide +kernel) (pc2 := 256) (lv2 := [(0, .ref 52), (1, .int m), (2, .int ln), (3, .int (mI M 61 (ix ((32 * m) + ln)))), (5, .int (mI M 63 (ix ((32 * m) + ln))))]) (st2 := [.int (ln + 1), .int m, .ref 52]) (M2 := M234) rfl ⟨trivial, trivial, trivial, trivial⟩ ?_
                refine V.pick [] rfl ?_
                exact hJ256 (ln + 1) M234 s234 (by first | exact hL.2.2.2.2.2 h245 | exact ln1 i_ln) E
              · replace E := E.trans (if_pos h245)
                refine V.seg F floX7 cjoX7 [.iload 5, .goto 6] (by decide +kernel) (pc2 := 256) (lv2 := [(0, .ref 52), (1, .int m), (2, .int ln), (3, .int (mI M 61 (ix ((32 * m) + ln)))), (5, .int (mI M 63 (ix ((32 * m) + ln))))]) (st2 := [.int (mI M 63 (ix ((32 * m) + ln))), .int m, .ref 52]) (M2 := M234) rfl ⟨trivial, (by decide), trivial⟩ ?_
                refine V.pick [] rfl ?_
                exact hJ256 (mI M 63 (ix ((32 * m) + ln))) M234 s234 (by first | exact hL.2.2.2.2.2 h245 | exact ln1 i_ln) E
          refine V.ic_ge (off := 45) F (by decide +kernel) (tgt := 176) (by decide) (fun h131 => ?_) (fun h131 => ?_)
          · replace E := E.trans (if_pos h131)
            refine V.seg F floX7 cjoX7 [.iload_n 3, .bipush 20] (by decide +kernel) (pc2 := 179) (lv2 := [(0, .ref 52), (1, .int m), (2, .int ln), (3, .int (mI M 61 (ix ((32 * m) + ln)))), (4, .int (mI M 62 (ix ((32 * m) + ln)))), (5, .int (mI M 63 (ix ((32 * m) + ln))))]) (st2 := [.int 20, .int (mI M 61 (ix ((32 * m) + ln)))]) (M2 := M128) rfl ⟨trivial, trivial, trivial⟩ ?_
            refine V.ic_ne (off := 18) F (by decide +kernel) (tgt := 197) (by decide) (fun h179 => ?_) (fun h179 => ?_)
            · replace E := E.trans (if_neg h179)
              refine V.seg F floX7 cjoX7 [.iload_n 3, .bipush 21] (by decide +kernel) (pc2 := 200) (lv2 := [(0, .ref 52), (1, .int m), (2, .int ln), (3, .int (mI M 61 (ix ((32 * m) + ln)))), (4, .int (mI M 62 (ix ((32 * m) + ln)))), (5, .int (mI M 63 (ix ((32 * m) + ln))))]) (st2 := [.int 21, .int (mI M 61 (ix ((32 * m) + ln)))]) (M2 := M128) rfl ⟨trivial, trivial, trivial⟩ ?_
              refine V.ic_ne (off := 20) F (by decide +kernel) (tgt := 220) (by decide) (fun h200 => ?_) (fun h200 => ?_)
              · replace E := E.trans (if_neg h200)
                refine V.seg F floX7 cjoX7 [.iload_n 3, .bipush 22] (by decide +kernel) (pc2 := 223) (lv2 := [(0, .ref 52), (1, .int m), (2, .int ln), (3, .int (mI M 61 (ix ((32 * m) + ln)))), (4, .int (mI M 62 (ix ((32 * m) + ln)))), (5, .int (mI M 63 (ix ((32 * m) + ln))))]) (st2 := [.int 22, .int (mI M 61 (ix ((32 * m) + ln)))]) (M2 := M128) rfl ⟨trivial, trivial, trivial⟩ ?_
                refine V.ic_ne (off := 11) F (by decide +kernel) (tgt := 234) (by decide) (fun h223 => ?_) (fun h223 => ?_)
                · replace E := E.trans (if_neg h223)
                  refine V.pick [0, 1, 2, 3, 5] rfl ?_
                  exact hJ234 M128 s128 E
                · replace E := E.trans (if_pos h223)
                  refine V.seg F floX7 cjoX7 [.aload_n 0, .iload 4, .iload 5] (by decide +kernel) (pc2 := 231) (lv2 := [(0, .ref 52), (1, .int m), (2, .int ln), (3, .int (mI M 61 (ix ((32 * m) + ln)))), (4, .int (mI M 62 (ix ((32 * m) + ln)))), (5, .int (mI M 63 (ix ((32 * m) + ln))))]) (st2 := [.int (mI M 63 (ix ((32 * m) + ln))), .int (mI M 62 (ix ((32 * m) + ln))), .ref 52]) (M2 := M128) rfl ⟨trivial, trivial, trivial, trivial⟩ ?_
                  refine V.callV (as := [.int (mI M 62 (ix ((32 * m) + ln))), .int (mI M 63 (ix ((32 * m) + ln)))]) (rest := []) F (by decide +kernel) lX7_296 bX7_look ⟨7, _, ((q.sm s128.1).o 52 7 rfl), rfl, rfl⟩ (c_X7_look G X.2.1 M128 (mI M 62 (ix ((32 * m) + ln))) (mI M 63 (ix ((32 * m) + ln))) (q.sm s128.1) s128.2.1 hL.1 (hL.2.2.2.1 h223) (cn.of (s128.2.2 64 _ rfl).1 (hT _ (vin_lt (hL.2.2.2.1 h223))))) (rm_ok hRm hd (by decide) (by decide)) ⟨Nat.zero_le _, Nat.zero_le _⟩ (Nat.le_of_ble_eq_true rfl) (fun r_ N_ p_ => ?_)
                  obtain ⟨rfl, rfl, t231⟩ := p_
                  refine (?_ : ∀ (M234 : Mem), (SK wh M M234) → f_X7_work M m ln = f_X7_work_c234 m ln M M234 → V G X 7 0 0 (Qx G X 0 0 (p_X7_work M m ln)) 234 [(0, .ref 52), (1, .int m), (2, .int ln), (3, .int (mI M 61 (ix ((32 * m) + ln)))), (4, .int (mI M 62 (ix ((32 * m) + ln)))), (5, .int (mI M 63 (ix ((32 * m) + ln))))] [] M234) _ (SK.tr s128 (t231.mono sub_wg_wh)) E
                  intro M234 s234 E
                  refine V.pick [0, 1, 2, 3, 5] rfl ?_
                  exact hJ234 M234 s234 E
              · replace E := E.trans (if_pos h200)
                refine V.seg F floX7 cjoX7 [.aload_n 0, .bipush 48, .iload 4, .iadd, .bipush 40, .iload 5, .iadd] (by decide +kernel) (pc2 := 214) (lv2 := [(0, .ref 52), (1, .int m), (2, .int ln), (3, .int (mI M 61 (ix ((32 * m) + ln)))), (4, .int (mI M 62 (ix ((32 * m) + ln)))), (5, .int (mI M 63 (ix ((32 * m) + ln))))]) (st2 := [.int (40 + (mI M 63 (ix ((32 * m) + ln)))), .int (48 + (mI M 62 (ix ((32 * m) + ln)))), .ref 52]) (M2 := M128) rfl ⟨trivial, trivial, trivial, trivial, trivial, trivial, trivial, trivial⟩ ?_
                refine V.callV (as := [.int (48 + (mI M 62 (ix ((32 * m) + ln)))), .int (40 + (mI M 63 (ix ((32 * m) + ln))))]) (rest := []) F (by decide +kernel) lX7_133 bX7_copy ⟨7, _, ((q.sm s128.1).o 52 7 rfl), rfl, rfl⟩ (c_X7_copy G X.2.1 M128 (48 + (mI M 62 (ix ((32 * m) + ln)))) (40 + (mI M 63 (ix ((32 * m) + ln)))) (q.sm s128.1) s128.2.1 (v48 hL.1) (v40 (by first | exact hL.2.1 h131 | exact hL.2.2.1 h200))) (rm_ok hRm hd (by decide) (by decide)) ⟨Nat.zero_le _, Nat.zero_le _⟩ (Nat.le_of_ble_eq_true rfl) (fun r_ N_ p_ => ?_)
                obtain ⟨rfl, rfl, t214⟩ := p_
                refine (?_ : ∀ (M217 : Mem), (SK wh M M217) → f_X7_work M m ln = f_X7_work_c217 m ln M M217 → V G X 7 0 0 (Qx G X 0 0 (p_X7_work M m ln)) 217 [(0, .ref 52), (1, .int m), (2, .int ln), (3, .int (mI M 61 (ix ((32 * m) + ln)))), (4, .int (mI M 62 (ix ((32 * m) + ln)))), (5, .int (mI M 63 (ix ((32 * m) + ln))))] [] M217) _ (SK.tr s128 (t214.mono sub_wg_wh)) E
                intro M217 s217 E
                refine V.seg F floX7 cjoX7 [.goto 17] (by decide +kernel) (pc2 := 234) (lv2 := [(0, .ref 52), (1, .int m), (2, .int ln), (3, .int (mI M 61 (ix ((32 * m) + ln)))), (4, .int (mI M 62 (ix ((32 * m) + ln)))), (5, .int (mI M 63 (ix ((32 * m) + ln))))]) (st2 := []) (M2 := M217) rfl ⟨(by decide), trivial⟩ ?_
                refine V.pick [0, 1, 2, 3, 5] rfl ?_
                exact hJ234 M217 s217 E
            · replace E := E.trans (if_pos h179)
              refine V.seg F floX7 cjoX7 [.aload_n 0, .bipush 48, .iload 4, .iadd, .iload 5, .i2l] (by decide +kernel) (pc2 := 191) (lv2 := [(0, .ref 52), (1, .int m), (2, .int ln), (3, .int (mI M 61 (ix ((32 * m) + ln)))), (4, .int (mI M 62 (ix ((32 * m) + ln)))), (5, .int (mI M 63 (ix ((32 * m) + ln))))]) (st2 := [.long (Int32.toInt64 (mI M 63 (ix ((32 * m) + ln)))), .int (48 + (mI M 62 (ix ((32 * m) + ln)))), .ref 52]) (M2 := M128) rfl ⟨trivial, trivial, trivial, trivial, trivial, trivial, trivial⟩ ?_
              refine V.callV (as := [.int (48 + (mI M 62 (ix ((32 * m) + ln)))), .long (Int32.toInt64 (mI M 63 (ix ((32 * m) + ln))))]) (rest := []) F (by decide +kernel) lX7_118 bX7_number ⟨7, _, ((q.sm s128.1).o 52 7 rfl), rfl, rfl⟩ (c_X7_number G X.2.1 M128 (48 + (mI M 62 (ix ((32 * m) + ln)))) (Int32.toInt64 (mI M 63 (ix ((32 * m) + ln)))) (q.sm s128.1) s128.2.1 (v48 hL.1)) (rm_ok hRm hd (by decide) (by decide)) ⟨Nat.zero_le _, Nat.zero_le _⟩ (Nat.le_of_ble_eq_true rfl) (fun r_ N_ p_ => ?_)
              obtain ⟨rfl, rfl, t191⟩ := p_
              refine (?_ : ∀ (M194 : Mem), (SK wh M M194) → f_X7_work M m ln = f_X7_work_c194 m ln M M194 → V G X 7 0 0 (Qx G X 0 0 (p_X7_work M m ln)) 194 [(0, .ref 52), (1, .int m), (2, .int ln), (3, .int (mI M 61 (ix ((32 * m) + ln)))), (4, .int (mI M 62 (ix ((32 * m) + ln)))), (5, .int (mI M 63 (ix ((32 * m) + ln))))] [] M194) _ (SK.tr s128 (t191.mono sub_wg_wh)) E
              intro M194 s194 E
              refine V.seg F floX7 cjoX7 [.goto 40] (by decide +kernel) (pc2 := 234) (lv2 := [(0, .ref 52), (1, .int m), (2, .int ln), (3, .int (mI M 61 (ix ((32 * m) + ln)))), (4, .int (mI M 62 (ix ((32 * m) + ln)))), (5, .int (mI M 63 (ix ((32 * m) + ln))))]) (st2 := []) (M2 := M194) rfl ⟨(by decide), trivial⟩ ?_
              refine V.pick [0, 1, 2, 3, 5] rfl ?_
              exact hJ234 M194 s194 E
          · replace E := E.trans (if_neg h131)
            refine V.seg F floX7 cjoX7 [.aload_n 0, .iload_n 3, .bipush 40, .iload_n 3, .bipush 12] (by decide +kernel) (pc2 := 141) (lv2 := [(0, .ref 52), (1, .int m), (2, .int ln), (3, .int (mI M 61 (ix ((32 * m) + ln)))), (4, .int (mI M 62 (ix ((32 * m) + ln)))), (5, .int (mI M 63 (ix ((32 * m) + ln))))]) (st2 := [.int 12, .int (mI M 61 (ix ((32 * m) + ln))), .int 40, .int (mI M 61 (ix ((32 * m) + ln))), .ref 52]) (M2 := M128) rfl ⟨trivial, trivial, trivial, trivial, trivial, trivial⟩ ?_
            have hJ151 : ∀ (w0_151 : Int32) (M151 : Mem), (SK wh M M151) → (vp_in w0_151 8) → f_X7_work M m ln = f_X7_work_151 m ln M w0_151 M151 → V G X 7 0 0 (Qx G X 0 0 (p_X7_work M m ln)) 151 [(0, .ref 52), (1, .int m), (2, .int ln), (3, .int (mI M 61 (ix ((32 * m) + ln)))), (4, .int (mI M 62 (ix ((32 * m) + ln)))), (5, .int (mI M 63 (ix ((32 * m) + ln))))] [.int w0_151, .int 40, .int (mI M 61 (ix ((32 * m) + ln))), .ref 52] M151 := by
              intro w0_151 M151 s151 j151 E
              refine V.seg F floX7 cjoX7 [.iadd, .bipush 40, .iload 5, .iadd, .bipush 26] (by decide +kernel) (pc2 := 159) (lv2 := [(0, .ref 52), (1, .int m), (2, .int ln), (3, .int (mI M 61 (ix ((32 * m) + ln)))), (4, .int (mI M 62 (ix ((32 * m) + ln)))), (5, .int (mI M 63 (ix ((32 * m) + ln))))]) (st2 := [.int 26, .int (40 + (mI M 63 (ix ((32 * m) + ln)))), .int (40 + w0_151), .int (mI M 61 (ix ((32 * m) + ln))), .ref 52]) (M2 := M151) rfl ⟨trivial, trivial, trivial, trivial, trivial, trivial⟩ ?_
              refine V.callV (as := [.int (mI M 61 (ix ((32 * m) + ln))), .int (40 + w0_151), .int (40 + (mI M 63 (ix ((32 * m) + ln)))), .int 26]) (rest := []) F (by decide +kernel) lX7_245 bX7_does ⟨7, _, ((q.sm s151.1).o 52 7 rfl), rfl, rfl⟩ (c_X7_does G X.2.1 M151 (mI M 61 (ix ((32 * m) + ln))) (40 + w0_151) (40 + (mI M 63 (ix ((32 * m) + ln)))) 26 (q.sm s151.1) s151.2.1 (v40 j151) (v40 (by first | exact hL.2.1 h131 | exact hL.2.2.1 h200)) (vinc (by decide))) (rm_ok hRm hd (by decide) (by decide)) ⟨Nat.zero_le _, Nat.zero_le _⟩ (Nat.le_of_ble_eq_true rfl) (fun r_ N_ p_ => ?_)
              obtain ⟨rfl, rfl, t159⟩ := p_
              refine (?_ : ∀ (M162 : Mem), (SK wh M M162) → f_X7_work M m ln = f_X7_work_c162 m ln M M162 → V G X 7 0 0 (Qx G X 0 0 (p_X7_work M m ln)) 162 [(0, .ref 52), (1, .int m), (2, .int ln), (3, .int (mI M 61 (ix ((32 * m) + ln)))), (4, .int (mI M 62 (ix ((32 * m) + ln)))), (5, .int (mI M 63 (ix ((32 * m) + ln))))] [] M162) _ (SK.tr s151 (t159.mono sub_wg_wh)) E
              intro M162 s162 E
              refine V.seg F floX7 cjoX7 [.aload_n 0, .bipush 48, .iload 4, .iadd, .bipush 26] (by decide +kernel) (pc2 := 170) (lv2 := [(0, .ref 52), (1, .int m), (2, .int ln), (3, .int (mI M 61 (ix ((32 * m) + ln)))), (4, .int (mI M 62 (ix ((32 * m) + ln)))), (5, .int (mI M 63 (ix ((32 * m) + ln))))]) (st2 := [.int 26, .int (48 + (mI M 62 (ix ((32 * m) + ln)))), .ref 52]) (M2 := M162) rfl ⟨trivial, trivial, trivial, trivial, trivial, trivial⟩ ?_
              refine V.callV (as := [.int (48 + (mI M 62 (ix ((32 * m) + ln)))), .int 26]) (rest := []) F (by decide +kernel) lX7_133 bX7_copy ⟨7, _, ((q.sm s162.1).o 52 7 rfl), rfl, rfl⟩ (c_X7_copy G X.2.1 M162 (48 + (mI M 62 (ix ((32 * m) + ln)))) 26 (q.sm s162.1) s162.2.1 (v48 hL.1) (vinc (by decide))) (rm_ok hRm hd (by decide) (by decide)) ⟨Nat.zero_le _, Nat.zero_le _⟩ (Nat.le_of_ble_eq_true rfl) (fun r_ N_ p_ => ?_)
              obtain ⟨rfl, rfl, t170⟩ := p_
              refine (?_ : ∀ (M173 : Mem), (SK wh M M173) → f_X7_work M m ln = f_X7_work_c173 m ln M M173 → V G X 7 0 0 (Qx G X 0 0 (p_X7_work M m ln)) 173 [(0, .ref 52), (1, .int m), (2, .int ln), (3, .int (mI M 61 (ix ((32 * m) + ln)))), (4, .int (mI M 62 (ix ((32 * m) + ln)))), (5, .int (mI M 63 (ix ((32 * m) + ln))))] [] M173) _ (SK.tr s162 (t170.mono sub_wg_wh)) E
              intro M173 s173 E
              refine V.seg F floX7 cjoX7 [.goto 61] (by decide +kernel) (pc2 := 234) (lv2 := [(0, .ref 52), (1, .int m), (2, .int ln), (3, .int (mI M 61 (ix ((32 * m) + ln)))), (4, .int (mI M 62 (ix ((32 * m) + ln)))), (5, .int (mI M 63 (ix ((32 * m) + ln))))]) (st2 := []) (M2 := M173) rfl ⟨(by decide), trivial⟩ ?_
              refine V.pick [0, 1, 2, 3, 5] rfl ?_
              exact hJ234 M173 s173 E
            refine V.ic_ge (off := 8) F (by decide +kernel) (tgt := 149) (by decide) (fun h141 => ?_) (fun h141 => ?_)
            · replace E := E.trans (if_pos h141)
              refine V.seg F floX7 cjoX7 [.iload 5] (by decide +kernel) (pc2 := 151) (lv2 := [(0, .ref 52), (1, .int m), (2, .int ln), (3, .int (mI M 61 (ix ((32 * m) + ln)))), (4, .int (mI M 62 (ix ((32 * m) + ln)))), (5, .int (mI M 63 (ix ((32 * m) + ln))))]) (st2 := [.int (mI M 63 (ix ((32 * m) + ln))), .int 40, .int (mI M 61 (ix ((32 * m) + ln))), .ref 52]) (M2 := M128) rfl ⟨trivial, trivial⟩ ?_
              refine V.pick [0, 1, 2, 3, 4, 5] rfl ?_
              exact hJ151 (mI M 63 (ix ((32 * m) + ln))) M128 s128 (by first | exact hL.1 | exact hL.2.1 h131) E
            · replace E := E.trans (if_neg h141)
              refine V.seg F floX7 cjoX7 [.iload 4, .goto 5] (by decide +kernel) (pc2 := 151) (lv2 := [(0, .ref 52), (1, .int m), (2, .int ln), (3, .int (mI M 61 (ix ((32 * m) + ln)))), (4, .int (mI M 62 (ix ((32 * m) + ln)))), (5, .int (mI M 63 (ix ((32 * m) + ln))))]) (st2 := [.int (mI M 62 (ix ((32 * m) + ln))), .int 40, .int (mI M 61 (ix ((32 * m) + ln))), .ref 52]) (M2 := M128) rfl ⟨trivial, (by decide), trivial⟩ ?_
              refine V.pick [0, 1, 2, 3, 4, 5] rfl ?_
              exact hJ151 (mI M 62 (ix ((32 * m) + ln))) M128 s128 (by first | exact hL.1 | exact hL.2.1 h131) E
        refine V.ic_le (off := 50) F (by decide +kernel) (tgt := 128) (by decide) (fun h78 => ?_) (fun h78 => ?_)
        · replace E := E.trans (if_pos h78)
          refine V.pick [0, 1, 2, 3, 4, 5] rfl ?_
          exact hJ128 M75 s75 E
        · replace E := E.trans (if_neg h78)
          refine V.seg F floX7 cjoX7 [.iload_n 3, .bipush 26] (by decide +kernel) (pc2 := 84) (lv2 := [(0, .ref 52), (1, .int m), (2, .int ln), (3, .int (mI M 61 (ix ((32 * m) + ln)))), (4, .int (mI M 62 (ix ((32 * m) + ln)))), (5, .int (mI M 63 (ix ((32 * m) + ln)))), (6, .int (nI j41))]) (st2 := [.int 26, .int (mI M 61 (ix ((32 * m) + ln)))]) (M2 := M75) rfl ⟨trivial, trivial, trivial⟩ ?_
          refine V.ic_ge (off := 44) F (by decide +kernel) (tgt := 128) (by decide) (fun h84 => ?_) (fun h84 => ?_)
          · replace E := E.trans (if_pos h84)
            refine V.pick [0, 1, 2, 3, 4, 5] rfl ?_
            exact hJ128 M75 s75 E
          · replace E := E.trans (if_neg h84)
            refine V.seg F floX7 cjoX7 [.aload_n 0, .iload_n 3, .iload 4, .iload 5, .iconst 0] (by decide +kernel) (pc2 := 94) (lv2 := [(0, .ref 52), (1, .int m), (2, .int ln), (3, .int (mI M 61 (ix ((32 * m) + ln)))), (4, .int (mI M 62 (ix ((32 * m) + ln)))), (5, .int (mI M 63 (ix ((32 * m) + ln)))), (6, .int (nI j41))]) (st2 := [.int 0, .int (mI M 63 (ix ((32 * m) + ln))), .int (mI M 62 (ix ((32 * m) + ln))), .int (mI M 61 (ix ((32 * m) + ln))), .ref 52]) (M2 := M75) rfl ⟨trivial, trivial, trivial, trivial, trivial, trivial⟩ ?_
            refine V.callV (as := [.int (mI M 61 (ix ((32 * m) + ln))), .int (mI M 62 (ix ((32 * m) + ln))), .int (mI M 63 (ix ((32 * m) + ln))), .int 0]) (rest := []) F (by decide +kernel) lX7_289 bX7_asked ⟨7, _, ((q.sm s75.1).o 52 7 rfl), rfl, rfl⟩ (c_X7_asked G X.2.1 M75 (mI M 61 (ix ((32 * m) + ln))) (mI M 62 (ix ((32 * m) + ln))) (mI M 63 (ix ((32 * m) + ln))) 0 (Or.inl rfl) (q.sm s75.1) s75.2.1 hL.1 (hL.2.2.2.2.1 h78 h84)) (rm_ok hRm hd (by decide) (by decide)) ⟨Nat.zero_le _, Nat.zero_le _⟩ (Nat.le_of_ble_eq_true rfl) (fun r_ N_ p_ => ?_)
            obtain ⟨rfl, rfl, t94⟩ := p_
            refine (?_ : ∀ (M97 : Mem), (SK wh M M97) → f_X7_work M m ln = f_X7_work_c97 m ln M M97 → V G X 7 0 0 (Qx G X 0 0 (p_X7_work M m ln)) 97 [(0, .ref 52), (1, .int m), (2, .int ln), (3, .int (mI M 61 (ix ((32 * m) + ln)))), (4, .int (mI M 62 (ix ((32 * m) + ln)))), (5, .int (mI M 63 (ix ((32 * m) + ln)))), (6, .int (nI j41))] [] M97) _ (SK.tr s75 (t94.mono sub_wg_wh)) E
            intro M97 s97 E
            refine V.seg F floX7 cjoX7 [.aload_n 0, .iload_n 1, .iload_n 2, .iconst 1, .iadd] (by decide +kernel) (pc2 := 102) (lv2 := [(0, .ref 52), (1, .int m), (2, .int ln), (3, .int (mI M 61 (ix ((32 * m) + ln)))), (4, .int (mI M 62 (ix ((32 * m) + ln)))), (5, .int (mI M 63 (ix ((32 * m) + ln)))), (6, .int (nI j41))]) (st2 := [.int (ln + 1), .int m, .ref 52]) (M2 := M97) rfl ⟨trivial, trivial, trivial, trivial, trivial, trivial⟩ ?_
            refine V.callV (as := [.int m, .int (ln + 1)]) (rest := []) F (by decide +kernel) lX7_293 bX7_goTo ⟨7, _, ((q.sm s97.1).o 52 7 rfl), rfl, rfl⟩ (c_X7_goTo G X.2.1 M97 m (ln + 1) (q.sm s97.1) s97.2.1 i_m (ln1 i_ln) (cn.of (s97.2.2 60 _ rfl).1 cL)) (rm_ok hRm hd (by decide) (by decide)) ⟨Nat.zero_le _, Nat.zero_le _⟩ (Nat.le_of_ble_eq_true rfl) (fun r_ N_ p_ => ?_)
            obtain ⟨rfl, rfl, t102⟩ := p_
            refine (?_ : ∀ (M105 : Mem), (SK wh M M105) → f_X7_work M m ln = f_X7_work_c105 m ln M M105 → V G X 7 0 0 (Qx G X 0 0 (p_X7_work M m ln)) 105 [(0, .ref 52), (1, .int m), (2, .int ln), (3, .int (mI M 61 (ix ((32 * m) + ln)))), (4, .int (mI M 62 (ix ((32 * m) + ln)))), (5, .int (mI M 63 (ix ((32 * m) + ln)))), (6, .int (nI j41))] [] M105) _ (SK.tr s97 t102) E
            intro M105 s105 E
            refine V.seg F floX7 cjoX7 [.aload_n 0] (by decide +kernel) (pc2 := 106) (lv2 := [(0, .ref 52), (1, .int m), (2, .int ln), (3, .int (mI M 61 (ix ((32 * m) + ln)))), (4, .int (mI M 62 (ix ((32 * m) + ln)))), (5, .int (mI M 63 (ix ((32 * m) + ln)))), (6, .int (nI j41))]) (st2 := [.ref 52]) (M2 := M105) rfl ⟨trivial, trivial⟩ ?_
            refine V.callV (as := []) (rest := []) F (by decide +kernel) lX7_286 bX7_ready ⟨7, _, ((q.sm s105.1).o 52 7 rfl), rfl, rfl⟩ (c_X7_ready G X.2.1 M105 (q.sm s105.1) s105.2.1) (rm_ok hRm hd (by decide) (by decide)) ⟨Nat.zero_le _, Nat.zero_le _⟩ (Nat.le_of_ble_eq_true rfl) (fun r_ N_ p_ => ?_)
            obtain ⟨rfl, rfl, t106⟩ := p_
            refine (?_ : ∀ (M109 : Mem), (SK wh M M109) → f_X7_work M m ln = f_X7_work_c109 m ln M M109 → V G X 7 0 0 (Qx G X 0 0 (p_X7_work M m ln)) 109 [(0, .ref 52), (1, .int m), (2, .int ln), (3, .int (mI M 61 (ix ((32 * m) + ln)))), (4, .int (mI M 62 (ix ((32 * m) + ln)))), (5, .int (mI M 63 (ix ((32 * m) + ln)))), (6, .int (nI j41))] [] M109) _ (SK.tr s105 (t106.mono sub_wg_wh)) E
            intro M109 s109 E
            refine V.seg F floX7 cjoX7 [.aload_n 0, .iload_n 3, .iload 4, .iload 5, .iconst 1] (by decide +kernel) (pc2 := 116) (lv2 := [(0, .ref 52), (1, .int m), (2, .int ln), (3, .int (mI M 61 (ix ((32 * m) + ln)))), (4, .int (mI M 62 (ix ((32 * m) + ln)))), (5, .int (mI M 63 (ix ((32 * m) + ln)))), (6, .int (nI j41))]) (st2 := [.int 1, .int (mI M 63 (ix ((32 * m) + ln))), .int (mI M 62 (ix ((32 * m) + ln))), .int (mI M 61 (ix ((32 * m) + ln))), .ref 52]) (M2 := M109) rfl ⟨trivial, trivial, trivial, trivial, trivial, trivial⟩ ?_
            refine V.callV (as := [.int (mI M 61 (ix ((32 * m) + ln))), .int (mI M 62 (ix ((32 * m) + ln))), .int (mI M 63 (ix ((32 * m) + ln))), .int 1]) (rest := []) F (by decide +kernel) lX7_289 bX7_asked ⟨7, _, ((q.sm s109.1).o 52 7 rfl), rfl, rfl⟩ (c_X7_asked G X.2.1 M109 (mI M 61 (ix ((32 * m) + ln))) (mI M 62 (ix ((32 * m) + ln))) (mI M 63 (ix ((32 * m) + ln))) 1 (Or.inr rfl) (q.sm s109.1) s109.2.1 hL.1 (hL.2.2.2.2.1 h78 h84)) (rm_ok hRm hd (by decide) (by decide)) ⟨Nat.zero_le _, Nat.zero_le _⟩ (Nat.le_of_ble_eq_true rfl) (fun r_ N_ p_ => ?_)
            obtain ⟨rfl, rfl, t116⟩ := p_
            refine (?_ : ∀ (M119 : Mem), (SK wh M M119) → f_X7_work M m ln = f_X7_work_c119 m ln M119 → V G X 7 0 0 (Qx G X 0 0 (p_X7_work M m ln)) 119 [(0, .ref 52), (1, .int m), (2, .int ln), (3, .int (mI M 61 (ix ((32 * m) + ln)))), (4, .int (mI M 62 (ix ((32 * m) + ln)))), (5, .int (mI M 63 (ix ((32 * m) + ln)))), (6, .int (nI j41))] [] M119) _ (SK.tr s109 (t116.mono sub_wg_wh)) E
            intro M119 s119 E
            refine V.seg F floX7 cjoX7 [.aload_n 0, .iload_n 1, .iload_n 2, .iconst 2, .iadd] (by decide +kernel) (pc2 := 124) (lv2 := [(0, .ref 52), (1, .int m), (2, .int ln), (3, .int (mI M 61 (ix ((32 * m) + ln)))), (4, .int (mI M 62 (ix ((32 * m) + ln)))), (5, .int (mI M 63 (ix ((32 * m) + ln)))), (6, .int (nI j41))]) (st2 := [.int (ln + 2), .int m, .ref 52]) (M2 := M119) rfl ⟨trivial, trivial, trivial, trivial, trivial, trivial⟩ ?_
            refine V.callV (as := [.int m, .int (ln + 2)]) (rest := []) F (by decide +kernel) lX7_293 bX7_goTo ⟨7, _, ((q.sm s119.1).o 52 7 rfl), rfl, rfl⟩ (c_X7_goTo G X.2.1 M119 m (ln + 2) (q.sm s119.1) s119.2.1 i_m (ln2 i_ln) (cn.of (s119.2.2 60 _ rfl).1 cL)) (rm_ok hRm hd (by decide) (by decide)) ⟨Nat.zero_le _, Nat.zero_le _⟩ (Nat.le_of_ble_eq_true rfl) (fun r_ N_ p_ => ?_)
            obtain ⟨rfl, rfl, t124⟩ := p_
            refine (?_ : ∀ (M127 : Mem), (SK wh M M127) → f_X7_work M m ln = f_X7_work_c127 M127 → V G X 7 0 0 (Qx G X 0 0 (p_X7_work M m ln)) 127 [(0, .ref 52), (1, .int m), (2, .int ln), (3, .int (mI M 61 (ix ((32 * m) + ln)))), (4, .int (mI M 62 (ix ((32 * m) + ln)))), (5, .int (mI M 63 (ix ((32 * m) + ln)))), (6, .int (nI j41))] [] M127) _ (SK.tr s119 t124) E
            intro M127 s127 E
            exact V.vret F (by decide +kernel) ⟨rfl, E.symm, s127⟩
      · replace E := E.trans (if_neg h45)
        refine V.seg F floX7 cjoX7 [.aload_n 0, .bipush 40, .iload 6, .iadd, .aload_n 0, .iload_n 1, .iload_n 2, .iload 6] (by decide +kernel) (pc2 := 59) (lv2 := [(0, .ref 52), (1, .int m), (2, .int ln), (3, .int (mI M 61 (ix ((32 * m) + ln)))), (4, .int (mI M 62 (ix ((32 * m) + ln)))), (5, .int (mI M 63 (ix ((32 * m) + ln)))), (6, .int (nI j41))]) (st2 := [.int (nI j41), .int ln, .int m, .ref 52, .int (40 + (nI j41)), .ref 52]) (M2 := M41) rfl ⟨trivial, trivial, trivial, trivial, trivial, trivial, trivial, trivial, trivial⟩ ?_
        refine V.callV (as := [.int m, .int ln, .int (nI j41)]) (rest := [.int (40 + (nI j41)), .ref 52]) F (by decide +kernel) lX7_276 bX7_cell ⟨7, _, ((q.sm s41.1).o 52 7 rfl), rfl, rfl⟩ (c_X7_cell G X.2.1 M41 m ln (nI j41) (q.sm s41.1) s41.2.1) (rm_ok hRm hd (by decide) (by decide)) ⟨Nat.zero_le _, Nat.zero_le _⟩ (Nat.le_of_ble_eq_true rfl) (fun r_ N_ p_ => ?_)
        obtain ⟨rfl, hN_⟩ := p_
        rw [hN_]
        clear hN_
        refine V.callV (as := [.int (40 + (nI j41)), .int (f_X7_cell m ln (nI j41))]) (rest := []) F (by decide +kernel) lX7_133 bX7_copy ⟨7, _, ((q.sm s41.1).o 52 7 rfl), rfl, rfl⟩ (c_X7_copy G X.2.1 M41 (40 + (nI j41)) (f_X7_cell m ln (nI j41)) (q.sm s41.1) s41.2.1 (v40 (vnj (cnt_lt (n := 8) h45 rfl (by omega) (by decide)) (by decide) (by decide))) (cell_in i_m i_ln (vnj (cnt_lt (n := 8) h45 rfl (by omega) (by decide)) (by decide) (by decide)))) (rm_ok hRm hd (by decide) (by decide)) ⟨Nat.zero_le _, Nat.zero_le _⟩ (Nat.le_of_ble_eq_true rfl) (fun r_ N_ p_ => ?_)
        obtain ⟨rfl, rfl, t62⟩ := p_
        refine (?_ : ∀ (M65 : Mem), (SK wh M M65) → f_X7_work M m ln = f_X7_work_c65 j41 (f_X7_work_41 m ln M n_) M65 → V G X 7 0 0 (Qx G X 0 0 (p_X7_work M m ln)) 65 [(0, .ref 52), (1, .int m), (2, .int ln), (3, .int (mI M 61 (ix ((32 * m) + ln)))), (4, .int (mI M 62 (ix ((32 * m) + ln)))), (5, .int (mI M 63 (ix ((32 * m) + ln)))), (6, .int (nI j41))] [] M65) _ (SK.tr s41 (t62.mono sub_wg_wh)) E
        intro M65 s65 E
        refine V.seg F floX7 cjoX7 [.iinc 6 1, .goto (-27)] (by decide +kernel) (pc2 := 41) (lv2 := [(6, .int ((nI j41) + 1)), (0, .ref 52), (1, .int m), (2, .int ln), (3, .int (mI M 61 (ix ((32 * m) + ln)))), (4, .int (mI M 62 (ix ((32 * m) + ln)))), (5, .int (mI M 63 (ix ((32 * m) + ln))))]) (st2 := []) (M2 := M65) rfl ⟨(by decide), (by decide), trivial⟩ ?_
        refine V.pick [1, 2, 3, 4, 5, 6, 0] rfl ?_
        rw [nI_1]
        exact ih_41 (j41 + 1) M65 s65 (by have hlt_ := cnt_lt (n := 8) h45 rfl (by omega) (by decide); omega) (by have hlt_ := cnt_lt (n := 8) h45 rfl (by omega) (by decide); omega) E
  refine V.pick [4, 5, 6, 3, 2, 1, 0] rfl ?_
  exact hJ41 _ 0 M (SK.rf (w := wh) gb) (by omega) (by omega) E
