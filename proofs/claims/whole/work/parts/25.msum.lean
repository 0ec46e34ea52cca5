/-- the run's check writes one field alone -/
def wc (a k : Nat) : Bool := decide (a = 52) && decide (k = 26)
theorem sub_wc_wa : ∀ a k, wc a k = true → wa a k = true := fun a k h => by
  simp only [wc, wa, Bool.and_eq_true, decide_eq_true_eq] at h ⊢
  omega
def f_X7_sum_20  (M20 : Mem) : Int32 × Mem := ((-1), M20)
def f_X7_sum_124  (w0_124 : Int32) (M124 : Mem) : Int32 × Mem := (w0_124, M124)
def f_X7_sum_109 (m : Int32) (w : Int32) (y3_39 : Int32) (M109 : Mem) : Int32 × Mem := if w = 3 then f_X7_sum_124 (mI M109 68 (ix m)) M109 else f_X7_sum_124 y3_39 M109
def f_X7_sum_103 (j39 : Nat) (R39_ : Int32 → Nat → Mem → (Int32 × Mem)) (y3_103 : Int32) (M103 : Mem) : Int32 × Mem := R39_ y3_103 (j39 + 1) M103
def f_X7_sum_101 (y3_39 : Int32) (j39 : Nat) (R39_ : Int32 → Nat → Mem → (Int32 × Mem)) (w0_101 : Int32) (M101 : Mem) : Int32 × Mem := f_X7_sum_103 j39 R39_ (y3_39 + w0_101) M101
def f_X7_sum_c91 (y3_39 : Int32) (j39 : Nat) (R39_ : Int32 → Nat → Mem → (Int32 × Mem)) (x91 : Int32) (M91 : Mem) : Int32 × Mem := f_X7_sum_101 y3_39 j39 R39_ x91 M91
def f_X7_sum_39 (m : Int32) (w : Int32) : Nat → Int32 → Nat → Mem → (Int32 × Mem)
  | 0, _, _, M39 => (0, M39)
  | n_ + 1, y3_39, j39, M39 => if (mI M39 60 (ix m)) ≤ (nI j39) then f_X7_sum_109 m w y3_39 M39 else if 3 ≤ w then f_X7_sum_109 m w y3_39 M39 else if (mI M39 67 (ix ((32 * m) + (nI j39)))) = 0 then f_X7_sum_103 j39 (f_X7_sum_39 m w n_) y3_39 M39 else if w = 0 then f_X7_sum_101 y3_39 j39 (f_X7_sum_39 m w n_) 1 M39 else if w = 1 then f_X7_sum_c91 y3_39 j39 (f_X7_sum_39 m w n_) ((f_X7_gives M39 m (nI j39)).1) ((f_X7_gives M39 m (nI j39)).2) else f_X7_sum_101 y3_39 j39 (f_X7_sum_39 m w n_) (f_X7_numbers M39 m (nI j39)) M39
def f_X7_sum (M : Mem) (m : Int32) (w : Int32) : Int32 × Mem := if (f_X7_isMethod M m) = 0 then f_X7_sum_20 M else if (f_X7_in (Int32.toInt64 w) 0 3) = 0 then f_X7_sum_20 M else if (mI M 66 (ix m)) = 0 then ((-3), M) else f_X7_sum_39 m w (ix (mI M 60 (ix m)) + 1) 0 0 M
abbrev p_X7_sum (M : Mem) (m : Int32) (w : Int32) : Option Value → Mem → Prop := fun r N => r = some (.int (f_X7_sum M m w).1) ∧ N = (f_X7_sum M m w).2 ∧ SK wg M N
set_option maxRecDepth 100000 in
set_option maxHeartbeats 4000000 in
theorem c_X7_sum (G : Ctx) (l : Launch) (M : Mem) (m : Int32) (w : Int32) (q : Ok M) (gb : Gb M) (cM : cn (mI M 52 9) 6) (hLs : ∀ m, m < 6 → cn (mI M 60 m) 32) (hLn : ∀ l : Nat, l < ix (mI M 60 (ix m)) → LnOK (mI M 61 (ix ((32 * m) + (nI l)))) (mI M 62 (ix ((32 * m) + (nI l)))) (mI M 63 (ix ((32 * m) + (nI l))))) : CT G l 8 mX7_sum [.ref 52, .int m, .int w] M 0 0 (p_X7_sum M m w) := by
  refine CT.of (by decide) (Nat.le_of_ble_eq_true rfl) ?_
  intro X d hd hl hRm hnm F
  subst hl
  have E : f_X7_sum M m w = f_X7_sum M m w := rfl
  show V G X 5 0 0 (Qx G X 0 0 (p_X7_sum M m w)) 0 [(0, .ref 52), (1, .int m), (2, .int w)] [] M
  refine V.seg F floX7 cjoX7 [.aload_n 0, .iload_n 1] (by decide +kernel) (pc2 := 2) (lv2 := [(0, .ref 52), (1, .int m), (2, .int w)]) (st2 := [.int m, .ref 52]) (M2 := M) rfl ⟨trivial, trivial, trivial⟩ ?_
  refine V.callV (as := [.int m]) (rest := []) F (by decide +kernel) lX7_267 bX7_isMethod ⟨7, _, (q.o 52 7 rfl), rfl, rfl⟩ (c_X7_isMethod G X.2.1 M m q gb) (rm_ok hRm hd (by decide) (by decide)) ⟨Nat.zero_le _, Nat.zero_le _⟩ (Nat.le_of_ble_eq_true rfl) (fun r_ N_ p_ => ?_)
  obtain ⟨rfl, hN_, z2⟩ := p_
  rw [hN_]
  clear hN_
  have hJ20 : ∀ (M20 : Mem), (SK wg M M20) → f_X7_sum M m w = f_X7_sum_20 M20 → V G X 5 0 0 (Qx G X 0 0 (p_X7_sum M m w)) 20 [] [] M20 := by
    intro M20 s20 E
    refine V.seg F floX7 cjoX7 [.iconst (-1)] (by decide +kernel) (pc2 := 21) (lv2 := []) (st2 := [.int ((-1))]) (M2 := M20) rfl ⟨trivial, trivial⟩ ?_
    exact V.iret F (by decide +kernel) ⟨congrArg (fun z => some (Value.int z.1)) E.symm, congrArg Prod.snd E.symm, s20⟩
  refine V.if_eq (off := 15) F (by decide +kernel) (tgt := 20) (by decide) (fun h5 => ?_) (fun h5 => ?_)
  · replace E := E.trans (if_pos h5)
    refine V.pick [] rfl ?_
    exact hJ20 M (SK.rf (w := wg) gb) E
  · replace E := E.trans (if_neg h5)
    refine V.seg F floX7 cjoX7 [.iload_n 2, .i2l, .lconst 0, .ldc2_w 262] (by decide +kernel) (pc2 := 14) (lv2 := [(0, .ref 52), (1, .int m), (2, .int w)]) (st2 := [.long 3, .long 0, .long (Int32.toInt64 w)]) (M2 := M) rfl ⟨trivial, trivial, trivial, trivial, trivial⟩ ?_
    refine V.callS (as := [.long (Int32.toInt64 w), .long 0, .long 3]) (rest := []) F (by decide +kernel) lX7_89 bX7_in (c_X7_in G X.2.1 M (Int32.toInt64 w) 0 3) (rm_ok hRm hd (by decide) (by decide)) ⟨Nat.zero_le _, Nat.zero_le _⟩ (Nat.le_of_ble_eq_true rfl) (fun r_ N_ p_ => ?_)
    obtain ⟨rfl, hN_, z14⟩ := p_
    rw [hN_]
    clear hN_
    refine V.if_ne (off := 5) F (by decide +kernel) (tgt := 22) (by decide) (fun h17 => ?_) (fun h17 => ?_)
    · replace E := E.trans (if_neg h17)
      refine V.seg F floX7 cjoX7 [.aload_n 0, .getfield 51, .iload_n 1, .baload] (by decide +kernel) (pc2 := 28) (lv2 := [(0, .ref 52), (1, .int m), (2, .int w)]) (st2 := [.int (mI M 66 (ix m))]) (M2 := M) rfl ⟨trivial, (q.f 52 7 16 rfl), trivial, (q.a 66 21 6 rfl (isMethod_in cM h5)), trivial⟩ ?_
      refine V.if_ne (off := 6) F (by decide +kernel) (tgt := 34) (by decide) (fun h28 => ?_) (fun h28 => ?_)
      · replace E := E.trans (if_neg h28)
        refine V.seg F floX7 cjoX7 [.iconst 0, .istore_n 3, .iconst 0] (by decide +kernel) (pc2 := 37) (lv2 := [(3, .int 0), (0, .ref 52), (1, .int m), (2, .int w)]) (st2 := [.int 0]) (M2 := M) rfl ⟨trivial, (by decide), trivial, trivial⟩ ?_
        refine V.seg F floX7 cjoX7 [.istore 4] (by decide +kernel) (pc2 := 39) (lv2 := [(4, .int 0), (3, .int 0), (0, .ref 52), (1, .int m), (2, .int w)]) (st2 := []) (M2 := M) rfl ⟨(by decide), trivial⟩ ?_
        have hJ39 : ∀ (n_ : Nat) (y3_39 : Int32) (j39 : Nat) (M39 : Mem), (SK wg M M39) → (j39 ≤ ix (mI M 60 (ix m))) → (ix (mI M 60 (ix m)) - j39 < n_) → f_X7_sum M m w = f_X7_sum_39 m w n_ y3_39 j39 M39 → V G X 5 0 0 (Qx G X 0 0 (p_X7_sum M m w)) 39 [(0, .ref 52), (1, .int m), (2, .int w), (3, .int y3_39), (4, .int (nI j39))] [] M39 := by
          intro n_
          induction n_ with
          | zero => intro y3_39 j39 M39 s39 b39 m39 E; omega
          | succ n_ ih_39 =>
            intro y3_39 j39 M39 s39 b39 m39 E
            rw [f_X7_sum_39] at E
            refine V.seg F floX7 cjoX7 [.iload 4, .aload_n 0, .getfield 32, .iload_n 1, .iaload] (by decide +kernel) (pc2 := 47) (lv2 := [(0, .ref 52), (1, .int m), (2, .int w), (3, .int y3_39), (4, .int (nI j39))]) (st2 := [.int (mI M39 60 (ix m)), .int (nI j39)]) (M2 := M39) rfl ⟨trivial, trivial, ((q.sm s39.1).f 52 7 10 rfl), trivial, ((q.sm s39.1).a 60 20 6 rfl (isMethod_in cM h5)), trivial⟩ ?_
            have hJ109 : ∀ (M109 : Mem), (SK wg M M109) → f_X7_sum M m w = f_X7_sum_109 m w y3_39 M109 → V G X 5 0 0 (Qx G X 0 0 (p_X7_sum M m w)) 109 [(0, .ref 52), (1, .int m), (2, .int w), (3, .int y3_39)] [] M109 := by
              intro M109 s109 E
              refine V.seg F floX7 cjoX7 [.iload_n 2, .iconst 3] (by decide +kernel) (pc2 := 111) (lv2 := [(0, .ref 52), (1, .int m), (2, .int w), (3, .int y3_39)]) (st2 := [.int 3, .int w]) (M2 := M109) rfl ⟨trivial, trivial, trivial⟩ ?_
              have hJ124 : ∀ (w0_124 : Int32) (M124 : Mem), (SK wg M M124) → f_X7_sum M m w = f_X7_sum_124 w0_124 M124 → V G X 5 0 0 (Qx G X 0 0 (p_X7_sum M m w)) 124 [] [.int w0_124] M124 := by
                intro w0_124 M124 s124 E
                exact V.iret F (by decide +kernel) ⟨congrArg (fun z => some (Value.int z.1)) E.symm, congrArg Prod.snd E.symm, s124⟩
              refine V.ic_ne (off := 12) F (by decide +kernel) (tgt := 123) (by decide) (fun h111 => ?_) (fun h111 => ?_)
              · replace E := E.trans (if_neg h111)
                refine V.seg F floX7 cjoX7 [.iload_n 3] (by decide +kernel) (pc2 := 124) (lv2 := [(0, .ref 52), (1, .int m), (2, .int w), (3, .int y3_39)]) (st2 := [.int y3_39]) (M2 := M109) rfl ⟨trivial, trivial⟩ ?_
                refine V.pick [] rfl ?_
                exact hJ124 y3_39 M109 s109 E
              · replace E := E.trans (if_pos h111)
                refine V.seg F floX7 cjoX7 [.aload_n 0, .getfield 57, .iload_n 1, .iaload, .goto 4] (by decide +kernel) (pc2 := 124) (lv2 := [(0, .ref 52), (1, .int m), (2, .int w), (3, .int y3_39)]) (st2 := [.int (mI M109 68 (ix m))]) (M2 := M109) rfl ⟨trivial, ((q.sm s109.1).f 52 7 18 rfl), trivial, ((q.sm s109.1).a 68 20 6 rfl (isMethod_in cM h5)), (by decide), trivial⟩ ?_
                refine V.pick [] rfl ?_
                exact hJ124 (mI M109 68 (ix m)) M109 s109 E
            refine V.ic_ge (off := 62) F (by decide +kernel) (tgt := 109) (by decide) (fun h47 => ?_) (fun h47 => ?_)
            · replace E := E.trans (if_pos h47)
              refine V.pick [0, 1, 2, 3] rfl ?_
              exact hJ109 M39 s39 E
            · replace E := E.trans (if_neg h47)
              refine V.seg F floX7 cjoX7 [.iload_n 2, .iconst 3] (by decide +kernel) (pc2 := 52) (lv2 := [(0, .ref 52), (1, .int m), (2, .int w), (3, .int y3_39), (4, .int (nI j39))]) (st2 := [.int 3, .int w]) (M2 := M39) rfl ⟨trivial, trivial, trivial⟩ ?_
              refine V.ic_ge (off := 57) F (by decide +kernel) (tgt := 109) (by decide) (fun h52 => ?_) (fun h52 => ?_)
              · replace E := E.trans (if_pos h52)
                refine V.pick [0, 1, 2, 3] rfl ?_
                exact hJ109 M39 s39 E
              · replace E := E.trans (if_neg h52)
                refine V.seg F floX7 cjoX7 [.aload_n 0, .getfield 54, .bipush 32, .iload_n 1, .imul, .iload 4, .iadd, .baload] (by decide +kernel) (pc2 := 67) (lv2 := [(0, .ref 52), (1, .int m), (2, .int w), (3, .int y3_39), (4, .int (nI j39))]) (st2 := [.int (mI M39 67 (ix ((32 * m) + (nI j39))))]) (M2 := M39) rfl ⟨trivial, ((q.sm s39.1).f 52 7 17 rfl), trivial, trivial, trivial, trivial, trivial, ((q.sm s39.1).a 67 21 192 rfl (rl_in (isMethod_in cM h5) (vp_in_nI (by have le_ := (hLs (ix m) (vin_lt (isMethod_in cM h5))).2; have hlt_ := cnt_lt (n := ix (mI M 60 (ix m))) h47 ((s39.2.2 60 _ rfl).1.trans (hLs (ix m) (vin_lt (isMethod_in cM h5))).1) (by omega) (by omega); omega) (by decide)))), trivial⟩ ?_
                have hJ103 : ∀ (y3_103 : Int32) (M103 : Mem), (SK wg M M103) → f_X7_sum M m w = f_X7_sum_103 j39 (f_X7_sum_39 m w n_) y3_103 M103 → V G X 5 0 0 (Qx G X 0 0 (p_X7_sum M m w)) 103 [(0, .ref 52), (1, .int m), (2, .int w), (3, .int y3_103), (4, .int (nI j39))] [] M103 := by
                  intro y3_103 M103 s103 E
                  refine V.seg F floX7 cjoX7 [.iinc 4 1, .goto (-67)] (by decide +kernel) (pc2 := 39) (lv2 := [(4, .int ((nI j39) + 1)), (0, .ref 52), (1, .int m), (2, .int w), (3, .int y3_103)]) (st2 := []) (M2 := M103) rfl ⟨(by decide), (by decide), trivial⟩ ?_
                  refine V.pick [1, 2, 3, 4, 0] rfl ?_
                  rw [nI_1]
                  exact ih_39 y3_103 (j39 + 1) M103 s103 (by have le_ := (hLs (ix m) (vin_lt (isMethod_in cM h5))).2; have hlt_ := cnt_lt (n := ix (mI M 60 (ix m))) h47 ((s39.2.2 60 _ rfl).1.trans (hLs (ix m) (vin_lt (isMethod_in cM h5))).1) (by omega) (by omega); omega) (by have le_ := (hLs (ix m) (vin_lt (isMethod_in cM h5))).2; have hlt_ := cnt_lt (n := ix (mI M 60 (ix m))) h47 ((s39.2.2 60 _ rfl).1.trans (hLs (ix m) (vin_lt (isMethod_in cM h5))).1) (by omega) (by omega); omega) E
                refine V.if_eq (off := 36) F (by decide +kernel) (tgt := 103) (by decide) (fun h67 => ?_) (fun h67 => ?_)
                · replace E := E.trans (if_pos h67)
                  refine V.pick [0, 1, 2, 3, 4] rfl ?_
                  exact hJ103 y3_39 M39 s39 E
                · replace E := E.trans (if_neg h67)
                  refine V.seg F floX7 cjoX7 [.iload_n 3, .iload_n 2] (by decide +kernel) (pc2 := 72) (lv2 := [(0, .ref 52), (1, .int m), (2, .int w), (3, .int y3_39), (4, .int (nI j39))]) (st2 := [.int w, .int y3_39]) (M2 := M39) rfl ⟨trivial, trivial, trivial⟩ ?_
                  have hJ101 : ∀ (w0_101 : Int32) (M101 : Mem), (SK wg M M101) → f_X7_sum M m w = f_X7_sum_101 y3_39 j39 (f_X7_sum_39 m w n_) w0_101 M101 → V G X 5 0 0 (Qx G X 0 0 (p_X7_sum M m w)) 101 [(0, .ref 52), (1, .int m), (2, .int w), (4, .int (nI j39))] [.int w0_101, .int y3_39] M101 := by
                    intro w0_101 M101 s101 E
                    refine V.seg F floX7 cjoX7 [.iadd, .istore_n 3] (by decide +kernel) (pc2 := 103) (lv2 := [(3, .int (y3_39 + w0_101)), (0, .ref 52), (1, .int m), (2, .int w), (4, .int (nI j39))]) (st2 := []) (M2 := M101) rfl ⟨trivial, (by decide), trivial⟩ ?_
                    refine V.pick [1, 2, 3, 0, 4] rfl ?_
                    exact hJ103 (y3_39 + w0_101) M101 s101 E
                  refine V.if_ne (off := 7) F (by decide +kernel) (tgt := 79) (by decide) (fun h72 => ?_) (fun h72 => ?_)
                  · replace E := E.trans (if_neg h72)
                    refine V.seg F floX7 cjoX7 [.iload_n 2, .iconst 1] (by decide +kernel) (pc2 := 81) (lv2 := [(0, .ref 52), (1, .int m), (2, .int w), (3, .int y3_39), (4, .int (nI j39))]) (st2 := [.int 1, .int w, .int y3_39]) (M2 := M39) rfl ⟨trivial, trivial, trivial⟩ ?_
                    refine V.ic_ne (off := 13) F (by decide +kernel) (tgt := 94) (by decide) (fun h81 => ?_) (fun h81 => ?_)
                    · replace E := E.trans (if_neg h81)
                      refine V.seg F floX7 cjoX7 [.aload_n 0, .iload_n 1, .iload 4] (by decide +kernel) (pc2 := 98) (lv2 := [(0, .ref 52), (1, .int m), (2, .int w), (3, .int y3_39), (4, .int (nI j39))]) (st2 := [.int (nI j39), .int m, .ref 52, .int y3_39]) (M2 := M39) rfl ⟨trivial, trivial, trivial, trivial⟩ ?_
                      refine V.callV (as := [.int m, .int (nI j39)]) (rest := [.int y3_39]) F (by decide +kernel) lX7_319 bX7_numbers ⟨7, _, ((q.sm s39.1).o 52 7 rfl), rfl, rfl⟩ (c_X7_numbers G X.2.1 M39 m (nI j39) (q.sm s39.1) s39.2.1 (isMethod_in cM h5) (vp_in_nI (by have le_ := (hLs (ix m) (vin_lt (isMethod_in cM h5))).2; have hlt_ := cnt_lt (n := ix (mI M 60 (ix m))) h47 ((s39.2.2 60 _ rfl).1.trans (hLs (ix m) (vin_lt (isMethod_in cM h5))).1) (by omega) (by omega); omega) (by decide))) (rm_ok hRm hd (by decide) (by decide)) ⟨Nat.zero_le _, Nat.zero_le _⟩ (Nat.le_of_ble_eq_true rfl) (fun r_ N_ p_ => ?_)
                      obtain ⟨rfl, hN_⟩ := p_
                      rw [hN_]
                      clear hN_
                      refine V.pick [0, 1, 2, 4] rfl ?_
                      exact hJ101 (f_X7_numbers M39 m (nI j39)) M39 s39 E
                    · replace E := E.trans (if_pos h81)
                      refine V.seg F floX7 cjoX7 [.aload_n 0, .iload_n 1, .iload 4] (by decide +kernel) (pc2 := 88) (lv2 := [(0, .ref 52), (1, .int m), (2, .int w), (3, .int y3_39), (4, .int (nI j39))]) (st2 := [.int (nI j39), .int m, .ref 52, .int y3_39]) (M2 := M39) rfl ⟨trivial, trivial, trivial, trivial⟩ ?_
                      refine V.callV (as := [.int m, .int (nI j39)]) (rest := [.int y3_39]) F (by decide +kernel) lX7_316 bX7_gives ⟨7, _, ((q.sm s39.1).o 52 7 rfl), rfl, rfl⟩ (c_X7_gives G X.2.1 M39 m (nI j39) (q.sm s39.1) s39.2.1 (isMethod_in cM h5) (vp_in_nI (by have le_ := (hLs (ix m) (vin_lt (isMethod_in cM h5))).2; have hlt_ := cnt_lt (n := ix (mI M 60 (ix m))) h47 ((s39.2.2 60 _ rfl).1.trans (hLs (ix m) (vin_lt (isMethod_in cM h5))).1) (by omega) (by omega); omega) (by decide)) (LnOK.of (s39.2.2 61 _ rfl).1 (s39.2.2 62 _ rfl).1 (s39.2.2 63 _ rfl).1 (hLn _ (by have le_ := (hLs (ix m) (vin_lt (isMethod_in cM h5))).2; exact cnt_lt h47 ((s39.2.2 60 _ rfl).1.trans (hLs (ix m) (vin_lt (isMethod_in cM h5))).1) (by omega) (by omega))))) (rm_ok hRm hd (by decide) (by decide)) ⟨Nat.zero_le _, Nat.zero_le _⟩ (Nat.le_of_ble_eq_true rfl) (fun r_ N_ p_ => ?_)
                      obtain ⟨rfl, rfl, t88⟩ := p_
                      refine (?_ : ∀ (x91 : Int32) (M91 : Mem), (SK wg M M91) → f_X7_sum M m w = f_X7_sum_c91 y3_39 j39 (f_X7_sum_39 m w n_) x91 M91 → V G X 5 0 0 (Qx G X 0 0 (p_X7_sum M m w)) 91 [(0, .ref 52), (1, .int m), (2, .int w), (3, .int y3_39), (4, .int (nI j39))] [.int x91, .int y3_39] M91) _ _ (SK.tr s39 t88) E
                      intro x91 M91 s91 E
                      refine V.seg F floX7 cjoX7 [.goto 10] (by decide +kernel) (pc2 := 101) (lv2 := [(0, .ref 52), (1, .int m), (2, .int w), (3, .int y3_39), (4, .int (nI j39))]) (st2 := [.int x91, .int y3_39]) (M2 := M91) rfl ⟨(by decide), trivial⟩ ?_
                      refine V.pick [0, 1, 2, 4] rfl ?_
                      exact hJ101 x91 M91 s91 E
                  · replace E := E.trans (if_pos h72)
                    refine V.seg F floX7 cjoX7 [.iconst 1, .goto 25] (by decide +kernel) (pc2 := 101) (lv2 := [(0, .ref 52), (1, .int m), (2, .int w), (3, .int y3_39), (4, .int (nI j39))]) (st2 := [.int 1, .int y3_39]) (M2 := M39) rfl ⟨trivial, (by decide), trivial⟩ ?_
                    refine V.pick [0, 1, 2, 4] rfl ?_
                    exact hJ101 1 M39 s39 E
        refine V.pick [2, 3, 4, 1, 0] rfl ?_
        exact hJ39 _ 0 0 M (SK.rf (w := wg) gb) (by omega) (by omega) E
      · replace E := E.trans (if_pos h28)
        refine V.seg F floX7 cjoX7 [.bipush (-3)] (by decide +kernel) (pc2 := 33) (lv2 := [(0, .ref 52), (1, .int m), (2, .int w)]) (st2 := [.int ((-3))]) (M2 := M) rfl ⟨trivial, trivial⟩ ?_
        exact V.iret F (by decide +kernel) ⟨congrArg (fun z => some (Value.int z.1)) E.symm, congrArg Prod.snd E.symm, (SK.rf (w := wg) gb)⟩
    · replace E := E.trans (if_pos h17)
      refine V.pick [] rfl ?_
      exact hJ20 M (SK.rf (w := wg) gb) E
def f_X7_check_75  (M75 : Mem) : Mem := M75
def f_X7_check_69 (j2 : Nat) (R2_ : Nat → Mem → Mem) (M69 : Mem) : Mem := R2_ (j2 + 1) M69
def f_X7_check_56 (j2 : Nat) (R2_ : Nat → Mem → Mem) (M56 : Mem) : Mem := f_X7_check_69 j2 R2_ (uI M56 52 26 ((8 * (mI M56 52 25)) + (nI j2)))
def f_X7_check_2 (m : Int32) : Nat → Nat → Mem → Mem
  | 0, _, M2 => M2
  | n_ + 1, j2, M2 => if 8 ≤ (nI j2) then f_X7_check_75 M2 else if (mI M2 52 26) = ((-1)) then if (mI M2 67 (ix ((32 * m) + (mI M2 52 25)))) = 0 then f_X7_check_56 j2 (f_X7_check_2 m n_) M2 else if (f_X7_isIn M2 (f_X7_cell m (mI M2 52 25) (nI j2)) (mL M2 73 (ix (nI j2)))) = 0 then f_X7_check_56 j2 (f_X7_check_2 m n_) M2 else f_X7_check_69 j2 (f_X7_check_2 m n_) M2 else f_X7_check_75 M2
def f_X7_check (M : Mem) (m : Int32) : Mem := f_X7_check_2 m 9 0 M
abbrev p_X7_check (M : Mem) (m : Int32) : Option Value → Mem → Prop := fun r N => r = none ∧ N = f_X7_check M m ∧ SK wc M N
set_option maxRecDepth 100000 in
set_option maxHeartbeats 4000000 in
theorem c_X7_check (G : Ctx) (l : Launch) (M : Mem) (m : Int32) (q : Ok M) (gb : Gb M) (i_m : vp_in m 6) (i_r : vp_in (mI M 52 25) 32) : CT G l 2 mX7_check [.ref 52, .int m] M 0 0 (p_X7_check M m) := by
  refine CT.of (by decide) (Nat.le_of_ble_eq_true rfl) ?_
  intro X d hd hl hRm hnm F
  subst hl
  have E : f_X7_check M m = f_X7_check M m := rfl
  show V G X 3 0 0 (Qx G X 0 0 (p_X7_check M m)) 0 [(0, .ref 52), (1, .int m)] [] M
  refine V.seg F floX7 cjoX7 [.iconst 0] (by decide +kernel) (pc2 := 1) (lv2 := [(0, .ref 52), (1, .int m)]) (st2 := [.int 0]) (M2 := M) rfl ⟨trivial, trivial⟩ ?_
  refine V.seg F floX7 cjoX7 [.istore_n 2] (by decide +kernel) (pc2 := 2) (lv2 := [(2, .int 0), (0, .ref 52), (1, .int m)]) (st2 := []) (M2 := M) rfl ⟨(by decide), trivial⟩ ?_
  have hJ2 : ∀ (n_ : Nat) (j2 : Nat) (M2 : Mem), (SK wc M M2) → (j2 ≤ 8) → (8 - j2 < n_) → f_X7_check M m = f_X7_check_2 m n_ j2 M2 → V G X 3 0 0 (Qx G X 0 0 (p_X7_check M m)) 2 [(0, .ref 52), (1, .int m), (2, .int (nI j2))] [] M2 := by
    intro n_
    induction n_ with
    | zero => intro j2 M2 s2 b2 m2 E; omega
    | succ n_ ih_2 =>
      intro j2 M2 s2 b2 m2 E
      rw [f_X7_check_2] at E
      refine V.seg F floX7 cjoX7 [.iload_n 2, .bipush 8] (by decide +kernel) (pc2 := 5) (lv2 := [(0, .ref 52), (1, .int m), (2, .int (nI j2))]) (st2 := [.int 8, .int (nI j2)]) (M2 := M2) rfl ⟨trivial, trivial, trivial⟩ ?_
      have hJ75 : ∀ (M75 : Mem), (SK wc M M75) → f_X7_check M m = f_X7_check_75 M75 → V G X 3 0 0 (Qx G X 0 0 (p_X7_check M m)) 75 [] [] M75 := by
        intro M75 s75 E
        exact V.vret F (by decide +kernel) ⟨rfl, E.symm, s75⟩
      refine V.ic_ge (off := 70) F (by decide +kernel) (tgt := 75) (by decide) (fun h5 => ?_) (fun h5 => ?_)
      · replace E := E.trans (if_pos h5)
        refine V.pick [] rfl ?_
        exact hJ75 M2 s2 E
      · replace E := E.trans (if_neg h5)
        refine V.seg F floX7 cjoX7 [.aload_n 0, .getfield 75, .iconst (-1)] (by decide +kernel) (pc2 := 13) (lv2 := [(0, .ref 52), (1, .int m), (2, .int (nI j2))]) (st2 := [.int ((-1)), .int (mI M2 52 26)]) (M2 := M2) rfl ⟨trivial, ((q.sm s2.1).o 52 7 rfl), trivial, trivial⟩ ?_
        refine V.ic_ne (off := 62) F (by decide +kernel) (tgt := 75) (by decide) (fun h13 => ?_) (fun h13 => ?_)
        · replace E := E.trans (if_neg h13)
          refine V.pick [] rfl ?_
          exact hJ75 M2 s2 E
        · replace E := E.trans (if_pos h13)
          refine V.seg F floX7 cjoX7 [.aload_n 0, .getfield 54, .bipush 32, .iload_n 1, .imul, .aload_n 0, .getfield 327, .iadd, .baload] (by decide +kernel) (pc2 := 30) (lv2 := [(0, .ref 52), (1, .int m), (2, .int (nI j2))]) (st2 := [.int (mI M2 67 (ix ((32 * m) + (mI M2 52 25))))]) (M2 := M2) rfl ⟨trivial, ((q.sm s2.1).f 52 7 17 rfl), trivial, trivial, trivial, trivial, ((q.sm s2.1).o 52 7 rfl), trivial, ((q.sm s2.1).a 67 21 192 rfl (rl_in i_m (vin_of (s2.2.2 52 25 rfl).1 i_r))), trivial⟩ ?_
          have hJ69 : ∀ (M69 : Mem), (SK wc M M69) → f_X7_check M m = f_X7_check_69 j2 (f_X7_check_2 m n_) M69 → V G X 3 0 0 (Qx G X 0 0 (p_X7_check M m)) 69 [(0, .ref 52), (1, .int m), (2, .int (nI j2))] [] M69 := by
            intro M69 s69 E
            refine V.seg F floX7 cjoX7 [.iinc 2 1, .goto (-70)] (by decide +kernel) (pc2 := 2) (lv2 := [(2, .int ((nI j2) + 1)), (0, .ref 52), (1, .int m)]) (st2 := []) (M2 := M69) rfl ⟨(by decide), (by decide), trivial⟩ ?_
            refine V.pick [1, 2, 0] rfl ?_
            rw [nI_1]
            exact ih_2 (j2 + 1) M69 s69 (by have hlt_ := cnt_lt (n := 8) h5 rfl (by omega) (by decide); omega) (by have hlt_ := cnt_lt (n := 8) h5 rfl (by omega) (by decide); omega) E
          have hJ56 : ∀ (M56 : Mem), (SK wc M M56) → f_X7_check M m = f_X7_check_56 j2 (f_X7_check_2 m n_) M56 → V G X 3 0 0 (Qx G X 0 0 (p_X7_check M m)) 56 [(0, .ref 52), (1, .int m), (2, .int (nI j2))] [] M56 := by
            intro M56 s56 E
            refine V.seg F floX7 cjoX7 [.aload_n 0, .bipush 8, .aload_n 0, .getfield 327, .imul, .iload_n 2, .iadd, .putfield 75] (by decide +kernel) (pc2 := 69) (lv2 := [(0, .ref 52), (1, .int m), (2, .int (nI j2))]) (st2 := []) (M2 := uI M56 52 26 ((8 * (mI M56 52 25)) + (nI j2))) rfl ⟨trivial, trivial, trivial, ((q.sm s56.1).o 52 7 rfl), trivial, trivial, trivial, ((q.sm s56.1).o 52 7 rfl), trivial⟩ ?_
            refine V.pick [0, 1, 2] rfl ?_
            exact hJ69 (uI M56 52 26 ((8 * (mI M56 52 25)) + (nI j2))) (SK.pI s56 rfl) E
          refine V.if_eq (off := 26) F (by decide +kernel) (tgt := 56) (by decide) (fun h30 => ?_) (fun h30 => ?_)
          · replace E := E.trans (if_pos h30)
            refine V.pick [0, 1, 2] rfl ?_
            exact hJ56 M2 s2 E
          · replace E := E.trans (if_neg h30)
            refine V.seg F floX7 cjoX7 [.aload_n 0, .aload_n 0, .iload_n 1, .aload_n 0, .getfield 327, .iload_n 2] (by decide +kernel) (pc2 := 41) (lv2 := [(0, .ref 52), (1, .int m), (2, .int (nI j2))]) (st2 := [.int (nI j2), .int (mI M2 52 25), .int m, .ref 52, .ref 52]) (M2 := M2) rfl ⟨trivial, trivial, trivial, trivial, ((q.sm s2.1).o 52 7 rfl), trivial, trivial⟩ ?_
            refine V.callV (as := [.int m, .int (mI M2 52 25), .int (nI j2)]) (rest := [.ref 52]) F (by decide +kernel) lX7_276 bX7_cell ⟨7, _, ((q.sm s2.1).o 52 7 rfl), rfl, rfl⟩ (c_X7_cell G X.2.1 M2 m (mI M2 52 25) (nI j2) (q.sm s2.1) s2.2.1) (rm_ok hRm hd (by decide) (by decide)) ⟨Nat.zero_le _, Nat.zero_le _⟩ (Nat.le_of_ble_eq_true rfl) (fun r_ N_ p_ => ?_)
            obtain ⟨rfl, hN_⟩ := p_
            rw [hN_]
            clear hN_
            refine V.seg F floX7 cjoX7 [.aload_n 0, .getfield 72, .iload_n 2, .laload] (by decide +kernel) (pc2 := 50) (lv2 := [(0, .ref 52), (1, .int m), (2, .int (nI j2))]) (st2 := [.long (mL M2 73 (ix (nI j2))), .int (f_X7_cell m (mI M2 52 25) (nI j2)), .ref 52]) (M2 := M2) rfl ⟨trivial, ((q.sm s2.1).f 52 7 23 rfl), trivial, ((q.sm s2.1).a 73 22 8 rfl (vnj (cnt_lt (n := 8) h5 rfl (by omega) (by decide)) (by decide) (by decide))), trivial⟩ ?_
            refine V.callV (as := [.int (f_X7_cell m (mI M2 52 25) (nI j2)), .long (mL M2 73 (ix (nI j2)))]) (rest := []) F (by decide +kernel) lX7_251 bX7_isIn ⟨7, _, ((q.sm s2.1).o 52 7 rfl), rfl, rfl⟩ (c_X7_isIn G X.2.1 M2 (f_X7_cell m (mI M2 52 25) (nI j2)) (mL M2 73 (ix (nI j2))) (q.sm s2.1) s2.2.1 (cell_in i_m (vin_of (s2.2.2 52 25 rfl).1 i_r) (vnj (cnt_lt (n := 8) h5 rfl (by omega) (by decide)) (by decide) (by decide)))) (rm_ok hRm hd (by decide) (by decide)) ⟨Nat.zero_le _, Nat.zero_le _⟩ (Nat.le_of_ble_eq_true rfl) (fun r_ N_ p_ => ?_)
            obtain ⟨rfl, hN_, z50⟩ := p_
            rw [hN_]
            clear hN_
            refine V.if_ne (off := 16) F (by decide +kernel) (tgt := 69) (by decide) (fun h53 => ?_) (fun h53 => ?_)
            · replace E := E.trans (if_neg h53)
              refine V.pick [0, 1, 2] rfl ?_
              exact hJ69 M2 s2 E
            · replace E := E.trans (if_pos h53)
              refine V.pick [0, 1, 2] rfl ?_
              exact hJ56 M2 s2 E
  refine V.pick [1, 2, 0] rfl ?_
  exact hJ2 _ 0 M (SK.rf (w := wc) gb) (by omega) (by omega) E
