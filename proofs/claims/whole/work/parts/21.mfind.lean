/-- what stays over the reference's finding: beside the facts it writes isFound, reached, made, waits, lesser, greater -/
def wh (a k : Nat) : Bool := wg a k || (decide (66 ≤ a) && decide (a ≤ 71))
theorem sub_wg_wh : ∀ a k, wg a k = true → wh a k = true := fun a k h => by unfold wh; rw [h]; rfl
theorem v48 {b : Int32} (h : vp_in b 8) : vp_in (48 + b) 1648 := by
  obtain ⟨j, hj, rfl⟩ := vp_in_of h (by decide)
  exact vpn (addN (i := 48) rfl rfl) (by omega) (by decide)
theorem v40 {b : Int32} (h : vp_in b 8) : vp_in (40 + b) 1648 := by
  obtain ⟨j, hj, rfl⟩ := vp_in_of h (by decide)
  exact vpn (addN (i := 40) rfl rfl) (by omega) (by decide)
def f_X7_widen_221  (M221 : Mem) : Mem := M221
def f_X7_widen_c221  (M221 : Mem) : Mem := f_X7_widen_221 M221
def f_X7_widen_216 (f : Int32) (M216 : Mem) : Mem := f_X7_widen_c221 (f_X7_sharpen M216 f)
def f_X7_widen_205 (f : Int32) (w0_106 : Int32) (w0_128 : Int32) (w0_205 : Int64) (M205 : Mem) : Mem := if w0_106 = 0 then if w0_128 = 0 then f_X7_widen_221 (uL M205 55 (ix f) w0_205) else f_X7_widen_216 f (uL M205 55 (ix f) w0_205) else f_X7_widen_216 f (uL M205 55 (ix f) w0_205)
def f_X7_widen_182 (f : Int32) (w0_106 : Int32) (w0_128 : Int32) (w0_182 : Int64) (M182 : Mem) : Mem := if w0_128 = 0 then f_X7_widen_205 f w0_106 w0_128 (mL (uL M182 54 (ix f) w0_182) 55 (ix f)) (uL M182 54 (ix f) w0_182) else f_X7_widen_205 f w0_106 w0_128 9223372036854775807 (uL M182 54 (ix f) w0_182)
def f_X7_widen_157 (m : Int32) (f : Int32) (w0_106 : Int32) (w0_128 : Int32) (M128 : Mem) (w0_147 : Int32) (w0_157 : Int32) (M157 : Mem) : Mem := if w0_106 = 0 then f_X7_widen_182 f w0_106 w0_128 (mL (uI M157 68 (ix m) ((mI M128 68 (ix m)) + (w0_147 + w0_157))) 54 (ix f)) (uI M157 68 (ix m) ((mI M128 68 (ix m)) + (w0_147 + w0_157))) else f_X7_widen_182 f w0_106 w0_128 ((-9223372036854775808)) (uI M157 68 (ix m) ((mI M128 68 (ix m)) + (w0_147 + w0_157)))
def f_X7_widen_147 (m : Int32) (f : Int32) (w0_106 : Int32) (w0_128 : Int32) (M128 : Mem) (w0_147 : Int32) (M147 : Mem) : Mem := if w0_128 = 0 then f_X7_widen_157 m f w0_106 w0_128 M128 w0_147 0 M147 else f_X7_widen_157 m f w0_106 w0_128 M128 w0_147 1 M147
def f_X7_widen_128 (m : Int32) (f : Int32) (w0_106 : Int32) (w0_128 : Int32) (M128 : Mem) : Mem := if w0_106 = 0 then f_X7_widen_147 m f w0_106 w0_128 M128 0 M128 else f_X7_widen_147 m f w0_106 w0_128 M128 1 M128
def f_X7_widen_127 (m : Int32) (f : Int32) (w0_106 : Int32) (M127 : Mem) : Mem := f_X7_widen_128 m f w0_106 0 M127
def f_X7_widen_106 (m : Int32) (k : Int32) (f : Int32) (w0_46 : Int32) (w0_106 : Int32) (M106 : Mem) : Mem := if w0_46 = 0 then f_X7_widen_127 m f w0_106 M106 else if (mI M106 71 (ix k)) ≤ 3 then f_X7_widen_127 m f w0_106 M106 else f_X7_widen_128 m f w0_106 1 M106
def f_X7_widen_105 (m : Int32) (k : Int32) (f : Int32) (w0_46 : Int32) (M105 : Mem) : Mem := f_X7_widen_106 m k f w0_46 0 M105
def f_X7_widen_84 (m : Int32) (k : Int32) (f : Int32) (w0_22 : Int32) (w0_46 : Int32) (M46 : Mem) (w0_65 : Int32) (M65 : Mem) (w0_84 : Int32) (M84 : Mem) : Mem := if w0_22 = 0 then f_X7_widen_105 m k f w0_46 (uI M84 71 (ix k) ((mI (uI M65 70 (ix k) ((mI M46 70 (ix k)) + w0_65)) 71 (ix k)) + w0_84)) else if (mI (uI M84 71 (ix k) ((mI (uI M65 70 (ix k) ((mI M46 70 (ix k)) + w0_65)) 71 (ix k)) + w0_84)) 70 (ix k)) ≤ 3 then f_X7_widen_105 m k f w0_46 (uI M84 71 (ix k) ((mI (uI M65 70 (ix k) ((mI M46 70 (ix k)) + w0_65)) 71 (ix k)) + w0_84)) else f_X7_widen_106 m k f w0_46 1 (uI M84 71 (ix k) ((mI (uI M65 70 (ix k) ((mI M46 70 (ix k)) + w0_65)) 71 (ix k)) + w0_84))
def f_X7_widen_65 (m : Int32) (k : Int32) (f : Int32) (w0_22 : Int32) (w0_46 : Int32) (M46 : Mem) (w0_65 : Int32) (M65 : Mem) : Mem := if w0_46 = 0 then f_X7_widen_84 m k f w0_22 w0_46 M46 w0_65 M65 0 (uI M65 70 (ix k) ((mI M46 70 (ix k)) + w0_65)) else f_X7_widen_84 m k f w0_22 w0_46 M46 w0_65 M65 1 (uI M65 70 (ix k) ((mI M46 70 (ix k)) + w0_65))
def f_X7_widen_46 (m : Int32) (k : Int32) (f : Int32) (w0_22 : Int32) (w0_46 : Int32) (M46 : Mem) : Mem := if w0_22 = 0 then f_X7_widen_65 m k f w0_22 w0_46 M46 0 M46 else f_X7_widen_65 m k f w0_22 w0_46 M46 1 M46
def f_X7_widen_22 (m : Int32) (k : Int32) (f : Int32) (w0_22 : Int32) (M22 : Mem) : Mem := if (mL M22 55 (ix f)) ≤ (mL M22 55 (ix 25)) then f_X7_widen_46 m k f w0_22 0 M22 else f_X7_widen_46 m k f w0_22 1 M22
def f_X7_widen (M : Mem) (m : Int32) (k : Int32) (f : Int32) : Mem := if (mL M 54 (ix 25)) ≤ (mL M 54 (ix f)) then f_X7_widen_22 m k f 0 M else f_X7_widen_22 m k f 1 M
abbrev p_X7_widen (M : Mem) (m : Int32) (k : Int32) (f : Int32) : Option Value → Mem → Prop := fun r N => r = none ∧ N = f_X7_widen M m k f ∧ SK wh M N
set_option maxRecDepth 100000 in
set_option maxHeartbeats 4000000 in
theorem c_X7_widen (G : Ctx) (l : Launch) (M : Mem) (m : Int32) (k : Int32) (f : Int32) (q : Ok M) (gb : Gb M) (i_f : vp_in f 1648) (i_k : vp_in k 256) (i_m : vp_in m 6) : CT G l 4 mX7_widen [.ref 52, .int m, .int k, .int f] M 0 0 (p_X7_widen M m k f) := by
  refine CT.of (by decide) (Nat.le_of_ble_eq_true rfl) ?_
  intro X d hd hl hRm hnm F
  subst hl
  have E : f_X7_widen M m k f = f_X7_widen M m k f := rfl
  show V G X 8 0 0 (Qx G X 0 0 (p_X7_widen M m k f)) 0 [(0, .ref 52), (1, .int m), (2, .int k), (3, .int f)] [] M
  refine V.seg F floX7 cjoX7 [.aload_n 0, .getfield 13, .iload_n 3, .laload, .aload_n 0, .getfield 13, .bipush 25, .laload, .lcmp] (by decide +kernel) (pc2 := 14) (lv2 := [(0, .ref 52), (1, .int m), (2, .int k), (3, .int f)]) (st2 := [.int (lg_cmp (mL M 54 (ix f)) (mL M 54 (ix 25)))]) (M2 := M) rfl ⟨trivial, (q.f 52 7 1 rfl), trivial, (q.a 54 22 1648 rfl (by first | assumption | exact vinc (by decide))), trivial, (q.f 52 7 1 rfl), trivial, (q.a 54 22 1648 rfl (vinc (by decide))), trivial, trivial⟩ ?_
  have hJ22 : ∀ (w0_22 : Int32) (M22 : Mem), (SK wh M M22) → f_X7_widen M m k f = f_X7_widen_22 m k f w0_22 M22 → V G X 8 0 0 (Qx G X 0 0 (p_X7_widen M m k f)) 22 [(0, .ref 52), (1, .int m), (2, .int k), (3, .int f)] [.int w0_22] M22 := by
    intro w0_22 M22 s22 E
    refine V.seg F floX7 cjoX7 [.istore 4, .aload_n 0, .getfield 17, .iload_n 3, .laload, .aload_n 0, .getfield 17, .bipush 25, .laload, .lcmp] (by decide +kernel) (pc2 := 38) (lv2 := [(4, .int w0_22), (0, .ref 52), (1, .int m), (2, .int k), (3, .int f)]) (st2 := [.int (lg_cmp (mL M22 55 (ix f)) (mL M22 55 (ix 25)))]) (M2 := M22) rfl ⟨(by decide), trivial, ((q.sm s22.1).f 52 7 2 rfl), trivial, ((q.sm s22.1).a 55 22 1648 rfl (by first | assumption | exact vinc (by decide))), trivial, ((q.sm s22.1).f 52 7 2 rfl), trivial, ((q.sm s22.1).a 55 22 1648 rfl (vinc (by decide))), trivial, trivial⟩ ?_
    have hJ46 : ∀ (w0_46 : Int32) (M46 : Mem), (SK wh M M46) → f_X7_widen M m k f = f_X7_widen_46 m k f w0_22 w0_46 M46 → V G X 8 0 0 (Qx G X 0 0 (p_X7_widen M m k f)) 46 [(0, .ref 52), (1, .int m), (2, .int k), (3, .int f), (4, .int w0_22)] [.int w0_46] M46 := by
      intro w0_46 M46 s46 E
      refine V.seg F floX7 cjoX7 [.istore 5, .aload_n 0, .getfield 63, .iload_n 2, .dup2, .iaload, .iload 4] (by decide +kernel) (pc2 := 57) (lv2 := [(5, .int w0_46), (0, .ref 52), (1, .int m), (2, .int k), (3, .int f), (4, .int w0_22)]) (st2 := [.int w0_22, .int (mI M46 70 (ix k)), .int k, .ref 70]) (M2 := M46) rfl ⟨(by decide), trivial, ((q.sm s46.1).f 52 7 20 rfl), trivial, trivial, ((q.sm s46.1).a 70 20 256 rfl (by first | assumption | exact vinc (by decide))), trivial, trivial⟩ ?_
      have hJ65 : ∀ (w0_65 : Int32) (M65 : Mem), (SK wh M M65) → f_X7_widen M m k f = f_X7_widen_65 m k f w0_22 w0_46 M46 w0_65 M65 → V G X 8 0 0 (Qx G X 0 0 (p_X7_widen M m k f)) 65 [(0, .ref 52), (1, .int m), (2, .int k), (3, .int f), (4, .int w0_22), (5, .int w0_46)] [.int w0_65, .int (mI M46 70 (ix k)), .int k, .ref 70] M65 := by
        intro w0_65 M65 s65 E
        refine V.seg F floX7 cjoX7 [.iadd, .iastore, .aload_n 0, .getfield 66, .iload_n 2, .dup2, .iaload, .iload 5] (by decide +kernel) (pc2 := 76) (lv2 := [(0, .ref 52), (1, .int m), (2, .int k), (3, .int f), (4, .int w0_22), (5, .int w0_46)]) (st2 := [.int w0_46, .int (mI (uI M65 70 (ix k) ((mI M46 70 (ix k)) + w0_65)) 71 (ix k)), .int k, .ref 71]) (M2 := uI M65 70 (ix k) ((mI M46 70 (ix k)) + w0_65)) rfl ⟨trivial, ((q.sm s65.1).a 70 20 256 rfl (by first | assumption | exact vinc (by decide))), trivial, ((q.sm (SK.pI s65 rfl).1).f 52 7 21 rfl), trivial, trivial, ((q.sm (SK.pI s65 rfl).1).a 71 20 256 rfl (by first | assumption | exact vinc (by decide))), trivial, trivial⟩ ?_
        have hJ84 : ∀ (w0_84 : Int32) (M84 : Mem), (SK wh M M84) → f_X7_widen M m k f = f_X7_widen_84 m k f w0_22 w0_46 M46 w0_65 M65 w0_84 M84 → V G X 8 0 0 (Qx G X 0 0 (p_X7_widen M m k f)) 84 [(0, .ref 52), (1, .int m), (2, .int k), (3, .int f), (4, .int w0_22), (5, .int w0_46)] [.int w0_84, .int (mI (uI M65 70 (ix k) ((mI M46 70 (ix k)) + w0_65)) 71 (ix k)), .int k, .ref 71] M84 := by
          intro w0_84 M84 s84 E
          refine V.seg F floX7 cjoX7 [.iadd, .iastore, .iload 4] (by decide +kernel) (pc2 := 88) (lv2 := [(0, .ref 52), (1, .int m), (2, .int k), (3, .int f), (4, .int w0_22), (5, .int w0_46)]) (st2 := [.int w0_22]) (M2 := uI M84 71 (ix k) ((mI (uI M65 70 (ix k) ((mI M46 70 (ix k)) + w0_65)) 71 (ix k)) + w0_84)) rfl ⟨trivial, ((q.sm s84.1).a 71 20 256 rfl (by first | assumption | exact vinc (by decide))), trivial, trivial⟩ ?_
          have hJ106 : ∀ (w0_106 : Int32) (M106 : Mem), (SK wh M M106) → f_X7_widen M m k f = f_X7_widen_106 m k f w0_46 w0_106 M106 → V G X 8 0 0 (Qx G X 0 0 (p_X7_widen M m k f)) 106 [(0, .ref 52), (1, .int m), (2, .int k), (3, .int f), (5, .int w0_46)] [.int w0_106] M106 := by
            intro w0_106 M106 s106 E
            refine V.seg F floX7 cjoX7 [.istore 6, .iload 5] (by decide +kernel) (pc2 := 110) (lv2 := [(6, .int w0_106), (0, .ref 52), (1, .int m), (2, .int k), (3, .int f), (5, .int w0_46)]) (st2 := [.int w0_46]) (M2 := M106) rfl ⟨(by decide), trivial, trivial⟩ ?_
            have hJ128 : ∀ (w0_128 : Int32) (M128 : Mem), (SK wh M M128) → f_X7_widen M m k f = f_X7_widen_128 m f w0_106 w0_128 M128 → V G X 8 0 0 (Qx G X 0 0 (p_X7_widen M m k f)) 128 [(0, .ref 52), (1, .int m), (3, .int f), (6, .int w0_106)] [.int w0_128] M128 := by
              intro w0_128 M128 s128 E
              refine V.seg F floX7 cjoX7 [.istore 7, .aload_n 0, .getfield 57, .iload_n 1, .dup2, .iaload, .iload 6] (by decide +kernel) (pc2 := 139) (lv2 := [(7, .int w0_128), (0, .ref 52), (1, .int m), (3, .int f), (6, .int w0_106)]) (st2 := [.int w0_106, .int (mI M128 68 (ix m)), .int m, .ref 68]) (M2 := M128) rfl ⟨(by decide), trivial, ((q.sm s128.1).f 52 7 18 rfl), trivial, trivial, ((q.sm s128.1).a 68 20 6 rfl (by first | assumption | exact vinc (by decide))), trivial, trivial⟩ ?_
              have hJ147 : ∀ (w0_147 : Int32) (M147 : Mem), (SK wh M M147) → f_X7_widen M m k f = f_X7_widen_147 m f w0_106 w0_128 M128 w0_147 M147 → V G X 8 0 0 (Qx G X 0 0 (p_X7_widen M m k f)) 147 [(0, .ref 52), (3, .int f), (6, .int w0_106), (7, .int w0_128)] [.int w0_147, .int (mI M128 68 (ix m)), .int m, .ref 68] M147 := by
                intro w0_147 M147 s147 E
                refine V.seg F floX7 cjoX7 [.iload 7] (by decide +kernel) (pc2 := 149) (lv2 := [(0, .ref 52), (3, .int f), (6, .int w0_106), (7, .int w0_128)]) (st2 := [.int w0_128, .int w0_147, .int (mI M128 68 (ix m)), .int m, .ref 68]) (M2 := M147) rfl ⟨trivial, trivial⟩ ?_
                have hJ157 : ∀ (w0_157 : Int32) (M157 : Mem), (SK wh M M157) → f_X7_widen M m k f = f_X7_widen_157 m f w0_106 w0_128 M128 w0_147 w0_157 M157 → V G X 8 0 0 (Qx G X 0 0 (p_X7_widen M m k f)) 157 [(0, .ref 52), (3, .int f), (6, .int w0_106), (7, .int w0_128)] [.int w0_157, .int w0_147, .int (mI M128 68 (ix m)), .int m, .ref 68] M157 := by
                  intro w0_157 M157 s157 E
                  refine V.seg F floX7 cjoX7 [.iadd, .iadd, .iastore, .aload_n 0, .getfield 13, .iload_n 3, .iload 6] (by decide +kernel) (pc2 := 167) (lv2 := [(0, .ref 52), (3, .int f), (6, .int w0_106), (7, .int w0_128)]) (st2 := [.int w0_106, .int f, .ref 54]) (M2 := uI M157 68 (ix m) ((mI M128 68 (ix m)) + (w0_147 + w0_157))) rfl ⟨trivial, trivial, ((q.sm s157.1).a 68 20 6 rfl (by first | assumption | exact vinc (by decide))), trivial, ((q.sm (SK.pI s157 rfl).1).f 52 7 1 rfl), trivial, trivial, trivial⟩ ?_
                  have hJ182 : ∀ (w0_182 : Int64) (M182 : Mem), (SK wh M M182) → f_X7_widen M m k f = f_X7_widen_182 f w0_106 w0_128 w0_182 M182 → V G X 8 0 0 (Qx G X 0 0 (p_X7_widen M m k f)) 182 [(0, .ref 52), (3, .int f), (6, .int w0_106), (7, .int w0_128)] [.long w0_182, .int f, .ref 54] M182 := by
                    intro w0_182 M182 s182 E
                    refine V.seg F floX7 cjoX7 [.lastore, .aload_n 0, .getfield 17, .iload_n 3, .iload 7] (by decide +kernel) (pc2 := 190) (lv2 := [(0, .ref 52), (3, .int f), (6, .int w0_106), (7, .int w0_128)]) (st2 := [.int w0_128, .int f, .ref 55]) (M2 := uL M182 54 (ix f) w0_182) rfl ⟨((q.sm s182.1).a 54 22 1648 rfl (by first | assumption | exact vinc (by decide))), trivial, ((q.sm (SK.pL s182 rfl (by decide)).1).f 52 7 2 rfl), trivial, trivial, trivial⟩ ?_
                    have hJ205 : ∀ (w0_205 : Int64) (M205 : Mem), (SK wh M M205) → f_X7_widen M m k f = f_X7_widen_205 f w0_106 w0_128 w0_205 M205 → V G X 8 0 0 (Qx G X 0 0 (p_X7_widen M m k f)) 205 [(0, .ref 52), (3, .int f), (6, .int w0_106), (7, .int w0_128)] [.long w0_205, .int f, .ref 55] M205 := by
                      intro w0_205 M205 s205 E
                      refine V.seg F floX7 cjoX7 [.lastore, .iload 6] (by decide +kernel) (pc2 := 208) (lv2 := [(0, .ref 52), (3, .int f), (6, .int w0_106), (7, .int w0_128)]) (st2 := [.int w0_106]) (M2 := uL M205 55 (ix f) w0_205) rfl ⟨((q.sm s205.1).a 55 22 1648 rfl (by first | assumption | exact vinc (by decide))), trivial, trivial⟩ ?_
                      have hJ221 : ∀ (M221 : Mem), (SK wh M M221) → f_X7_widen M m k f = f_X7_widen_221 M221 → V G X 8 0 0 (Qx G X 0 0 (p_X7_widen M m k f)) 221 [] [] M221 := by
                        intro M221 s221 E
                        exact V.vret F (by decide +kernel) ⟨rfl, E.symm, s221⟩
                      have hJ216 : ∀ (M216 : Mem), (SK wh M M216) → f_X7_widen M m k f = f_X7_widen_216 f M216 → V G X 8 0 0 (Qx G X 0 0 (p_X7_widen M m k f)) 216 [(0, .ref 52), (3, .int f)] [] M216 := by
                        intro M216 s216 E
                        refine V.seg F floX7 cjoX7 [.aload_n 0, .iload_n 3] (by decide +kernel) (pc2 := 218) (lv2 := [(0, .ref 52), (3, .int f)]) (st2 := [.int f, .ref 52]) (M2 := M216) rfl ⟨trivial, trivial, trivial⟩ ?_
                        refine V.callV (as := [.int f]) (rest := []) F (by decide +kernel) lX7_165 bX7_sharpen ⟨7, _, ((q.sm s216.1).o 52 7 rfl), rfl, rfl⟩ (c_X7_sharpen G X.2.1 M216 f (q.sm s216.1) s216.2.1 (by first | assumption | exact vinc (by decide))) (rm_ok hRm hd (by decide) (by decide)) ⟨Nat.zero_le _, Nat.zero_le _⟩ (Nat.le_of_ble_eq_true rfl) (fun r_ N_ p_ => ?_)
                        obtain ⟨rfl, rfl, t218⟩ := p_
                        refine (?_ : ∀ (M221 : Mem), (SK wh M M221) → f_X7_widen M m k f = f_X7_widen_c221 M221 → V G X 8 0 0 (Qx G X 0 0 (p_X7_widen M m k f)) 221 [(0, .ref 52), (3, .int f)] [] M221) _ (SK.tr s216 (t218.mono sub_wg_wh)) E
                        intro M221 s221 E
                        refine V.pick [] rfl ?_
                        exact hJ221 M221 s221 E
                      refine V.if_ne (off := 8) F (by decide +kernel) (tgt := 216) (by decide) (fun h208 => ?_) (fun h208 => ?_)
                      · replace E := E.trans (if_neg h208)
                        refine V.pick [0, 1] rfl ?_
                        exact hJ216 (uL M205 55 (ix f) w0_205) (SK.pL s205 rfl (by decide)) E
                      · replace E := E.trans (if_pos h208)
                        refine V.seg F floX7 cjoX7 [.iload 7] (by decide +kernel) (pc2 := 213) (lv2 := [(0, .ref 52), (3, .int f), (6, .int w0_106), (7, .int w0_128)]) (st2 := [.int w0_128]) (M2 := uL M205 55 (ix f) w0_205) rfl ⟨trivial, trivial⟩ ?_
                        refine V.if_eq (off := 8) F (by decide +kernel) (tgt := 221) (by decide) (fun h213 => ?_) (fun h213 => ?_)
                        · replace E := E.trans (if_pos h213)
                          refine V.pick [] rfl ?_
                          exact hJ221 (uL M205 55 (ix f) w0_205) (SK.pL s205 rfl (by decide)) E
                        · replace E := E.trans (if_neg h213)
                          refine V.pick [0, 1] rfl ?_
                          exact hJ216 (uL M205 55 (ix f) w0_205) (SK.pL s205 rfl (by decide)) E
                    refine V.if_eq (off := 9) F (by decide +kernel) (tgt := 199) (by decide) (fun h190 => ?_) (fun h190 => ?_)
                    · replace E := E.trans (if_pos h190)
                      refine V.seg F floX7 cjoX7 [.aload_n 0, .getfield 17, .iload_n 3, .laload] (by decide +kernel) (pc2 := 205) (lv2 := [(0, .ref 52), (3, .int f), (6, .int w0_106), (7, .int w0_128)]) (st2 := [.long (mL (uL M182 54 (ix f) w0_182) 55 (ix f)), .int f, .ref 55]) (M2 := uL M182 54 (ix f) w0_182) rfl ⟨trivial, ((q.sm (SK.pL s182 rfl (by decide)).1).f 52 7 2 rfl), trivial, ((q.sm (SK.pL s182 rfl (by decide)).1).a 55 22 1648 rfl (by first | assumption | exact vinc (by decide))), trivial⟩ ?_
                      refine V.pick [0, 1, 2, 3] rfl ?_
                      exact hJ205 (mL (uL M182 54 (ix f) w0_182) 55 (ix f)) (uL M182 54 (ix f) w0_182) (SK.pL s182 rfl (by decide)) E
                    · replace E := E.trans (if_neg h190)
                      refine V.seg F floX7 cjoX7 [.ldc2_w 85, .goto 9] (by decide +kernel) (pc2 := 205) (lv2 := [(0, .ref 52), (3, .int f), (6, .int w0_106), (7, .int w0_128)]) (st2 := [.long 9223372036854775807, .int f, .ref 55]) (M2 := uL M182 54 (ix f) w0_182) rfl ⟨trivial, (by decide), trivial⟩ ?_
                      refine V.pick [0, 1, 2, 3] rfl ?_
                      exact hJ205 9223372036854775807 (uL M182 54 (ix f) w0_182) (SK.pL s182 rfl (by decide)) E
                  refine V.if_eq (off := 9) F (by decide +kernel) (tgt := 176) (by decide) (fun h167 => ?_) (fun h167 => ?_)
                  · replace E := E.trans (if_pos h167)
                    refine V.seg F floX7 cjoX7 [.aload_n 0, .getfield 13, .iload_n 3, .laload] (by decide +kernel) (pc2 := 182) (lv2 := [(0, .ref 52), (3, .int f), (6, .int w0_106), (7, .int w0_128)]) (st2 := [.long (mL (uI M157 68 (ix m) ((mI M128 68 (ix m)) + (w0_147 + w0_157))) 54 (ix f)), .int f, .ref 54]) (M2 := uI M157 68 (ix m) ((mI M128 68 (ix m)) + (w0_147 + w0_157))) rfl ⟨trivial, ((q.sm (SK.pI s157 rfl).1).f 52 7 1 rfl), trivial, ((q.sm (SK.pI s157 rfl).1).a 54 22 1648 rfl (by first | assumption | exact vinc (by decide))), trivial⟩ ?_
                    refine V.pick [0, 1, 2, 3] rfl ?_
                    exact hJ182 (mL (uI M157 68 (ix m) ((mI M128 68 (ix m)) + (w0_147 + w0_157))) 54 (ix f)) (uI M157 68 (ix m) ((mI M128 68 (ix m)) + (w0_147 + w0_157))) (SK.pI s157 rfl) E
                  · replace E := E.trans (if_neg h167)
                    refine V.seg F floX7 cjoX7 [.ldc2_w 83, .goto 9] (by decide +kernel) (pc2 := 182) (lv2 := [(0, .ref 52), (3, .int f), (6, .int w0_106), (7, .int w0_128)]) (st2 := [.long ((-9223372036854775808)), .int f, .ref 54]) (M2 := uI M157 68 (ix m) ((mI M128 68 (ix m)) + (w0_147 + w0_157))) rfl ⟨trivial, (by decide), trivial⟩ ?_
                    refine V.pick [0, 1, 2, 3] rfl ?_
                    exact hJ182 ((-9223372036854775808)) (uI M157 68 (ix m) ((mI M128 68 (ix m)) + (w0_147 + w0_157))) (SK.pI s157 rfl) E
                refine V.if_eq (off := 7) F (by decide +kernel) (tgt := 156) (by decide) (fun h149 => ?_) (fun h149 => ?_)
                · replace E := E.trans (if_pos h149)
                  refine V.seg F floX7 cjoX7 [.iconst 0] (by decide +kernel) (pc2 := 157) (lv2 := [(0, .ref 52), (3, .int f), (6, .int w0_106), (7, .int w0_128)]) (st2 := [.int 0, .int w0_147, .int (mI M128 68 (ix m)), .int m, .ref 68]) (M2 := M147) rfl ⟨trivial, trivial⟩ ?_
                  refine V.pick [0, 1, 2, 3] rfl ?_
                  exact hJ157 0 M147 s147 E
                · replace E := E.trans (if_neg h149)
                  refine V.seg F floX7 cjoX7 [.iconst 1, .goto 4] (by decide +kernel) (pc2 := 157) (lv2 := [(0, .ref 52), (3, .int f), (6, .int w0_106), (7, .int w0_128)]) (st2 := [.int 1, .int w0_147, .int (mI M128 68 (ix m)), .int m, .ref 68]) (M2 := M147) rfl ⟨trivial, (by decide), trivial⟩ ?_
                  refine V.pick [0, 1, 2, 3] rfl ?_
                  exact hJ157 1 M147 s147 E
              refine V.if_eq (off := 7) F (by decide +kernel) (tgt := 146) (by decide) (fun h139 => ?_) (fun h139 => ?_)
              · replace E := E.trans (if_pos h139)
                refine V.seg F floX7 cjoX7 [.iconst 0] (by decide +kernel) (pc2 := 147) (lv2 := [(7, .int w0_128), (0, .ref 52), (1, .int m), (3, .int f), (6, .int w0_106)]) (st2 := [.int 0, .int (mI M128 68 (ix m)), .int m, .ref 68]) (M2 := M128) rfl ⟨trivial, trivial⟩ ?_
                refine V.pick [1, 3, 4, 0] rfl ?_
                exact hJ147 0 M128 s128 E
              · replace E := E.trans (if_neg h139)
                refine V.seg F floX7 cjoX7 [.iconst 1, .goto 4] (by decide +kernel) (pc2 := 147) (lv2 := [(7, .int w0_128), (0, .ref 52), (1, .int m), (3, .int f), (6, .int w0_106)]) (st2 := [.int 1, .int (mI M128 68 (ix m)), .int m, .ref 68]) (M2 := M128) rfl ⟨trivial, (by decide), trivial⟩ ?_
                refine V.pick [1, 3, 4, 0] rfl ?_
                exact hJ147 1 M128 s128 E
            have hJ127 : ∀ (M127 : Mem), (SK wh M M127) → f_X7_widen M m k f = f_X7_widen_127 m f w0_106 M127 → V G X 8 0 0 (Qx G X 0 0 (p_X7_widen M m k f)) 127 [(0, .ref 52), (1, .int m), (3, .int f), (6, .int w0_106)] [] M127 := by
              intro M127 s127 E
              refine V.seg F floX7 cjoX7 [.iconst 0] (by decide +kernel) (pc2 := 128) (lv2 := [(0, .ref 52), (1, .int m), (3, .int f), (6, .int w0_106)]) (st2 := [.int 0]) (M2 := M127) rfl ⟨trivial, trivial⟩ ?_
              refine V.pick [0, 1, 2, 3] rfl ?_
              exact hJ128 0 M127 s127 E
            refine V.if_eq (off := 17) F (by decide +kernel) (tgt := 127) (by decide) (fun h110 => ?_) (fun h110 => ?_)
            · replace E := E.trans (if_pos h110)
              refine V.pick [1, 2, 4, 0] rfl ?_
              exact hJ127 M106 s106 E
            · replace E := E.trans (if_neg h110)
              refine V.seg F floX7 cjoX7 [.aload_n 0, .getfield 66, .iload_n 2, .iaload, .iconst 3] (by decide +kernel) (pc2 := 120) (lv2 := [(6, .int w0_106), (0, .ref 52), (1, .int m), (2, .int k), (3, .int f), (5, .int w0_46)]) (st2 := [.int 3, .int (mI M106 71 (ix k))]) (M2 := M106) rfl ⟨trivial, ((q.sm s106.1).f 52 7 21 rfl), trivial, ((q.sm s106.1).a 71 20 256 rfl (by first | assumption | exact vinc (by decide))), trivial, trivial⟩ ?_
              refine V.ic_le (off := 7) F (by decide +kernel) (tgt := 127) (by decide) (fun h120 => ?_) (fun h120 => ?_)
              · replace E := E.trans (if_pos h120)
                refine V.pick [1, 2, 4, 0] rfl ?_
                exact hJ127 M106 s106 E
              · replace E := E.trans (if_neg h120)
                refine V.seg F floX7 cjoX7 [.iconst 1, .goto 4] (by decide +kernel) (pc2 := 128) (lv2 := [(6, .int w0_106), (0, .ref 52), (1, .int m), (2, .int k), (3, .int f), (5, .int w0_46)]) (st2 := [.int 1]) (M2 := M106) rfl ⟨trivial, (by decide), trivial⟩ ?_
                refine V.pick [1, 2, 4, 0] rfl ?_
                exact hJ128 1 M106 s106 E
          have hJ105 : ∀ (M105 : Mem), (SK wh M M105) → f_X7_widen M m k f = f_X7_widen_105 m k f w0_46 M105 → V G X 8 0 0 (Qx G X 0 0 (p_X7_widen M m k f)) 105 [(0, .ref 52), (1, .int m), (2, .int k), (3, .int f), (5, .int w0_46)] [] M105 := by
            intro M105 s105 E
            refine V.seg F floX7 cjoX7 [.iconst 0] (by decide +kernel) (pc2 := 106) (lv2 := [(0, .ref 52), (1, .int m), (2, .int k), (3, .int f), (5, .int w0_46)]) (st2 := [.int 0]) (M2 := M105) rfl ⟨trivial, trivial⟩ ?_
            refine V.pick [0, 1, 2, 3, 4] rfl ?_
            exact hJ106 0 M105 s105 E
          refine V.if_eq (off := 17) F (by decide +kernel) (tgt := 105) (by decide) (fun h88 => ?_) (fun h88 => ?_)
          · replace E := E.trans (if_pos h88)
            refine V.pick [0, 1, 2, 3, 5] rfl ?_
            exact hJ105 (uI M84 71 (ix k) ((mI (uI M65 70 (ix k) ((mI M46 70 (ix k)) + w0_65)) 71 (ix k)) + w0_84)) (SK.pI s84 rfl) E
          · replace E := E.trans (if_neg h88)
            refine V.seg F floX7 cjoX7 [.aload_n 0, .getfield 63, .iload_n 2, .iaload, .iconst 3] (by decide +kernel) (pc2 := 98) (lv2 := [(0, .ref 52), (1, .int m), (2, .int k), (3, .int f), (4, .int w0_22), (5, .int w0_46)]) (st2 := [.int 3, .int (mI (uI M84 71 (ix k) ((mI (uI M65 70 (ix k) ((mI M46 70 (ix k)) + w0_65)) 71 (ix k)) + w0_84)) 70 (ix k))]) (M2 := uI M84 71 (ix k) ((mI (uI M65 70 (ix k) ((mI M46 70 (ix k)) + w0_65)) 71 (ix k)) + w0_84)) rfl ⟨trivial, ((q.sm (SK.pI s84 rfl).1).f 52 7 20 rfl), trivial, ((q.sm (SK.pI s84 rfl).1).a 70 20 256 rfl (by first | assumption | exact vinc (by decide))), trivial, trivial⟩ ?_
            refine V.ic_le (off := 7) F (by decide +kernel) (tgt := 105) (by decide) (fun h98 => ?_) (fun h98 => ?_)
            · replace E := E.trans (if_pos h98)
              refine V.pick [0, 1, 2, 3, 5] rfl ?_
              exact hJ105 (uI M84 71 (ix k) ((mI (uI M65 70 (ix k) ((mI M46 70 (ix k)) + w0_65)) 71 (ix k)) + w0_84)) (SK.pI s84 rfl) E
            · replace E := E.trans (if_neg h98)
              refine V.seg F floX7 cjoX7 [.iconst 1, .goto 4] (by decide +kernel) (pc2 := 106) (lv2 := [(0, .ref 52), (1, .int m), (2, .int k), (3, .int f), (4, .int w0_22), (5, .int w0_46)]) (st2 := [.int 1]) (M2 := uI M84 71 (ix k) ((mI (uI M65 70 (ix k) ((mI M46 70 (ix k)) + w0_65)) 71 (ix k)) + w0_84)) rfl ⟨trivial, (by decide), trivial⟩ ?_
              refine V.pick [0, 1, 2, 3, 5] rfl ?_
              exact hJ106 1 (uI M84 71 (ix k) ((mI (uI M65 70 (ix k) ((mI M46 70 (ix k)) + w0_65)) 71 (ix k)) + w0_84)) (SK.pI s84 rfl) E
        refine V.if_eq (off := 7) F (by decide +kernel) (tgt := 83) (by decide) (fun h76 => ?_) (fun h76 => ?_)
        · replace E := E.trans (if_pos h76)
          refine V.seg F floX7 cjoX7 [.iconst 0] (by decide +kernel) (pc2 := 84) (lv2 := [(0, .ref 52), (1, .int m), (2, .int k), (3, .int f), (4, .int w0_22), (5, .int w0_46)]) (st2 := [.int 0, .int (mI (uI M65 70 (ix k) ((mI M46 70 (ix k)) + w0_65)) 71 (ix k)), .int k, .ref 71]) (M2 := uI M65 70 (ix k) ((mI M46 70 (ix k)) + w0_65)) rfl ⟨trivial, trivial⟩ ?_
          refine V.pick [0, 1, 2, 3, 4, 5] rfl ?_
          exact hJ84 0 (uI M65 70 (ix k) ((mI M46 70 (ix k)) + w0_65)) (SK.pI s65 rfl) E
        · replace E := E.trans (if_neg h76)
          refine V.seg F floX7 cjoX7 [.iconst 1, .goto 4] (by decide +kernel) (pc2 := 84) (lv2 := [(0, .ref 52), (1, .int m), (2, .int k), (3, .int f), (4, .int w0_22), (5, .int w0_46)]) (st2 := [.int 1, .int (mI (uI M65 70 (ix k) ((mI M46 70 (ix k)) + w0_65)) 71 (ix k)), .int k, .ref 71]) (M2 := uI M65 70 (ix k) ((mI M46 70 (ix k)) + w0_65)) rfl ⟨trivial, (by decide), trivial⟩ ?_
          refine V.pick [0, 1, 2, 3, 4, 5] rfl ?_
          exact hJ84 1 (uI M65 70 (ix k) ((mI M46 70 (ix k)) + w0_65)) (SK.pI s65 rfl) E
      refine V.if_eq (off := 7) F (by decide +kernel) (tgt := 64) (by decide) (fun h57 => ?_) (fun h57 => ?_)
      · replace E := E.trans (if_pos h57)
        refine V.seg F floX7 cjoX7 [.iconst 0] (by decide +kernel) (pc2 := 65) (lv2 := [(5, .int w0_46), (0, .ref 52), (1, .int m), (2, .int k), (3, .int f), (4, .int w0_22)]) (st2 := [.int 0, .int (mI M46 70 (ix k)), .int k, .ref 70]) (M2 := M46) rfl ⟨trivial, trivial⟩ ?_
        refine V.pick [1, 2, 3, 4, 5, 0] rfl ?_
        exact hJ65 0 M46 s46 E
      · replace E := E.trans (if_neg h57)
        refine V.seg F floX7 cjoX7 [.iconst 1, .goto 4] (by decide +kernel) (pc2 := 65) (lv2 := [(5, .int w0_46), (0, .ref 52), (1, .int m), (2, .int k), (3, .int f), (4, .int w0_22)]) (st2 := [.int 1, .int (mI M46 70 (ix k)), .int k, .ref 70]) (M2 := M46) rfl ⟨trivial, (by decide), trivial⟩ ?_
        refine V.pick [1, 2, 3, 4, 5, 0] rfl ?_
        exact hJ65 1 M46 s46 E
    refine V.lc_le (off := 7) F (by decide +kernel) (tgt := 45) (by decide) (fun h38 => ?_) (fun h38 => ?_)
    · replace E := E.trans (if_pos h38)
      refine V.seg F floX7 cjoX7 [.iconst 0] (by decide +kernel) (pc2 := 46) (lv2 := [(4, .int w0_22), (0, .ref 52), (1, .int m), (2, .int k), (3, .int f)]) (st2 := [.int 0]) (M2 := M22) rfl ⟨trivial, trivial⟩ ?_
      refine V.pick [1, 2, 3, 4, 0] rfl ?_
      exact hJ46 0 M22 s22 E
    · replace E := E.trans (if_neg h38)
      refine V.seg F floX7 cjoX7 [.iconst 1, .goto 4] (by decide +kernel) (pc2 := 46) (lv2 := [(4, .int w0_22), (0, .ref 52), (1, .int m), (2, .int k), (3, .int f)]) (st2 := [.int 1]) (M2 := M22) rfl ⟨trivial, (by decide), trivial⟩ ?_
      refine V.pick [1, 2, 3, 4, 0] rfl ?_
      exact hJ46 1 M22 s22 E
  refine V.lc_ge (off := 7) F (by decide +kernel) (tgt := 21) (by decide) (fun h14 => ?_) (fun h14 => ?_)
  · replace E := E.trans (if_pos h14)
    refine V.seg F floX7 cjoX7 [.iconst 0] (by decide +kernel) (pc2 := 22) (lv2 := [(0, .ref 52), (1, .int m), (2, .int k), (3, .int f)]) (st2 := [.int 0]) (M2 := M) rfl ⟨trivial, trivial⟩ ?_
    refine V.pick [0, 1, 2, 3] rfl ?_
    exact hJ22 0 M (SK.rf (w := wh) gb) E
  · replace E := E.trans (if_neg h14)
    refine V.seg F floX7 cjoX7 [.iconst 1, .goto 4] (by decide +kernel) (pc2 := 22) (lv2 := [(0, .ref 52), (1, .int m), (2, .int k), (3, .int f)]) (st2 := [.int 1]) (M2 := M) rfl ⟨trivial, (by decide), trivial⟩ ?_
    refine V.pick [0, 1, 2, 3] rfl ?_
    exact hJ22 1 M (SK.rf (w := wh) gb) E
def f_X7_asked_325  (M325 : Mem) : Mem := M325
def f_X7_asked_c325  (M325 : Mem) : Mem := f_X7_asked_325 M325
def f_X7_asked_c303 (a : Int32) (b : Int32) (M303 : Mem) : Mem := f_X7_asked_c325 (f_X7_atMost M303 (40 + b) 0 (mL M303 55 (ix (40 + a))) (48 + b))
def f_X7_asked_c278  (M278 : Mem) : Mem := f_X7_asked_325 M278
def f_X7_asked_260 (a : Int32) (b : Int32) (w0_260 : Int32) (M260 : Mem) : Mem := f_X7_asked_c278 (f_X7_atLeast M260 (40 + b) w0_260 ((mL M260 54 (ix (40 + a))) + 1) (48 + b))
def f_X7_asked_c234 (a : Int32) (b : Int32) (M234 : Mem) : Mem := if (mL M234 54 (ix (40 + a))) = 9223372036854775807 then f_X7_asked_260 a b 1 M234 else f_X7_asked_260 a b 0 M234
def f_X7_asked_216 (a : Int32) (b : Int32) (w0_216 : Int32) (M216 : Mem) : Mem := f_X7_asked_c234 a b (f_X7_atMost M216 (40 + a) w0_216 ((mL M216 55 (ix (40 + b))) - 1) (48 + a))
def f_X7_asked_184  (M184 : Mem) : Mem := M184
def f_X7_asked_c184  (M184 : Mem) : Mem := f_X7_asked_184 M184
def f_X7_asked_c168 (a : Int32) (b : Int32) (M168 : Mem) : Mem := f_X7_asked_c184 (f_X7_apart M168 (40 + b) (40 + a) (48 + b))
def f_X7_asked_c149  (M149 : Mem) : Mem := f_X7_asked_184 M149
def f_X7_asked_c139 (b : Int32) (M139 : Mem) : Mem := f_X7_asked_c149 (f_X7_copy M139 (48 + b) 26)
def f_X7_asked_c129 (a : Int32) (b : Int32) (M129 : Mem) : Mem := f_X7_asked_c139 b (f_X7_copy M129 (48 + a) 26)
def f_X7_asked_c103  (M103 : Mem) : Mem := M103
def f_X7_asked_95 (a : Int32) (b : Int32) (M64 : Mem) (w0_95 : Int64) (M95 : Mem) : Mem := f_X7_asked_c103 (f_X7_sharpen (uL M95 57 (ix (48 + a)) ((mL (uL M64 56 (ix (48 + a)) ((mL M64 56 (ix (48 + a))) ||| (jshl 1 b))) 57 (ix (48 + a))) ||| w0_95)) (48 + a))
def f_X7_asked_64 (a : Int32) (b : Int32) (z : Int32) (M64 : Mem) : Mem := if z = 0 then f_X7_asked_95 a b M64 0 (uL M64 56 (ix (48 + a)) ((mL M64 56 (ix (48 + a))) ||| (jshl 1 b))) else f_X7_asked_95 a b M64 (jshl 1 b) (uL M64 56 (ix (48 + a)) ((mL M64 56 (ix (48 + a))) ||| (jshl 1 b)))
def f_X7_asked_c63  (M63 : Mem) : Mem := M63
def f_X7_asked_52 (a : Int32) (b : Int32) (z : Int32) (w0_52 : Int32) (M52 : Mem) : Mem := if w0_52 = z then f_X7_asked_64 a b z M52 else f_X7_asked_c63 (f_X7_nothing M52 (48 + a))
def f_X7_asked (M : Mem) (op : Int32) (a : Int32) (b : Int32) (z : Int32) : Mem := if op = 25 then if ((mL M 56 (ix (48 + a))) &&& (jshl 1 b)) = 0 then f_X7_asked_64 a b z M else if ((mL M 57 (ix (48 + a))) &&& (jshl 1 b)) = 0 then f_X7_asked_52 a b z 0 M else f_X7_asked_52 a b z 1 M else if op = 23 then if z = 0 then f_X7_asked_c168 a b (f_X7_apart M (40 + a) (40 + b) (48 + a)) else f_X7_asked_c129 a b (f_X7_meet M (40 + a) (40 + b) 26) else if z = 0 then f_X7_asked_c303 a b (f_X7_atLeast M (40 + a) 0 (mL M 54 (ix (40 + b))) (48 + a)) else if (mL M 55 (ix (40 + b))) = ((-9223372036854775808)) then f_X7_asked_216 a b 1 M else f_X7_asked_216 a b 0 M
abbrev p_X7_asked (M : Mem) (op : Int32) (a : Int32) (b : Int32) (z : Int32) : Option Value → Mem → Prop := fun r N => r = none ∧ N = f_X7_asked M op a b z ∧ SK wg M N
set_option maxRecDepth 100000 in
set_option maxHeartbeats 4000000 in
theorem c_X7_asked (G : Ctx) (l : Launch) (M : Mem) (op : Int32) (a : Int32) (b : Int32) (z : Int32) (z_z : z = 0 ∨ z = 1) (q : Ok M) (gb : Gb M) (i_a : vp_in a 8) (hb : ¬ op = 25 → vp_in b 8) : CT G l 5 mX7_asked [.ref 52, .int op, .int a, .int b, .int z] M 0 0 (p_X7_asked M op a b z) := by
  refine CT.of (by decide) (Nat.le_of_ble_eq_true rfl) ?_
  intro X d hd hl hRm hnm F
  subst hl
  have E : f_X7_asked M op a b z = f_X7_asked M op a b z := rfl
  show V G X 8 0 0 (Qx G X 0 0 (p_X7_asked M op a b z)) 0 [(0, .ref 52), (1, .int op), (2, .int a), (3, .int b), (4, .int z)] [] M
  refine V.seg F floX7 cjoX7 [.iload_n 1, .bipush 25] (by decide +kernel) (pc2 := 3) (lv2 := [(0, .ref 52), (1, .int op), (2, .int a), (3, .int b), (4, .int z)]) (st2 := [.int 25, .int op]) (M2 := M) rfl ⟨trivial, trivial, trivial⟩ ?_
  refine V.ic_ne (off := 101) F (by decide +kernel) (tgt := 104) (by decide) (fun h3 => ?_) (fun h3 => ?_)
  · replace E := E.trans (if_neg h3)
    refine V.seg F floX7 cjoX7 [.iload_n 1, .bipush 23] (by decide +kernel) (pc2 := 107) (lv2 := [(0, .ref 52), (1, .int op), (2, .int a), (3, .int b), (4, .int z)]) (st2 := [.int 23, .int op]) (M2 := M) rfl ⟨trivial, trivial, trivial⟩ ?_
    refine V.ic_ne (off := 78) F (by decide +kernel) (tgt := 185) (by decide) (fun h107 => ?_) (fun h107 => ?_)
    · replace E := E.trans (if_neg h107)
      refine V.seg F floX7 cjoX7 [.iload 4] (by decide +kernel) (pc2 := 187) (lv2 := [(0, .ref 52), (1, .int op), (2, .int a), (3, .int b), (4, .int z)]) (st2 := [.int z]) (M2 := M) rfl ⟨trivial, trivial⟩ ?_
      have hJ325 : ∀ (M325 : Mem), (SK wg M M325) → f_X7_asked M op a b z = f_X7_asked_325 M325 → V G X 8 0 0 (Qx G X 0 0 (p_X7_asked M op a b z)) 325 [] [] M325 := by
        intro M325 s325 E
        exact V.vret F (by decide +kernel) ⟨rfl, E.symm, s325⟩
      refine V.if_eq (off := 94) F (by decide +kernel) (tgt := 281) (by decide) (fun h187 => ?_) (fun h187 => ?_)
      · replace E := E.trans (if_pos h187)
        refine V.seg F floX7 cjoX7 [.aload_n 0, .bipush 40, .iload_n 2, .iadd, .iconst 0, .aload_n 0, .getfield 13, .bipush 40, .iload_n 3, .iadd, .laload, .bipush 48, .iload_n 2, .iadd] (by decide +kernel) (pc2 := 300) (lv2 := [(0, .ref 52), (1, .int op), (2, .int a), (3, .int b), (4, .int z)]) (st2 := [.int (48 + a), .long (mL M 54 (ix (40 + b))), .int 0, .int (40 + a), .ref 52]) (M2 := M) rfl ⟨trivial, trivial, trivial, trivial, trivial, trivial, (q.f 52 7 1 rfl), trivial, trivial, trivial, (q.a 54 22 1648 rfl (v40 (hb h3))), trivial, trivial, trivial, trivial⟩ ?_
        refine V.callV (as := [.int (40 + a), .int 0, .long (mL M 54 (ix (40 + b))), .int (48 + a)]) (rest := []) F (by decide +kernel) lX7_306 bX7_atLeast ⟨7, _, (q.o 52 7 rfl), rfl, rfl⟩ (c_X7_atLeast G X.2.1 M (40 + a) 0 (mL M 54 (ix (40 + b))) (48 + a) (Or.inl rfl) q gb (v40 i_a) (v48 i_a)) (rm_ok hRm hd (by decide) (by decide)) ⟨Nat.zero_le _, Nat.zero_le _⟩ (Nat.le_of_ble_eq_true rfl) (fun r_ N_ p_ => ?_)
        obtain ⟨rfl, rfl, t300⟩ := p_
        refine (?_ : ∀ (M303 : Mem), (SK wg M M303) → f_X7_asked M op a b z = f_X7_asked_c303 a b M303 → V G X 8 0 0 (Qx G X 0 0 (p_X7_asked M op a b z)) 303 [(0, .ref 52), (1, .int op), (2, .int a), (3, .int b), (4, .int z)] [] M303) _ t300 E
        intro M303 s303 E
        refine V.seg F floX7 cjoX7 [.aload_n 0, .bipush 40, .iload_n 3, .iadd, .iconst 0, .aload_n 0, .getfield 17, .bipush 40, .iload_n 2, .iadd, .laload, .bipush 48, .iload_n 3, .iadd] (by decide +kernel) (pc2 := 322) (lv2 := [(0, .ref 52), (1, .int op), (2, .int a), (3, .int b), (4, .int z)]) (st2 := [.int (48 + b), .long (mL M303 55 (ix (40 + a))), .int 0, .int (40 + b), .ref 52]) (M2 := M303) rfl ⟨trivial, trivial, trivial, trivial, trivial, trivial, ((q.sm s303.1).f 52 7 2 rfl), trivial, trivial, trivial, ((q.sm s303.1).a 55 22 1648 rfl (v40 i_a)), trivial, trivial, trivial, trivial⟩ ?_
        refine V.callV (as := [.int (40 + b), .int 0, .long (mL M303 55 (ix (40 + a))), .int (48 + b)]) (rest := []) F (by decide +kernel) lX7_302 bX7_atMost ⟨7, _, ((q.sm s303.1).o 52 7 rfl), rfl, rfl⟩ (c_X7_atMost G X.2.1 M303 (40 + b) 0 (mL M303 55 (ix (40 + a))) (48 + b) (Or.inl rfl) (q.sm s303.1) s303.2.1 (v40 (hb h3)) (v48 (hb h3))) (rm_ok hRm hd (by decide) (by decide)) ⟨Nat.zero_le _, Nat.zero_le _⟩ (Nat.le_of_ble_eq_true rfl) (fun r_ N_ p_ => ?_)
        obtain ⟨rfl, rfl, t322⟩ := p_
        refine (?_ : ∀ (M325 : Mem), (SK wg M M325) → f_X7_asked M op a b z = f_X7_asked_c325 M325 → V G X 8 0 0 (Qx G X 0 0 (p_X7_asked M op a b z)) 325 [(0, .ref 52), (1, .int op), (2, .int a), (3, .int b), (4, .int z)] [] M325) _ (SK.tr s303 t322) E
        intro M325 s325 E
        refine V.pick [] rfl ?_
        exact hJ325 M325 s325 E
      · replace E := E.trans (if_neg h187)
        refine V.seg F floX7 cjoX7 [.aload_n 0, .bipush 40, .iload_n 2, .iadd, .aload_n 0, .getfield 17, .bipush 40, .iload_n 3, .iadd, .laload, .ldc2_w 83, .lcmp] (by decide +kernel) (pc2 := 208) (lv2 := [(0, .ref 52), (1, .int op), (2, .int a), (3, .int b), (4, .int z)]) (st2 := [.int (lg_cmp (mL M 55 (ix (40 + b))) ((-9223372036854775808))), .int (40 + a), .ref 52]) (M2 := M) rfl ⟨trivial, trivial, trivial, trivial, trivial, (q.f 52 7 2 rfl), trivial, trivial, trivial, (q.a 55 22 1648 rfl (v40 (hb h3))), trivial, trivial, trivial⟩ ?_
        have hJ216 : ∀ (w0_216 : Int32) (M216 : Mem), (SK wg M M216) → (w0_216 = 0 ∨ w0_216 = 1) → f_X7_asked M op a b z = f_X7_asked_216 a b w0_216 M216 → V G X 8 0 0 (Qx G X 0 0 (p_X7_asked M op a b z)) 216 [(0, .ref 52), (2, .int a), (3, .int b)] [.int w0_216, .int (40 + a), .ref 52] M216 := by
          intro w0_216 M216 s216 zw0_216 E
          refine V.seg F floX7 cjoX7 [.aload_n 0, .getfield 17, .bipush 40, .iload_n 3, .iadd, .laload, .lconst 1, .lsub, .bipush 48, .iload_n 2, .iadd] (by decide +kernel) (pc2 := 231) (lv2 := [(0, .ref 52), (2, .int a), (3, .int b)]) (st2 := [.int (48 + a), .long ((mL M216 55 (ix (40 + b))) - 1), .int w0_216, .int (40 + a), .ref 52]) (M2 := M216) rfl ⟨trivial, ((q.sm s216.1).f 52 7 2 rfl), trivial, trivial, trivial, ((q.sm s216.1).a 55 22 1648 rfl (v40 (hb h3))), trivial, trivial, trivial, trivial, trivial, trivial⟩ ?_
          refine V.callV (as := [.int (40 + a), .int w0_216, .long ((mL M216 55 (ix (40 + b))) - 1), .int (48 + a)]) (rest := []) F (by decide +kernel) lX7_302 bX7_atMost ⟨7, _, ((q.sm s216.1).o 52 7 rfl), rfl, rfl⟩ (c_X7_atMost G X.2.1 M216 (40 + a) w0_216 ((mL M216 55 (ix (40 + b))) - 1) (48 + a) (zw0_216) (q.sm s216.1) s216.2.1 (v40 i_a) (v48 i_a)) (rm_ok hRm hd (by decide) (by decide)) ⟨Nat.zero_le _, Nat.zero_le _⟩ (Nat.le_of_ble_eq_true rfl) (fun r_ N_ p_ => ?_)
          obtain ⟨rfl, rfl, t231⟩ := p_
          refine (?_ : ∀ (M234 : Mem), (SK wg M M234) → f_X7_asked M op a b z = f_X7_asked_c234 a b M234 → V G X 8 0 0 (Qx G X 0 0 (p_X7_asked M op a b z)) 234 [(0, .ref 52), (2, .int a), (3, .int b)] [] M234) _ (SK.tr s216 t231) E
          intro M234 s234 E
          refine V.seg F floX7 cjoX7 [.aload_n 0, .bipush 40, .iload_n 3, .iadd, .aload_n 0, .getfield 13, .bipush 40, .iload_n 2, .iadd, .laload, .ldc2_w 85, .lcmp] (by decide +kernel) (pc2 := 252) (lv2 := [(0, .ref 52), (2, .int a), (3, .int b)]) (st2 := [.int (lg_cmp (mL M234 54 (ix (40 + a))) 9223372036854775807), .int (40 + b), .ref 52]) (M2 := M234) rfl ⟨trivial, trivial, trivial, trivial, trivial, ((q.sm s234.1).f 52 7 1 rfl), trivial, trivial, trivial, ((q.sm s234.1).a 54 22 1648 rfl (v40 i_a)), trivial, trivial, trivial⟩ ?_
          have hJ260 : ∀ (w0_260 : Int32) (M260 : Mem), (SK wg M M260) → (w0_260 = 0 ∨ w0_260 = 1) → f_X7_asked M op a b z = f_X7_asked_260 a b w0_260 M260 → V G X 8 0 0 (Qx G X 0 0 (p_X7_asked M op a b z)) 260 [(0, .ref 52), (2, .int a), (3, .int b)] [.int w0_260, .int (40 + b), .ref 52] M260 := by
            intro w0_260 M260 s260 zw0_260 E
            refine V.seg F floX7 cjoX7 [.aload_n 0, .getfield 13, .bipush 40, .iload_n 2, .iadd, .laload, .lconst 1, .ladd, .bipush 48, .iload_n 3, .iadd] (by decide +kernel) (pc2 := 275) (lv2 := [(0, .ref 52), (2, .int a), (3, .int b)]) (st2 := [.int (48 + b), .long ((mL M260 54 (ix (40 + a))) + 1), .int w0_260, .int (40 + b), .ref 52]) (M2 := M260) rfl ⟨trivial, ((q.sm s260.1).f 52 7 1 rfl), trivial, trivial, trivial, ((q.sm s260.1).a 54 22 1648 rfl (v40 i_a)), trivial, trivial, trivial, trivial, trivial, trivial⟩ ?_
            refine V.callV (as := [.int (40 + b), .int w0_260, .long ((mL M260 54 (ix (40 + a))) + 1), .int (48 + b)]) (rest := []) F (by decide +kernel) lX7_306 bX7_atLeast ⟨7, _, ((q.sm s260.1).o 52 7 rfl), rfl, rfl⟩ (c_X7_atLeast G X.2.1 M260 (40 + b) w0_260 ((mL M260 54 (ix (40 + a))) + 1) (48 + b) (zw0_260) (q.sm s260.1) s260.2.1 (v40 (hb h3)) (v48 (hb h3))) (rm_ok hRm hd (by decide) (by decide)) ⟨Nat.zero_le _, Nat.zero_le _⟩ (Nat.le_of_ble_eq_true rfl) (fun r_ N_ p_ => ?_)
            obtain ⟨rfl, rfl, t275⟩ := p_
            refine (?_ : ∀ (M278 : Mem), (SK wg M M278) → f_X7_asked M op a b z = f_X7_asked_c278 M278 → V G X 8 0 0 (Qx G X 0 0 (p_X7_asked M op a b z)) 278 [(0, .ref 52), (2, .int a), (3, .int b)] [] M278) _ (SK.tr s260 t275) E
            intro M278 s278 E
            refine V.seg F floX7 cjoX7 [.goto 47] (by decide +kernel) (pc2 := 325) (lv2 := [(0, .ref 52), (2, .int a), (3, .int b)]) (st2 := []) (M2 := M278) rfl ⟨(by decide), trivial⟩ ?_
            refine V.pick [] rfl ?_
            exact hJ325 M278 s278 E
          refine V.lc_ne (off := 7) F (by decide +kernel) (tgt := 259) (by decide) (fun h252 => ?_) (fun h252 => ?_)
          · replace E := E.trans (if_neg h252)
            refine V.seg F floX7 cjoX7 [.iconst 0] (by decide +kernel) (pc2 := 260) (lv2 := [(0, .ref 52), (2, .int a), (3, .int b)]) (st2 := [.int 0, .int (40 + b), .ref 52]) (M2 := M234) rfl ⟨trivial, trivial⟩ ?_
            refine V.pick [0, 1, 2] rfl ?_
            exact hJ260 0 M234 s234 (Or.inl rfl) E
          · replace E := E.trans (if_pos h252)
            refine V.seg F floX7 cjoX7 [.iconst 1, .goto 4] (by decide +kernel) (pc2 := 260) (lv2 := [(0, .ref 52), (2, .int a), (3, .int b)]) (st2 := [.int 1, .int (40 + b), .ref 52]) (M2 := M234) rfl ⟨trivial, (by decide), trivial⟩ ?_
            refine V.pick [0, 1, 2] rfl ?_
            exact hJ260 1 M234 s234 (Or.inr rfl) E
        refine V.lc_ne (off := 7) F (by decide +kernel) (tgt := 215) (by decide) (fun h208 => ?_) (fun h208 => ?_)
        · replace E := E.trans (if_neg h208)
          refine V.seg F floX7 cjoX7 [.iconst 0] (by decide +kernel) (pc2 := 216) (lv2 := [(0, .ref 52), (1, .int op), (2, .int a), (3, .int b), (4, .int z)]) (st2 := [.int 0, .int (40 + a), .ref 52]) (M2 := M) rfl ⟨trivial, trivial⟩ ?_
          refine V.pick [0, 2, 3] rfl ?_
          exact hJ216 0 M (SK.rf (w := wg) gb) (Or.inl rfl) E
        · replace E := E.trans (if_pos h208)
          refine V.seg F floX7 cjoX7 [.iconst 1, .goto 4] (by decide +kernel) (pc2 := 216) (lv2 := [(0, .ref 52), (1, .int op), (2, .int a), (3, .int b), (4, .int z)]) (st2 := [.int 1, .int (40 + a), .ref 52]) (M2 := M) rfl ⟨trivial, (by decide), trivial⟩ ?_
          refine V.pick [0, 2, 3] rfl ?_
          exact hJ216 1 M (SK.rf (w := wg) gb) (Or.inr rfl) E
    · replace E := E.trans (if_pos h107)
      refine V.seg F floX7 cjoX7 [.iload 4] (by decide +kernel) (pc2 := 112) (lv2 := [(0, .ref 52), (1, .int op), (2, .int a), (3, .int b), (4, .int z)]) (st2 := [.int z]) (M2 := M) rfl ⟨trivial, trivial⟩ ?_
      have hJ184 : ∀ (M184 : Mem), (SK wg M M184) → f_X7_asked M op a b z = f_X7_asked_184 M184 → V G X 8 0 0 (Qx G X 0 0 (p_X7_asked M op a b z)) 184 [] [] M184 := by
        intro M184 s184 E
        exact V.vret F (by decide +kernel) ⟨rfl, E.symm, s184⟩
      refine V.if_eq (off := 40) F (by decide +kernel) (tgt := 152) (by decide) (fun h112 => ?_) (fun h112 => ?_)
      · replace E := E.trans (if_pos h112)
        refine V.seg F floX7 cjoX7 [.aload_n 0, .bipush 40, .iload_n 2, .iadd, .bipush 40, .iload_n 3, .iadd, .bipush 48, .iload_n 2, .iadd] (by decide +kernel) (pc2 := 165) (lv2 := [(0, .ref 52), (1, .int op), (2, .int a), (3, .int b), (4, .int z)]) (st2 := [.int (48 + a), .int (40 + b), .int (40 + a), .ref 52]) (M2 := M) rfl ⟨trivial, trivial, trivial, trivial, trivial, trivial, trivial, trivial, trivial, trivial, trivial⟩ ?_
        refine V.callV (as := [.int (40 + a), .int (40 + b), .int (48 + a)]) (rest := []) F (by decide +kernel) lX7_299 bX7_apart ⟨7, _, (q.o 52 7 rfl), rfl, rfl⟩ (c_X7_apart G X.2.1 M (40 + a) (40 + b) (48 + a) q gb (v40 i_a) (v40 (hb h3)) (v48 i_a)) (rm_ok hRm hd (by decide) (by decide)) ⟨Nat.zero_le _, Nat.zero_le _⟩ (Nat.le_of_ble_eq_true rfl) (fun r_ N_ p_ => ?_)
        obtain ⟨rfl, rfl, t165⟩ := p_
        refine (?_ : ∀ (M168 : Mem), (SK wg M M168) → f_X7_asked M op a b z = f_X7_asked_c168 a b M168 → V G X 8 0 0 (Qx G X 0 0 (p_X7_asked M op a b z)) 168 [(0, .ref 52), (1, .int op), (2, .int a), (3, .int b), (4, .int z)] [] M168) _ t165 E
        intro M168 s168 E
        refine V.seg F floX7 cjoX7 [.aload_n 0, .bipush 40, .iload_n 3, .iadd, .bipush 40, .iload_n 2, .iadd, .bipush 48, .iload_n 3, .iadd] (by decide +kernel) (pc2 := 181) (lv2 := [(0, .ref 52), (1, .int op), (2, .int a), (3, .int b), (4, .int z)]) (st2 := [.int (48 + b), .int (40 + a), .int (40 + b), .ref 52]) (M2 := M168) rfl ⟨trivial, trivial, trivial, trivial, trivial, trivial, trivial, trivial, trivial, trivial, trivial⟩ ?_
        refine V.callV (as := [.int (40 + b), .int (40 + a), .int (48 + b)]) (rest := []) F (by decide +kernel) lX7_299 bX7_apart ⟨7, _, ((q.sm s168.1).o 52 7 rfl), rfl, rfl⟩ (c_X7_apart G X.2.1 M168 (40 + b) (40 + a) (48 + b) (q.sm s168.1) s168.2.1 (v40 (hb h3)) (v40 i_a) (v48 (hb h3))) (rm_ok hRm hd (by decide) (by decide)) ⟨Nat.zero_le _, Nat.zero_le _⟩ (Nat.le_of_ble_eq_true rfl) (fun r_ N_ p_ => ?_)
        obtain ⟨rfl, rfl, t181⟩ := p_
        refine (?_ : ∀ (M184 : Mem), (SK wg M M184) → f_X7_asked M op a b z = f_X7_asked_c184 M184 → V G X 8 0 0 (Qx G X 0 0 (p_X7_asked M op a b z)) 184 [(0, .ref 52), (1, .int op), (2, .int a), (3, .int b), (4, .int z)] [] M184) _ (SK.tr s168 t181) E
        intro M184 s184 E
        refine V.pick [] rfl ?_
        exact hJ184 M184 s184 E
      · replace E := E.trans (if_neg h112)
        refine V.seg F floX7 cjoX7 [.aload_n 0, .bipush 40, .iload_n 2, .iadd, .bipush 40, .iload_n 3, .iadd, .bipush 26] (by decide +kernel) (pc2 := 126) (lv2 := [(0, .ref 52), (1, .int op), (2, .int a), (3, .int b), (4, .int z)]) (st2 := [.int 26, .int (40 + b), .int (40 + a), .ref 52]) (M2 := M) rfl ⟨trivial, trivial, trivial, trivial, trivial, trivial, trivial, trivial, trivial⟩ ?_
        refine V.callV (as := [.int (40 + a), .int (40 + b), .int 26]) (rest := []) F (by decide +kernel) lX7_240 bX7_meet ⟨7, _, (q.o 52 7 rfl), rfl, rfl⟩ (c_X7_meet G X.2.1 M (40 + a) (40 + b) 26 q gb (v40 i_a) (v40 (hb h3)) (vinc (by decide))) (rm_ok hRm hd (by decide) (by decide)) ⟨Nat.zero_le _, Nat.zero_le _⟩ (Nat.le_of_ble_eq_true rfl) (fun r_ N_ p_ => ?_)
        obtain ⟨rfl, rfl, t126⟩ := p_
        refine (?_ : ∀ (M129 : Mem), (SK wg M M129) → f_X7_asked M op a b z = f_X7_asked_c129 a b M129 → V G X 8 0 0 (Qx G X 0 0 (p_X7_asked M op a b z)) 129 [(0, .ref 52), (1, .int op), (2, .int a), (3, .int b), (4, .int z)] [] M129) _ t126 E
        intro M129 s129 E
        refine V.seg F floX7 cjoX7 [.aload_n 0, .bipush 48, .iload_n 2, .iadd, .bipush 26] (by decide +kernel) (pc2 := 136) (lv2 := [(0, .ref 52), (1, .int op), (2, .int a), (3, .int b), (4, .int z)]) (st2 := [.int 26, .int (48 + a), .ref 52]) (M2 := M129) rfl ⟨trivial, trivial, trivial, trivial, trivial, trivial⟩ ?_
        refine V.callV (as := [.int (48 + a), .int 26]) (rest := []) F (by decide +kernel) lX7_133 bX7_copy ⟨7, _, ((q.sm s129.1).o 52 7 rfl), rfl, rfl⟩ (c_X7_copy G X.2.1 M129 (48 + a) 26 (q.sm s129.1) s129.2.1 (v48 i_a) (vinc (by decide))) (rm_ok hRm hd (by decide) (by decide)) ⟨Nat.zero_le _, Nat.zero_le _⟩ (Nat.le_of_ble_eq_true rfl) (fun r_ N_ p_ => ?_)
        obtain ⟨rfl, rfl, t136⟩ := p_
        refine (?_ : ∀ (M139 : Mem), (SK wg M M139) → f_X7_asked M op a b z = f_X7_asked_c139 b M139 → V G X 8 0 0 (Qx G X 0 0 (p_X7_asked M op a b z)) 139 [(0, .ref 52), (1, .int op), (2, .int a), (3, .int b), (4, .int z)] [] M139) _ (SK.tr s129 t136) E
        intro M139 s139 E
        refine V.seg F floX7 cjoX7 [.aload_n 0, .bipush 48, .iload_n 3, .iadd, .bipush 26] (by decide +kernel) (pc2 := 146) (lv2 := [(0, .ref 52), (1, .int op), (2, .int a), (3, .int b), (4, .int z)]) (st2 := [.int 26, .int (48 + b), .ref 52]) (M2 := M139) rfl ⟨trivial, trivial, trivial, trivial, trivial, trivial⟩ ?_
        refine V.callV (as := [.int (48 + b), .int 26]) (rest := []) F (by decide +kernel) lX7_133 bX7_copy ⟨7, _, ((q.sm s139.1).o 52 7 rfl), rfl, rfl⟩ (c_X7_copy G X.2.1 M139 (48 + b) 26 (q.sm s139.1) s139.2.1 (v48 (hb h3)) (vinc (by decide))) (rm_ok hRm hd (by decide) (by decide)) ⟨Nat.zero_le _, Nat.zero_le _⟩ (Nat.le_of_ble_eq_true rfl) (fun r_ N_ p_ => ?_)
        obtain ⟨rfl, rfl, t146⟩ := p_
        refine (?_ : ∀ (M149 : Mem), (SK wg M M149) → f_X7_asked M op a b z = f_X7_asked_c149 M149 → V G X 8 0 0 (Qx G X 0 0 (p_X7_asked M op a b z)) 149 [(0, .ref 52), (1, .int op), (2, .int a), (3, .int b), (4, .int z)] [] M149) _ (SK.tr s139 t146) E
        intro M149 s149 E
        refine V.seg F floX7 cjoX7 [.goto 35] (by decide +kernel) (pc2 := 184) (lv2 := [(0, .ref 52), (1, .int op), (2, .int a), (3, .int b), (4, .int z)]) (st2 := []) (M2 := M149) rfl ⟨(by decide), trivial⟩ ?_
        refine V.pick [] rfl ?_
        exact hJ184 M149 s149 E
  · replace E := E.trans (if_pos h3)
    refine V.seg F floX7 cjoX7 [.lconst 1, .iload_n 3, .lshl, .lstore 5, .bipush 48, .iload_n 2, .iadd, .istore 7, .aload_n 0, .getfield 20, .iload 7, .laload, .lload 5, .land, .lconst 0, .lcmp] (by decide +kernel) (pc2 := 29) (lv2 := [(7, .int (48 + a)), (5, .long (jshl 1 b)), (0, .ref 52), (1, .int op), (2, .int a), (3, .int b), (4, .int z)]) (st2 := [.int (lg_cmp ((mL M 56 (ix (48 + a))) &&& (jshl 1 b)) 0)]) (M2 := M) rfl ⟨trivial, trivial, trivial, (by decide), trivial, trivial, trivial, (by decide), trivial, (q.f 52 7 3 rfl), trivial, (q.a 56 22 1648 rfl (v48 i_a)), trivial, trivial, trivial, trivial, trivial⟩ ?_
    have hJ64 : ∀ (M64 : Mem), (SK wg M M64) → f_X7_asked M op a b z = f_X7_asked_64 a b z M64 → V G X 8 0 0 (Qx G X 0 0 (p_X7_asked M op a b z)) 64 [(0, .ref 52), (4, .int z), (5, .long (jshl 1 b)), (7, .int (48 + a))] [] M64 := by
      intro M64 s64 E
      refine V.seg F floX7 cjoX7 [.aload_n 0, .getfield 20, .iload 7, .dup2, .laload, .lload 5, .lor, .lastore, .aload_n 0, .getfield 23, .iload 7, .dup2, .laload, .iload 4] (by decide +kernel) (pc2 := 86) (lv2 := [(0, .ref 52), (4, .int z), (5, .long (jshl 1 b)), (7, .int (48 + a))]) (st2 := [.int z, .long (mL (uL M64 56 (ix (48 + a)) ((mL M64 56 (ix (48 + a))) ||| (jshl 1 b))) 57 (ix (48 + a))), .int (48 + a), .ref 57]) (M2 := uL M64 56 (ix (48 + a)) ((mL M64 56 (ix (48 + a))) ||| (jshl 1 b))) rfl ⟨trivial, ((q.sm s64.1).f 52 7 3 rfl), trivial, trivial, ((q.sm s64.1).a 56 22 1648 rfl (v48 i_a)), trivial, trivial, ((q.sm s64.1).a 56 22 1648 rfl (v48 i_a)), trivial, ((q.sm (SK.pL s64 rfl (by decide)).1).f 52 7 4 rfl), trivial, trivial, ((q.sm (SK.pL s64 rfl (by decide)).1).a 57 22 1648 rfl (v48 i_a)), trivial, trivial⟩ ?_
      have hJ95 : ∀ (w0_95 : Int64) (M95 : Mem), (SK wg M M95) → f_X7_asked M op a b z = f_X7_asked_95 a b M64 w0_95 M95 → V G X 8 0 0 (Qx G X 0 0 (p_X7_asked M op a b z)) 95 [(0, .ref 52), (7, .int (48 + a))] [.long w0_95, .long (mL (uL M64 56 (ix (48 + a)) ((mL M64 56 (ix (48 + a))) ||| (jshl 1 b))) 57 (ix (48 + a))), .int (48 + a), .ref 57] M95 := by
        intro w0_95 M95 s95 E
        refine V.seg F floX7 cjoX7 [.lor, .lastore, .aload_n 0, .iload 7] (by decide +kernel) (pc2 := 100) (lv2 := [(0, .ref 52), (7, .int (48 + a))]) (st2 := [.int (48 + a), .ref 52]) (M2 := uL M95 57 (ix (48 + a)) ((mL (uL M64 56 (ix (48 + a)) ((mL M64 56 (ix (48 + a))) ||| (jshl 1 b))) 57 (ix (48 + a))) ||| w0_95)) rfl ⟨trivial, ((q.sm s95.1).a 57 22 1648 rfl (v48 i_a)), trivial, trivial, trivial⟩ ?_
        refine V.callV (as := [.int (48 + a)]) (rest := []) F (by decide +kernel) lX7_165 bX7_sharpen ⟨7, _, ((q.sm (SK.pL s95 rfl (by decide)).1).o 52 7 rfl), rfl, rfl⟩ (c_X7_sharpen G X.2.1 (uL M95 57 (ix (48 + a)) ((mL (uL M64 56 (ix (48 + a)) ((mL M64 56 (ix (48 + a))) ||| (jshl 1 b))) 57 (ix (48 + a))) ||| w0_95)) (48 + a) (q.sm (SK.pL s95 rfl (by decide)).1) (SK.pL s95 rfl (by decide)).2.1 (v48 i_a)) (rm_ok hRm hd (by decide) (by decide)) ⟨Nat.zero_le _, Nat.zero_le _⟩ (Nat.le_of_ble_eq_true rfl) (fun r_ N_ p_ => ?_)
        obtain ⟨rfl, rfl, t100⟩ := p_
        refine (?_ : ∀ (M103 : Mem), (SK wg M M103) → f_X7_asked M op a b z = f_X7_asked_c103 M103 → V G X 8 0 0 (Qx G X 0 0 (p_X7_asked M op a b z)) 103 [(0, .ref 52), (7, .int (48 + a))] [] M103) _ (SK.tr (SK.pL s95 rfl (by decide)) t100) E
        intro M103 s103 E
        exact V.vret F (by decide +kernel) ⟨rfl, E.symm, s103⟩
      refine V.if_eq (off := 8) F (by decide +kernel) (tgt := 94) (by decide) (fun h86 => ?_) (fun h86 => ?_)
      · replace E := E.trans (if_pos h86)
        refine V.seg F floX7 cjoX7 [.lconst 0] (by decide +kernel) (pc2 := 95) (lv2 := [(0, .ref 52), (4, .int z), (5, .long (jshl 1 b)), (7, .int (48 + a))]) (st2 := [.long 0, .long (mL (uL M64 56 (ix (48 + a)) ((mL M64 56 (ix (48 + a))) ||| (jshl 1 b))) 57 (ix (48 + a))), .int (48 + a), .ref 57]) (M2 := uL M64 56 (ix (48 + a)) ((mL M64 56 (ix (48 + a))) ||| (jshl 1 b))) rfl ⟨trivial, trivial⟩ ?_
        refine V.pick [0, 3] rfl ?_
        exact hJ95 0 (uL M64 56 (ix (48 + a)) ((mL M64 56 (ix (48 + a))) ||| (jshl 1 b))) (SK.pL s64 rfl (by decide)) E
      · replace E := E.trans (if_neg h86)
        refine V.seg F floX7 cjoX7 [.lload 5, .goto 4] (by decide +kernel) (pc2 := 95) (lv2 := [(0, .ref 52), (4, .int z), (5, .long (jshl 1 b)), (7, .int (48 + a))]) (st2 := [.long (jshl 1 b), .long (mL (uL M64 56 (ix (48 + a)) ((mL M64 56 (ix (48 + a))) ||| (jshl 1 b))) 57 (ix (48 + a))), .int (48 + a), .ref 57]) (M2 := uL M64 56 (ix (48 + a)) ((mL M64 56 (ix (48 + a))) ||| (jshl 1 b))) rfl ⟨trivial, (by decide), trivial⟩ ?_
        refine V.pick [0, 3] rfl ?_
        exact hJ95 (jshl 1 b) (uL M64 56 (ix (48 + a)) ((mL M64 56 (ix (48 + a))) ||| (jshl 1 b))) (SK.pL s64 rfl (by decide)) E
    refine V.lc_eq (off := 35) F (by decide +kernel) (tgt := 64) (by decide) (fun h29 => ?_) (fun h29 => ?_)
    · replace E := E.trans (if_pos h29)
      refine V.pick [2, 6, 1, 0] rfl ?_
      exact hJ64 M (SK.rf (w := wg) gb) E
    · replace E := E.trans (if_neg h29)
      refine V.seg F floX7 cjoX7 [.aload_n 0, .getfield 23, .iload 7, .laload, .lload 5, .land, .lconst 0, .lcmp] (by decide +kernel) (pc2 := 44) (lv2 := [(7, .int (48 + a)), (5, .long (jshl 1 b)), (0, .ref 52), (1, .int op), (2, .int a), (3, .int b), (4, .int z)]) (st2 := [.int (lg_cmp ((mL M 57 (ix (48 + a))) &&& (jshl 1 b)) 0)]) (M2 := M) rfl ⟨trivial, (q.f 52 7 4 rfl), trivial, (q.a 57 22 1648 rfl (v48 i_a)), trivial, trivial, trivial, trivial, trivial⟩ ?_
      have hJ52 : ∀ (w0_52 : Int32) (M52 : Mem), (SK wg M M52) → f_X7_asked M op a b z = f_X7_asked_52 a b z w0_52 M52 → V G X 8 0 0 (Qx G X 0 0 (p_X7_asked M op a b z)) 52 [(0, .ref 52), (4, .int z), (5, .long (jshl 1 b)), (7, .int (48 + a))] [.int w0_52] M52 := by
        intro w0_52 M52 s52 E
        refine V.seg F floX7 cjoX7 [.iload 4] (by decide +kernel) (pc2 := 54) (lv2 := [(0, .ref 52), (4, .int z), (5, .long (jshl 1 b)), (7, .int (48 + a))]) (st2 := [.int z, .int w0_52]) (M2 := M52) rfl ⟨trivial, trivial⟩ ?_
        refine V.ic_eq (off := 10) F (by decide +kernel) (tgt := 64) (by decide) (fun h54 => ?_) (fun h54 => ?_)
        · replace E := E.trans (if_pos h54)
          refine V.pick [0, 1, 2, 3] rfl ?_
          exact hJ64 M52 s52 E
        · replace E := E.trans (if_neg h54)
          refine V.seg F floX7 cjoX7 [.aload_n 0, .iload 7] (by decide +kernel) (pc2 := 60) (lv2 := [(0, .ref 52), (4, .int z), (5, .long (jshl 1 b)), (7, .int (48 + a))]) (st2 := [.int (48 + a), .ref 52]) (M2 := M52) rfl ⟨trivial, trivial, trivial⟩ ?_
          refine V.callV (as := [.int (48 + a)]) (rest := []) F (by decide +kernel) lX7_115 bX7_nothing ⟨7, _, ((q.sm s52.1).o 52 7 rfl), rfl, rfl⟩ (c_X7_nothing G X.2.1 M52 (48 + a) (q.sm s52.1) s52.2.1 (v48 i_a)) (rm_ok hRm hd (by decide) (by decide)) ⟨Nat.zero_le _, Nat.zero_le _⟩ (Nat.le_of_ble_eq_true rfl) (fun r_ N_ p_ => ?_)
          obtain ⟨rfl, rfl, t60⟩ := p_
          refine (?_ : ∀ (M63 : Mem), (SK wg M M63) → f_X7_asked M op a b z = f_X7_asked_c63 M63 → V G X 8 0 0 (Qx G X 0 0 (p_X7_asked M op a b z)) 63 [(0, .ref 52), (4, .int z), (5, .long (jshl 1 b)), (7, .int (48 + a))] [] M63) _ (SK.tr s52 t60) E
          intro M63 s63 E
          exact V.vret F (by decide +kernel) ⟨rfl, E.symm, s63⟩
      refine V.lc_eq (off := 7) F (by decide +kernel) (tgt := 51) (by decide) (fun h44 => ?_) (fun h44 => ?_)
      · replace E := E.trans (if_pos h44)
        refine V.seg F floX7 cjoX7 [.iconst 0] (by decide +kernel) (pc2 := 52) (lv2 := [(7, .int (48 + a)), (5, .long (jshl 1 b)), (0, .ref 52), (1, .int op), (2, .int a), (3, .int b), (4, .int z)]) (st2 := [.int 0]) (M2 := M) rfl ⟨trivial, trivial⟩ ?_
        refine V.pick [2, 6, 1, 0] rfl ?_
        exact hJ52 0 M (SK.rf (w := wg) gb) E
      · replace E := E.trans (if_neg h44)
        refine V.seg F floX7 cjoX7 [.iconst 1, .goto 4] (by decide +kernel) (pc2 := 52) (lv2 := [(7, .int (48 + a)), (5, .long (jshl 1 b)), (0, .ref 52), (1, .int op), (2, .int a), (3, .int b), (4, .int z)]) (st2 := [.int 1]) (M2 := M) rfl ⟨trivial, (by decide), trivial⟩ ?_
        refine V.pick [2, 6, 1, 0] rfl ?_
        exact hJ52 1 M (SK.rf (w := wg) gb) E
/-- the sizes of tables, of methods: counts from 0 on -/
def cn (x : Int32) (N : Nat) : Prop := x = nI (ix x) ∧ ix x ≤ N
