/-- what stays over the reference's finding: beside the facts it writes isFound, reached, made, waits, lesser, greater -/
def wh (a k : Nat) : Bool := wg a k || (decide (66 ≤ a) && decide (a ≤ 71))
theorem sub_wg_wh : ∀ a k, wg a k = true → wh a k = true := fun a k h => by unfold wh; rw [h]; rfl
def f_X7_widen_221  (M221 : Mem) : Mem := M221
def f_X7_widen_c221  (M221 : Mem) : Mem := f_X7_widen_221 M221
def f_X7_widen_216 (f : Int32) (M216 : Mem) : Mem := f_X7_widen_c221 (f_X7_sharpen M216 f)
def f_X7_widen_205 (f : Int32) (w0_106 : Int32) (w0_128 : Int32) (w0_205 : Int64) (M205 : Mem) : Mem := if w0_106 = 0 then if w0_128 = 0 then f_X7_widen_221 (uL M205 55 (ix f) w0_205) else f_X7_widen_216 f (uL M205 55 (ix f) w0_205) else f_X7_widen_216 f (uL M205 55 (ix f) w0_205)
def f_X7_widen_182 (f : Int32) (w0_106 : Int32) (w0_128 : Int32) (w0_182 : Int64) (M182 : Mem) : Mem := if w0_128 = 0 then f_X7_widen_205 f w0_106 w0_128 (mL (uL M182 54 (ix f) w0_182) 55 (ix f)) (uL M182 54 (ix f) w0_182) else f_X7_widen_205 f w0_106 w0_128 9223372036854775807 (uL M182 54 (ix f) w0_182)
def f_X7_widen_157 (m : Int32) (f : Int32) (w0_106 : Int32) (w0_128 : Int32) (M128 : Mem) (w0_147 : Int32) (w0_157 : Int32) (M157 : Mem) : Mem := if w0_106 = 0 then f_X7_widen_182 f w0_106 w0_128 (mL (uI M157 68 (ix m) ((mI M128 68 (ix m)) + (w0_147 + w0_157))) 54 (ix f)) (uI M157 68 (ix m) ((mI M128 68 (ix m)) + (w0_147 + w0_157))) else f_X7_widen_182 f w0_106 w0_128 ((-9223372036854775808)) (uI M157 68 (ix m) ((mI M128 68 (ix m)) + (w0_147 + w0_157)))
def f_X7_widen_147 (m : Int32) (f : Int32) (w0_106 : Int32) (w0_128 : Int32) (M128 : Mem) (w0_147 : Int32) (M147 : Mem) : Mem := if w0_128 = 0 then f_X7_widen_157 m f w0_106 w0_128 M128 w0_147 0 M147 else f_X7_widen_157 m f w0_106 w0_128 M128 w0_147 1 M147
def f_X7_widen_128 (m : Int32) (f : Int32) (w0_106 : Int32) (w0_128 : Int32) (M128 : Mem) : Mem := if w0_106 = 0 then f_X7_widen_147 m f w0_106 w0_128 M128 0 M128 else f_X7_widen_147 m f w0_106 w0_128 M128 1 M128
def f_X7_widen_127 (m : Int32) (f : Int32) (w0_106 : Int32) (M127 : Mem) : Mem := f_X7_widen_128 m f w0_106 0 M127
def f_X7_widen_106 (m : Int32) (k : Int32) (f : Int32) (w0_46 : Int32) (w0_106 : Int32) (M106 : Mem) : Mem := if w0_46 = 0 then f_X7_widen_127 m f w0_106 M106 else if (mI M106 71 (ix k)) ≤ 3 then f_X7_widen_127 m f w0_106 M106 else f_X7_widen_128 m f w0_106 1 M106
def f_X7_widen_105 (m : Int32) (k : Int32) (f : Int32) (w0_46 : Int32) (M105 : Mem) : Mem := f_X7_widen_106 m k f w0_46 0 M105
def f_X7_widen_84 (m : Int32) (k : Int32) (f : Int32) (w0_22 : Int32) (w0_46 : Int32) (M46 : Mem) (w0_65 : Int32) (M65 : Mem) (w0_84 : Int32) (M84 : Mem) : Mem := if w0_22 = 0 then f_X7_widen_105 m k f w0_46 (uI M84 71 (ix k) ((mI (uI M65 70 (ix k) ((mI M46 70 (ix k)) + w0_65)) 71 (ix k)) + w0_84)) else if (mI (uI M84 71 (ix k) ((mI (uI M65 70 (ix k) ((mI M46 70 (ix k)) + w0_65)) 71 (ix k)) + w0_84)) 70 (ix k)) ≤ 3 then f_X7_widen_105 m k f w0_46 (uI M84 71 (ix k) ((mI (uI M65 70 (ix k) ((mI M46 70 (ix k)) + w0_65)) 71 (ix k)) + w0_84)) else f_X7_widen_106 m k f w0_46 1 (uI M84 71 (ix k) ((mI (uI M65 70 (ix k) ((mI M46 70 (ix k)) + w0_65)) 71 (ix k)) + w0_84))
def f_X7_widen_65 (m : Int32) (k : Int32) (f : Int32) (w0_22 : Int32) (w0_46 : Int32) (M46 : Mem) (w0_65 : Int32) (M65 : Mem) : Mem := if w0_46 = 0 then f_X7_widen_84 m k f w0_22 w0_46 M46 w0_65 M65 0 (uI M65 70 (ix k) ((mI M46 70 (ix k)) + w0_65)) else f_X7_widen_84 m k f w0_22 w0_46 M46 w0_65 M65 1 (uI M65 70 (ix k) ((mI M46 70 (ix k)) + w0_65))
def f_X7_widen_46 (m : Int32) (k : Int32) (f : Int32) (w0_22 : Int32) (w0_46 : Int32) (M46 : Mem) : Mem := if w0_22 = 0 then f_X7_widen_65 m k f w0_22 w0_46 M46 0 M46 else f_X7_widen_65 m k f w0_22 w0_46 M46 1 M46
def f_X7_widen_22 (m : Int32) (k : Int32) (f : Int32) (w0_22 : Int32) (M22 : Mem) : Mem := if (mL M22 55 (ix f)) ≤ (mL M22 55 (ix 25)) then f_X7_widen_46 m k f w0_22 0 M22 else f_X7_widen_46 m k f w0_22 1 M22
def f_X7_widen (M : Mem) (m : Int32) (k : Int32) (f : Int32) : Mem := if (mL M 54 (ix 25)) ≤ (mL M 54 (ix f)) then f_X7_widen_22 m k f 0 M else f_X7_widen_22 m k f 1 M
abbrev p_X7_widen (M : Mem) (m : Int32) (k : Int32) (f : Int32) : Option Value → Mem → Prop := fun r N => r = none ∧ N = f_X7_widen M m k f ∧ SK wh M N
set_option maxRecDepth 100000 in
set_option maxHeartbeats 4000000 in
theorem c_X7_widen (G : Ctx) (l : Launch) (M : Mem) (m : Int32) (k : Int32) (f : Int32) (q : Ok M) (gb : Gb M) (i_f : vp_in f 1648) (i_k : vp_in k 256) (i_m : vp_in m 6) : CT G l 4 mX7_widen [.ref 52, .int m, .int k, .int f] M 0 0 (p_X7_widen M m k f) := by
  refine CT.of (by decide) (Nat.le_of_ble_eq_true rfl) ?_
  intro X d hd hl hRm hnm F
  subst hl
  have E : f_X7_widen M m k f = f_X7_widen M m k f := rfl
  show V G X 8 0 0 (Qx G X 0 0 (p_X7_widen M m k f)) 0 [(0, .ref 52), (1, .int m), (2, .int k), (3, .int f)] [] M
  refine V.seg F floX7 cjoX7 [.aload_n 0, .getfield 13, .iload_n 3, .laload, .aload_n 0, .getfield 13, .bipush 25, .laload, .lcmp] (by decide +kernel) (pc2 := 14) (lv2 := [(0, .ref 52), (1, .int m), (2, .int k), (3, .int f)]) (st2 := [.int (lg_cmp (mL M 54 (ix f)) (mL M 54 (ix 25)))]) (M2 := M) rfl ⟨trivial, (q.f 52 7 1 rfl), trivial, (q.a 54 22 1648 rfl (by first | assumption | exact vinc (by decide))), trivial, (q.f 52 7 1 rfl), trivial, (q.a 54 22 1648 rfl (vinc (by decide))), trivial, trivial⟩ ?_
  have hJ22 : ∀ (w0_22 : Int32) (M22 : Mem), (SK wh M M22) → f_X7_widen M m k f = f_X7_widen_22 m k f w0_22 M22 → V G X 8 0 0 (Qx G X 0 0 (p_X7_widen M m k f)) 22 [(0, .ref 52), (1, .int m), (2, .int k), (3, .int f)] [.int w0_22] M22 := by
    intro w0_22 M22 s22 E
    refine V.seg F floX7 cjoX7 [.istore 4, .aload_n 0, .getfield 17, .iload_n 3, .laload, .aload_n 0, .getfield 17, .bipush 25, .laload, .lcmp] (by decide +kernel) (pc2 := 38) (lv2 := [(4, .int w0_22), (0, .ref 52), (1, .int m), (2, .int k), (3, .int f)]) (st2 := [.int (lg_cmp (mL M22 55 (ix f)) (mL M22 55 (ix 25)))]) (M2 := M22) rfl ⟨(by decide), trivial, ((q.sm s22.1).f 52 7 2 rfl), trivial, ((q.sm s22.1).a 55 22 1648 rfl (by first | assumption | exact vinc (by decide))), trivial, ((q.sm s22.1).f 52 7 2 rfl), trivial, ((q.sm s22.1).a 55 22 1648 rfl (vinc (by decide))), trivial, trivial⟩ ?_
    have hJ46 : ∀ (w0_46 : Int32) (M46 : Mem), (SK wh M M46) → f_X7_widen M m k f = f_X7_widen_46 m k f w0_22 w0_46 M46 → V G X 8 0 0 (Qx G X 0 0 (p_X7_widen M m k f)) 46 [(0, .ref 52), (1, .int m), (2, .int k), (3, .int f), (4, .int w0_22)] [.int w0_46] M46 := by
      intro w0_46 M46 s46 E
      refine V.seg F floX7 cjoX7 [.istore 5, .aload_n 0, .getfield 63, .iload_n 2, .dup2, .iaload, .iload 4] (by decide +kernel) (pc2 := 57) (lv2 := [(5, .int w0_46), (0, .ref 52), (1, .int m), (2, .int k), (3, .int f), (4, .int w0_22)]) (st2 := [.int w0_22, .int (mI M46 70 (ix k)), .int k, .ref 70]) (M2 := M46) rfl ⟨(by decide), trivial, ((q.sm s46.1).f 52 7 20 rfl), trivial, trivial, ((q.sm s46.1).a 70 20 256 rfl (by first | assumption | exact vinc (by decide))), trivial, trivial⟩ ?_
      have hJ65 : ∀ (w0_65 : Int32) (M65 : Mem), (SK wh M M65) → f_X7_widen M m k f = f_X7_widen_65 m k f w0_22 w0_46 M46 w0_65 M65 → V G X 8 0 0 (Qx G X 0 0 (p_X7_widen M m k f)) 65 [(0, .ref 52), (1, .int m), (2, .int k), (3, .int f), (4, .int w0_22), (5, .int w0_46)] [.int w0_65, .int (mI M46 70 (ix k)), .int k, .ref 70] M65 := by
        intro w0_65 M65 s65 E
        refine V.seg F floX7 cjoX7 [.iadd, .iastore, .aload_n 0, .getfield 66, .iload_n 2, .dup2, .iaload, .iload 5] (by decide +kernel) (pc2 := 76) (lv2 := [(0, .ref 52), (1, .int m), (2, .int k), (3, .int f), (4, .int w0_22), (5, .int w0_46)]) (st2 := [.int w0_46, .int (mI (uI M65 70 (ix k) ((mI M46 70 (ix k)) + w0_65)) 71 (ix k)), .int k, .ref 71]) (M2 := uI M65 70 (ix k) ((mI M46 70 (ix k)) + w0_65)) rfl ⟨trivial, ((q.sm s65.1).a 70 20 256 rfl (by first | assumption | exact vinc (by decide))), trivial, ((q.sm (SK.pI s65 rfl).1).f 52 7 21 rfl), trivial, trivial, ((q.sm (SK.pI s65 rfl).1).a 71 20 256 rfl (by first | assumption | exact vinc (by decide))), trivial, trivial⟩ ?_
        have hJ84 : ∀ (w0_84 : Int32) (M84 : Mem), (SK wh M M84) → f_X7_widen M m k f = f_X7_widen_84 m k f w0_22 w0_46 M46 w0_65 M65 w0_84 M84 → V G X 8 0 0 (Qx G X 0 0 (p_X7_widen M m k f)) 84 [(0, .ref 52), (1, .int m), (2, .int k), (3, .int f), (4, .int w0_22), (5, .int w0_46)] [.int w0_84, .int (mI (uI M65 70 (ix k) ((mI M46 70 (ix k)) + w0_65)) 71 (ix k)), .int k, .ref 71] M84 := by
          intro w0_84 M84 s84 E
          refine V.seg F floX7 cjoX7 [.iadd, .iastore, .iload 4] (by decide +kernel) (pc2 := 88) (lv2 := [(0, .ref 52), (1, .int m), (2, .int k), (3, .int f), (4, .int w0_22), (5, .int w0_46)]) (st2 := [.int w0_22]) (M2 := uI M84 71 (ix k) ((mI (uI M65 70 (ix k) ((mI M46 70 (ix k)) + w0_65)) 71 (ix k)) + w0_84)) rfl ⟨trivial, ((q.sm s84.1).a 71 20 256 rfl (by first | assumption | exact vinc (by decide))), trivial, trivial⟩ ?_
          have hJ106 : ∀ (w0_106 : Int32) (M106 : Mem), (SK wh M M106) → f_X7_widen M m k f = f_X7_widen_106 m k f w0_46 w0_106 M106 → V G X 8 0 0 (Qx G X 0 0 (p_X7_widen M m k f)) 106 [(0, .ref 52), (1, .int m), (2, .int k), (3, .int f), (5, .int w0_46)] [.int w0_106] M106 := by
            intro w0_106 M106 s106 E
            refine V.seg F floX7 cjoX7 [.istore 6, .iload 5] (by decide +kernel) (pc2 := 110) (lv2 := [(6, .int w0_106), (0, .ref 52), (1, .int m), (2, .int k), (3, .int f), (5, .int w0_46)]) (st2 := [.int w0_46]) (M2 := M106) rfl ⟨(by decide), trivial, trivial⟩ ?_
            have hJ128 : ∀ (w0_128 : Int32) (M128 : Mem), (SK wh M M128) → f_X7_widen M m k f = f_X7_widen_128 m f w0_106 w0_128 M128 → V G X 8 0 0 (Qx G X 0 0 (p_X7_widen M m k f)) 128 [(0, .ref 52), (1, .int m), (3, .int f), (6, .int w0_106)] [.int w0_128] M128 := by
              intro w0_128 M128 s128 E
              refine V.seg F floX7 cjoX7 [.istore 7, .aload_n 0, .getfield 57, .iload_n 1, .dup2, .iaload, .iload 6] (by decide +kernel) (pc2 := 139) (lv2 := [(7, .int w0_128), (0, .ref 52), (1, .int m), (3, .int f), (6, .int w0_106)]) (st2 := [.int w0_106, .int (mI M128 68 (ix m)), .int m, .ref 68]) (M2 := M128) rfl ⟨(by decide), trivial, ((q.sm s128.1).f 52 7 18 rfl), trivial, trivial, ((q.sm s128.1).a 68 20 6 rfl (by first | assumption | exact vinc (by decide))), trivial, trivial⟩ ?_
              have hJ147 : ∀ (w0_147 : Int32) (M147 : Mem), (SK wh M M147) → f_X7_widen M m k f = f_X7_widen_147 m f w0_106 w0_128 M128 w0_147 M147 → V G X 8 0 0 (Qx G X 0 0 (p_X7_widen M m k f)) 147 [(0, .ref 52), (3, .int f), (6, .int w0_106), (7, .int w0_128)] [.int w0_147, .int (mI M128 68 (ix m)), .int m, .ref 68] M147 := by
                intro w0_147 M147 s147 E
                refine V.seg F floX7 cjoX7 [.iload 7] (by decide +kernel) (pc2 := 149) (lv2 := [(0, .ref 52), (3, .int f), (6, .int w0_106), (7, .int w0_128)]) (st2 := [.int w0_128, .int w0_147, .int (mI M128 68 (ix m)), .int m, .ref 68]) (M2 := M147) rfl ⟨trivial, trivial⟩ ?_
                have hJ157 : ∀ (w0_157 : Int32) (M157 : Mem), (SK wh M M157) → f_X7_widen M m k f = f_X7_widen_157 m f w0_106 w0_128 M128 w0_147 w0_157 M157 → V G X 8 0 0 (Qx G X 0 0 (p_X7_widen M m k f)) 157 [(0, .ref 52), (3, .int f), (6, .int w0_106), (7, .int w0_128)] [.int w0_157, .int w0_147, .int (mI M128 68 (ix m)), .int m, .ref 68] M157 := by
                  intro w0_157 M157 s157 E
                  refine V.seg F floX7 cjoX7 [.iadd, .iadd, .iastore, .aload_n 0, .getfield 13, .iload_n 3, .iload 6] (by decide +kernel) (pc2 := 167) (lv2 := [(0, .ref 52), (3, .int f), (6, .int w0_106), (7, .int w0_128)]) (st2 := [.int w0_106, .int f, .ref 54]) (M2 := uI M157 68 (ix m) ((mI M128 68 (ix m)) + (w0_147 + w0_157))) rfl ⟨trivial, trivial, ((q.sm s157.1).a 68 20 6 rfl (by first | assumption | exact vinc (by decide))), trivial, ((q.sm (SK.pI s157 rfl).1).f 52 7 1 rfl), trivial, trivial, trivial⟩ ?_
                  have hJ182 : ∀ (w0_182 : Int64) (M182 : Mem), (SK wh M M182) → f_X7_widen M m k f = f_X7_widen_182 f w0_106 w0_128 w0_182 M182 → V G X 8 0 0 (Qx G X 0 0 (p_X7_widen M m k f)) 182 [(0, .ref 52), (3, .int f), (6, .int w0_106), (7, .int w0_128)] [.long w0_182, .int f, .ref 54] M182 := by
                    intro w0_182 M182 s182 E
                    refine V.seg F floX7 cjoX7 [.lastore, .aload_n 0, .getfield 17, .iload_n 3, .iload 7] (by decide +kernel) (pc2 := 190) (lv2 := [(0, .ref 52), (3, .int f), (6, .int w0_106), (7, .int w0_128)]) (st2 := [.int w0_128, .int f, .ref 55]) (M2 := uL M182 54 (ix f) w0_182) rfl ⟨((q.sm s182.1).a 54 22 1648 rfl (by first | assumption | exact vinc (by decide))), trivial, ((q.sm (SK.pL s182 rfl (by decide)).1).f 52 7 2 rfl), trivial, trivial, trivial⟩ ?_
                    have hJ205 : ∀ (w0_205 : Int64) (M205 : Mem), (SK wh M M205) → f_X7_widen M m k f = f_X7_widen_205 f w0_106 w0_128 w0_205 M205 → V G X 8 0 0 (Qx G X 0 0 (p_X7_widen M m k f)) 205 [(0, .ref 52), (3, .int f), (6, .int w0_106), (7, .int w0_128)] [.long w0_205, .int f, .ref 55] M205 := by
                      intro w0_205 M205 s205 E
                      refine V.seg F floX7 cjoX7 [.lastore, .iload 6] (by decide +kernel) (pc2 := 208) (lv2 := [(0, .ref 52), (3, .int f), (6, .int w0_106), (7, .int w0_128)]) (st2 := [.int w0_106]) (M2 := uL M205 55 (ix f) w0_205) rfl ⟨((q.sm s205.1).a 55 22 1648 rfl (by first | assumption | exact vinc (by decide))), trivial, trivial⟩ ?_
                      have hJ221 : ∀ (M221 : Mem), (SK wh M M221) → f_X7_widen M m k f = f_X7_widen_221 M221 → V G X 8 0 0 (Qx G X 0 0 (p_X7_widen M m k f)) 221 [] [] M221 := by
                        intro M221 s221 E
                        exact V.vret F (by decide +kernel) ⟨rfl, E.symm, s221⟩
                      have hJ216 : ∀ (M216 : Mem), (SK wh M M216) → f_X7_widen M m k f = f_X7_widen_216 f M216 → V G X 8 0 0 (Qx G X 0 0 (p_X7_widen M m k f)) 216 [(0, .ref 52), (3, .int f)] [] M216 := by
                        intro M216 s216 E
                        refine V.seg F floX7 cjoX7 [.aload_n 0, .iload_n 3] (by decide +kernel) (pc2 := 218) (lv2 := [(0, .ref 52), (3, .int f)]) (st2 := [.int f, .ref 52]) (M2 := M216) rfl ⟨trivial, trivial, trivial⟩ ?_
                        refine V.callV (as := [.int f]) (rest := []) F (by decide +kernel) lX7_165 bX7_sharpen ⟨7, _, ((q.sm s216.1).o 52 7 rfl), rfl, rfl⟩ (c_X7_sharpen G X.2.1 M216 f (q.sm s216.1) s216.2.1 (by first | assumption | exact vinc (by decide))) (rm_ok hRm hd (by decide) (by decide)) ⟨Nat.zero_le _, Nat.zero_le _⟩ (Nat.le_of_ble_eq_true rfl) (fun r_ N_ p_ => ?_)
                        obtain ⟨rfl, rfl, t218⟩ := p_
                        refine (?_ : ∀ (M221 : Mem), (SK wh M M221) → f_X7_widen M m k f = f_X7_widen_c221 M221 → V G X 8 0 0 (Qx G X 0 0 (p_X7_widen M m k f)) 221 [(0, .ref 52), (3, .int f)] [] M221) _ (SK.tr s216 (t218.mono sub_wg_wh)) E
                        intro M221 s221 E
                        refine V.pick [] rfl ?_
                        exact hJ221 M221 s221 E
                      refine V.if_ne (off := 8) F (by decide +kernel) (tgt := 216) (by decide) (fun h208 => ?_) (fun h208 => ?_)
                      · replace E := E.trans (if_neg h208)
                        refine V.pick [0, 1] rfl ?_
                        exact hJ216 (uL M205 55 (ix f) w0_205) (SK.pL s205 rfl (by decide)) E
                      · replace E := E.trans (if_pos h208)
                        refine V.seg F floX7 cjoX7 [.iload 7] (by decide +kernel) (pc2 := 213) (lv2 := [(0, .ref 52), (3, .int f), (6, .int w0_106), (7, .int w0_128)]) (st2 := [.int w0_128]) (M2 := uL M205 55 (ix f) w0_205) rfl ⟨trivial, trivial⟩ ?_
                        refine V.if_eq (off := 8) F (by decide +kernel) (tgt := 221) (by decide) (fun h213 => ?_) (fun h213 => ?_)
                        · replace E := E.trans (if_pos h213)
                          refine V.pick [] rfl ?_
                          exact hJ221 (uL M205 55 (ix f) w0_205) (SK.pL s205 rfl (by decide)) E
                        · replace E := E.trans (if_neg h213)
                          refine V.pick [0, 1] rfl ?_
                          exact hJ216 (uL M205 55 (ix f) w0_205) (SK.pL s205 rfl (by decide)) E
                    refine V.if_eq (off := 9) F (by decide +kernel) (tgt := 199) (by decide) (fun h190 => ?_) (fun h190 => ?_)
                    · replace E := E.trans (if_pos h190)
                      refine V.seg F floX7 cjoX7 [.aload_n 0, .getfield 17, .iload_n 3, .laload] (by decide +kernel) (pc2 := 205) (lv2 := [(0, .ref 52), (3, .int f), (6, .int w0_106), (7, .int w0_128)]) (st2 := [.long (mL (uL M182 54 (ix f) w0_182) 55 (ix f)), .int f, .ref 55]) (M2 := uL M182 54 (ix f) w0_182) rfl ⟨trivial, ((q.sm (SK.pL s182 rfl (by decide)).1).f 52 7 2 rfl), trivial, ((q.sm (SK.pL s182 rfl (by decide)).1).a 55 22 1648 rfl (by first | assumption | exact vinc (by decide))), trivial⟩ ?_
                      refine V.pick [0, 1, 2, 3] rfl ?_
                      exact hJ205 (mL (uL M182 54 (ix f) w0_182) 55 (ix f)) (uL M182 54 (ix f) w0_182) (SK.pL s182 rfl (by decide)) E
                    · replace E := E.trans (if_neg h190)
                      refine V.seg F floX7 cjoX7 [.ldc2_w 85, .goto 9] (by decide +kernel) (pc2 := 205) (lv2 := [(0, .ref 52), (3, .int f), (6, .int w0_106), (7, .int w0_128)]) (st2 := [.long 9223372036854775807, .int f, .ref 55]) (M2 := uL M182 54 (ix f) w0_182) rfl ⟨trivial, (by decide), trivial⟩ ?_
                      refine V.pick [0, 1, 2, 3] rfl ?_
                      exact hJ205 9223372036854775807 (uL M182 54 (ix f) w0_182) (SK.pL s182 rfl (by decide)) E
                  refine V.if_eq (off := 9) F (by decide +kernel) (tgt := 176) (by decide) (fun h167 => ?_) (fun h167 => ?_)
                  · replace E := E.trans (if_pos h167)
                    refine V.seg F floX7 cjoX7 [.aload_n 0, .getfield 13, .iload_n 3, .laload] (by decide +kernel) (pc2 := 182) (lv2 := [(0, .ref 52), (3, .int f), (6, .int w0_106), (7, .int w0_128)]) (st2 := [.long (mL (uI M157 68 (ix m) ((mI M128 68 (ix m)) + (w0_147 + w0_157))) 54 (ix f)), .int f, .ref 54]) (M2 := uI M157 68 (ix m) ((mI M128 68 (ix m)) + (w0_147 + w0_157))) rfl ⟨trivial, ((q.sm (SK.pI s157 rfl).1).f 52 7 1 rfl), trivial, ((q.sm (SK.pI s157 rfl).1).a 54 22 1648 rfl (by first | assumption | exact vinc (by decide))), trivial⟩ ?_
                    refine V.pick [0, 1, 2, 3] rfl ?_
                    exact hJ182 (mL (uI M157 68 (ix m) ((mI M128 68 (ix m)) + (w0_147 + w0_157))) 54 (ix f)) (uI M157 68 (ix m) ((mI M128 68 (ix m)) + (w0_147 + w0_157))) (SK.pI s157 rfl) E
                  · replace E := E.trans (if_neg h167)
                    refine V.seg F floX7 cjoX7 [.ldc2_w 83, .goto 9] (by decide +kernel) (pc2 := 182) (lv2 := [(0, .ref 52), (3, .int f), (6, .int w0_106), (7, .int w0_128)]) (st2 := [.long ((-9223372036854775808)), .int f, .ref 54]) (M2 := uI M157 68 (ix m) ((mI M128 68 (ix m)) + (w0_147 + w0_157))) rfl ⟨trivial, (by decide), trivial⟩ ?_
                    refine V.pick [0, 1, 2, 3] rfl ?_
                    exact hJ182 ((-9223372036854775808)) (uI M157 68 (ix m) ((mI M128 68 (ix m)) + (w0_147 + w0_157))) (SK.pI s157 rfl) E
                refine V.if_eq (off := 7) F (by decide +kernel) (tgt := 156) (by decide) (fun h149 => ?_) (fun h149 => ?_)
                · replace E := E.trans (if_pos h149)
                  refine V.seg F floX7 cjoX7 [.iconst 0] (by decide +kernel) (pc2 := 157) (lv2 := [(0, .ref 52), (3, .int f), (6, .int w0_106), (7, .int w0_128)]) (st2 := [.int 0, .int w0_147, .int (mI M128 68 (ix m)), .int m, .ref 68]) (M2 := M147) rfl ⟨trivial, trivial⟩ ?_
                  refine V.pick [0, 1, 2, 3] rfl ?_
                  exact hJ157 0 M147 s147 E
                · replace E := E.trans (if_neg h149)
                  refine V.seg F floX7 cjoX7 [.iconst 1, .goto 4] (by decide +kernel) (pc2 := 157) (lv2 := [(0, .ref 52), (3, .int f), (6, .int w0_106), (7, .int w0_128)]) (st2 := [.int 1, .int w0_147, .int (mI M128 68 (ix m)), .int m, .ref 68]) (M2 := M147) rfl ⟨trivial, (by decide), trivial⟩ ?_
                  refine V.pick [0, 1, 2, 3] rfl ?_
                  exact hJ157 1 M147 s147 E
              refine V.if_eq (off := 7) F (by decide +kernel) (tgt := 146) (by decide) (fun h139 => ?_) (fun h139 => ?_)
              · replace E := E.trans (if_pos h139)
                refine V.seg F floX7 cjoX7 [.iconst 0] (by decide +kernel) (pc2 := 147) (lv2 := [(7, .int w0_128), (0, .ref 52), (1, .int m), (3, .int f), (6, .int w0_106)]) (st2 := [.int 0, .int (mI M128 68 (ix m)), .int m, .ref 68]) (M2 := M128) rfl ⟨trivial, trivial⟩ ?_
                refine V.pick [1, 3, 4, 0] rfl ?_
                exact hJ147 0 M128 s128 E
              · replace E := E.trans (if_neg h139)
                refine V.seg F floX7 cjoX7 [.iconst 1, .goto 4] (by decide +kernel) (pc2 := 147) (lv2 := [(7, .int w0_128), (0, .ref 52), (1, .int m), (3, .int f), (6, .int w0_106)]) (st2 := [.int 1, .int (mI M128 68 (ix m)), .int m, .ref 68]) (M2 := M128) rfl ⟨trivial, (by decide), trivial⟩ ?_
                refine V.pick [1, 3, 4, 0] rfl ?_
                exact hJ147 1 M128 s128 E
            have hJ127 : ∀ (M127 : Mem), (SK wh M M127) → f_X7_widen M m k f = f_X7_widen_127 m f w0_106 M127 → V G X 8 0 0 (Qx G X 0 0 (p_X7_widen M m k f)) 127 [(0, .ref 52), (1, .int m), (3, .int f), (6, .int w0_106)] [] M127 := by
              intro M127 s127 E
              refine V.seg F floX7 cjoX7 [.iconst 0] (by decide +kernel) (pc2 := 128) (lv2 := [(0, .ref 52), (1, .int m), (3, .int f), (6, .int w0_106)]) (st2 := [.int 0]) (M2 := M127) rfl ⟨trivial, trivial⟩ ?_
              refine V.pick [0, 1, 2, 3] rfl ?_
              exact hJ128 0 M127 s127 E
            refine V.if_eq (off := 17) F (by decide +kernel) (tgt := 127) (by decide) (fun h110 => ?_) (fun h110 => ?_)
            · replace E := E.trans (if_pos h110)
              refine V.pick [1, 2, 4, 0] rfl ?_
              exact hJ127 M106 s106 E
            · replace E := E.trans (if_neg h110)
              refine V.seg F floX7 cjoX7 [.aload_n 0, .getfield 66, .iload_n 2, .iaload, .iconst 3] (by decide +kernel) (pc2 := 120) (lv2 := [(6, .int w0_106), (0, .ref 52), (1, .int m), (2, .int k), (3, .int f), (5, .int w0_46)]) (st2 := [.int 3, .int (mI M106 71 (ix k))]) (M2 := M106) rfl ⟨trivial, ((q.sm s106.1).f 52 7 21 rfl), trivial, ((q.sm s106.1).a 71 20 256 rfl (by first | assumption | exact vinc (by decide))), trivial, trivial⟩ ?_
              refine V.ic_le (off := 7) F (by decide +kernel) (tgt := 127) (by decide) (fun h120 => ?_) (fun h120 => ?_)
              · replace E := E.trans (if_pos h120)
                refine V.pick [1, 2, 4, 0] rfl ?_
                exact hJ127 M106 s106 E
              · replace E := E.trans (if_neg h120)
                refine V.seg F floX7 cjoX7 [.iconst 1, .goto 4] (by decide +kernel) (pc2 := 128) (lv2 := [(6, .int w0_106), (0, .ref 52), (1, .int m), (2, .int k), (3, .int f), (5, .int w0_46)]) (st2 := [.int 1]) (M2 := M106) rfl ⟨trivial, (by decide), trivial⟩ ?_
                refine V.pick [1, 2, 4, 0] rfl ?_
                exact hJ128 1 M106 s106 E
          have hJ105 : ∀ (M105 : Mem), (SK wh M M105) → f_X7_widen M m k f = f_X7_widen_105 m k f w0_46 M105 → V G X 8 0 0 (Qx G X 0 0 (p_X7_widen M m k f)) 105 [(0, .ref 52), (1, .int m), (2, .int k), (3, .int f), (5, .int w0_46)] [] M105 := by
            intro M105 s105 E
            refine V.seg F floX7 cjoX7 [.iconst 0] (by decide +kernel) (pc2 := 106) (lv2 := [(0, .ref 52), (1, .int m), (2, .int k), (3, .int f), (5, .int w0_46)]) (st2 := [.int 0]) (M2 := M105) rfl ⟨trivial, trivial⟩ ?_
            refine V.pick [0, 1, 2, 3, 4] rfl ?_
            exact hJ106 0 M105 s105 E
          refine V.if_eq (off := 17) F (by decide +kernel) (tgt := 105) (by decide) (fun h88 => ?_) (fun h88 => ?_)
          · replace E := E.trans (if_pos h88)
            refine V.pick [0, 1, 2, 3, 5] rfl ?_
            exact hJ105 (uI M84 71 (ix k) ((mI (uI M65 70 (ix k) ((mI M46 70 (ix k)) + w0_65)) 71 (ix k)) + w0_84)) (SK.pI s84 rfl) E
          · replace E := E.trans (if_neg h88)
            refine V.seg F floX7 cjoX7 [.aload_n 0, .getfield 63, .iload_n 2, .iaload, .iconst 3] (by decide +kernel) (pc2 := 98) (lv2 := [(0, .ref 52), (1, .int m), (2, .int k), (3, .int f), (4, .int w0_22), (5, .int w0_46)]) (st2 := [.int 3, .int (mI (uI M84 71 (ix k) ((mI (uI M65 70 (ix k) ((mI M46 70 (ix k)) + w0_65)) 71 (ix k)) + w0_84)) 70 (ix k))]) (M2 := uI M84 71 (ix k) ((mI (uI M65 70 (ix k) ((mI M46 70 (ix k)) + w0_65)) 71 (ix k)) + w0_84)) rfl ⟨trivial, ((q.sm (SK.pI s84 rfl).1).f 52 7 20 rfl), trivial, ((q.sm (SK.pI s84 rfl).1).a 70 20 256 rfl (by first | assumption | exact vinc (by decide))), trivial, trivial⟩ ?_
            refine V.ic_le (off := 7) F (by decide +kernel) (tgt := 105) (by decide) (fun h98 => ?_) (fun h98 => ?_)
            · replace E := E.trans (if_pos h98)
              refine V.pick [0, 1, 2, 3, 5] rfl ?_
              exact hJ105 (uI M84 71 (ix k) ((mI (uI M65 70 (ix k) ((mI M46 70 (ix k)) + w0_65)) 71 (ix k)) + w0_84)) (SK.pI s84 rfl) E
            · replace E := E.trans (if_neg h98)
              refine V.seg F floX7 cjoX7 [.iconst 1, .goto 4] (by decide +kernel) (pc2 := 106) (lv2 := [(0, .ref 52), (1, .int m), (2, .int k), (3, .int f), (4, .int w0_22), (5, .int w0_46)]) (st2 := [.int 1]) (M2 := uI M84 71 (ix k) ((mI (uI M65 70 (ix k) ((mI M46 70 (ix k)) + w0_65)) 71 (ix k)) + w0_84)) rfl ⟨trivial, (by decide), trivial⟩ ?_
              refine V.pick [0, 1, 2, 3, 5] rfl ?_
              exact hJ106 1 (uI M84 71 (ix k) ((mI (uI M65 70 (ix k) ((mI M46 70 (ix k)) + w0_65)) 71 (ix k)) + w0_84)) (SK.pI s84 rfl) E
        refine V.if_eq (off := 7) F (by decide +kernel) (tgt := 83) (by decide) (fun h76 => ?_) (fun h76 => ?_)
        · replace E := E.trans (if_pos h76)
          refine V.seg F floX7 cjoX7 [.iconst 0] (by decide +kernel) (pc2 := 84) (lv2 := [(0, .ref 52), (1, .int m), (2, .int k), (3, .int f), (4, .int w0_22), (5, .int w0_46)]) (st2 := [.int 0, .int (mI (uI M65 70 (ix k) ((mI M46 70 (ix k)) + w0_65)) 71 (ix k)), .int k, .ref 71]) (M2 := uI M65 70 (ix k) ((mI M46 70 (ix k)) + w0_65)) rfl ⟨trivial, trivial⟩ ?_
          refine V.pick [0, 1, 2, 3, 4, 5] rfl ?_
          exact hJ84 0 (uI M65 70 (ix k) ((mI M46 70 (ix k)) + w0_65)) (SK.pI s65 rfl) E
        · replace E := E.trans (if_neg h76)
          refine V.seg F floX7 cjoX7 [.iconst 1, .goto 4] (by decide +kernel) (pc2 := 84) (lv2 := [(0, .ref 52), (1, .int m), (2, .int k), (3, .int f), (4, .int w0_22), (5, .int w0_46)]) (st2 := [.int 1, .int (mI (uI M65 70 (ix k) ((mI M46 70 (ix k)) + w0_65)) 71 (ix k)), .int k, .ref 71]) (M2 := uI M65 70 (ix k) ((mI M46 70 (ix k)) + w0_65)) rfl ⟨trivial, (by decide), trivial⟩ ?_
          refine V.pick [0, 1, 2, 3, 4, 5] rfl ?_
          exact hJ84 1 (uI M65 70 (ix k) ((mI M46 70 (ix k)) + w0_65)) (SK.pI s65 rfl) E
      refine V.if_eq (off := 7) F (by decide +kernel) (tgt := 64) (by decide) (fun h57 => ?_) (fun h57 => ?_)
      · replace E := E.trans (if_pos h57)
        refine V.seg F floX7 cjoX7 [.iconst 0] (by decide +kernel) (pc2 := 65) (lv2 := [(5, .int w0_46), (0, .ref 52), (1, .int m), (2, .int k), (3, .int f), (4, .int w0_22)]) (st2 := [.int 0, .int (mI M46 70 (ix k)), .int k, .ref 70]) (M2 := M46) rfl ⟨trivial, trivial⟩ ?_
        refine V.pick [1, 2, 3, 4, 5, 0] rfl ?_
        exact hJ65 0 M46 s46 E
      · replace E := E.trans (if_neg h57)
        refine V.seg F floX7 cjoX7 [.iconst 1, .goto 4] (by decide +kernel) (pc2 := 65) (lv2 := [(5, .int w0_46), (0, .ref 52), (1, .int m), (2, .int k), (3, .int f), (4, .int w0_22)]) (st2 := [.int 1, .int (mI M46 70 (ix k)), .int k, .ref 70]) (M2 := M46) rfl ⟨trivial, (by decide), trivial⟩ ?_
        refine V.pick [1, 2, 3, 4, 5, 0] rfl ?_
        exact hJ65 1 M46 s46 E
    refine V.lc_le (off := 7) F (by decide +kernel) (tgt := 45) (by decide) (fun h38 => ?_) (fun h38 => ?_)
    · replace E := E.trans (if_pos h38)
      refine V.seg F floX7 cjoX7 [.iconst 0] (by decide +kernel) (pc2 := 46) (lv2 := [(4, .int w0_22), (0, .ref 52), (1, .int m), (2, .int k), (3, .int f)]) (st2 := [.int 0]) (M2 := M22) rfl ⟨trivial, trivial⟩ ?_
      refine V.pick [1, 2, 3, 4, 0] rfl ?_
      exact hJ46 0 M22 s22 E
    · replace E := E.trans (if_neg h38)
      refine V.seg F floX7 cjoX7 [.iconst 1, .goto 4] (by decide +kernel) (pc2 := 46) (lv2 := [(4, .int w0_22), (0, .ref 52), (1, .int m), (2, .int k), (3, .int f)]) (st2 := [.int 1]) (M2 := M22) rfl ⟨trivial, (by decide), trivial⟩ ?_
      refine V.pick [1, 2, 3, 4, 0] rfl ?_
      exact hJ46 1 M22 s22 E
  refine V.lc_ge (off := 7) F (by decide +kernel) (tgt := 21) (by decide) (fun h14 => ?_) (fun h14 => ?_)
  · replace E := E.trans (if_pos h14)
    refine V.seg F floX7 cjoX7 [.iconst 0] (by decide +kernel) (pc2 := 22) (lv2 := [(0, .ref 52), (1, .int m), (2, .int k), (3, .int f)]) (st2 := [.int 0]) (M2 := M) rfl ⟨trivial, trivial⟩ ?_
    refine V.pick [0, 1, 2, 3] rfl ?_
    exact hJ22 0 M (SK.rf (w := wh) gb) E
  · replace E := E.trans (if_neg h14)
    refine V.seg F floX7 cjoX7 [.iconst 1, .goto 4] (by decide +kernel) (pc2 := 22) (lv2 := [(0, .ref 52), (1, .int m), (2, .int k), (3, .int f)]) (st2 := [.int 1]) (M2 := M) rfl ⟨trivial, (by decide), trivial⟩ ?_
    refine V.pick [0, 1, 2, 3] rfl ?_
    exact hJ22 1 M (SK.rf (w := wh) gb) E
def f_X7_asked_325  (M325 : Mem) : Mem := M325
def f_X7_asked_c325  (M325 : Mem) : Mem := f_X7_asked_325 M325
def f_X7_asked_c303 (a : Int32) (b : Int32) (M303 : Mem) : Mem := f_X7_asked_c325 (f_X7_atMost M303 (40 + b) 0 (mL M303 55 (ix (40 + a))) (48 + b))
def f_X7_asked_c278  (M278 : Mem) : Mem := f_X7_asked_325 M278
def f_X7_asked_260 (a : Int32) (b : Int32) (w0_260 : Int32) (M260 : Mem) : Mem := f_X7_asked_c278 (f_X7_atLeast M260 (40 + b) w0_260 ((mL M260 54 (ix (40 + a))) + 1) (48 + b))
def f_X7_asked_c234 (a : Int32) (b : Int32) (M234 : Mem) : Mem := if (mL M234 54 (ix (40 + a))) = 9223372036854775807 then f_X7_asked_260 a b 1 M234 else f_X7_asked_260 a b 0 M234
def f_X7_asked_216 (a : Int32) (b : Int32) (w0_216 : Int32) (M216 : Mem) : Mem := f_X7_asked_c234 a b (f_X7_atMost M216 (40 + a) w0_216 ((mL M216 55 (ix (40 + b))) - 1) (48 + a))
def f_X7_asked_184  (M184 : Mem) : Mem := M184
def f_X7_asked_c184  (M184 : Mem) : Mem := f_X7_asked_184 M184
def f_X7_asked_c168 (a : Int32) (b : Int32) (M168 : Mem) : Mem := f_X7_asked_c184 (f_X7_apart M168 (40 + b) (40 + a) (48 + b))
def f_X7_asked_c149  (M149 : Mem) : Mem := f_X7_asked_184 M149
def f_X7_asked_c139 (b : Int32) (M139 : Mem) : Mem := f_X7_asked_c149 (f_X7_copy M139 (48 + b) 26)
def f_X7_asked_c129 (a : Int32) (b : Int32) (M129 : Mem) : Mem := f_X7_asked_c139 b (f_X7_copy M129 (48 + a) 26)
def f_X7_asked_c103  (M103 : Mem) : Mem := M103
def f_X7_asked_95 (a : Int32) (b : Int32) (M64 : Mem) (w0_95 : Int64) (M95 : Mem) : Mem := f_X7_asked_c103 (f_X7_sharpen (uL M95 57 (ix (48 + a)) ((mL (uL M64 56 (ix (48 + a)) ((mL M64 56 (ix (48 + a))) ||| (jshl 1 b))) 57 (ix (48 + a))) ||| w0_95)) (48 + a))
def f_X7_asked_64 (a : Int32) (b : Int32) (z : Int32) (M64 : Mem) : Mem := if z = 0 then f_X7_asked_95 a b M64 0 (uL M64 56 (ix (48 + a)) ((mL M64 56 (ix (48 + a))) ||| (jshl 1 b))) else f_X7_asked_95 a b M64 (jshl 1 b) (uL M64 56 (ix (48 + a)) ((mL M64 56 (ix (48 + a))) ||| (jshl 1 b)))
def f_X7_asked_c63  (M63 : Mem) : Mem := M63
def f_X7_asked_52 (a : Int32) (b : Int32) (z : Int32) (w0_52 : Int32) (M52 : Mem) : Mem := if w0_52 = z then f_X7_asked_64 a b z M52 else f_X7_asked_c63 (f_X7_nothing M52 (48 + a))
def f_X7_asked (M : Mem) (op : Int32) (a : Int32) (b : Int32) (z : Int32) : Mem := if op = 25 then if ((mL M 56 (ix (48 + a))) &&& (jshl 1 b)) = 0 then f_X7_asked_64 a b z M else if ((mL M 57 (ix (48 + a))) &&& (jshl 1 b)) = 0 then f_X7_asked_52 a b z 0 M else f_X7_asked_52 a b z 1 M else if op = 23 then if z = 0 then f_X7_asked_c168 a b (f_X7_apart M (40 + a) (40 + b) (48 + a)) else f_X7_asked_c129 a b (f_X7_meet M (40 + a) (40 + b) 26) else if z = 0 then f_X7_asked_c303 a b (f_X7_atLeast M (40 + a) 0 (mL M 54 (ix (40 + b))) (48 + a)) else if (mL M 55 (ix (40 + b))) = ((-9223372036854775808)) then f_X7_asked_216 a b 1 M else f_X7_asked_216 a b 0 M
abbrev p_X7_asked (M : Mem) (op : Int32) (a : Int32) (b : Int32) (z : Int32) : Option Value → Mem → Prop := fun r N => r = none ∧ N = f_X7_asked M op a b z ∧ SK wg M N
set_option maxRecDepth 100000 in
set_option maxHeartbeats 4000000 in
theorem c_X7_asked (G : Ctx) (l : Launch) (M : Mem) (op : Int32) (a : Int32) (b : Int32) (z : Int32) (z_z : z = 0 ∨ z = 1) (q : Ok M) (gb : Gb M) (i_a : vp_in a 8) (hb : ¬ op = 25 → vp_in b 8) : CT G l 5 mX7_asked [.ref 52, .int op, .int a, .int b, .int z] M 0 0 (p_X7_asked M op a b z) := by
  refine CT.of (by decide) (Nat.le_of_ble_eq_true rfl) ?_
  intro X d hd hl hRm hnm F
  subst hl
  have E : f_X7_asked M op a b z = f_X7_asked M op a b z := rfl
  show V G X 8 0 0 (Qx G X 0 0 (p_X7_asked M op a b z)) 0 [(0, .ref 52), (1, .int op), (2, .int a), (3, .int b), (4, .int z)] [] M
  refine V.seg F floX7 cjoX7 [.iload_n 1, .bipush 25] (by decide +kernel) (pc2 := 3) (lv2 := [(0, .ref 52), (1, .int op), (2, .int a), (3, .int b), (4, .int z)]) (st2 := [.int 25, .int op]) (M2 := M) rfl ⟨trivial, trivial, trivial⟩ ?_
  refine V.ic_ne (off := 101) F (by decide +kernel) (tgt := 104) (by decide) (fun h3 => ?_) (fun h3 => ?_)
  · replace E := E.trans (if_neg h3)
    refine V.seg F floX7 cjoX7 [.iload_n 1, .bipush 23] (by decide +kernel) (pc2 := 107) (lv2 := [(0, .ref 52), (1, .int op), (2, .int a), (3, .int b), (4, .int z)]) (st2 := [.int 23, .int op]) (M2 := M) rfl ⟨trivial, trivial, trivial⟩ ?_
    refine V.ic_ne (off := 78) F (by decide +kernel) (tgt := 185) (by decide) (fun h107 => ?_) (fun h107 => ?_)
    · replace E := E.trans (if_neg h107)
      refine V.seg F floX7 cjoX7 [.iload 4] (by decide +kernel) (pc2 := 187) (lv2 := [(0, .ref 52), (1, .int op), (2, .int a), (3, .int b), (4, .int z)]) (st2 := [.int z]) (M2 := M) rfl ⟨trivial, trivial⟩ ?_
      have hJ325 : ∀ (M325 : Mem), (SK wg M M325) → f_X7_asked M op a b z = f_X7_asked_325 M325 → V G X 8 0 0 (Qx G X 0 0 (p_X7_asked M op a b z)) 325 [] [] M325 := by
        intro M325 s325 E
        exact V.vret F (by decide +kernel) ⟨rfl, E.symm, s325⟩
      refine V.if_eq (off := 94) F (by decide +kernel) (tgt := 281) (by decide) (fun h187 => ?_) (fun h187 => ?_)
      · replace E := E.trans (if_pos h187)
        refine V.seg F floX7 cjoX7 [.aload_n 0, .bipush 40, .iload_n 2, .iadd, .iconst 0, .aload_n 0, .getfield 13, .bipush 40, .iload_n 3, .iadd, .laload, .bipush 48, .iload_n 2, .iadd] (by decide +kernel) (pc2 := 300) (lv2 := [(0, .ref 52), (1, .int op), (2, .int a), (3, .int b), (4, .int z)]) (st2 := [.int (48 + a), .long (mL M 54 (ix (40 + b))), .int 0, .int (40 + a), .ref 52]) (M2 := M) rfl ⟨trivial, trivial, trivial, trivial, trivial, trivial, (q.f 52 7 1 rfl), trivial, trivial, trivial, (q.a 54 22 1648 rfl (v40 (hb h3))), trivial, trivial, trivial, trivial⟩ ?_
        refine V.callV (as := [.int (40 + a), .int 0, .long (mL M 54 (ix (40 + b))), .int (48 + a)]) (rest := []) F (by decide +kernel) lX7_306 bX7_atLeast ⟨7, _, (q.o 52 7 rfl), rfl, rfl⟩ (c_X7_atLeast G X.2.1 M (40 + a) 0 (mL M 54 (ix (40 + b))) (48 + a) (Or.inl rfl) q gb (v40 i_a) (v48 i_a)) (rm_ok hRm hd (by decide) (by decide)) ⟨Nat.zero_le _, Nat.zero_le _⟩ (Nat.le_of_ble_eq_true rfl) (fun r_ N_ p_ => ?_)
        obtain ⟨rfl, rfl, t300⟩ := p_
        refine (?_ : ∀ (M303 : Mem), (SK wg M M303) → f_X7_asked M op a b z = f_X7_asked_c303 a b M303 → V G X 8 0 0 (Qx G X 0 0 (p_X7_asked M op a b z)) 303 [(0, .ref 52), (1, .int op), (2, .int a), (3, .int b), (4, .int z)] [] M303) _ t300 E
        intro M303 s303 E
        refine V.seg F floX7 cjoX7 [.aload_n 0, .bipush 40, .iload_n 3, .iadd, .iconst 0, .aload_n 0, .getfield 17, .bipush 40, .iload_n 2, .iadd, .laload, .bipush 48, .iload_n 3, .iadd] (by decide +kernel) (pc2 := 322) (lv2 := [(0, .ref 52), (1, .int op), (2, .int a), (3, .int b), (4, .int z)]) (st2 := [.int (48 + b), .long (mL M303 55 (ix (40 + a))), .int 0, .int (40 + b), .ref 52]) (M2 := M303) rfl ⟨trivial, trivial, trivial, trivial, trivial, trivial, ((q.sm s303.1).f 52 7 2 rfl), trivial, trivial, trivial, ((q.sm s303.1).a 55 22 1648 rfl (v40 i_a)), trivial, trivial, trivial, trivial⟩ ?_
        refine V.callV (as := [.int (40 + b), .int 0, .long (mL M303 55 (ix (40 + a))), .int (48 + b)]) (rest := []) F (by decide +kernel) lX7_302 bX7_atMost ⟨7, _, ((q.sm s303.1).o 52 7 rfl), rfl, rfl⟩ (c_X7_atMost G X.2.1 M303 (40 + b) 0 (mL M303 55 (ix (40 + a))) (48 + b) (Or.inl rfl) (q.sm s303.1) s303.2.1 (v40 (hb h3)) (v48 (hb h3))) (rm_ok hRm hd (by decide) (by decide)) ⟨Nat.zero_le _, Nat.zero_le _⟩ (Nat.le_of_ble_eq_true rfl) (fun r_ N_ p_ => ?_)
        obtain ⟨rfl, rfl, t322⟩ := p_
        refine (?_ : ∀ (M325 : Mem), (SK wg M M325) → f_X7_asked M op a b z = f_X7_asked_c325 M325 → V G X 8 0 0 (Qx G X 0 0 (p_X7_asked M op a b z)) 325 [(0, .ref 52), (1, .int op), (2, .int a), (3, .int b), (4, .int z)] [] M325) _ (SK.tr s303 t322) E
        intro M325 s325 E
        refine V.pick [] rfl ?_
        exact hJ325 M325 s325 E
      · replace E := E.trans (if_neg h187)
        refine V.seg F floX7 cjoX7 [.aload_n 0, .bipush 40, .iload_n 2, .iadd, .aload_n 0, .getfield 17, .bipush 40, .iload_n 3, .iadd, .laload, .ldc2_w 83, .lcmp] (by decide +kernel) (pc2 := 208) (lv2 := [(0, .ref 52), (1, .int op), (2, .int a), (3, .int b), (4, .int z)]) (st2 := [.int (lg_cmp (mL M 55 (ix (40 + b))) ((-9223372036854775808))), .int (40 + a), .ref 52]) (M2 := M) rfl ⟨trivial, trivial, trivial, trivial, trivial, (q.f 52 7 2 rfl), trivial, trivial, trivial, (q.a 55 22 1648 rfl (v40 (hb h3))), trivial, trivial, trivial⟩ ?_
        have hJ216 : ∀ (w0_216 : Int32) (M216 : Mem), (SK wg M M216) → (w0_216 = 0 ∨ w0_216 = 1) → f_X7_asked M op a b z = f_X7_asked_216 a b w0_216 M216 → V G X 8 0 0 (Qx G X 0 0 (p_X7_asked M op a b z)) 216 [(0, .ref 52), (2, .int a), (3, .int b)] [.int w0_216, .int (40 + a), .ref 52] M216 := by
          intro w0_216 M216 s216 zw0_216 E
          refine V.seg F floX7 cjoX7 [.aload_n 0, .getfield 17, .bipush 40, .iload_n 3, .iadd, .laload, .lconst 1, .lsub, .bipush 48, .iload_n 2, .iadd] (by decide +kernel) (pc2 := 231) (lv2 := [(0, .ref 52), (2, .int a), (3, .int b)]) (st2 := [.int (48 + a), .long ((mL M216 55 (ix (40 + b))) - 1), .int w0_216, .int (40 + a), .ref 52]) (M2 := M216) rfl ⟨trivial, ((q.sm s216.1).f 52 7 2 rfl), trivial, trivial, trivial, ((q.sm s216.1).a 55 22 1648 rfl (v40 (hb h3))), trivial, trivial, trivial, trivial, trivial, trivial⟩ ?_
          refine V.callV (as := [.int (40 + a), .int w0_216, .long ((mL M216 55 (ix (40 + b))) - 1), .int (48 + a)]) (rest := []) F (by decide +kernel) lX7_302 bX7_atMost ⟨7, _, ((q.sm s216.1).o 52 7 rfl), rfl, rfl⟩ (c_X7_atMost G X.2.1 M216 (40 + a) w0_216 ((mL M216 55 (ix (40 + b))) - 1) (48 + a) (zw0_216) (q.sm s216.1) s216.2.1 (v40 i_a) (v48 i_a)) (rm_ok hRm hd (by decide) (by decide)) ⟨Nat.zero_le _, Nat.zero_le _⟩ (Nat.le_of_ble_eq_true rfl) (fun r_ N_ p_ => ?_)
          obtain ⟨rfl, rfl, t231⟩ := p_
          refine (?_ : ∀ (M234 : Mem), (SK wg M M234) → f_X7_asked M op a b z = f_X7_asked_c234 a b M234 → V G X 8 0 0 (Qx G X 0 0 (p_X7_asked M op a b z)) 234 [(0, .ref 52), (2, .int a), (3, .int b)] [] M234) _ (SK.tr s216 t231) E
          intro M234 s234 E
          refine V.seg F floX7 cjoX7 [.aload_n 0, .bipush 40, .iload_n 3, .iadd, .aload_n 0, .getfield 13, .bipush 40, .iload_n 2, .iadd, .laload, .ldc2_w 85, .lcmp] (by decide +kernel) (pc2 := 252) (lv2 := [(0, .ref 52), (2, .int a), (3, .int b)]) (st2 := [.int (lg_cmp (mL M234 54 (ix (40 + a))) 9223372036854775807), .int (40 + b), .ref 52]) (M2 := M234) rfl ⟨trivial, trivial, trivial, trivial, trivial, ((q.sm s234.1).f 52 7 1 rfl), trivial, trivial, trivial, ((q.sm s234.1).a 54 22 1648 rfl (v40 i_a)), trivial, trivial, trivial⟩ ?_
          have hJ260 : ∀ (w0_260 : Int32) (M260 : Mem), (SK wg M M260) → (w0_260 = 0 ∨ w0_260 = 1) → f_X7_asked M op a b z = f_X7_asked_260 a b w0_260 M260 → V G X 8 0 0 (Qx G X 0 0 (p_X7_asked M op a b z)) 260 [(0, .ref 52), (2, .int a), (3, .int b)] [.int w0_260, .int (40 + b), .ref 52] M260 := by
            intro w0_260 M260 s260 zw0_260 E
            refine V.seg F floX7 cjoX7 [.aload_n 0, .getfield 13, .bipush 40, .iload_n 2, .iadd, .laload, .lconst 1, .ladd, .bipush 48, .iload_n 3, .iadd] (by decide +kernel) (pc2 := 275) (lv2 := [(0, .ref 52), (2, .int a), (3, .int b)]) (st2 := [.int (48 + b), .long ((mL M260 54 (ix (40 + a))) + 1), .int w0_260, .int (40 + b), .ref 52]) (M2 := M260) rfl ⟨trivial, ((q.sm s260.1).f 52 7 1 rfl), trivial, trivial, trivial, ((q.sm s260.1).a 54 22 1648 rfl (v40 i_a)), trivial, trivial, trivial, trivial, trivial, trivial⟩ ?_
            refine V.callV (as := [.int (40 + b), .int w0_260, .long ((mL M260 54 (ix (40 + a))) + 1), .int (48 + b)]) (rest := []) F (by decide +kernel) lX7_306 bX7_atLeast ⟨7, _, ((q.sm s260.1).o 52 7 rfl), rfl, rfl⟩ (c_X7_atLeast G X.2.1 M260 (40 + b) w0_260 ((mL M260 54 (ix (40 + a))) + 1) (48 + b) (zw0_260) (q.sm s260.1) s260.2.1 (v40 (hb h3)) (v48 (hb h3))) (rm_ok hRm hd (by decide) (by decide)) ⟨Nat.zero_le _, Nat.zero_le _⟩ (Nat.le_of_ble_eq_true rfl) (fun r_ N_ p_ => ?_)
            obtain ⟨rfl, rfl, t275⟩ := p_
            refine (?_ : ∀ (M278 : Mem), (SK wg M M278) → f_X7_asked M op a b z = f_X7_asked_c278 M278 → V G X 8 0 0 (Qx G X 0 0 (p_X7_asked M op a b z)) 278 [(0, .ref 52), (2, .int a), (3, .int b)] [] M278) _ (SK.tr s260 t275) E
            intro M278 s278 E
            refine V.seg F floX7 cjoX7 [.goto 47] (by decide +kernel) (pc2 := 325) (lv2 := [(0, .ref 52), (2, .int a), (3, .int b)]) (st2 := []) (M2 := M278) rfl ⟨(by decide), trivial⟩ ?_
            refine V.pick [] rfl ?_
            exact hJ325 M278 s278 E
          refine V.lc_ne (off := 7) F (by decide +kernel) (tgt := 259) (by decide) (fun h252 => ?_) (fun h252 => ?_)
          · replace E := E.trans (if_neg h252)
            refine V.seg F floX7 cjoX7 [.iconst 0] (by decide +kernel) (pc2 := 260) (lv2 := [(0, .ref 52), (2, .int a), (3, .int b)]) (st2 := [.int 0, .int (40 + b), .ref 52]) (M2 := M234) rfl ⟨trivial, trivial⟩ ?_
            refine V.pick [0, 1, 2] rfl ?_
            exact hJ260 0 M234 s234 (Or.inl rfl) E
          · replace E := E.trans (if_pos h252)
            refine V.seg F floX7 cjoX7 [.iconst 1, .goto 4] (by decide +kernel) (pc2 := 260) (lv2 := [(0, .ref 52), (2, .int a), (3, .int b)]) (st2 := [.int 1, .int (40 + b), .ref 52]) (M2 := M234) rfl ⟨trivial, (by decide), trivial⟩ ?_
            refine V.pick [0, 1, 2] rfl ?_
            exact hJ260 1 M234 s234 (Or.inr rfl) E
        refine V.lc_ne (off := 7) F (by decide +kernel) (tgt := 215) (by decide) (fun h208 => ?_) (fun h208 => ?_)
        · replace E := E.trans (if_neg h208)
          refine V.seg F floX7 cjoX7 [.iconst 0] (by decide +kernel) (pc2 := 216) (lv2 := [(0, .ref 52), (1, .int op), (2, .int a), (3, .int b), (4, .int z)]) (st2 := [.int 0, .int (40 + a), .ref 52]) (M2 := M) rfl ⟨trivial, trivial⟩ ?_
          refine V.pick [0, 2, 3] rfl ?_
          exact hJ216 0 M (SK.rf (w := wg) gb) (Or.inl rfl) E
        · replace E := E.trans (if_pos h208)
          refine V.seg F floX7 cjoX7 [.iconst 1, .goto 4] (by decide +kernel) (pc2 := 216) (lv2 := [(0, .ref 52), (1, .int op), (2, .int a), (3, .int b), (4, .int z)]) (st2 := [.int 1, .int (40 + a), .ref 52]) (M2 := M) rfl ⟨trivial, (by decide), trivial⟩ ?_
          refine V.pick [0, 2, 3] rfl ?_
          exact hJ216 1 M (SK.rf (w := wg) gb) (Or.inr rfl) E
    · replace E := E.trans (if_pos h107)
      refine V.seg F floX7 cjoX7 [.iload 4] (by decide +kernel) (pc2 := 112) (lv2 := [(0, .ref 52), (1, .int op), (2, .int a), (3, .int b), (4, .int z)]) (st2 := [.int z]) (M2 := M) rfl ⟨trivial, trivial⟩ ?_
      have hJ184 : ∀ (M184 : Mem), (SK wg M M184) → f_X7_asked M op a b z = f_X7_asked_184 M184 → V G X 8 0 0 (Qx G X 0 0 (p_X7_asked M op a b z)) 184 [] [] M184 := by
        intro M184 s184 E
        exact V.vret F (by decide +kernel) ⟨rfl, E.symm, s184⟩
      refine V.if_eq (off := 40) F (by decide +kernel) (tgt := 152) (by decide) (fun h112 => ?_) (fun h112 => ?_)
      · replace E := E.trans (if_pos h112)
        refine V.seg F floX7 cjoX7 [.aload_n 0, .bipush 40, .iload_n 2, .iadd, .bipush 40, .iload_n 3, .iadd, .bipush 48, .iload_n 2, .iadd] (by decide +kernel) (pc2 := 165) (lv2 := [(0, .ref 52), (1, .int op), (2, .int a), (3, .int b), (4, .int z)]) (st2 := [.int (48 + a), .int (40 + b), .int (40 + a), .ref 52]) (M2 := M) rfl ⟨trivial, trivial, trivial, trivial, trivial, trivial, trivial, trivial, trivial, trivial, trivial⟩ ?_
        refine V.callV (as := [.int (40 + a), .int (40 + b), .int (48 + a)]) (rest := []) F (by decide +kernel) lX7_299 bX7_apart ⟨7, _, (q.o 52 7 rfl), rfl, rfl⟩ (c_X7_apart G X.2.1 M (40 + a) (40 + b) (48 + a) q gb (v40 i_a) (v40 (hb h3)) (v48 i_a)) (rm_ok hRm hd (by decide) (by decide)) ⟨Nat.zero_le _, Nat.zero_le _⟩ (Nat.le_of_ble_eq_true rfl) (fun r_ N_ p_ => ?_)
        obtain ⟨rfl, rfl, t165⟩ := p_
        refine (?_ : ∀ (M168 : Mem), (SK wg M M168) → f_X7_asked M op a b z = f_X7_asked_c168 a b M168 → V G X 8 0 0 (Qx G X 0 0 (p_X7_asked M op a b z)) 168 [(0, .ref 52), (1, .int op), (2, .int a), (3, .int b), (4, .int z)] [] M168) _ t165 E
        intro M168 s168 E
        refine V.seg F floX7 cjoX7 [.aload_n 0, .bipush 40, .iload_n 3, .iadd, .bipush 40, .iload_n 2, .iadd, .bipush 48, .iload_n 3, .iadd] (by decide +kernel) (pc2 := 181) (lv2 := [(0, .ref 52), (1, .int op), (2, .int a), (3, .int b), (4, .int z)]) (st2 := [.int (48 + b), .int (40 + a), .int (40 + b), .ref 52]) (M2 := M168) rfl ⟨trivial, trivial, trivial, trivial, trivial, trivial, trivial, trivial, trivial, trivial, trivial⟩ ?_
        refine V.callV (as := [.int (40 + b), .int (40 + a), .int (48 + b)]) (rest := []) F (by decide +kernel) lX7_299 bX7_apart ⟨7, _, ((q.sm s168.1).o 52 7 rfl), rfl, rfl⟩ (c_X7_apart G X.2.1 M168 (40 + b) (40 + a) (48 + b) (q.sm s168.1) s168.2.1 (v40 (hb h3)) (v40 i_a) (v48 (hb h3))) (rm_ok hRm hd (by decide) (by decide)) ⟨Nat.zero_le _, Nat.zero_le _⟩ (Nat.le_of_ble_eq_true rfl) (fun r_ N_ p_ => ?_)
        obtain ⟨rfl, rfl, t181⟩ := p_
        refine (?_ : ∀ (M184 : Mem), (SK wg M M184) → f_X7_asked M op a b z = f_X7_asked_c184 M184 → V G X 8 0 0 (Qx G X 0 0 (p_X7_asked M op a b z)) 184 [(0, .ref 52), (1, .int op), (2, .int a), (3, .int b), (4, .int z)] [] M184) _ (SK.tr s168 t181) E
        intro M184 s184 E
        refine V.pick [] rfl ?_
        exact hJ184 M184 s184 E
      · replace E := E.trans (if_neg h112)
        refine V.seg F floX7 cjoX7 [.aload_n 0, .bipush 40, .iload_n 2, .iadd, .bipush 40, .iload_n 3, .iadd, .bipush 26] (by decide +kernel) (pc2 := 126) (lv2 := [(0, .ref 52), (1, .int op), (2, .int a), (3, .int b), (4, .int z)]) (st2 := [.int 26, .int (40 + b), .int (40 + a), .ref 52]) (M2 := M) rfl ⟨trivial, trivial, trivial, trivial, trivial, trivial, trivial, trivial, trivial⟩ ?_
        refine V.callV (as := [.int (40 + a), .int (40 + b), .int 26]) (rest := []) F (by decide +kernel) lX7_240 bX7_meet ⟨7, _, (q.o 52 7 rfl), rfl, rfl⟩ (c_X7_meet G X.2.1 M (40 + a) (40 + b) 26 q gb (v40 i_a) (v40 (hb h3)) (vinc (by decide))) (rm_ok hRm hd (by decide) (by decide)) ⟨Nat.zero_le _, Nat.zero_le _⟩ (Nat.le_of_ble_eq_true rfl) (fun r_ N_ p_ => ?_)
        obtain ⟨rfl, rfl, t126⟩ := p_
        refine (?_ : ∀ (M129 : Mem), (SK wg M M129) → f_X7_asked M op a b z = f_X7_asked_c129 a b M129 → V G X 8 0 0 (Qx G X 0 0 (p_X7_asked M op a b z)) 129 [(0, .ref 52), (1, .int op), (2, .int a), (3, .int b), (4, .int z)] [] M129) _ t126 E
        intro M129 s129 E
        refine V.seg F floX7 cjoX7 [.aload_n 0, .bipush 48, .iload_n 2, .iadd, .bipush 26] (by decide +kernel) (pc2 := 136) (lv2 := [(0, .ref 52), (1, .int op), (2, .int a), (3, .int b), (4, .int z)]) (st2 := [.int 26, .int (48 + a), .ref 52]) (M2 := M129) rfl ⟨trivial, trivial, trivial, trivial, trivial, trivial⟩ ?_
        refine V.callV (as := [.int (48 + a), .int 26]) (rest := []) F (by decide +kernel) lX7_133 bX7_copy ⟨7, _, ((q.sm s129.1).o 52 7 rfl), rfl, rfl⟩ (c_X7_copy G X.2.1 M129 (48 + a) 26 (q.sm s129.1) s129.2.1 (v48 i_a) (vinc (by decide))) (rm_ok hRm hd (by decide) (by decide)) ⟨Nat.zero_le _, Nat.zero_le _⟩ (Nat.le_of_ble_eq_true rfl) (fun r_ N_ p_ => ?_)
        obtain ⟨rfl, rfl, t136⟩ := p_
        refine (?_ : ∀ (M139 : Mem), (SK wg M M139) → f_X7_asked M op a b z = f_X7_asked_c139 b M139 → V G X 8 0 0 (Qx G X 0 0 (p_X7_asked M op a b z)) 139 [(0, .ref 52), (1, .int op), (2, .int a), (3, .int b), (4, .int z)] [] M139) _ (SK.tr s129 t136) E
        intro M139 s139 E
        refine V.seg F floX7 cjoX7 [.aload_n 0, .bipush 48, .iload_n 3, .iadd, .bipush 26] (by decide +kernel) (pc2 := 146) (lv2 := [(0, .ref 52), (1, .int op), (2, .int a), (3, .int b), (4, .int z)]) (st2 := [.int 26, .int (48 + b), .ref 52]) (M2 := M139) rfl ⟨trivial, trivial, trivial, trivial, trivial, trivial⟩ ?_
        refine V.callV (as := [.int (48 + b), .int 26]) (rest := []) F (by decide +kernel) lX7_133 bX7_copy ⟨7, _, ((q.sm s139.1).o 52 7 rfl), rfl, rfl⟩ (c_X7_copy G X.2.1 M139 (48 + b) 26 (q.sm s139.1) s139.2.1 (v48 (hb h3)) (vinc (by decide))) (rm_ok hRm hd (by decide) (by decide)) ⟨Nat.zero_le _, Nat.zero_le _⟩ (Nat.le_of_ble_eq_true rfl) (fun r_ N_ p_ => ?_)
        obtain ⟨rfl, rfl, t146⟩ := p_
        refine (?_ : ∀ (M149 : Mem), (SK wg M M149) → f_X7_asked M op a b z = f_X7_asked_c149 M149 → V G X 8 0 0 (Qx G X 0 0 (p_X7_asked M op a b z)) 149 [(0, .ref 52), (1, .int op), (2, .int a), (3, .int b), (4, .int z)] [] M149) _ (SK.tr s139 t146) E
        intro M149 s149 E
        refine V.seg F floX7 cjoX7 [.goto 35] (by decide +kernel) (pc2 := 184) (lv2 := [(0, .ref 52), (1, .int op), (2, .int a), (3, .int b), (4, .int z)]) (st2 := []) (M2 := M149) rfl ⟨(by decide), trivial⟩ ?_
        refine V.pick [] rfl ?_
        exact hJ184 M149 s149 E
  · replace E := E.trans (if_pos h3)
    refine V.seg F floX7 cjoX7 [.lconst 1, .iload_n 3, .lshl, .lstore 5, .bipush 48, .iload_n 2, .iadd, .istore 7, .aload_n 0, .getfield 20, .iload 7, .laload, .lload 5, .land, .lconst 0, .lcmp] (by decide +kernel) (pc2 := 29) (lv2 := [(7, .int (48 + a)), (5, .long (jshl 1 b)), (0, .ref 52), (1, .int op), (2, .int a), (3, .int b), (4, .int z)]) (st2 := [.int (lg_cmp ((mL M 56 (ix (48 + a))) &&& (jshl 1 b)) 0)]) (M2 := M) rfl ⟨trivial, trivial, trivial, (by decide), trivial, trivial, trivial, (by decide), trivial, (q.f 52 7 3 rfl), trivial, (q.a 56 22 1648 rfl (v48 i_a)), trivial, trivial, trivial, trivial, trivial⟩ ?_
    have hJ64 : ∀ (M64 : Mem), (SK wg M M64) → f_X7_asked M op a b z = f_X7_asked_64 a b z M64 → V G X 8 0 0 (Qx G X 0 0 (p_X7_asked M op a b z)) 64 [(0, .ref 52), (4, .int z), (5, .long (jshl 1 b)), (7, .int (48 + a))] [] M64 := by
      intro M64 s64 E
      refine V.seg F floX7 cjoX7 [.aload_n 0, .getfield 20, .iload 7, .dup2, .laload, .lload 5, .lor, .lastore, .aload_n 0, .getfield 23, .iload 7, .dup2, .laload, .iload 4] (by decide +kernel) (pc2 := 86) (lv2 := [(0, .ref 52), (4, .int z), (5, .long (jshl 1 b)), (7, .int (48 + a))]) (st2 := [.int z, .long (mL (uL M64 56 (ix (48 + a)) ((mL M64 56 (ix (48 + a))) ||| (jshl 1 b))) 57 (ix (48 + a))), .int (48 + a), .ref 57]) (M2 := uL M64 56 (ix (48 + a)) ((mL M64 56 (ix (48 + a))) ||| (jshl 1 b))) rfl ⟨trivial, ((q.sm s64.1).f 52 7 3 rfl), trivial, trivial, ((q.sm s64.1).a 56 22 1648 rfl (v48 i_a)), trivial, trivial, ((q.sm s64.1).a 56 22 1648 rfl (v48 i_a)), trivial, ((q.sm (SK.pL s64 rfl (by decide)).1).f 52 7 4 rfl), trivial, trivial, ((q.sm (SK.pL s64 rfl (by decide)).1).a 57 22 1648 rfl (v48 i_a)), trivial, trivial⟩ ?_
      have hJ95 : ∀ (w0_95 : Int64) (M95 : Mem), (SK wg M M95) → f_X7_asked M op a b z = f_X7_asked_95 a b M64 w0_95 M95 → V G X 8 0 0 (Qx G X 0 0 (p_X7_asked M op a b z)) 95 [(0, .ref 52), (7, .int (48 + a))] [.long w0_95, .long (mL (uL M64 56 (ix (48 + a)) ((mL M64 56 (ix (48 + a))) ||| (jshl 1 b))) 57 (ix (48 + a))), .int (48 + a), .ref 57] M95 := by
        intro w0_95 M95 s95 E
        refine V.seg F floX7 cjoX7 [.lor, .lastore, .aload_n 0, .iload 7] (by decide +kernel) (pc2 := 100) (lv2 := [(0, .ref 52), (7, .int (48 + a))]) (st2 := [.int (48 + a), .ref 52]) (M2 := uL M95 57 (ix (48 + a)) ((mL (uL M64 56 (ix (48 + a)) ((mL M64 56 (ix (48 + a))) ||| (jshl 1 b))) 57 (ix (48 + a))) ||| w0_95)) rfl ⟨trivial, ((q.sm s95.1).a 57 22 1648 rfl (v48 i_a)), trivial, trivial, trivial⟩ ?_
        refine V.callV (as := [.int (48 + a)]) (rest := []) F (by decide +kernel) lX7_165 bX7_sharpen ⟨7, _, ((q.sm (SK.pL s95 rfl (by decide)).1).o 52 7 rfl), rfl, rfl⟩ (c_X7_sharpen G X.2.1 (uL M95 57 (ix (48 + a)) ((mL (uL M64 56 (ix (48 + a)) ((mL M64 56 (ix (48 + a))) ||| (jshl 1 b))) 57 (ix (48 + a))) ||| w0_95)) (48 + a) (q.sm (SK.pL s95 rfl (by decide)).1) (SK.pL s95 rfl (by decide)).2.1 (v48 i_a)) (rm_ok hRm hd (by decide) (by decide)) ⟨Nat.zero_le _, Nat.zero_le _⟩ (Nat.le_of_ble_eq_true rfl) (fun r_ N_ p_ => ?_)
        obtain ⟨rfl, rfl, t100⟩ := p_
        refine (?_ : ∀ (M103 : Mem), (SK wg M M103) → f_X7_asked M op a b z = f_X7_asked_c103 M103 → V G X 8 0 0 (Qx G X 0 0 (p_X7_asked M op a b z)) 103 [(0, .ref 52), (7, .int (48 + a))] [] M103) _ (SK.tr (SK.pL s95 rfl (by decide)) t100) E
        intro M103 s103 E
        exact V.vret F (by decide +kernel) ⟨rfl, E.symm, s103⟩
      refine V.if_eq (off := 8) F (by decide +kernel) (tgt := 94) (by decide) (fun h86 => ?_) (fun h86 => ?_)
      · replace E := E.trans (if_pos h86)
        refine V.seg F floX7 cjoX7 [.lconst 0] (by decide +kernel) (pc2 := 95) (lv2 := [(0, .ref 52), (4, .int z), (5, .long (jshl 1 b)), (7, .int (48 + a))]) (st2 := [.long 0, .long (mL (uL M64 56 (ix (48 + a)) ((mL M64 56 (ix (48 + a))) ||| (jshl 1 b))) 57 (ix (48 + a))), .int (48 + a), .ref 57]) (M2 := uL M64 56 (ix (48 + a)) ((mL M64 56 (ix (48 + a))) ||| (jshl 1 b))) rfl ⟨trivial, trivial⟩ ?_
        refine V.pick [0, 3] rfl ?_
        exact hJ95 0 (uL M64 56 (ix (48 + a)) ((mL M64 56 (ix (48 + a))) ||| (jshl 1 b))) (SK.pL s64 rfl (by decide)) E
      · replace E := E.trans (if_neg h86)
        refine V.seg F floX7 cjoX7 [.lload 5, .goto 4] (by decide +kernel) (pc2 := 95) (lv2 := [(0, .ref 52), (4, .int z), (5, .long (jshl 1 b)), (7, .int (48 + a))]) (st2 := [.long (jshl 1 b), .long (mL (uL M64 56 (ix (48 + a)) ((mL M64 56 (ix (48 + a))) ||| (jshl 1 b))) 57 (ix (48 + a))), .int (48 + a), .ref 57]) (M2 := uL M64 56 (ix (48 + a)) ((mL M64 56 (ix (48 + a))) ||| (jshl 1 b))) rfl ⟨trivial, (by decide), trivial⟩ ?_
        refine V.pick [0, 3] rfl ?_
        exact hJ95 (jshl 1 b) (uL M64 56 (ix (48 + a)) ((mL M64 56 (ix (48 + a))) ||| (jshl 1 b))) (SK.pL s64 rfl (by decide)) E
    refine V.lc_eq (off := 35) F (by decide +kernel) (tgt := 64) (by decide) (fun h29 => ?_) (fun h29 => ?_)
    · replace E := E.trans (if_pos h29)
      refine V.pick [2, 6, 1, 0] rfl ?_
      exact hJ64 M (SK.rf (w := wg) gb) E
    · replace E := E.trans (if_neg h29)
      refine V.seg F floX7 cjoX7 [.aload_n 0, .getfield 23, .iload 7, .laload, .lload 5, .land, .lconst 0, .lcmp] (by decide +kernel) (pc2 := 44) (lv2 := [(7, .int (48 + a)), (5, .long (jshl 1 b)), (0, .ref 52), (1, .int op), (2, .int a), (3, .int b), (4, .int z)]) (st2 := [.int (lg_cmp ((mL M 57 (ix (48 + a))) &&& (jshl 1 b)) 0)]) (M2 := M) rfl ⟨trivial, (q.f 52 7 4 rfl), trivial, (q.a 57 22 1648 rfl (v48 i_a)), trivial, trivial, trivial, trivial, trivial⟩ ?_
      have hJ52 : ∀ (w0_52 : Int32) (M52 : Mem), (SK wg M M52) → f_X7_asked M op a b z = f_X7_asked_52 a b z w0_52 M52 → V G X 8 0 0 (Qx G X 0 0 (p_X7_asked M op a b z)) 52 [(0, .ref 52), (4, .int z), (5, .long (jshl 1 b)), (7, .int (48 + a))] [.int w0_52] M52 := by
        intro w0_52 M52 s52 E
        refine V.seg F floX7 cjoX7 [.iload 4] (by decide +kernel) (pc2 := 54) (lv2 := [(0, .ref 52), (4, .int z), (5, .long (jshl 1 b)), (7, .int (48 + a))]) (st2 := [.int z, .int w0_52]) (M2 := M52) rfl ⟨trivial, trivial⟩ ?_
        refine V.ic_eq (off := 10) F (by decide +kernel) (tgt := 64) (by decide) (fun h54 => ?_) (fun h54 => ?_)
        · replace E := E.trans (if_pos h54)
          refine V.pick [0, 1, 2, 3] rfl ?_
          exact hJ64 M52 s52 E
        · replace E := E.trans (if_neg h54)
          refine V.seg F floX7 cjoX7 [.aload_n 0, .iload 7] (by decide +kernel) (pc2 := 60) (lv2 := [(0, .ref 52), (4, .int z), (5, .long (jshl 1 b)), (7, .int (48 + a))]) (st2 := [.int (48 + a), .ref 52]) (M2 := M52) rfl ⟨trivial, trivial, trivial⟩ ?_
          refine V.callV (as := [.int (48 + a)]) (rest := []) F (by decide +kernel) lX7_115 bX7_nothing ⟨7, _, ((q.sm s52.1).o 52 7 rfl), rfl, rfl⟩ (c_X7_nothing G X.2.1 M52 (48 + a) (q.sm s52.1) s52.2.1 (v48 i_a)) (rm_ok hRm hd (by decide) (by decide)) ⟨Nat.zero_le _, Nat.zero_le _⟩ (Nat.le_of_ble_eq_true rfl) (fun r_ N_ p_ => ?_)
          obtain ⟨rfl, rfl, t60⟩ := p_
          refine (?_ : ∀ (M63 : Mem), (SK wg M M63) → f_X7_asked M op a b z = f_X7_asked_c63 M63 → V G X 8 0 0 (Qx G X 0 0 (p_X7_asked M op a b z)) 63 [(0, .ref 52), (4, .int z), (5, .long (jshl 1 b)), (7, .int (48 + a))] [] M63) _ (SK.tr s52 t60) E
          intro M63 s63 E
          exact V.vret F (by decide +kernel) ⟨rfl, E.symm, s63⟩
      refine V.lc_eq (off := 7) F (by decide +kernel) (tgt := 51) (by decide) (fun h44 => ?_) (fun h44 => ?_)
      · replace E := E.trans (if_pos h44)
        refine V.seg F floX7 cjoX7 [.iconst 0] (by decide +kernel) (pc2 := 52) (lv2 := [(7, .int (48 + a)), (5, .long (jshl 1 b)), (0, .ref 52), (1, .int op), (2, .int a), (3, .int b), (4, .int z)]) (st2 := [.int 0]) (M2 := M) rfl ⟨trivial, trivial⟩ ?_
        refine V.pick [2, 6, 1, 0] rfl ?_
        exact hJ52 0 M (SK.rf (w := wg) gb) E
      · replace E := E.trans (if_neg h44)
        refine V.seg F floX7 cjoX7 [.iconst 1, .goto 4] (by decide +kernel) (pc2 := 52) (lv2 := [(7, .int (48 + a)), (5, .long (jshl 1 b)), (0, .ref 52), (1, .int op), (2, .int a), (3, .int b), (4, .int z)]) (st2 := [.int 1]) (M2 := M) rfl ⟨trivial, (by decide), trivial⟩ ?_
        refine V.pick [2, 6, 1, 0] rfl ?_
        exact hJ52 1 M (SK.rf (w := wg) gb) E
/-- the sizes of tables, of methods: counts from 0 on -/
def cn (x : Int32) (N : Nat) : Prop := x = nI (ix x) ∧ ix x ≤ N
theorem ln32 {l x : Int32} (h : vp_in l 34) (c : cn x 32) (g : ¬ x ≤ l) : vp_in l 32 := by
  obtain ⟨a, ha, rfl⟩ := vp_in_of h (by decide)
  have := c.2
  exact vp_in_nI (Nat.lt_of_lt_of_le (cnt_lt (n := ix x) g c.1 (by omega) (by omega)) c.2) (by decide)
def f_X7_some_27 (j4 : Nat) (R4_ : Int32 → Nat → Int32) (w0_27 : Int32) : Int32 := R4_ w0_27 (j4 + 1)
def f_X7_some_22 (j4 : Nat) (R4_ : Int32 → Nat → Int32)  : Int32 := f_X7_some_27 j4 R4_ 1
def f_X7_some_4 (n : Int32) (M : Mem) : Nat → Int32 → Nat → Int32
  | 0, _, _ => 0
  | n_ + 1, y2_4, j4 => if n ≤ (nI j4) then y2_4 else if y2_4 = 0 then if (mI M 69 (ix (nI j4))) = 0 then f_X7_some_27 j4 (f_X7_some_4 n M n_) 0 else f_X7_some_22 j4 (f_X7_some_4 n M n_) else f_X7_some_22 j4 (f_X7_some_4 n M n_)
def f_X7_some (M : Mem) (n : Int32) : Int32 := f_X7_some_4 n M (ix n + 1) 0 0
abbrev p_X7_some (M : Mem) (n : Int32) : Option Value → Mem → Prop := fun r N => r = some (.int (f_X7_some M n)) ∧ N = M ∧ ((f_X7_some M n) = 0 ∨ (f_X7_some M n) = 1)
set_option maxRecDepth 100000 in
set_option maxHeartbeats 4000000 in
theorem c_X7_some (G : Ctx) (l : Launch) (M : Mem) (n : Int32) (q : Ok M) (gb : Gb M) (c_n : cn n 32) : CT G l 0 mX7_some [.ref 52, .int n] M 0 0 (p_X7_some M n) := by
  refine CT.of (by decide) (Nat.le_of_ble_eq_true rfl) ?_
  intro X d hd hl hRm hnm F
  subst hl
  have E : f_X7_some M n = f_X7_some M n := rfl
  show V G X 4 0 0 (Qx G X 0 0 (p_X7_some M n)) 0 [(0, .ref 52), (1, .int n)] [] M
  refine V.seg F floX7 cjoX7 [.iconst 0, .istore_n 2, .iconst 0] (by decide +kernel) (pc2 := 3) (lv2 := [(2, .int 0), (0, .ref 52), (1, .int n)]) (st2 := [.int 0]) (M2 := M) rfl ⟨trivial, (by decide), trivial, trivial⟩ ?_
  refine V.seg F floX7 cjoX7 [.istore_n 3] (by decide +kernel) (pc2 := 4) (lv2 := [(3, .int 0), (2, .int 0), (0, .ref 52), (1, .int n)]) (st2 := []) (M2 := M) rfl ⟨(by decide), trivial⟩ ?_
  have hJ4 : ∀ (n_ : Nat) (y2_4 : Int32) (j4 : Nat), (j4 ≤ ix n) → (ix n - j4 < n_) → (y2_4 = 0 ∨ y2_4 = 1) → f_X7_some M n = f_X7_some_4 n M n_ y2_4 j4 → V G X 4 0 0 (Qx G X 0 0 (p_X7_some M n)) 4 [(0, .ref 52), (1, .int n), (2, .int y2_4), (3, .int (nI j4))] [] M := by
    intro n_
    induction n_ with
    | zero => intro y2_4 j4 b4 m4 zz4 E; omega
    | succ n_ ih_4 =>
      intro y2_4 j4 b4 m4 zz4 E
      rw [f_X7_some_4] at E
      refine V.seg F floX7 cjoX7 [.iload_n 3, .iload_n 1] (by decide +kernel) (pc2 := 6) (lv2 := [(0, .ref 52), (1, .int n), (2, .int y2_4), (3, .int (nI j4))]) (st2 := [.int n, .int (nI j4)]) (M2 := M) rfl ⟨trivial, trivial, trivial⟩ ?_
      refine V.ic_ge (off := 28) F (by decide +kernel) (tgt := 34) (by decide) (fun h6 => ?_) (fun h6 => ?_)
      · replace E := E.trans (if_pos h6)
        refine V.seg F floX7 cjoX7 [.iload_n 2] (by decide +kernel) (pc2 := 35) (lv2 := [(0, .ref 52), (1, .int n), (2, .int y2_4), (3, .int (nI j4))]) (st2 := [.int y2_4]) (M2 := M) rfl ⟨trivial, trivial⟩ ?_
        exact V.zret F ((by first | assumption | decide)) (by decide +kernel) ⟨congrArg (fun z => some (Value.int z)) E.symm, rfl, by rw [E]; exact (by first | assumption | decide)⟩
      · replace E := E.trans (if_neg h6)
        refine V.seg F floX7 cjoX7 [.iload_n 2] (by decide +kernel) (pc2 := 10) (lv2 := [(0, .ref 52), (1, .int n), (2, .int y2_4), (3, .int (nI j4))]) (st2 := [.int y2_4]) (M2 := M) rfl ⟨trivial, trivial⟩ ?_
        have hJ27 : ∀ (w0_27 : Int32), (w0_27 = 0 ∨ w0_27 = 1) → f_X7_some M n = f_X7_some_27 j4 (f_X7_some_4 n M n_) w0_27 → V G X 4 0 0 (Qx G X 0 0 (p_X7_some M n)) 27 [(0, .ref 52), (1, .int n), (3, .int (nI j4))] [.int w0_27] M := by
          intro w0_27 zw0_27 E
          refine V.seg F floX7 cjoX7 [.istore_n 2, .iinc 3 1, .goto (-27)] (by decide +kernel) (pc2 := 4) (lv2 := [(3, .int ((nI j4) + 1)), (2, .int w0_27), (0, .ref 52), (1, .int n)]) (st2 := []) (M2 := M) rfl ⟨(by decide), (by decide), (by decide), trivial⟩ ?_
          refine V.pick [2, 3, 1, 0] rfl ?_
          rw [nI_1]
          exact ih_4 w0_27 (j4 + 1) (by have le_ := c_n.2; have hlt_ := cnt_lt (n := ix n) h6 c_n.1 (by omega) (by omega); omega) (by have le_ := c_n.2; have hlt_ := cnt_lt (n := ix n) h6 c_n.1 (by omega) (by omega); omega) (by exact zw0_27) E
        have hJ22 : f_X7_some M n = f_X7_some_22 j4 (f_X7_some_4 n M n_) → V G X 4 0 0 (Qx G X 0 0 (p_X7_some M n)) 22 [(0, .ref 52), (1, .int n), (3, .int (nI j4))] [] M := by
          intro E
          refine V.seg F floX7 cjoX7 [.iconst 1, .goto 4] (by decide +kernel) (pc2 := 27) (lv2 := [(0, .ref 52), (1, .int n), (3, .int (nI j4))]) (st2 := [.int 1]) (M2 := M) rfl ⟨trivial, (by decide), trivial⟩ ?_
          refine V.pick [0, 1, 2] rfl ?_
          exact hJ27 1 (Or.inr rfl) E
        refine V.if_ne (off := 12) F (by decide +kernel) (tgt := 22) (by decide) (fun h10 => ?_) (fun h10 => ?_)
        · replace E := E.trans (if_neg h10)
          refine V.pick [0, 1, 3] rfl ?_
          exact hJ22   E
        · replace E := E.trans (if_pos h10)
          refine V.seg F floX7 cjoX7 [.aload_n 0, .getfield 60, .iload_n 3, .baload] (by decide +kernel) (pc2 := 19) (lv2 := [(0, .ref 52), (1, .int n), (2, .int y2_4), (3, .int (nI j4))]) (st2 := [.int (mI M 69 (ix (nI j4)))]) (M2 := M) rfl ⟨trivial, (q.f 52 7 19 rfl), trivial, (q.a 69 21 32 rfl (vp_in_nI (by have le_ := c_n.2; have hlt_ := cnt_lt (n := ix n) h6 c_n.1 (by omega) (by omega); omega) (by decide))), trivial⟩ ?_
          refine V.if_eq (off := 7) F (by decide +kernel) (tgt := 26) (by decide) (fun h19 => ?_) (fun h19 => ?_)
          · replace E := E.trans (if_pos h19)
            refine V.seg F floX7 cjoX7 [.iconst 0] (by decide +kernel) (pc2 := 27) (lv2 := [(0, .ref 52), (1, .int n), (2, .int y2_4), (3, .int (nI j4))]) (st2 := [.int 0]) (M2 := M) rfl ⟨trivial, trivial⟩ ?_
            refine V.pick [0, 1, 3] rfl ?_
            exact hJ27 0 (Or.inl rfl) E
          · replace E := E.trans (if_neg h19)
            refine V.pick [0, 1, 3] rfl ?_
            exact hJ22   E
  refine V.pick [2, 3, 1, 0] rfl ?_
  exact hJ4 _ 0 0 (by omega) (by omega) (by exact Or.inl rfl) E
def f_X7_look_c82  (M82 : Mem) : Mem := M82
def f_X7_look_66 (j8 : Nat) (R8_ : Nat → Mem → Mem) (M66 : Mem) : Mem := R8_ (j8 + 1) M66
def f_X7_look_c66 (j8 : Nat) (R8_ : Nat → Mem → Mem) (M66 : Mem) : Mem := f_X7_look_66 j8 R8_ M66
def f_X7_look_c58 (j8 : Nat) (R8_ : Nat → Mem → Mem) (M58 : Mem) : Mem := f_X7_look_c66 j8 R8_ (f_X7_copy M58 19 25)
def f_X7_look_c48 (j8 : Nat) (R8_ : Nat → Mem → Mem) (M48 : Mem) : Mem := f_X7_look_c58 j8 R8_ (f_X7_join M48 19 20 25)
def f_X7_look_8 (a : Int32) (t : Int32) : Nat → Nat → Mem → Mem
  | 0, _, M8 => M8
  | n_ + 1, j8, M8 => if (mI M8 64 (ix t)) ≤ (nI j8) then f_X7_look_c82 (f_X7_copy M8 (48 + a) 19) else if (f_X7_isIn M8 (40 + a) (Int32.toInt64 (nI j8))) = 0 then f_X7_look_66 j8 (f_X7_look_8 a t n_) M8 else f_X7_look_c48 j8 (f_X7_look_8 a t n_) (f_X7_number M8 20 (mL M8 65 (ix ((16 * t) + (nI j8)))))
def f_X7_look_c6 (a : Int32) (t : Int32) (M : Mem) (M6 : Mem) : Mem := f_X7_look_8 a t (ix (mI M 64 (ix t)) + 1) 0 M6
def f_X7_look (M : Mem) (a : Int32) (t : Int32) : Mem := f_X7_look_c6 a t M (f_X7_nothing M 19)
abbrev p_X7_look (M : Mem) (a : Int32) (t : Int32) : Option Value → Mem → Prop := fun r N => r = none ∧ N = f_X7_look M a t ∧ SK wg M N
set_option maxRecDepth 100000 in
set_option maxHeartbeats 4000000 in
theorem c_X7_look (G : Ctx) (l : Launch) (M : Mem) (a : Int32) (t : Int32) (q : Ok M) (gb : Gb M) (i_a : vp_in a 8) (i_t : vp_in t 4) (cT : cn (mI M 64 (ix t)) 16) : CT G l 5 mX7_look [.ref 52, .int a, .int t] M 0 0 (p_X7_look M a t) := by
  refine CT.of (by decide) (Nat.le_of_ble_eq_true rfl) ?_
  intro X d hd hl hRm hnm F
  subst hl
  have E : f_X7_look M a t = f_X7_look M a t := rfl
  show V G X 4 0 0 (Qx G X 0 0 (p_X7_look M a t)) 0 [(0, .ref 52), (1, .int a), (2, .int t)] [] M
  refine V.seg F floX7 cjoX7 [.aload_n 0, .bipush 19] (by decide +kernel) (pc2 := 3) (lv2 := [(0, .ref 52), (1, .int a), (2, .int t)]) (st2 := [.int 19, .ref 52]) (M2 := M) rfl ⟨trivial, trivial, trivial⟩ ?_
  refine V.callV (as := [.int 19]) (rest := []) F (by decide +kernel) lX7_115 bX7_nothing ⟨7, _, (q.o 52 7 rfl), rfl, rfl⟩ (c_X7_nothing G X.2.1 M 19 q gb (vinc (by decide))) (rm_ok hRm hd (by decide) (by decide)) ⟨Nat.zero_le _, Nat.zero_le _⟩ (Nat.le_of_ble_eq_true rfl) (fun r_ N_ p_ => ?_)
  obtain ⟨rfl, rfl, t3⟩ := p_
  refine (?_ : ∀ (M6 : Mem), (SK wg M M6) → f_X7_look M a t = f_X7_look_c6 a t M M6 → V G X 4 0 0 (Qx G X 0 0 (p_X7_look M a t)) 6 [(0, .ref 52), (1, .int a), (2, .int t)] [] M6) _ t3 E
  intro M6 s6 E
  refine V.seg F floX7 cjoX7 [.iconst 0] (by decide +kernel) (pc2 := 7) (lv2 := [(0, .ref 52), (1, .int a), (2, .int t)]) (st2 := [.int 0]) (M2 := M6) rfl ⟨trivial, trivial⟩ ?_
  refine V.seg F floX7 cjoX7 [.istore_n 3] (by decide +kernel) (pc2 := 8) (lv2 := [(3, .int 0), (0, .ref 52), (1, .int a), (2, .int t)]) (st2 := []) (M2 := M6) rfl ⟨(by decide), trivial⟩ ?_
  have hJ8 : ∀ (n_ : Nat) (j8 : Nat) (M8 : Mem), (SK wg M M8) → (j8 ≤ ix (mI M 64 (ix t))) → (ix (mI M 64 (ix t)) - j8 < n_) → f_X7_look M a t = f_X7_look_8 a t n_ j8 M8 → V G X 4 0 0 (Qx G X 0 0 (p_X7_look M a t)) 8 [(0, .ref 52), (1, .int a), (2, .int t), (3, .int (nI j8))] [] M8 := by
    intro n_
    induction n_ with
    | zero => intro j8 M8 s8 b8 m8 E; omega
    | succ n_ ih_8 =>
      intro j8 M8 s8 b8 m8 E
      rw [f_X7_look_8] at E
      refine V.seg F floX7 cjoX7 [.iload_n 3, .aload_n 0, .getfield 45, .iload_n 2, .iaload] (by decide +kernel) (pc2 := 15) (lv2 := [(0, .ref 52), (1, .int a), (2, .int t), (3, .int (nI j8))]) (st2 := [.int (mI M8 64 (ix t)), .int (nI j8)]) (M2 := M8) rfl ⟨trivial, trivial, ((q.sm s8.1).f 52 7 14 rfl), trivial, ((q.sm s8.1).a 64 20 4 rfl i_t), trivial⟩ ?_
      refine V.ic_ge (off := 57) F (by decide +kernel) (tgt := 72) (by decide) (fun h15 => ?_) (fun h15 => ?_)
      · replace E := E.trans (if_pos h15)
        refine V.seg F floX7 cjoX7 [.aload_n 0, .bipush 48, .iload_n 1, .iadd, .bipush 19] (by decide +kernel) (pc2 := 79) (lv2 := [(0, .ref 52), (1, .int a), (2, .int t), (3, .int (nI j8))]) (st2 := [.int 19, .int (48 + a), .ref 52]) (M2 := M8) rfl ⟨trivial, trivial, trivial, trivial, trivial, trivial⟩ ?_
        refine V.callV (as := [.int (48 + a), .int 19]) (rest := []) F (by decide +kernel) lX7_133 bX7_copy ⟨7, _, ((q.sm s8.1).o 52 7 rfl), rfl, rfl⟩ (c_X7_copy G X.2.1 M8 (48 + a) 19 (q.sm s8.1) s8.2.1 (v48 i_a) (vinc (by decide))) (rm_ok hRm hd (by decide) (by decide)) ⟨Nat.zero_le _, Nat.zero_le _⟩ (Nat.le_of_ble_eq_true rfl) (fun r_ N_ p_ => ?_)
        obtain ⟨rfl, rfl, t79⟩ := p_
        refine (?_ : ∀ (M82 : Mem), (SK wg M M82) → f_X7_look M a t = f_X7_look_c82 M82 → V G X 4 0 0 (Qx G X 0 0 (p_X7_look M a t)) 82 [(0, .ref 52), (1, .int a), (2, .int t), (3, .int (nI j8))] [] M82) _ (SK.tr s8 t79) E
        intro M82 s82 E
        exact V.vret F (by decide +kernel) ⟨rfl, E.symm, s82⟩
      · replace E := E.trans (if_neg h15)
        refine V.seg F floX7 cjoX7 [.aload_n 0, .bipush 40, .iload_n 1, .iadd, .iload_n 3, .i2l] (by decide +kernel) (pc2 := 25) (lv2 := [(0, .ref 52), (1, .int a), (2, .int t), (3, .int (nI j8))]) (st2 := [.long (Int32.toInt64 (nI j8)), .int (40 + a), .ref 52]) (M2 := M8) rfl ⟨trivial, trivial, trivial, trivial, trivial, trivial, trivial⟩ ?_
        refine V.callV (as := [.int (40 + a), .long (Int32.toInt64 (nI j8))]) (rest := []) F (by decide +kernel) lX7_251 bX7_isIn ⟨7, _, ((q.sm s8.1).o 52 7 rfl), rfl, rfl⟩ (c_X7_isIn G X.2.1 M8 (40 + a) (Int32.toInt64 (nI j8)) (q.sm s8.1) s8.2.1 (v40 i_a)) (rm_ok hRm hd (by decide) (by decide)) ⟨Nat.zero_le _, Nat.zero_le _⟩ (Nat.le_of_ble_eq_true rfl) (fun r_ N_ p_ => ?_)
        obtain ⟨rfl, hN_, z25⟩ := p_
        rw [hN_]
        clear hN_
        have hJ66 : ∀ (M66 : Mem), (SK wg M M66) → f_X7_look M a t = f_X7_look_66 j8 (f_X7_look_8 a t n_) M66 → V G X 4 0 0 (Qx G X 0 0 (p_X7_look M a t)) 66 [(0, .ref 52), (1, .int a), (2, .int t), (3, .int (nI j8))] [] M66 := by
          intro M66 s66 E
          refine V.seg F floX7 cjoX7 [.iinc 3 1, .goto (-61)] (by decide +kernel) (pc2 := 8) (lv2 := [(3, .int ((nI j8) + 1)), (0, .ref 52), (1, .int a), (2, .int t)]) (st2 := []) (M2 := M66) rfl ⟨(by decide), (by decide), trivial⟩ ?_
          refine V.pick [1, 2, 3, 0] rfl ?_
          rw [nI_1]
          exact ih_8 (j8 + 1) M66 s66 (by have le_ := cT.2; have hlt_ := cnt_lt (n := ix (mI M 64 (ix t))) h15 ((s8.2.2 64 _ rfl).1.trans cT.1) (by omega) (by omega); omega) (by have le_ := cT.2; have hlt_ := cnt_lt (n := ix (mI M 64 (ix t))) h15 ((s8.2.2 64 _ rfl).1.trans cT.1) (by omega) (by omega); omega) E
        refine V.if_eq (off := 38) F (by decide +kernel) (tgt := 66) (by decide) (fun h28 => ?_) (fun h28 => ?_)
        · replace E := E.trans (if_pos h28)
          refine V.pick [0, 1, 2, 3] rfl ?_
          exact hJ66 M8 s8 E
        · replace E := E.trans (if_neg h28)
          refine V.seg F floX7 cjoX7 [.aload_n 0, .bipush 20, .aload_n 0, .getfield 48, .bipush 16, .iload_n 2, .imul, .iload_n 3, .iadd, .laload] (by decide +kernel) (pc2 := 45) (lv2 := [(0, .ref 52), (1, .int a), (2, .int t), (3, .int (nI j8))]) (st2 := [.long (mL M8 65 (ix ((16 * t) + (nI j8)))), .int 20, .ref 52]) (M2 := M8) rfl ⟨trivial, trivial, trivial, ((q.sm s8.1).f 52 7 15 rfl), trivial, trivial, trivial, trivial, trivial, ((q.sm s8.1).a 65 22 64 rfl (tb_in i_t (vp_in_nI (by have le_ := cT.2; have hlt_ := cnt_lt (n := ix (mI M 64 (ix t))) h15 ((s8.2.2 64 _ rfl).1.trans cT.1) (by omega) (by omega); omega) (by decide)))), trivial⟩ ?_
          refine V.callV (as := [.int 20, .long (mL M8 65 (ix ((16 * t) + (nI j8))))]) (rest := []) F (by decide +kernel) lX7_118 bX7_number ⟨7, _, ((q.sm s8.1).o 52 7 rfl), rfl, rfl⟩ (c_X7_number G X.2.1 M8 20 (mL M8 65 (ix ((16 * t) + (nI j8)))) (q.sm s8.1) s8.2.1 (vinc (by decide))) (rm_ok hRm hd (by decide) (by decide)) ⟨Nat.zero_le _, Nat.zero_le _⟩ (Nat.le_of_ble_eq_true rfl) (fun r_ N_ p_ => ?_)
          obtain ⟨rfl, rfl, t45⟩ := p_
          refine (?_ : ∀ (M48 : Mem), (SK wg M M48) → f_X7_look M a t = f_X7_look_c48 j8 (f_X7_look_8 a t n_) M48 → V G X 4 0 0 (Qx G X 0 0 (p_X7_look M a t)) 48 [(0, .ref 52), (1, .int a), (2, .int t), (3, .int (nI j8))] [] M48) _ (SK.tr s8 t45) E
          intro M48 s48 E
          refine V.seg F floX7 cjoX7 [.aload_n 0, .bipush 19, .bipush 20, .bipush 25] (by decide +kernel) (pc2 := 55) (lv2 := [(0, .ref 52), (1, .int a), (2, .int t), (3, .int (nI j8))]) (st2 := [.int 25, .int 20, .int 19, .ref 52]) (M2 := M48) rfl ⟨trivial, trivial, trivial, trivial, trivial⟩ ?_
          refine V.callV (as := [.int 19, .int 20, .int 25]) (rest := []) F (by decide +kernel) lX7_229 bX7_join ⟨7, _, ((q.sm s48.1).o 52 7 rfl), rfl, rfl⟩ (c_X7_join G X.2.1 M48 19 20 25 (q.sm s48.1) s48.2.1 (vinc (by decide)) (vinc (by decide)) (vinc (by decide))) (rm_ok hRm hd (by decide) (by decide)) ⟨Nat.zero_le _, Nat.zero_le _⟩ (Nat.le_of_ble_eq_true rfl) (fun r_ N_ p_ => ?_)
          obtain ⟨rfl, rfl, t55⟩ := p_
          refine (?_ : ∀ (M58 : Mem), (SK wg M M58) → f_X7_look M a t = f_X7_look_c58 j8 (f_X7_look_8 a t n_) M58 → V G X 4 0 0 (Qx G X 0 0 (p_X7_look M a t)) 58 [(0, .ref 52), (1, .int a), (2, .int t), (3, .int (nI j8))] [] M58) _ (SK.tr s48 t55) E
          intro M58 s58 E
          refine V.seg F floX7 cjoX7 [.aload_n 0, .bipush 19, .bipush 25] (by decide +kernel) (pc2 := 63) (lv2 := [(0, .ref 52), (1, .int a), (2, .int t), (3, .int (nI j8))]) (st2 := [.int 25, .int 19, .ref 52]) (M2 := M58) rfl ⟨trivial, trivial, trivial, trivial⟩ ?_
          refine V.callV (as := [.int 19, .int 25]) (rest := []) F (by decide +kernel) lX7_133 bX7_copy ⟨7, _, ((q.sm s58.1).o 52 7 rfl), rfl, rfl⟩ (c_X7_copy G X.2.1 M58 19 25 (q.sm s58.1) s58.2.1 (vinc (by decide)) (vinc (by decide))) (rm_ok hRm hd (by decide) (by decide)) ⟨Nat.zero_le _, Nat.zero_le _⟩ (Nat.le_of_ble_eq_true rfl) (fun r_ N_ p_ => ?_)
          obtain ⟨rfl, rfl, t63⟩ := p_
          refine (?_ : ∀ (M66 : Mem), (SK wg M M66) → f_X7_look M a t = f_X7_look_c66 j8 (f_X7_look_8 a t n_) M66 → V G X 4 0 0 (Qx G X 0 0 (p_X7_look M a t)) 66 [(0, .ref 52), (1, .int a), (2, .int t), (3, .int (nI j8))] [] M66) _ (SK.tr s58 t63) E
          intro M66 s66 E
          refine V.pick [0, 1, 2, 3] rfl ?_
          exact hJ66 M66 s66 E
  refine V.pick [1, 2, 3, 0] rfl ?_
  exact hJ8 _ 0 M6 s6 (by omega) (by omega) E
def f_X7_goTo_241 (m : Int32) (ln : Int32) (w0_241 : Int32) (M241 : Mem) : Mem := uI (uI M241 69 (ix ln) w0_241) 67 (ix ((32 * m) + ln)) 1
def f_X7_goTo_236 (m : Int32) (ln : Int32) (M236 : Mem) : Mem := f_X7_goTo_241 m ln 1 M236
def f_X7_goTo_206 (j71 : Nat) (R71_ : Nat → Mem → Mem) (M206 : Mem) : Mem := R71_ (j71 + 1) M206
def f_X7_goTo_205 (ln : Int32) (j71 : Nat) (R71_ : Nat → Mem → Mem) (w0_205 : Int32) (M205 : Mem) : Mem := f_X7_goTo_206 j71 R71_ (uI M205 69 (ix ln) w0_205)
def f_X7_goTo_200 (ln : Int32) (j71 : Nat) (R71_ : Nat → Mem → Mem) (M200 : Mem) : Mem := f_X7_goTo_205 ln j71 R71_ 1 M200
def f_X7_goTo_175 (m : Int32) (ln : Int32) (j71 : Nat) (R71_ : Nat → Mem → Mem) (M175 : Mem) : Mem := if (mI M175 69 (ix ln)) = 0 then if (f_X7_alike M175 25 (f_X7_cell m ln (nI j71))) = 0 then f_X7_goTo_200 ln j71 R71_ M175 else f_X7_goTo_205 ln j71 R71_ 0 M175 else f_X7_goTo_200 ln j71 R71_ M175
def f_X7_goTo_c175 (m : Int32) (ln : Int32) (j71 : Nat) (R71_ : Nat → Mem → Mem) (M175 : Mem) : Mem := f_X7_goTo_175 m ln j71 R71_ M175
def f_X7_goTo_157 (m : Int32) (ln : Int32) (j71 : Nat) (R71_ : Nat → Mem → Mem) (M157 : Mem) : Mem := if (mI M157 53 (ix (f_X7_cell m ln (nI j71)))) = 0 then f_X7_goTo_175 m ln j71 R71_ M157 else f_X7_goTo_c175 m ln j71 R71_ (f_X7_copy M157 (f_X7_cell m ln (nI j71)) 25)
def f_X7_goTo_c157 (m : Int32) (ln : Int32) (j71 : Nat) (R71_ : Nat → Mem → Mem) (M157 : Mem) : Mem := f_X7_goTo_157 m ln j71 R71_ M157
def f_X7_goTo_c133 (m : Int32) (ln : Int32) (j71 : Nat) (R71_ : Nat → Mem → Mem) (M133 : Mem) : Mem := if (mI M133 53 (ix (f_X7_cell m ln (nI j71)))) = 0 then f_X7_goTo_c157 m ln j71 R71_ (f_X7_widen M133 m ((8 * ln) + (nI j71)) (f_X7_cell m ln (nI j71))) else f_X7_goTo_157 m ln j71 R71_ M133
def f_X7_goTo_c120 (m : Int32) (ln : Int32) (j71 : Nat) (R71_ : Nat → Mem → Mem) (M120 : Mem) : Mem := f_X7_goTo_c133 m ln j71 R71_ (f_X7_join M120 25 (48 + (nI j71)) (f_X7_cell m ln (nI j71)))
def f_X7_goTo_c109 (j71 : Nat) (R71_ : Nat → Mem → Mem) (M109 : Mem) : Mem := f_X7_goTo_206 j71 R71_ M109
def f_X7_goTo_71 (m : Int32) (ln : Int32) : Nat → Nat → Mem → Mem
  | 0, _, M71 => M71
  | n71_ + 1, j71, M71 => if 8 ≤ (nI j71) then if (mI M71 69 (ix ln)) = 0 then if (mI M71 67 (ix ((32 * m) + ln))) = 0 then f_X7_goTo_236 m ln M71 else f_X7_goTo_241 m ln 0 M71 else f_X7_goTo_236 m ln M71 else if (mI M71 67 (ix ((32 * m) + ln))) = 0 then f_X7_goTo_c109 j71 (f_X7_goTo_71 m ln n71_) (f_X7_copy M71 (f_X7_cell m ln (nI j71)) (48 + (nI j71))) else f_X7_goTo_c120 m ln j71 (f_X7_goTo_71 m ln n71_) (f_X7_copy M71 25 (f_X7_cell m ln (nI j71)))
def f_X7_goTo_48 (j19 : Nat) (R19_ : Int32 → Nat → Mem → Mem) (w0_48 : Int32) (M48 : Mem) : Mem := R19_ w0_48 (j19 + 1) M48
def f_X7_goTo_47 (j19 : Nat) (R19_ : Int32 → Nat → Mem → Mem) (M47 : Mem) : Mem := f_X7_goTo_48 j19 R19_ 0 M47
def f_X7_goTo_19 (m : Int32) (ln : Int32) : Nat → Int32 → Nat → Mem → Mem
  | 0, _, _, M19 => M19
  | n_ + 1, y3_19, j19, M19 => if 8 ≤ (nI j19) then if y3_19 = 0 then M19 else f_X7_goTo_71 m ln 9 0 M19 else if y3_19 = 0 then f_X7_goTo_47 j19 (f_X7_goTo_19 m ln n_) M19 else if (mI M19 53 (ix (48 + (nI j19)))) = 0 then f_X7_goTo_48 j19 (f_X7_goTo_19 m ln n_) 1 M19 else f_X7_goTo_47 j19 (f_X7_goTo_19 m ln n_) M19
def f_X7_goTo_15 (m : Int32) (ln : Int32) (w0_15 : Int32) (M15 : Mem) : Mem := f_X7_goTo_19 m ln 9 w0_15 0 M15
def f_X7_goTo (M : Mem) (m : Int32) (ln : Int32) : Mem := if (mI M 60 (ix m)) ≤ ln then f_X7_goTo_15 m ln 0 M else f_X7_goTo_15 m ln 1 M
abbrev p_X7_goTo (M : Mem) (m : Int32) (ln : Int32) : Option Value → Mem → Prop := fun r N => r = none ∧ N = f_X7_goTo M m ln ∧ SK wh M N
set_option maxRecDepth 100000 in
set_option maxHeartbeats 4000000 in
theorem c_X7_goTo (G : Ctx) (l : Launch) (M : Mem) (m : Int32) (ln : Int32) (q : Ok M) (gb : Gb M) (i_m : vp_in m 6) (i_l : vp_in ln 34) (cL : cn (mI M 60 (ix m)) 32) : CT G l 5 mX7_goTo [.ref 52, .int m, .int ln] M 0 0 (p_X7_goTo M m ln) := by
  refine CT.of (by decide) (Nat.le_of_ble_eq_true rfl) ?_
  intro X d hd hl hRm hnm F
  subst hl
  have E : f_X7_goTo M m ln = f_X7_goTo M m ln := rfl
  show V G X 7 0 0 (Qx G X 0 0 (p_X7_goTo M m ln)) 0 [(0, .ref 52), (1, .int m), (2, .int ln)] [] M
  refine V.seg F floX7 cjoX7 [.iload_n 2, .aload_n 0, .getfield 32, .iload_n 1, .iaload] (by decide +kernel) (pc2 := 7) (lv2 := [(0, .ref 52), (1, .int m), (2, .int ln)]) (st2 := [.int (mI M 60 (ix m)), .int ln]) (M2 := M) rfl ⟨trivial, trivial, (q.f 52 7 10 rfl), trivial, (q.a 60 20 6 rfl i_m), trivial⟩ ?_
  have hJ15 : ∀ (w0_15 : Int32) (M15 : Mem), (SK wh M M15) → (¬ w0_15 = 0 → vp_in ln 32) → f_X7_goTo M m ln = f_X7_goTo_15 m ln w0_15 M15 → V G X 7 0 0 (Qx G X 0 0 (p_X7_goTo M m ln)) 15 [(0, .ref 52), (1, .int m), (2, .int ln)] [.int w0_15] M15 := by
    intro w0_15 M15 s15 g15 E
    refine V.seg F floX7 cjoX7 [.istore_n 3, .iconst 0] (by decide +kernel) (pc2 := 17) (lv2 := [(3, .int w0_15), (0, .ref 52), (1, .int m), (2, .int ln)]) (st2 := [.int 0]) (M2 := M15) rfl ⟨(by decide), trivial, trivial⟩ ?_
    refine V.seg F floX7 cjoX7 [.istore 4] (by decide +kernel) (pc2 := 19) (lv2 := [(4, .int 0), (3, .int w0_15), (0, .ref 52), (1, .int m), (2, .int ln)]) (st2 := []) (M2 := M15) rfl ⟨(by decide), trivial⟩ ?_
    have hJ19 : ∀ (n_ : Nat) (y3_19 : Int32) (j19 : Nat) (M19 : Mem), (SK wh M M19) → (j19 ≤ 8) → (8 - j19 < n_) → (¬ y3_19 = 0 → vp_in ln 32) → f_X7_goTo M m ln = f_X7_goTo_19 m ln n_ y3_19 j19 M19 → V G X 7 0 0 (Qx G X 0 0 (p_X7_goTo M m ln)) 19 [(0, .ref 52), (1, .int m), (2, .int ln), (3, .int y3_19), (4, .int (nI j19))] [] M19 := by
      intro n_
      induction n_ with
      | zero => intro y3_19 j19 M19 s19 b19 m19 g19 E; omega
      | succ n_ ih_19 =>
        intro y3_19 j19 M19 s19 b19 m19 g19 E
        rw [f_X7_goTo_19] at E
        refine V.seg F floX7 cjoX7 [.iload 4, .bipush 8] (by decide +kernel) (pc2 := 23) (lv2 := [(0, .ref 52), (1, .int m), (2, .int ln), (3, .int y3_19), (4, .int (nI j19))]) (st2 := [.int 8, .int (nI j19)]) (M2 := M19) rfl ⟨trivial, trivial, trivial⟩ ?_
        refine V.ic_ge (off := 32) F (by decide +kernel) (tgt := 55) (by decide) (fun h23 => ?_) (fun h23 => ?_)
        · replace E := E.trans (if_pos h23)
          refine V.seg F floX7 cjoX7 [.iload_n 3] (by decide +kernel) (pc2 := 56) (lv2 := [(0, .ref 52), (1, .int m), (2, .int ln), (3, .int y3_19), (4, .int (nI j19))]) (st2 := [.int y3_19]) (M2 := M19) rfl ⟨trivial, trivial⟩ ?_
          refine V.if_ne (off := 4) F (by decide +kernel) (tgt := 60) (by decide) (fun h56 => ?_) (fun h56 => ?_)
          · replace E := E.trans (if_neg h56)
            refine V.seg F floX7 cjoX7 [.bipush 32, .iload_n 1, .imul, .iload_n 2, .iadd, .istore 4, .iconst 0] (by decide +kernel) (pc2 := 69) (lv2 := [(4, .int ((32 * m) + ln)), (0, .ref 52), (1, .int m), (2, .int ln), (3, .int y3_19)]) (st2 := [.int 0]) (M2 := M19) rfl ⟨trivial, trivial, trivial, trivial, trivial, (by decide), trivial, trivial⟩ ?_
            refine V.seg F floX7 cjoX7 [.istore 5] (by decide +kernel) (pc2 := 71) (lv2 := [(5, .int 0), (4, .int ((32 * m) + ln)), (0, .ref 52), (1, .int m), (2, .int ln), (3, .int y3_19)]) (st2 := []) (M2 := M19) rfl ⟨(by decide), trivial⟩ ?_
            have hJ71 : ∀ (n71_ : Nat) (j71 : Nat) (M71 : Mem), (SK wh M M71) → (j71 ≤ 8) → (8 - j71 < n71_) → f_X7_goTo M m ln = f_X7_goTo_71 m ln n71_ j71 M71 → V G X 7 0 0 (Qx G X 0 0 (p_X7_goTo M m ln)) 71 [(0, .ref 52), (1, .int m), (2, .int ln), (4, .int ((32 * m) + ln)), (5, .int (nI j71))] [] M71 := by
              intro n71_
              induction n71_ with
              | zero => intro j71 M71 s71 b71 m71 E; omega
              | succ n71_ ih_71 =>
                intro j71 M71 s71 b71 m71 E
                rw [f_X7_goTo_71] at E
                refine V.seg F floX7 cjoX7 [.iload 5, .bipush 8] (by decide +kernel) (pc2 := 75) (lv2 := [(0, .ref 52), (1, .int m), (2, .int ln), (4, .int ((32 * m) + ln)), (5, .int (nI j71))]) (st2 := [.int 8, .int (nI j71)]) (M2 := M71) rfl ⟨trivial, trivial, trivial⟩ ?_
                refine V.ic_ge (off := 137) F (by decide +kernel) (tgt := 212) (by decide) (fun h75 => ?_) (fun h75 => ?_)
                · replace E := E.trans (if_pos h75)
                  refine V.seg F floX7 cjoX7 [.aload_n 0, .getfield 60, .iload_n 2, .aload_n 0, .getfield 60, .iload_n 2, .baload] (by decide +kernel) (pc2 := 223) (lv2 := [(0, .ref 52), (1, .int m), (2, .int ln), (4, .int ((32 * m) + ln)), (5, .int (nI j71))]) (st2 := [.int (mI M71 69 (ix ln)), .int ln, .ref 69]) (M2 := M71) rfl ⟨trivial, ((q.sm s71.1).f 52 7 19 rfl), trivial, trivial, ((q.sm s71.1).f 52 7 19 rfl), trivial, ((q.sm s71.1).a 69 21 32 rfl (g19 h56)), trivial⟩ ?_
                  have hJ241 : ∀ (w0_241 : Int32) (M241 : Mem), (SK wh M M241) → (w0_241 = 0 ∨ w0_241 = 1) → f_X7_goTo M m ln = f_X7_goTo_241 m ln w0_241 M241 → V G X 7 0 0 (Qx G X 0 0 (p_X7_goTo M m ln)) 241 [(0, .ref 52), (4, .int ((32 * m) + ln))] [.int w0_241, .int ln, .ref 69] M241 := by
                    intro w0_241 M241 s241 zw0_241 E
                    refine V.seg F floX7 cjoX7 [.bastore, .aload_n 0, .getfield 54, .iload 4, .iconst 1, .bastore] (by decide +kernel) (pc2 := 250) (lv2 := [(0, .ref 52), (4, .int ((32 * m) + ln))]) (st2 := []) (M2 := uI (uI M241 69 (ix ln) w0_241) 67 (ix ((32 * m) + ln)) 1) rfl ⟨⟨((q.sm s241.1).a 69 21 32 rfl (g19 h56)), zw0_241⟩, trivial, ((q.sm (SK.pI s241 rfl).1).f 52 7 17 rfl), trivial, trivial, ⟨((q.sm (SK.pI s241 rfl).1).a 67 21 192 rfl (rl_in i_m (g19 h56))), Or.inr rfl⟩, trivial⟩ ?_
                    exact V.vret F (by decide +kernel) ⟨rfl, E.symm, (SK.pI (SK.pI s241 rfl) rfl)⟩
                  have hJ236 : ∀ (M236 : Mem), (SK wh M M236) → f_X7_goTo M m ln = f_X7_goTo_236 m ln M236 → V G X 7 0 0 (Qx G X 0 0 (p_X7_goTo M m ln)) 236 [(0, .ref 52), (4, .int ((32 * m) + ln))] [.int ln, .ref 69] M236 := by
                    intro M236 s236 E
                    refine V.seg F floX7 cjoX7 [.iconst 1, .goto 4] (by decide +kernel) (pc2 := 241) (lv2 := [(0, .ref 52), (4, .int ((32 * m) + ln))]) (st2 := [.int 1, .int ln, .ref 69]) (M2 := M236) rfl ⟨trivial, (by decide), trivial⟩ ?_
                    refine V.pick [0, 1] rfl ?_
                    exact hJ241 1 M236 s236 (Or.inr rfl) E
                  refine V.if_ne (off := 13) F (by decide +kernel) (tgt := 236) (by decide) (fun h223 => ?_) (fun h223 => ?_)
                  · replace E := E.trans (if_neg h223)
                    refine V.pick [0, 3] rfl ?_
                    exact hJ236 M71 s71 E
                  · replace E := E.trans (if_pos h223)
                    refine V.seg F floX7 cjoX7 [.aload_n 0, .getfield 54, .iload 4, .baload] (by decide +kernel) (pc2 := 233) (lv2 := [(0, .ref 52), (1, .int m), (2, .int ln), (4, .int ((32 * m) + ln)), (5, .int (nI j71))]) (st2 := [.int (mI M71 67 (ix ((32 * m) + ln))), .int ln, .ref 69]) (M2 := M71) rfl ⟨trivial, ((q.sm s71.1).f 52 7 17 rfl), trivial, ((q.sm s71.1).a 67 21 192 rfl (rl_in i_m (g19 h56))), trivial⟩ ?_
                    refine V.if_ne (off := 7) F (by decide +kernel) (tgt := 240) (by decide) (fun h233 => ?_) (fun h233 => ?_)
                    · replace E := E.trans (if_neg h233)
                      refine V.seg F floX7 cjoX7 [.iconst 0] (by decide +kernel) (pc2 := 241) (lv2 := [(0, .ref 52), (1, .int m), (2, .int ln), (4, .int ((32 * m) + ln)), (5, .int (nI j71))]) (st2 := [.int 0, .int ln, .ref 69]) (M2 := M71) rfl ⟨trivial, trivial⟩ ?_
                      refine V.pick [0, 3] rfl ?_
                      exact hJ241 0 M71 s71 (Or.inl rfl) E
                    · replace E := E.trans (if_pos h233)
                      refine V.pick [0, 3] rfl ?_
                      exact hJ236 M71 s71 E
                · replace E := E.trans (if_neg h75)
                  refine V.seg F floX7 cjoX7 [.aload_n 0, .iload_n 1, .iload_n 2, .iload 5] (by decide +kernel) (pc2 := 83) (lv2 := [(0, .ref 52), (1, .int m), (2, .int ln), (4, .int ((32 * m) + ln)), (5, .int (nI j71))]) (st2 := [.int (nI j71), .int ln, .int m, .ref 52]) (M2 := M71) rfl ⟨trivial, trivial, trivial, trivial, trivial⟩ ?_
                  refine V.callV (as := [.int m, .int ln, .int (nI j71)]) (rest := []) F (by decide +kernel) lX7_276 bX7_cell ⟨7, _, ((q.sm s71.1).o 52 7 rfl), rfl, rfl⟩ (c_X7_cell G X.2.1 M71 m ln (nI j71) (q.sm s71.1) s71.2.1) (rm_ok hRm hd (by decide) (by decide)) ⟨Nat.zero_le _, Nat.zero_le _⟩ (Nat.le_of_ble_eq_true rfl) (fun r_ N_ p_ => ?_)
                  obtain ⟨rfl, hN_⟩ := p_
                  rw [hN_]
                  clear hN_
                  refine V.seg F floX7 cjoX7 [.istore 6, .aload_n 0, .getfield 54, .iload 4, .baload] (by decide +kernel) (pc2 := 95) (lv2 := [(6, .int (f_X7_cell m ln (nI j71))), (0, .ref 52), (1, .int m), (2, .int ln), (4, .int ((32 * m) + ln)), (5, .int (nI j71))]) (st2 := [.int (mI M71 67 (ix ((32 * m) + ln)))]) (M2 := M71) rfl ⟨(by decide), trivial, ((q.sm s71.1).f 52 7 17 rfl), trivial, ((q.sm s71.1).a 67 21 192 rfl (rl_in i_m (g19 h56))), trivial⟩ ?_
                  have hJ206 : ∀ (M206 : Mem), (SK wh M M206) → f_X7_goTo M m ln = f_X7_goTo_206 j71 (f_X7_goTo_71 m ln n71_) M206 → V G X 7 0 0 (Qx G X 0 0 (p_X7_goTo M m ln)) 206 [(0, .ref 52), (1, .int m), (2, .int ln), (4, .int ((32 * m) + ln)), (5, .int (nI j71))] [] M206 := by
                    intro M206 s206 E
                    refine V.seg F floX7 cjoX7 [.iinc 5 1, .goto (-138)] (by decide +kernel) (pc2 := 71) (lv2 := [(5, .int ((nI j71) + 1)), (0, .ref 52), (1, .int m), (2, .int ln), (4, .int ((32 * m) + ln))]) (st2 := []) (M2 := M206) rfl ⟨(by decide), (by decide), trivial⟩ ?_
                    refine V.pick [1, 2, 3, 4, 0] rfl ?_
                    rw [nI_1]
                    exact ih_71 (j71 + 1) M206 s206 (by have hlt_ := cnt_lt (n := 8) h75 rfl (by omega) (by decide); omega) (by have hlt_ := cnt_lt (n := 8) h75 rfl (by omega) (by decide); omega) E
                  refine V.if_ne (off := 17) F (by decide +kernel) (tgt := 112) (by decide) (fun h95 => ?_) (fun h95 => ?_)
                  · replace E := E.trans (if_neg h95)
                    refine V.seg F floX7 cjoX7 [.aload_n 0, .bipush 25, .iload 6] (by decide +kernel) (pc2 := 117) (lv2 := [(6, .int (f_X7_cell m ln (nI j71))), (0, .ref 52), (1, .int m), (2, .int ln), (4, .int ((32 * m) + ln)), (5, .int (nI j71))]) (st2 := [.int (f_X7_cell m ln (nI j71)), .int 25, .ref 52]) (M2 := M71) rfl ⟨trivial, trivial, trivial, trivial⟩ ?_
                    refine V.callV (as := [.int 25, .int (f_X7_cell m ln (nI j71))]) (rest := []) F (by decide +kernel) lX7_133 bX7_copy ⟨7, _, ((q.sm s71.1).o 52 7 rfl), rfl, rfl⟩ (c_X7_copy G X.2.1 M71 25 (f_X7_cell m ln (nI j71)) (q.sm s71.1) s71.2.1 (vinc (by decide)) (cell_in i_m (g19 h56) (vnj (cnt_lt (n := 8) h75 rfl (by omega) (by decide)) (by decide) (by decide)))) (rm_ok hRm hd (by decide) (by decide)) ⟨Nat.zero_le _, Nat.zero_le _⟩ (Nat.le_of_ble_eq_true rfl) (fun r_ N_ p_ => ?_)
                    obtain ⟨rfl, rfl, t117⟩ := p_
                    refine (?_ : ∀ (M120 : Mem), (SK wh M M120) → f_X7_goTo M m ln = f_X7_goTo_c120 m ln j71 (f_X7_goTo_71 m ln n71_) M120 → V G X 7 0 0 (Qx G X 0 0 (p_X7_goTo M m ln)) 120 [(6, .int (f_X7_cell m ln (nI j71))), (0, .ref 52), (1, .int m), (2, .int ln), (4, .int ((32 * m) + ln)), (5, .int (nI j71))] [] M120) _ (SK.tr s71 (t117.mono sub_wg_wh)) E
                    intro M120 s120 E
                    refine V.seg F floX7 cjoX7 [.aload_n 0, .bipush 25, .bipush 48, .iload 5, .iadd, .iload 6] (by decide +kernel) (pc2 := 130) (lv2 := [(6, .int (f_X7_cell m ln (nI j71))), (0, .ref 52), (1, .int m), (2, .int ln), (4, .int ((32 * m) + ln)), (5, .int (nI j71))]) (st2 := [.int (f_X7_cell m ln (nI j71)), .int (48 + (nI j71)), .int 25, .ref 52]) (M2 := M120) rfl ⟨trivial, trivial, trivial, trivial, trivial, trivial, trivial⟩ ?_
                    refine V.callV (as := [.int 25, .int (48 + (nI j71)), .int (f_X7_cell m ln (nI j71))]) (rest := []) F (by decide +kernel) lX7_229 bX7_join ⟨7, _, ((q.sm s120.1).o 52 7 rfl), rfl, rfl⟩ (c_X7_join G X.2.1 M120 25 (48 + (nI j71)) (f_X7_cell m ln (nI j71)) (q.sm s120.1) s120.2.1 (vinc (by decide)) (v48 (vnj (cnt_lt (n := 8) h75 rfl (by omega) (by decide)) (by decide) (by decide))) (cell_in i_m (g19 h56) (vnj (cnt_lt (n := 8) h75 rfl (by omega) (by decide)) (by decide) (by decide)))) (rm_ok hRm hd (by decide) (by decide)) ⟨Nat.zero_le _, Nat.zero_le _⟩ (Nat.le_of_ble_eq_true rfl) (fun r_ N_ p_ => ?_)
                    obtain ⟨rfl, rfl, t130⟩ := p_
                    refine (?_ : ∀ (M133 : Mem), (SK wh M M133) → f_X7_goTo M m ln = f_X7_goTo_c133 m ln j71 (f_X7_goTo_71 m ln n71_) M133 → V G X 7 0 0 (Qx G X 0 0 (p_X7_goTo M m ln)) 133 [(6, .int (f_X7_cell m ln (nI j71))), (0, .ref 52), (1, .int m), (2, .int ln), (4, .int ((32 * m) + ln)), (5, .int (nI j71))] [] M133) _ (SK.tr s120 (t130.mono sub_wg_wh)) E
                    intro M133 s133 E
                    refine V.seg F floX7 cjoX7 [.aload_n 0, .getfield 9, .iload 6, .baload] (by decide +kernel) (pc2 := 140) (lv2 := [(6, .int (f_X7_cell m ln (nI j71))), (0, .ref 52), (1, .int m), (2, .int ln), (4, .int ((32 * m) + ln)), (5, .int (nI j71))]) (st2 := [.int (mI M133 53 (ix (f_X7_cell m ln (nI j71))))]) (M2 := M133) rfl ⟨trivial, ((q.sm s133.1).f 52 7 0 rfl), trivial, ((q.sm s133.1).a 53 21 1648 rfl (cell_in i_m (g19 h56) (vnj (cnt_lt (n := 8) h75 rfl (by omega) (by decide)) (by decide) (by decide)))), trivial⟩ ?_
                    have hJ157 : ∀ (M157 : Mem), (SK wh M M157) → f_X7_goTo M m ln = f_X7_goTo_157 m ln j71 (f_X7_goTo_71 m ln n71_) M157 → V G X 7 0 0 (Qx G X 0 0 (p_X7_goTo M m ln)) 157 [(0, .ref 52), (1, .int m), (2, .int ln), (4, .int ((32 * m) + ln)), (5, .int (nI j71)), (6, .int (f_X7_cell m ln (nI j71)))] [] M157 := by
                      intro M157 s157 E
                      refine V.seg F floX7 cjoX7 [.aload_n 0, .getfield 9, .iload 6, .baload] (by decide +kernel) (pc2 := 164) (lv2 := [(0, .ref 52), (1, .int m), (2, .int ln), (4, .int ((32 * m) + ln)), (5, .int (nI j71)), (6, .int (f_X7_cell m ln (nI j71)))]) (st2 := [.int (mI M157 53 (ix (f_X7_cell m ln (nI j71))))]) (M2 := M157) rfl ⟨trivial, ((q.sm s157.1).f 52 7 0 rfl), trivial, ((q.sm s157.1).a 53 21 1648 rfl (cell_in i_m (g19 h56) (vnj (cnt_lt (n := 8) h75 rfl (by omega) (by decide)) (by decide) (by decide)))), trivial⟩ ?_
                      have hJ175 : ∀ (M175 : Mem), (SK wh M M175) → f_X7_goTo M m ln = f_X7_goTo_175 m ln j71 (f_X7_goTo_71 m ln n71_) M175 → V G X 7 0 0 (Qx G X 0 0 (p_X7_goTo M m ln)) 175 [(0, .ref 52), (1, .int m), (2, .int ln), (4, .int ((32 * m) + ln)), (5, .int (nI j71)), (6, .int (f_X7_cell m ln (nI j71)))] [] M175 := by
                        intro M175 s175 E
                        refine V.seg F floX7 cjoX7 [.aload_n 0, .getfield 60, .iload_n 2, .aload_n 0, .getfield 60, .iload_n 2, .baload] (by decide +kernel) (pc2 := 186) (lv2 := [(0, .ref 52), (1, .int m), (2, .int ln), (4, .int ((32 * m) + ln)), (5, .int (nI j71)), (6, .int (f_X7_cell m ln (nI j71)))]) (st2 := [.int (mI M175 69 (ix ln)), .int ln, .ref 69]) (M2 := M175) rfl ⟨trivial, ((q.sm s175.1).f 52 7 19 rfl), trivial, trivial, ((q.sm s175.1).f 52 7 19 rfl), trivial, ((q.sm s175.1).a 69 21 32 rfl (g19 h56)), trivial⟩ ?_
                        have hJ205 : ∀ (w0_205 : Int32) (M205 : Mem), (SK wh M M205) → (w0_205 = 0 ∨ w0_205 = 1) → f_X7_goTo M m ln = f_X7_goTo_205 ln j71 (f_X7_goTo_71 m ln n71_) w0_205 M205 → V G X 7 0 0 (Qx G X 0 0 (p_X7_goTo M m ln)) 205 [(0, .ref 52), (1, .int m), (2, .int ln), (4, .int ((32 * m) + ln)), (5, .int (nI j71))] [.int w0_205, .int ln, .ref 69] M205 := by
                          intro w0_205 M205 s205 zw0_205 E
                          refine V.seg F floX7 cjoX7 [.bastore] (by decide +kernel) (pc2 := 206) (lv2 := [(0, .ref 52), (1, .int m), (2, .int ln), (4, .int ((32 * m) + ln)), (5, .int (nI j71))]) (st2 := []) (M2 := uI M205 69 (ix ln) w0_205) rfl ⟨⟨((q.sm s205.1).a 69 21 32 rfl (g19 h56)), zw0_205⟩, trivial⟩ ?_
                          refine V.pick [0, 1, 2, 3, 4] rfl ?_
                          exact hJ206 (uI M205 69 (ix ln) w0_205) (SK.pI s205 rfl) E
                        have hJ200 : ∀ (M200 : Mem), (SK wh M M200) → f_X7_goTo M m ln = f_X7_goTo_200 ln j71 (f_X7_goTo_71 m ln n71_) M200 → V G X 7 0 0 (Qx G X 0 0 (p_X7_goTo M m ln)) 200 [(0, .ref 52), (1, .int m), (2, .int ln), (4, .int ((32 * m) + ln)), (5, .int (nI j71))] [.int ln, .ref 69] M200 := by
                          intro M200 s200 E
                          refine V.seg F floX7 cjoX7 [.iconst 1, .goto 4] (by decide +kernel) (pc2 := 205) (lv2 := [(0, .ref 52), (1, .int m), (2, .int ln), (4, .int ((32 * m) + ln)), (5, .int (nI j71))]) (st2 := [.int 1, .int ln, .ref 69]) (M2 := M200) rfl ⟨trivial, (by decide), trivial⟩ ?_
                          refine V.pick [0, 1, 2, 3, 4] rfl ?_
                          exact hJ205 1 M200 s200 (Or.inr rfl) E
                        refine V.if_ne (off := 14) F (by decide +kernel) (tgt := 200) (by decide) (fun h186 => ?_) (fun h186 => ?_)
                        · replace E := E.trans (if_neg h186)
                          refine V.pick [0, 1, 2, 3, 4] rfl ?_
                          exact hJ200 M175 s175 E
                        · replace E := E.trans (if_pos h186)
                          refine V.seg F floX7 cjoX7 [.aload_n 0, .bipush 25, .iload 6] (by decide +kernel) (pc2 := 194) (lv2 := [(0, .ref 52), (1, .int m), (2, .int ln), (4, .int ((32 * m) + ln)), (5, .int (nI j71)), (6, .int (f_X7_cell m ln (nI j71)))]) (st2 := [.int (f_X7_cell m ln (nI j71)), .int 25, .ref 52, .int ln, .ref 69]) (M2 := M175) rfl ⟨trivial, trivial, trivial, trivial⟩ ?_
                          refine V.callV (as := [.int 25, .int (f_X7_cell m ln (nI j71))]) (rest := [.int ln, .ref 69]) F (by decide +kernel) lX7_312 bX7_alike ⟨7, _, ((q.sm s175.1).o 52 7 rfl), rfl, rfl⟩ (c_X7_alike G X.2.1 M175 25 (f_X7_cell m ln (nI j71)) (q.sm s175.1) s175.2.1 (vinc (by decide)) (cell_in i_m (g19 h56) (vnj (cnt_lt (n := 8) h75 rfl (by omega) (by decide)) (by decide) (by decide)))) (rm_ok hRm hd (by decide) (by decide)) ⟨Nat.zero_le _, Nat.zero_le _⟩ (Nat.le_of_ble_eq_true rfl) (fun r_ N_ p_ => ?_)
                          obtain ⟨rfl, hN_, z194⟩ := p_
                          rw [hN_]
                          clear hN_
                          refine V.if_ne (off := 7) F (by decide +kernel) (tgt := 204) (by decide) (fun h197 => ?_) (fun h197 => ?_)
                          · replace E := E.trans (if_neg h197)
                            refine V.seg F floX7 cjoX7 [.iconst 0] (by decide +kernel) (pc2 := 205) (lv2 := [(0, .ref 52), (1, .int m), (2, .int ln), (4, .int ((32 * m) + ln)), (5, .int (nI j71)), (6, .int (f_X7_cell m ln (nI j71)))]) (st2 := [.int 0, .int ln, .ref 69]) (M2 := M175) rfl ⟨trivial, trivial⟩ ?_
                            refine V.pick [0, 1, 2, 3, 4] rfl ?_
                            exact hJ205 0 M175 s175 (Or.inl rfl) E
                          · replace E := E.trans (if_pos h197)
                            refine V.pick [0, 1, 2, 3, 4] rfl ?_
                            exact hJ200 M175 s175 E
                      refine V.if_eq (off := 11) F (by decide +kernel) (tgt := 175) (by decide) (fun h164 => ?_) (fun h164 => ?_)
                      · replace E := E.trans (if_pos h164)
                        refine V.pick [0, 1, 2, 3, 4, 5] rfl ?_
                        exact hJ175 M157 s157 E
                      · replace E := E.trans (if_neg h164)
                        refine V.seg F floX7 cjoX7 [.aload_n 0, .iload 6, .bipush 25] (by decide +kernel) (pc2 := 172) (lv2 := [(0, .ref 52), (1, .int m), (2, .int ln), (4, .int ((32 * m) + ln)), (5, .int (nI j71)), (6, .int (f_X7_cell m ln (nI j71)))]) (st2 := [.int 25, .int (f_X7_cell m ln (nI j71)), .ref 52]) (M2 := M157) rfl ⟨trivial, trivial, trivial, trivial⟩ ?_
                        refine V.callV (as := [.int (f_X7_cell m ln (nI j71)), .int 25]) (rest := []) F (by decide +kernel) lX7_133 bX7_copy ⟨7, _, ((q.sm s157.1).o 52 7 rfl), rfl, rfl⟩ (c_X7_copy G X.2.1 M157 (f_X7_cell m ln (nI j71)) 25 (q.sm s157.1) s157.2.1 (cell_in i_m (g19 h56) (vnj (cnt_lt (n := 8) h75 rfl (by omega) (by decide)) (by decide) (by decide))) (vinc (by decide))) (rm_ok hRm hd (by decide) (by decide)) ⟨Nat.zero_le _, Nat.zero_le _⟩ (Nat.le_of_ble_eq_true rfl) (fun r_ N_ p_ => ?_)
                        obtain ⟨rfl, rfl, t172⟩ := p_
                        refine (?_ : ∀ (M175 : Mem), (SK wh M M175) → f_X7_goTo M m ln = f_X7_goTo_c175 m ln j71 (f_X7_goTo_71 m ln n71_) M175 → V G X 7 0 0 (Qx G X 0 0 (p_X7_goTo M m ln)) 175 [(0, .ref 52), (1, .int m), (2, .int ln), (4, .int ((32 * m) + ln)), (5, .int (nI j71)), (6, .int (f_X7_cell m ln (nI j71)))] [] M175) _ (SK.tr s157 (t172.mono sub_wg_wh)) E
                        intro M175 s175 E
                        refine V.pick [0, 1, 2, 3, 4, 5] rfl ?_
                        exact hJ175 M175 s175 E
                    refine V.if_ne (off := 17) F (by decide +kernel) (tgt := 157) (by decide) (fun h140 => ?_) (fun h140 => ?_)
                    · replace E := E.trans (if_neg h140)
                      refine V.pick [1, 2, 3, 4, 5, 0] rfl ?_
                      exact hJ157 M133 s133 E
                    · replace E := E.trans (if_pos h140)
                      refine V.seg F floX7 cjoX7 [.aload_n 0, .iload_n 1, .bipush 8, .iload_n 2, .imul, .iload 5, .iadd, .iload 6] (by decide +kernel) (pc2 := 154) (lv2 := [(6, .int (f_X7_cell m ln (nI j71))), (0, .ref 52), (1, .int m), (2, .int ln), (4, .int ((32 * m) + ln)), (5, .int (nI j71))]) (st2 := [.int (f_X7_cell m ln (nI j71)), .int ((8 * ln) + (nI j71)), .int m, .ref 52]) (M2 := M133) rfl ⟨trivial, trivial, trivial, trivial, trivial, trivial, trivial, trivial, trivial⟩ ?_
                      refine V.callV (as := [.int m, .int ((8 * ln) + (nI j71)), .int (f_X7_cell m ln (nI j71))]) (rest := []) F (by decide +kernel) lX7_309 bX7_widen ⟨7, _, ((q.sm s133.1).o 52 7 rfl), rfl, rfl⟩ (c_X7_widen G X.2.1 M133 m ((8 * ln) + (nI j71)) (f_X7_cell m ln (nI j71)) (q.sm s133.1) s133.2.1 (cell_in i_m (g19 h56) (vnj (cnt_lt (n := 8) h75 rfl (by omega) (by decide)) (by decide) (by decide))) (lp_in (g19 h56) (vnj (cnt_lt (n := 8) h75 rfl (by omega) (by decide)) (by decide) (by decide))) i_m) (rm_ok hRm hd (by decide) (by decide)) ⟨Nat.zero_le _, Nat.zero_le _⟩ (Nat.le_of_ble_eq_true rfl) (fun r_ N_ p_ => ?_)
                      obtain ⟨rfl, rfl, t154⟩ := p_
                      refine (?_ : ∀ (M157 : Mem), (SK wh M M157) → f_X7_goTo M m ln = f_X7_goTo_c157 m ln j71 (f_X7_goTo_71 m ln n71_) M157 → V G X 7 0 0 (Qx G X 0 0 (p_X7_goTo M m ln)) 157 [(6, .int (f_X7_cell m ln (nI j71))), (0, .ref 52), (1, .int m), (2, .int ln), (4, .int ((32 * m) + ln)), (5, .int (nI j71))] [] M157) _ (SK.tr s133 t154) E
                      intro M157 s157 E
                      refine V.pick [1, 2, 3, 4, 5, 0] rfl ?_
                      exact hJ157 M157 s157 E
                  · replace E := E.trans (if_pos h95)
                    refine V.seg F floX7 cjoX7 [.aload_n 0, .iload 6, .bipush 48, .iload 5, .iadd] (by decide +kernel) (pc2 := 106) (lv2 := [(6, .int (f_X7_cell m ln (nI j71))), (0, .ref 52), (1, .int m), (2, .int ln), (4, .int ((32 * m) + ln)), (5, .int (nI j71))]) (st2 := [.int (48 + (nI j71)), .int (f_X7_cell m ln (nI j71)), .ref 52]) (M2 := M71) rfl ⟨trivial, trivial, trivial, trivial, trivial, trivial⟩ ?_
                    refine V.callV (as := [.int (f_X7_cell m ln (nI j71)), .int (48 + (nI j71))]) (rest := []) F (by decide +kernel) lX7_133 bX7_copy ⟨7, _, ((q.sm s71.1).o 52 7 rfl), rfl, rfl⟩ (c_X7_copy G X.2.1 M71 (f_X7_cell m ln (nI j71)) (48 + (nI j71)) (q.sm s71.1) s71.2.1 (cell_in i_m (g19 h56) (vnj (cnt_lt (n := 8) h75 rfl (by omega) (by decide)) (by decide) (by decide))) (v48 (vnj (cnt_lt (n := 8) h75 rfl (by omega) (by decide)) (by decide) (by decide)))) (rm_ok hRm hd (by decide) (by decide)) ⟨Nat.zero_le _, Nat.zero_le _⟩ (Nat.le_of_ble_eq_true rfl) (fun r_ N_ p_ => ?_)
                    obtain ⟨rfl, rfl, t106⟩ := p_
                    refine (?_ : ∀ (M109 : Mem), (SK wh M M109) → f_X7_goTo M m ln = f_X7_goTo_c109 j71 (f_X7_goTo_71 m ln n71_) M109 → V G X 7 0 0 (Qx G X 0 0 (p_X7_goTo M m ln)) 109 [(6, .int (f_X7_cell m ln (nI j71))), (0, .ref 52), (1, .int m), (2, .int ln), (4, .int ((32 * m) + ln)), (5, .int (nI j71))] [] M109) _ (SK.tr s71 (t106.mono sub_wg_wh)) E
                    intro M109 s109 E
                    refine V.seg F floX7 cjoX7 [.goto 97] (by decide +kernel) (pc2 := 206) (lv2 := [(6, .int (f_X7_cell m ln (nI j71))), (0, .ref 52), (1, .int m), (2, .int ln), (4, .int ((32 * m) + ln)), (5, .int (nI j71))]) (st2 := []) (M2 := M109) rfl ⟨(by decide), trivial⟩ ?_
                    refine V.pick [1, 2, 3, 4, 5] rfl ?_
                    exact hJ206 M109 s109 E
            refine V.pick [2, 3, 4, 1, 0] rfl ?_
            exact hJ71 _ 0 M19 s19 (by omega) (by omega) E
          · replace E := E.trans (if_pos h56)
            exact V.vret F (by decide +kernel) ⟨rfl, E.symm, s19⟩
        · replace E := E.trans (if_neg h23)
          refine V.seg F floX7 cjoX7 [.iload_n 3] (by decide +kernel) (pc2 := 27) (lv2 := [(0, .ref 52), (1, .int m), (2, .int ln), (3, .int y3_19), (4, .int (nI j19))]) (st2 := [.int y3_19]) (M2 := M19) rfl ⟨trivial, trivial⟩ ?_
          have hJ48 : ∀ (w0_48 : Int32) (M48 : Mem), (SK wh M M48) → (¬ w0_48 = 0 → vp_in ln 32) → f_X7_goTo M m ln = f_X7_goTo_48 j19 (f_X7_goTo_19 m ln n_) w0_48 M48 → V G X 7 0 0 (Qx G X 0 0 (p_X7_goTo M m ln)) 48 [(0, .ref 52), (1, .int m), (2, .int ln), (4, .int (nI j19))] [.int w0_48] M48 := by
            intro w0_48 M48 s48 g48 E
            refine V.seg F floX7 cjoX7 [.istore_n 3, .iinc 4 1, .goto (-33)] (by decide +kernel) (pc2 := 19) (lv2 := [(4, .int ((nI j19) + 1)), (3, .int w0_48), (0, .ref 52), (1, .int m), (2, .int ln)]) (st2 := []) (M2 := M48) rfl ⟨(by decide), (by decide), (by decide), trivial⟩ ?_
            refine V.pick [2, 3, 4, 1, 0] rfl ?_
            rw [nI_1]
            exact ih_19 w0_48 (j19 + 1) M48 s48 (by have hlt_ := cnt_lt (n := 8) h23 rfl (by omega) (by decide); omega) (by have hlt_ := cnt_lt (n := 8) h23 rfl (by omega) (by decide); omega) (by exact g48) E
          have hJ47 : ∀ (M47 : Mem), (SK wh M M47) → f_X7_goTo M m ln = f_X7_goTo_47 j19 (f_X7_goTo_19 m ln n_) M47 → V G X 7 0 0 (Qx G X 0 0 (p_X7_goTo M m ln)) 47 [(0, .ref 52), (1, .int m), (2, .int ln), (4, .int (nI j19))] [] M47 := by
            intro M47 s47 E
            refine V.seg F floX7 cjoX7 [.iconst 0] (by decide +kernel) (pc2 := 48) (lv2 := [(0, .ref 52), (1, .int m), (2, .int ln), (4, .int (nI j19))]) (st2 := [.int 0]) (M2 := M47) rfl ⟨trivial, trivial⟩ ?_
            refine V.pick [0, 1, 2, 3] rfl ?_
            exact hJ48 0 M47 s47 (by first | exact fun _ => g19 h27 | exact fun z => absurd rfl z) E
          refine V.if_eq (off := 20) F (by decide +kernel) (tgt := 47) (by decide) (fun h27 => ?_) (fun h27 => ?_)
          · replace E := E.trans (if_pos h27)
            refine V.pick [0, 1, 2, 4] rfl ?_
            exact hJ47 M19 s19 E
          · replace E := E.trans (if_neg h27)
            refine V.seg F floX7 cjoX7 [.aload_n 0, .getfield 9, .bipush 48, .iload 4, .iadd, .baload] (by decide +kernel) (pc2 := 40) (lv2 := [(0, .ref 52), (1, .int m), (2, .int ln), (3, .int y3_19), (4, .int (nI j19))]) (st2 := [.int (mI M19 53 (ix (48 + (nI j19))))]) (M2 := M19) rfl ⟨trivial, ((q.sm s19.1).f 52 7 0 rfl), trivial, trivial, trivial, ((q.sm s19.1).a 53 21 1648 rfl (v48 (vnj (cnt_lt (n := 8) h23 rfl (by omega) (by decide)) (by decide) (by decide)))), trivial⟩ ?_
            refine V.if_ne (off := 7) F (by decide +kernel) (tgt := 47) (by decide) (fun h40 => ?_) (fun h40 => ?_)
            · replace E := E.trans (if_neg h40)
              refine V.pick [0, 1, 2, 4] rfl ?_
              exact hJ47 M19 s19 E
            · replace E := E.trans (if_pos h40)
              refine V.seg F floX7 cjoX7 [.iconst 1, .goto 4] (by decide +kernel) (pc2 := 48) (lv2 := [(0, .ref 52), (1, .int m), (2, .int ln), (3, .int y3_19), (4, .int (nI j19))]) (st2 := [.int 1]) (M2 := M19) rfl ⟨trivial, (by decide), trivial⟩ ?_
              refine V.pick [0, 1, 2, 4] rfl ?_
              exact hJ48 1 M19 s19 (by first | exact fun _ => g19 h27 | exact fun z => absurd rfl z) E
    refine V.pick [2, 3, 4, 1, 0] rfl ?_
    exact hJ19 _ w0_15 0 M15 s15 (by omega) (by omega) (by exact g15) E
  refine V.ic_ge (off := 7) F (by decide +kernel) (tgt := 14) (by decide) (fun h7 => ?_) (fun h7 => ?_)
  · replace E := E.trans (if_pos h7)
    refine V.seg F floX7 cjoX7 [.iconst 0] (by decide +kernel) (pc2 := 15) (lv2 := [(0, .ref 52), (1, .int m), (2, .int ln)]) (st2 := [.int 0]) (M2 := M) rfl ⟨trivial, trivial⟩ ?_
    refine V.pick [0, 1, 2] rfl ?_
    exact hJ15 0 M (SK.rf (w := wh) gb) (by first | exact fun _ => ln32 i_l cL h7 | exact fun z => absurd rfl z) E
  · replace E := E.trans (if_neg h7)
    refine V.seg F floX7 cjoX7 [.iconst 1, .goto 4] (by decide +kernel) (pc2 := 15) (lv2 := [(0, .ref 52), (1, .int m), (2, .int ln)]) (st2 := [.int 1]) (M2 := M) rfl ⟨trivial, (by decide), trivial⟩ ?_
    refine V.pick [0, 1, 2] rfl ?_
    exact hJ15 1 M (SK.rf (w := wh) gb) (by first | exact fun _ => ln32 i_l cL h7 | exact fun z => absurd rfl z) E
