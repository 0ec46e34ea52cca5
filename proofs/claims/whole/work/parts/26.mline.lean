/-- a run writes its numbers, how it ended, where it stands, what it missed -/
def wr (a k : Nat) : Bool := decide (a = 73) || (decide (a = 52) && (decide (k = 24) || decide (k = 25) || decide (k = 26)))
theorem sub_wc_wr : ∀ a k, wc a k = true → wr a k = true := fun a k h => by
  simp only [wc, wr, Bool.or_eq_true, Bool.and_eq_true, decide_eq_true_eq] at h ⊢
  omega
theorem sub_wr_wa : ∀ a k, wr a k = true → wa a k = true := fun a k h => by
  simp only [wr, wa, Bool.or_eq_true, Bool.and_eq_true, decide_eq_true_eq] at h ⊢
  omega
theorem ask23 {op a b : Int32} (hL : LnOK op a b) (h : op = 23) : vp_in b 8 := by
  subst h
  exact hL.2.2.2.2.1 (by decide) (by decide) (by decide)
theorem ask24 {op a b : Int32} (hL : LnOK op a b) (h : op = 24) : vp_in b 8 := by
  subst h
  exact hL.2.2.2.2.1 (by decide) (by decide) (by decide)
theorem lt20e {op : Int32} (h : op = 9 ∨ op = 10) : ¬ 20 ≤ op := by rcases h with rfl | rfl <;> decide
theorem lt12 {op : Int32} (h : ¬ 12 ≤ op) : ¬ 20 ≤ op := by
  rw [Int32.le_iff_toInt_le] at h ⊢
  have e1 : (12 : Int32).toInt = 12 := rfl
  have e2 : (20 : Int32).toInt = 20 := rfl
  rw [e1] at h
  rw [e2]
  omega
theorem ge12 {op : Int32} (h : 12 ≤ op) : ¬ (op = 9 ∨ op = 10) := fun z => by rcases z with rfl | rfl <;> exact absurd h (by decide)
theorem tabIn {v : Int64} {x : Int32} (c : cn x 16) (h : ¬ f_X7_in v 0 (Int32.toInt64 x - 1) = 0) : vp_in (Int64.toInt32 v) 16 := by
  have h1 := in_iff.mp h
  rw [Int64.le_iff_toInt_le, Int64.le_iff_toInt_le] at h1
  have e0 : (0 : Int64).toInt = 0 := rfl
  have e1 : (x.toInt64 - 1).toInt = x.toInt - 1 := lg_i2l_sub x 1
  have e2 : x.toInt = (ix x : Int) := by
    have h9 : ix x < 2 ^ 31 := Nat.lt_of_le_of_lt c.2 (by decide)
    have h8 := nI_toInt h9
    rw [← c.1] at h8
    exact h8
  have h7 := c.2
  rw [e0, e1, e2] at h1
  have h5 : v.toInt32.toInt64 = v := lg_i2l_l2i (by omega) (by omega)
  have h6 : v.toInt32.toInt = v.toInt := by rw [← Int32.toInt_toInt64, h5]
  rw [vp_in_iff, h6]
  omega
def f_X7_line_165  (M165 : Mem) : Int32 × Mem := (0, uI M165 52 24 2)
def f_X7_line_350  (w0_350 : Int32) (M350 : Mem) : Int32 × Mem := (1, uI M350 52 25 w0_350)
def f_X7_line_349 (M308 : Mem) (w0_349 : Int32) (M349 : Mem) : Int32 × Mem := f_X7_line_350 ((mI M308 52 25) + w0_349) M349
def f_X7_line_308 (m : Int32) (M : Mem) (w0_109 : Int32) (M308 : Mem) : Int32 × Mem := if (mI M 61 (ix ((32 * m) + (mI M 52 25)))) = 26 then f_X7_line_350 (mI M 63 (ix ((32 * m) + (mI M 52 25)))) M308 else if (mI M 61 (ix ((32 * m) + (mI M 52 25)))) = 27 then f_X7_line_350 (mI M308 60 (ix m)) M308 else if w0_109 = 0 then f_X7_line_349 M308 1 M308 else f_X7_line_349 M308 2 M308
def f_X7_line_c231 (m : Int32) (M : Mem) (w0_109 : Int32) (M231 : Mem) : Int32 × Mem := f_X7_line_308 m M w0_109 M231
def f_X7_line_c203 (m : Int32) (M : Mem) (w0_109 : Int32) (M203 : Mem) : Int32 × Mem := f_X7_line_308 m M w0_109 M203
def f_X7_line_172 (m : Int32) (M : Mem) (w0_109 : Int32) (M172 : Mem) : Int32 × Mem := if 12 ≤ (mI M 61 (ix ((32 * m) + (mI M 52 25)))) then if 20 ≤ (mI M 61 (ix ((32 * m) + (mI M 52 25)))) then if (mI M 61 (ix ((32 * m) + (mI M 52 25)))) = 20 then f_X7_line_308 m M w0_109 (uL M172 73 (ix (mI M 62 (ix ((32 * m) + (mI M 52 25))))) (Int32.toInt64 (mI M 63 (ix ((32 * m) + (mI M 52 25)))))) else if (mI M 61 (ix ((32 * m) + (mI M 52 25)))) = 21 then f_X7_line_308 m M w0_109 (uL M172 73 (ix (mI M 62 (ix ((32 * m) + (mI M 52 25))))) (mL M172 73 (ix (mI M 63 (ix ((32 * m) + (mI M 52 25))))))) else if (mI M 61 (ix ((32 * m) + (mI M 52 25)))) = 22 then f_X7_line_308 m M w0_109 (uL M172 73 (ix (mI M 62 (ix ((32 * m) + (mI M 52 25))))) (mL M172 65 (ix ((16 * (mI M 63 (ix ((32 * m) + (mI M 52 25))))) + (Int64.toInt32 (mL M172 73 (ix (mI M 62 (ix ((32 * m) + (mI M 52 25))))))))))) else f_X7_line_308 m M w0_109 M172 else f_X7_line_c231 m M w0_109 (uL M172 73 (ix (mI M 62 (ix ((32 * m) + (mI M 52 25))))) (f_X7_reckon (mI M 61 (ix ((32 * m) + (mI M 52 25)))) (mL M172 73 (ix (mI M 63 (ix ((32 * m) + (mI M 52 25)))))) 0)) else f_X7_line_c203 m M w0_109 (uL M172 73 (ix (mI M 62 (ix ((32 * m) + (mI M 52 25))))) (f_X7_reckon (mI M 61 (ix ((32 * m) + (mI M 52 25)))) (mL M172 73 (ix (mI M 62 (ix ((32 * m) + (mI M 52 25)))))) (mL M172 73 (ix (mI M 63 (ix ((32 * m) + (mI M 52 25))))))))
def f_X7_line_135 (m : Int32) (M : Mem) (w0_109 : Int32) (M135 : Mem) : Int32 × Mem := if (mI M 61 (ix ((32 * m) + (mI M 52 25)))) = 22 then if (f_X7_in (mL M135 73 (ix (mI M 62 (ix ((32 * m) + (mI M 52 25)))))) 0 ((Int32.toInt64 (mI M135 64 (ix (mI M 63 (ix ((32 * m) + (mI M 52 25))))))) - 1)) = 0 then f_X7_line_165 M135 else f_X7_line_172 m M w0_109 M135 else f_X7_line_172 m M w0_109 M135
def f_X7_line_123 (m : Int32) (M : Mem) (w0_109 : Int32) (M123 : Mem) : Int32 × Mem := if (mL M123 73 (ix (mI M 63 (ix ((32 * m) + (mI M 52 25)))))) = 0 then f_X7_line_165 M123 else f_X7_line_135 m M w0_109 M123
def f_X7_line_109 (m : Int32) (M : Mem) (w0_109 : Int32) (M109 : Mem) : Int32 × Mem := if (mI M 61 (ix ((32 * m) + (mI M 52 25)))) = 9 then f_X7_line_123 m M w0_109 M109 else if (mI M 61 (ix ((32 * m) + (mI M 52 25)))) = 10 then f_X7_line_123 m M w0_109 M109 else f_X7_line_135 m M w0_109 M109
def f_X7_line_104 (m : Int32) (M : Mem) (M104 : Mem) : Int32 × Mem := f_X7_line_109 m M 1 M104
def f_X7_line_108 (m : Int32) (M : Mem) (M108 : Mem) : Int32 × Mem := f_X7_line_109 m M 0 M108
def f_X7_line_81 (m : Int32) (M : Mem) (M81 : Mem) : Int32 × Mem := if (mI M 61 (ix ((32 * m) + (mI M 52 25)))) = 25 then if ((jushr (mL M81 73 (ix (mI M 62 (ix ((32 * m) + (mI M 52 25)))))) (mI M 63 (ix ((32 * m) + (mI M 52 25))))) &&& 1) = 1 then f_X7_line_104 m M M81 else f_X7_line_108 m M M81 else f_X7_line_108 m M M81
def f_X7_line_57 (m : Int32) (M : Mem) (M57 : Mem) : Int32 × Mem := if (mI M 61 (ix ((32 * m) + (mI M 52 25)))) = 24 then if (mL M57 73 (ix (mI M 62 (ix ((32 * m) + (mI M 52 25)))))) < (mL M57 73 (ix (mI M 63 (ix ((32 * m) + (mI M 52 25)))))) then f_X7_line_104 m M M57 else f_X7_line_81 m M M57 else f_X7_line_81 m M M57
def f_X7_line (M : Mem) (m : Int32) : Int32 × Mem := if (mI M 61 (ix ((32 * m) + (mI M 52 25)))) = 23 then if (mL M 73 (ix (mI M 62 (ix ((32 * m) + (mI M 52 25)))))) = (mL M 73 (ix (mI M 63 (ix ((32 * m) + (mI M 52 25)))))) then f_X7_line_104 m M M else f_X7_line_57 m M M else f_X7_line_57 m M M
abbrev p_X7_line (M : Mem) (m : Int32) : Option Value → Mem → Prop := fun r N => r = some (.int (f_X7_line M m).1) ∧ N = (f_X7_line M m).2 ∧ SK wr M N ∧ ((f_X7_line M m).1 = 0 ∨ (f_X7_line M m).1 = 1)
set_option maxRecDepth 100000 in
set_option maxHeartbeats 4000000 in
theorem c_X7_line (G : Ctx) (l : Launch) (M : Mem) (m : Int32) (q : Ok M) (gb : Gb M) (i_m : vp_in m 6) (i_r : vp_in (mI M 52 25) 32) (hT : ∀ t, t < 4 → cn (mI M 64 t) 16) (hL : LnOK (mI M 61 (ix ((32 * m) + (mI M 52 25)))) (mI M 62 (ix ((32 * m) + (mI M 52 25)))) (mI M 63 (ix ((32 * m) + (mI M 52 25))))) : CT G l 2 mX7_line [.ref 52, .int m] M 0 0 (p_X7_line M m) := by
  refine CT.of (by decide) (Nat.le_of_ble_eq_true rfl) ?_
  intro X d hd hl hRm hnm F
  subst hl
  have E : f_X7_line M m = f_X7_line M m := rfl
  show V G X 7 0 0 (Qx G X 0 0 (p_X7_line M m)) 0 [(0, .ref 52), (1, .int m)] [] M
  refine V.seg F floX7 cjoX7 [.bipush 32, .iload_n 1, .imul, .aload_n 0, .getfield 327, .iadd, .istore_n 2, .aload_n 0, .getfield 36, .iload_n 2, .iaload, .istore_n 3, .aload_n 0, .getfield 39, .iload_n 2, .iaload, .istore 4, .aload_n 0, .getfield 42, .iload_n 2, .iaload, .istore 5, .iload_n 3, .bipush 23] (by decide +kernel) (pc2 := 36) (lv2 := [(5, .int (mI M 63 (ix ((32 * m) + (mI M 52 25))))), (4, .int (mI M 62 (ix ((32 * m) + (mI M 52 25))))), (3, .int (mI M 61 (ix ((32 * m) + (mI M 52 25))))), (2, .int ((32 * m) + (mI M 52 25))), (0, .ref 52), (1, .int m)]) (st2 := [.int 23, .int (mI M 61 (ix ((32 * m) + (mI M 52 25))))]) (M2 := M) rfl ⟨trivial, trivial, trivial, trivial, (q.o 52 7 rfl), trivial, (by decide), trivial, (q.f 52 7 11 rfl), trivial, (q.a 61 20 192 rfl (rl_in i_m i_r)), (by decide), trivial, (q.f 52 7 12 rfl), trivial, (q.a 62 20 192 rfl (rl_in i_m i_r)), (by decide), trivial, (q.f 52 7 13 rfl), trivial, (q.a 63 20 192 rfl (rl_in i_m i_r)), (by decide), trivial, trivial, trivial⟩ ?_
  have hJ109 : ∀ (w0_109 : Int32) (M109 : Mem), (SK wr M M109) → f_X7_line M m = f_X7_line_109 m M w0_109 M109 → V G X 7 0 0 (Qx G X 0 0 (p_X7_line M m)) 109 [(0, .ref 52), (1, .int m), (3, .int (mI M 61 (ix ((32 * m) + (mI M 52 25))))), (4, .int (mI M 62 (ix ((32 * m) + (mI M 52 25))))), (5, .int (mI M 63 (ix ((32 * m) + (mI M 52 25)))))] [.int w0_109] M109 := by
    intro w0_109 M109 s109 E
    refine V.seg F floX7 cjoX7 [.istore 6, .iload_n 3, .bipush 9] (by decide +kernel) (pc2 := 114) (lv2 := [(6, .int w0_109), (0, .ref 52), (1, .int m), (3, .int (mI M 61 (ix ((32 * m) + (mI M 52 25))))), (4, .int (mI M 62 (ix ((32 * m) + (mI M 52 25))))), (5, .int (mI M 63 (ix ((32 * m) + (mI M 52 25)))))]) (st2 := [.int 9, .int (mI M 61 (ix ((32 * m) + (mI M 52 25))))]) (M2 := M109) rfl ⟨(by decide), trivial, trivial, trivial⟩ ?_
    have hJ165 : ∀ (M165 : Mem), (SK wr M M165) → f_X7_line M m = f_X7_line_165 M165 → V G X 7 0 0 (Qx G X 0 0 (p_X7_line M m)) 165 [(0, .ref 52)] [] M165 := by
      intro M165 s165 E
      refine V.seg F floX7 cjoX7 [.aload_n 0, .iconst 2, .putfield 324, .iconst 0] (by decide +kernel) (pc2 := 171) (lv2 := [(0, .ref 52)]) (st2 := [.int 0]) (M2 := uI M165 52 24 2) rfl ⟨trivial, trivial, ((q.sm s165.1).o 52 7 rfl), trivial, trivial⟩ ?_
      exact V.zret F (Or.inl rfl) (by decide +kernel) ⟨congrArg (fun z => some (Value.int z.1)) E.symm, congrArg Prod.snd E.symm, (SK.pI s165 rfl), by rw [E]; exact Or.inl rfl⟩
    have hJ135 : ∀ (M135 : Mem), (SK wr M M135) → ((mI M 61 (ix ((32 * m) + (mI M 52 25)))) = 9 ∨ (mI M 61 (ix ((32 * m) + (mI M 52 25)))) = 10 → ¬ mL M135 73 (ix (mI M 63 (ix ((32 * m) + (mI M 52 25))))) = 0) → f_X7_line M m = f_X7_line_135 m M w0_109 M135 → V G X 7 0 0 (Qx G X 0 0 (p_X7_line M m)) 135 [(0, .ref 52), (1, .int m), (3, .int (mI M 61 (ix ((32 * m) + (mI M 52 25))))), (4, .int (mI M 62 (ix ((32 * m) + (mI M 52 25))))), (5, .int (mI M 63 (ix ((32 * m) + (mI M 52 25))))), (6, .int w0_109)] [] M135 := by
      intro M135 s135 j135 E
      refine V.seg F floX7 cjoX7 [.iload_n 3, .bipush 22] (by decide +kernel) (pc2 := 138) (lv2 := [(0, .ref 52), (1, .int m), (3, .int (mI M 61 (ix ((32 * m) + (mI M 52 25))))), (4, .int (mI M 62 (ix ((32 * m) + (mI M 52 25))))), (5, .int (mI M 63 (ix ((32 * m) + (mI M 52 25))))), (6, .int w0_109)]) (st2 := [.int 22, .int (mI M 61 (ix ((32 * m) + (mI M 52 25))))]) (M2 := M135) rfl ⟨trivial, trivial, trivial⟩ ?_
      have hJ172 : ∀ (M172 : Mem), (SK wr M M172) → ((mI M 61 (ix ((32 * m) + (mI M 52 25)))) = 9 ∨ (mI M 61 (ix ((32 * m) + (mI M 52 25)))) = 10 → ¬ mL M172 73 (ix (mI M 63 (ix ((32 * m) + (mI M 52 25))))) = 0) → ((mI M 61 (ix ((32 * m) + (mI M 52 25)))) = 22 → ¬ f_X7_in (mL M172 73 (ix (mI M 62 (ix ((32 * m) + (mI M 52 25)))))) 0 (Int32.toInt64 (mI M172 64 (ix (mI M 63 (ix ((32 * m) + (mI M 52 25)))))) - 1) = 0) → f_X7_line M m = f_X7_line_172 m M w0_109 M172 → V G X 7 0 0 (Qx G X 0 0 (p_X7_line M m)) 172 [(0, .ref 52), (1, .int m), (3, .int (mI M 61 (ix ((32 * m) + (mI M 52 25))))), (4, .int (mI M 62 (ix ((32 * m) + (mI M 52 25))))), (5, .int (mI M 63 (ix ((32 * m) + (mI M 52 25))))), (6, .int w0_109)] [] M172 := by
        intro M172 s172 j172a j172b E
        refine V.seg F floX7 cjoX7 [.iload_n 3, .bipush 12] (by decide +kernel) (pc2 := 175) (lv2 := [(0, .ref 52), (1, .int m), (3, .int (mI M 61 (ix ((32 * m) + (mI M 52 25))))), (4, .int (mI M 62 (ix ((32 * m) + (mI M 52 25))))), (5, .int (mI M 63 (ix ((32 * m) + (mI M 52 25))))), (6, .int w0_109)]) (st2 := [.int 12, .int (mI M 61 (ix ((32 * m) + (mI M 52 25))))]) (M2 := M172) rfl ⟨trivial, trivial, trivial⟩ ?_
        have hJ308 : ∀ (M308 : Mem), (SK wr M M308) → f_X7_line M m = f_X7_line_308 m M w0_109 M308 → V G X 7 0 0 (Qx G X 0 0 (p_X7_line M m)) 308 [(0, .ref 52), (1, .int m), (3, .int (mI M 61 (ix ((32 * m) + (mI M 52 25))))), (5, .int (mI M 63 (ix ((32 * m) + (mI M 52 25))))), (6, .int w0_109)] [] M308 := by
          intro M308 s308 E
          refine V.seg F floX7 cjoX7 [.aload_n 0, .iload_n 3, .bipush 26] (by decide +kernel) (pc2 := 312) (lv2 := [(0, .ref 52), (1, .int m), (3, .int (mI M 61 (ix ((32 * m) + (mI M 52 25))))), (5, .int (mI M 63 (ix ((32 * m) + (mI M 52 25))))), (6, .int w0_109)]) (st2 := [.int 26, .int (mI M 61 (ix ((32 * m) + (mI M 52 25)))), .ref 52]) (M2 := M308) rfl ⟨trivial, trivial, trivial, trivial⟩ ?_
          have hJ350 : ∀ (w0_350 : Int32) (M350 : Mem), (SK wr M M350) → f_X7_line M m = f_X7_line_350 w0_350 M350 → V G X 7 0 0 (Qx G X 0 0 (p_X7_line M m)) 350 [] [.int w0_350, .ref 52] M350 := by
            intro w0_350 M350 s350 E
            refine V.seg F floX7 cjoX7 [.putfield 327, .iconst 1] (by decide +kernel) (pc2 := 354) (lv2 := []) (st2 := [.int 1]) (M2 := uI M350 52 25 w0_350) rfl ⟨((q.sm s350.1).o 52 7 rfl), trivial, trivial⟩ ?_
            exact V.zret F (Or.inr rfl) (by decide +kernel) ⟨congrArg (fun z => some (Value.int z.1)) E.symm, congrArg Prod.snd E.symm, (SK.pI s350 rfl), by rw [E]; exact Or.inr rfl⟩
          refine V.ic_ne (off := 8) F (by decide +kernel) (tgt := 320) (by decide) (fun h312 => ?_) (fun h312 => ?_)
          · replace E := E.trans (if_neg h312)
            refine V.seg F floX7 cjoX7 [.iload_n 3, .bipush 27] (by decide +kernel) (pc2 := 323) (lv2 := [(0, .ref 52), (1, .int m), (3, .int (mI M 61 (ix ((32 * m) + (mI M 52 25))))), (5, .int (mI M 63 (ix ((32 * m) + (mI M 52 25))))), (6, .int w0_109)]) (st2 := [.int 27, .int (mI M 61 (ix ((32 * m) + (mI M 52 25)))), .ref 52]) (M2 := M308) rfl ⟨trivial, trivial, trivial⟩ ?_
            refine V.ic_ne (off := 12) F (by decide +kernel) (tgt := 335) (by decide) (fun h323 => ?_) (fun h323 => ?_)
            · replace E := E.trans (if_neg h323)
              refine V.seg F floX7 cjoX7 [.aload_n 0, .getfield 327, .iload 6] (by decide +kernel) (pc2 := 341) (lv2 := [(0, .ref 52), (1, .int m), (3, .int (mI M 61 (ix ((32 * m) + (mI M 52 25))))), (5, .int (mI M 63 (ix ((32 * m) + (mI M 52 25))))), (6, .int w0_109)]) (st2 := [.int w0_109, .int (mI M308 52 25), .ref 52]) (M2 := M308) rfl ⟨trivial, ((q.sm s308.1).o 52 7 rfl), trivial, trivial⟩ ?_
              have hJ349 : ∀ (w0_349 : Int32) (M349 : Mem), (SK wr M M349) → f_X7_line M m = f_X7_line_349 M308 w0_349 M349 → V G X 7 0 0 (Qx G X 0 0 (p_X7_line M m)) 349 [] [.int w0_349, .int (mI M308 52 25), .ref 52] M349 := by
                intro w0_349 M349 s349 E
                refine V.seg F floX7 cjoX7 [.iadd] (by decide +kernel) (pc2 := 350) (lv2 := []) (st2 := [.int ((mI M308 52 25) + w0_349), .ref 52]) (M2 := M349) rfl ⟨trivial, trivial⟩ ?_
                refine V.pick [] rfl ?_
                exact hJ350 ((mI M308 52 25) + w0_349) M349 s349 E
              refine V.if_eq (off := 7) F (by decide +kernel) (tgt := 348) (by decide) (fun h341 => ?_) (fun h341 => ?_)
              · replace E := E.trans (if_pos h341)
                refine V.seg F floX7 cjoX7 [.iconst 1] (by decide +kernel) (pc2 := 349) (lv2 := [(0, .ref 52), (1, .int m), (3, .int (mI M 61 (ix ((32 * m) + (mI M 52 25))))), (5, .int (mI M 63 (ix ((32 * m) + (mI M 52 25))))), (6, .int w0_109)]) (st2 := [.int 1, .int (mI M308 52 25), .ref 52]) (M2 := M308) rfl ⟨trivial, trivial⟩ ?_
                refine V.pick [] rfl ?_
                exact hJ349 1 M308 s308 E
              · replace E := E.trans (if_neg h341)
                refine V.seg F floX7 cjoX7 [.iconst 2, .goto 4] (by decide +kernel) (pc2 := 349) (lv2 := [(0, .ref 52), (1, .int m), (3, .int (mI M 61 (ix ((32 * m) + (mI M 52 25))))), (5, .int (mI M 63 (ix ((32 * m) + (mI M 52 25))))), (6, .int w0_109)]) (st2 := [.int 2, .int (mI M308 52 25), .ref 52]) (M2 := M308) rfl ⟨trivial, (by decide), trivial⟩ ?_
                refine V.pick [] rfl ?_
                exact hJ349 2 M308 s308 E
            · replace E := E.trans (if_pos h323)
              refine V.seg F floX7 cjoX7 [.aload_n 0, .getfield 32, .iload_n 1, .iaload, .goto 18] (by decide +kernel) (pc2 := 350) (lv2 := [(0, .ref 52), (1, .int m), (3, .int (mI M 61 (ix ((32 * m) + (mI M 52 25))))), (5, .int (mI M 63 (ix ((32 * m) + (mI M 52 25))))), (6, .int w0_109)]) (st2 := [.int (mI M308 60 (ix m)), .ref 52]) (M2 := M308) rfl ⟨trivial, ((q.sm s308.1).f 52 7 10 rfl), trivial, ((q.sm s308.1).a 60 20 6 rfl i_m), (by decide), trivial⟩ ?_
              refine V.pick [] rfl ?_
              exact hJ350 (mI M308 60 (ix m)) M308 s308 E
          · replace E := E.trans (if_pos h312)
            refine V.seg F floX7 cjoX7 [.iload 5, .goto 33] (by decide +kernel) (pc2 := 350) (lv2 := [(0, .ref 52), (1, .int m), (3, .int (mI M 61 (ix ((32 * m) + (mI M 52 25))))), (5, .int (mI M 63 (ix ((32 * m) + (mI M 52 25))))), (6, .int w0_109)]) (st2 := [.int (mI M 63 (ix ((32 * m) + (mI M 52 25)))), .ref 52]) (M2 := M308) rfl ⟨trivial, (by decide), trivial⟩ ?_
            refine V.pick [] rfl ?_
            exact hJ350 (mI M 63 (ix ((32 * m) + (mI M 52 25)))) M308 s308 E
        refine V.ic_ge (off := 31) F (by decide +kernel) (tgt := 206) (by decide) (fun h175 => ?_) (fun h175 => ?_)
        · replace E := E.trans (if_pos h175)
          refine V.seg F floX7 cjoX7 [.iload_n 3, .bipush 20] (by decide +kernel) (pc2 := 209) (lv2 := [(0, .ref 52), (1, .int m), (3, .int (mI M 61 (ix ((32 * m) + (mI M 52 25))))), (4, .int (mI M 62 (ix ((32 * m) + (mI M 52 25))))), (5, .int (mI M 63 (ix ((32 * m) + (mI M 52 25))))), (6, .int w0_109)]) (st2 := [.int 20, .int (mI M 61 (ix ((32 * m) + (mI M 52 25))))]) (M2 := M172) rfl ⟨trivial, trivial, trivial⟩ ?_
          refine V.ic_ge (off := 25) F (by decide +kernel) (tgt := 234) (by decide) (fun h209 => ?_) (fun h209 => ?_)
          · replace E := E.trans (if_pos h209)
            refine V.seg F floX7 cjoX7 [.iload_n 3, .bipush 20] (by decide +kernel) (pc2 := 237) (lv2 := [(0, .ref 52), (1, .int m), (3, .int (mI M 61 (ix ((32 * m) + (mI M 52 25))))), (4, .int (mI M 62 (ix ((32 * m) + (mI M 52 25))))), (5, .int (mI M 63 (ix ((32 * m) + (mI M 52 25))))), (6, .int w0_109)]) (st2 := [.int 20, .int (mI M 61 (ix ((32 * m) + (mI M 52 25))))]) (M2 := M172) rfl ⟨trivial, trivial, trivial⟩ ?_
            refine V.ic_ne (off := 16) F (by decide +kernel) (tgt := 253) (by decide) (fun h237 => ?_) (fun h237 => ?_)
            · replace E := E.trans (if_neg h237)
              refine V.seg F floX7 cjoX7 [.iload_n 3, .bipush 21] (by decide +kernel) (pc2 := 256) (lv2 := [(0, .ref 52), (1, .int m), (3, .int (mI M 61 (ix ((32 * m) + (mI M 52 25))))), (4, .int (mI M 62 (ix ((32 * m) + (mI M 52 25))))), (5, .int (mI M 63 (ix ((32 * m) + (mI M 52 25))))), (6, .int w0_109)]) (st2 := [.int 21, .int (mI M 61 (ix ((32 * m) + (mI M 52 25))))]) (M2 := M172) rfl ⟨trivial, trivial, trivial⟩ ?_
              refine V.ic_ne (off := 20) F (by decide +kernel) (tgt := 276) (by decide) (fun h256 => ?_) (fun h256 => ?_)
              · replace E := E.trans (if_neg h256)
                refine V.seg F floX7 cjoX7 [.iload_n 3, .bipush 22] (by decide +kernel) (pc2 := 279) (lv2 := [(0, .ref 52), (1, .int m), (3, .int (mI M 61 (ix ((32 * m) + (mI M 52 25))))), (4, .int (mI M 62 (ix ((32 * m) + (mI M 52 25))))), (5, .int (mI M 63 (ix ((32 * m) + (mI M 52 25))))), (6, .int w0_109)]) (st2 := [.int 22, .int (mI M 61 (ix ((32 * m) + (mI M 52 25))))]) (M2 := M172) rfl ⟨trivial, trivial, trivial⟩ ?_
                refine V.ic_ne (off := 29) F (by decide +kernel) (tgt := 308) (by decide) (fun h279 => ?_) (fun h279 => ?_)
                · replace E := E.trans (if_neg h279)
                  refine V.pick [0, 1, 2, 4, 5] rfl ?_
                  exact hJ308 M172 s172 E
                · replace E := E.trans (if_pos h279)
                  refine V.seg F floX7 cjoX7 [.aload_n 0, .getfield 72, .iload 4, .aload_n 0, .getfield 48, .bipush 16, .iload 5, .imul, .aload_n 0, .getfield 72, .iload 4, .laload, .l2i, .iadd, .laload, .lastore] (by decide +kernel) (pc2 := 308) (lv2 := [(0, .ref 52), (1, .int m), (3, .int (mI M 61 (ix ((32 * m) + (mI M 52 25))))), (4, .int (mI M 62 (ix ((32 * m) + (mI M 52 25))))), (5, .int (mI M 63 (ix ((32 * m) + (mI M 52 25))))), (6, .int w0_109)]) (st2 := []) (M2 := uL M172 73 (ix (mI M 62 (ix ((32 * m) + (mI M 52 25))))) (mL M172 65 (ix ((16 * (mI M 63 (ix ((32 * m) + (mI M 52 25))))) + (Int64.toInt32 (mL M172 73 (ix (mI M 62 (ix ((32 * m) + (mI M 52 25))))))))))) rfl ⟨trivial, ((q.sm s172.1).f 52 7 23 rfl), trivial, trivial, ((q.sm s172.1).f 52 7 15 rfl), trivial, trivial, trivial, trivial, ((q.sm s172.1).f 52 7 23 rfl), trivial, ((q.sm s172.1).a 73 22 8 rfl hL.1), trivial, trivial, ((q.sm s172.1).a 65 22 64 rfl (tb_in (hL.2.2.2.1 h279) (tabIn (cn.of (s172.2.2 64 _ rfl).1 (hT _ (vin_lt (hL.2.2.2.1 h279)))) (j172b h279)))), ((q.sm s172.1).a 73 22 8 rfl hL.1), trivial⟩ ?_
                  refine V.pick [0, 1, 2, 4, 5] rfl ?_
                  exact hJ308 (uL M172 73 (ix (mI M 62 (ix ((32 * m) + (mI M 52 25))))) (mL M172 65 (ix ((16 * (mI M 63 (ix ((32 * m) + (mI M 52 25))))) + (Int64.toInt32 (mL M172 73 (ix (mI M 62 (ix ((32 * m) + (mI M 52 25))))))))))) (SK.pL s172 rfl (by decide)) E
              · replace E := E.trans (if_pos h256)
                refine V.seg F floX7 cjoX7 [.aload_n 0, .getfield 72, .iload 4, .aload_n 0, .getfield 72, .iload 5, .laload, .lastore, .goto 35] (by decide +kernel) (pc2 := 308) (lv2 := [(0, .ref 52), (1, .int m), (3, .int (mI M 61 (ix ((32 * m) + (mI M 52 25))))), (4, .int (mI M 62 (ix ((32 * m) + (mI M 52 25))))), (5, .int (mI M 63 (ix ((32 * m) + (mI M 52 25))))), (6, .int w0_109)]) (st2 := []) (M2 := uL M172 73 (ix (mI M 62 (ix ((32 * m) + (mI M 52 25))))) (mL M172 73 (ix (mI M 63 (ix ((32 * m) + (mI M 52 25))))))) rfl ⟨trivial, ((q.sm s172.1).f 52 7 23 rfl), trivial, trivial, ((q.sm s172.1).f 52 7 23 rfl), trivial, ((q.sm s172.1).a 73 22 8 rfl (by first | exact ask23 hL h36 | exact ask24 hL h60 | exact hL.2.1 (lt20e j123) | exact hL.2.1 (lt12 h175) | exact hL.2.1 h209 | exact hL.2.2.1 h256 | exact hL.2.2.2.1 h138)), ((q.sm s172.1).a 73 22 8 rfl hL.1), (by decide), trivial⟩ ?_
                refine V.pick [0, 1, 2, 4, 5] rfl ?_
                exact hJ308 (uL M172 73 (ix (mI M 62 (ix ((32 * m) + (mI M 52 25))))) (mL M172 73 (ix (mI M 63 (ix ((32 * m) + (mI M 52 25))))))) (SK.pL s172 rfl (by decide)) E
            · replace E := E.trans (if_pos h237)
              refine V.seg F floX7 cjoX7 [.aload_n 0, .getfield 72, .iload 4, .iload 5, .i2l, .lastore, .goto 58] (by decide +kernel) (pc2 := 308) (lv2 := [(0, .ref 52), (1, .int m), (3, .int (mI M 61 (ix ((32 * m) + (mI M 52 25))))), (4, .int (mI M 62 (ix ((32 * m) + (mI M 52 25))))), (5, .int (mI M 63 (ix ((32 * m) + (mI M 52 25))))), (6, .int w0_109)]) (st2 := []) (M2 := uL M172 73 (ix (mI M 62 (ix ((32 * m) + (mI M 52 25))))) (Int32.toInt64 (mI M 63 (ix ((32 * m) + (mI M 52 25)))))) rfl ⟨trivial, ((q.sm s172.1).f 52 7 23 rfl), trivial, trivial, trivial, ((q.sm s172.1).a 73 22 8 rfl hL.1), (by decide), trivial⟩ ?_
              refine V.pick [0, 1, 2, 4, 5] rfl ?_
              exact hJ308 (uL M172 73 (ix (mI M 62 (ix ((32 * m) + (mI M 52 25))))) (Int32.toInt64 (mI M 63 (ix ((32 * m) + (mI M 52 25)))))) (SK.pL s172 rfl (by decide)) E
          · replace E := E.trans (if_neg h209)
            refine V.seg F floX7 cjoX7 [.aload_n 0, .getfield 72, .iload 4, .iload_n 3, .aload_n 0, .getfield 72, .iload 5, .laload, .lconst 0] (by decide +kernel) (pc2 := 227) (lv2 := [(0, .ref 52), (1, .int m), (3, .int (mI M 61 (ix ((32 * m) + (mI M 52 25))))), (4, .int (mI M 62 (ix ((32 * m) + (mI M 52 25))))), (5, .int (mI M 63 (ix ((32 * m) + (mI M 52 25))))), (6, .int w0_109)]) (st2 := [.long 0, .long (mL M172 73 (ix (mI M 63 (ix ((32 * m) + (mI M 52 25)))))), .int (mI M 61 (ix ((32 * m) + (mI M 52 25)))), .int (mI M 62 (ix ((32 * m) + (mI M 52 25)))), .ref 73]) (M2 := M172) rfl ⟨trivial, ((q.sm s172.1).f 52 7 23 rfl), trivial, trivial, trivial, ((q.sm s172.1).f 52 7 23 rfl), trivial, ((q.sm s172.1).a 73 22 8 rfl (by first | exact ask23 hL h36 | exact ask24 hL h60 | exact hL.2.1 (lt20e j123) | exact hL.2.1 (lt12 h175) | exact hL.2.1 h209 | exact hL.2.2.1 h256 | exact hL.2.2.2.1 h138)), trivial, trivial⟩ ?_
            refine V.callS (as := [.int (mI M 61 (ix ((32 * m) + (mI M 52 25)))), .long (mL M172 73 (ix (mI M 63 (ix ((32 * m) + (mI M 52 25)))))), .long 0]) (rest := [.int (mI M 62 (ix ((32 * m) + (mI M 52 25)))), .ref 73]) F (by decide +kernel) lX7_183 bX7_reckon (c_X7_reckon G X.2.1 M172 (mI M 61 (ix ((32 * m) + (mI M 52 25)))) (mL M172 73 (ix (mI M 63 (ix ((32 * m) + (mI M 52 25)))))) 0 (fun z => absurd z (ge12 h175))) (rm_ok hRm hd (by decide) (by decide)) ⟨Nat.zero_le _, Nat.zero_le _⟩ (Nat.le_of_ble_eq_true rfl) (fun r_ N_ p_ => ?_)
            obtain ⟨rfl, hN_⟩ := p_
            rw [hN_]
            clear hN_
            refine V.seg F floX7 cjoX7 [.lastore] (by decide +kernel) (pc2 := 231) (lv2 := [(0, .ref 52), (1, .int m), (3, .int (mI M 61 (ix ((32 * m) + (mI M 52 25))))), (4, .int (mI M 62 (ix ((32 * m) + (mI M 52 25))))), (5, .int (mI M 63 (ix ((32 * m) + (mI M 52 25))))), (6, .int w0_109)]) (st2 := []) (M2 := uL M172 73 (ix (mI M 62 (ix ((32 * m) + (mI M 52 25))))) (f_X7_reckon (mI M 61 (ix ((32 * m) + (mI M 52 25)))) (mL M172 73 (ix (mI M 63 (ix ((32 * m) + (mI M 52 25)))))) 0)) rfl ⟨((q.sm s172.1).a 73 22 8 rfl hL.1), trivial⟩ ?_
            refine (?_ : ∀ (M231 : Mem), (SK wr M M231) → f_X7_line M m = f_X7_line_c231 m M w0_109 M231 → V G X 7 0 0 (Qx G X 0 0 (p_X7_line M m)) 231 [(0, .ref 52), (1, .int m), (3, .int (mI M 61 (ix ((32 * m) + (mI M 52 25))))), (4, .int (mI M 62 (ix ((32 * m) + (mI M 52 25))))), (5, .int (mI M 63 (ix ((32 * m) + (mI M 52 25))))), (6, .int w0_109)] [] M231) _ (SK.pL s172 rfl (by decide)) E
            intro M231 s231 E
            refine V.seg F floX7 cjoX7 [.goto 77] (by decide +kernel) (pc2 := 308) (lv2 := [(0, .ref 52), (1, .int m), (3, .int (mI M 61 (ix ((32 * m) + (mI M 52 25))))), (4, .int (mI M 62 (ix ((32 * m) + (mI M 52 25))))), (5, .int (mI M 63 (ix ((32 * m) + (mI M 52 25))))), (6, .int w0_109)]) (st2 := []) (M2 := M231) rfl ⟨(by decide), trivial⟩ ?_
            refine V.pick [0, 1, 2, 4, 5] rfl ?_
            exact hJ308 M231 s231 E
        · replace E := E.trans (if_neg h175)
          refine V.seg F floX7 cjoX7 [.aload_n 0, .getfield 72, .iload 4, .iload_n 3, .aload_n 0, .getfield 72, .iload 4, .laload, .aload_n 0, .getfield 72, .iload 5, .laload] (by decide +kernel) (pc2 := 199) (lv2 := [(0, .ref 52), (1, .int m), (3, .int (mI M 61 (ix ((32 * m) + (mI M 52 25))))), (4, .int (mI M 62 (ix ((32 * m) + (mI M 52 25))))), (5, .int (mI M 63 (ix ((32 * m) + (mI M 52 25))))), (6, .int w0_109)]) (st2 := [.long (mL M172 73 (ix (mI M 63 (ix ((32 * m) + (mI M 52 25)))))), .long (mL M172 73 (ix (mI M 62 (ix ((32 * m) + (mI M 52 25)))))), .int (mI M 61 (ix ((32 * m) + (mI M 52 25)))), .int (mI M 62 (ix ((32 * m) + (mI M 52 25)))), .ref 73]) (M2 := M172) rfl ⟨trivial, ((q.sm s172.1).f 52 7 23 rfl), trivial, trivial, trivial, ((q.sm s172.1).f 52 7 23 rfl), trivial, ((q.sm s172.1).a 73 22 8 rfl hL.1), trivial, ((q.sm s172.1).f 52 7 23 rfl), trivial, ((q.sm s172.1).a 73 22 8 rfl (by first | exact ask23 hL h36 | exact ask24 hL h60 | exact hL.2.1 (lt20e j123) | exact hL.2.1 (lt12 h175) | exact hL.2.1 h209 | exact hL.2.2.1 h256 | exact hL.2.2.2.1 h138)), trivial⟩ ?_
          refine V.callS (as := [.int (mI M 61 (ix ((32 * m) + (mI M 52 25)))), .long (mL M172 73 (ix (mI M 62 (ix ((32 * m) + (mI M 52 25)))))), .long (mL M172 73 (ix (mI M 63 (ix ((32 * m) + (mI M 52 25))))))]) (rest := [.int (mI M 62 (ix ((32 * m) + (mI M 52 25)))), .ref 73]) F (by decide +kernel) lX7_183 bX7_reckon (c_X7_reckon G X.2.1 M172 (mI M 61 (ix ((32 * m) + (mI M 52 25)))) (mL M172 73 (ix (mI M 62 (ix ((32 * m) + (mI M 52 25)))))) (mL M172 73 (ix (mI M 63 (ix ((32 * m) + (mI M 52 25)))))) j172a) (rm_ok hRm hd (by decide) (by decide)) ⟨Nat.zero_le _, Nat.zero_le _⟩ (Nat.le_of_ble_eq_true rfl) (fun r_ N_ p_ => ?_)
          obtain ⟨rfl, hN_⟩ := p_
          rw [hN_]
          clear hN_
          refine V.seg F floX7 cjoX7 [.lastore] (by decide +kernel) (pc2 := 203) (lv2 := [(0, .ref 52), (1, .int m), (3, .int (mI M 61 (ix ((32 * m) + (mI M 52 25))))), (4, .int (mI M 62 (ix ((32 * m) + (mI M 52 25))))), (5, .int (mI M 63 (ix ((32 * m) + (mI M 52 25))))), (6, .int w0_109)]) (st2 := []) (M2 := uL M172 73 (ix (mI M 62 (ix ((32 * m) + (mI M 52 25))))) (f_X7_reckon (mI M 61 (ix ((32 * m) + (mI M 52 25)))) (mL M172 73 (ix (mI M 62 (ix ((32 * m) + (mI M 52 25)))))) (mL M172 73 (ix (mI M 63 (ix ((32 * m) + (mI M 52 25)))))))) rfl ⟨((q.sm s172.1).a 73 22 8 rfl hL.1), trivial⟩ ?_
          refine (?_ : ∀ (M203 : Mem), (SK wr M M203) → f_X7_line M m = f_X7_line_c203 m M w0_109 M203 → V G X 7 0 0 (Qx G X 0 0 (p_X7_line M m)) 203 [(0, .ref 52), (1, .int m), (3, .int (mI M 61 (ix ((32 * m) + (mI M 52 25))))), (4, .int (mI M 62 (ix ((32 * m) + (mI M 52 25))))), (5, .int (mI M 63 (ix ((32 * m) + (mI M 52 25))))), (6, .int w0_109)] [] M203) _ (SK.pL s172 rfl (by decide)) E
          intro M203 s203 E
          refine V.seg F floX7 cjoX7 [.goto 105] (by decide +kernel) (pc2 := 308) (lv2 := [(0, .ref 52), (1, .int m), (3, .int (mI M 61 (ix ((32 * m) + (mI M 52 25))))), (4, .int (mI M 62 (ix ((32 * m) + (mI M 52 25))))), (5, .int (mI M 63 (ix ((32 * m) + (mI M 52 25))))), (6, .int w0_109)]) (st2 := []) (M2 := M203) rfl ⟨(by decide), trivial⟩ ?_
          refine V.pick [0, 1, 2, 4, 5] rfl ?_
          exact hJ308 M203 s203 E
      refine V.ic_ne (off := 34) F (by decide +kernel) (tgt := 172) (by decide) (fun h138 => ?_) (fun h138 => ?_)
      · replace E := E.trans (if_neg h138)
        refine V.pick [0, 1, 2, 3, 4, 5] rfl ?_
        exact hJ172 M135 s135 (by exact j135) (by first | exact fun _ => h162 | exact fun z => absurd z h138) E
      · replace E := E.trans (if_pos h138)
        refine V.seg F floX7 cjoX7 [.aload_n 0, .getfield 72, .iload 4, .laload, .lconst 0, .aload_n 0, .getfield 45, .iload 5, .iaload, .i2l, .lconst 1, .lsub] (by decide +kernel) (pc2 := 159) (lv2 := [(0, .ref 52), (1, .int m), (3, .int (mI M 61 (ix ((32 * m) + (mI M 52 25))))), (4, .int (mI M 62 (ix ((32 * m) + (mI M 52 25))))), (5, .int (mI M 63 (ix ((32 * m) + (mI M 52 25))))), (6, .int w0_109)]) (st2 := [.long ((Int32.toInt64 (mI M135 64 (ix (mI M 63 (ix ((32 * m) + (mI M 52 25))))))) - 1), .long 0, .long (mL M135 73 (ix (mI M 62 (ix ((32 * m) + (mI M 52 25))))))]) (M2 := M135) rfl ⟨trivial, ((q.sm s135.1).f 52 7 23 rfl), trivial, ((q.sm s135.1).a 73 22 8 rfl hL.1), trivial, trivial, ((q.sm s135.1).f 52 7 14 rfl), trivial, ((q.sm s135.1).a 64 20 4 rfl (by first | exact ask23 hL h36 | exact ask24 hL h60 | exact hL.2.1 (lt20e j123) | exact hL.2.1 (lt12 h175) | exact hL.2.1 h209 | exact hL.2.2.1 h256 | exact hL.2.2.2.1 h138)), trivial, trivial, trivial, trivial⟩ ?_
        refine V.callS (as := [.long (mL M135 73 (ix (mI M 62 (ix ((32 * m) + (mI M 52 25)))))), .long 0, .long ((Int32.toInt64 (mI M135 64 (ix (mI M 63 (ix ((32 * m) + (mI M 52 25))))))) - 1)]) (rest := []) F (by decide +kernel) lX7_89 bX7_in (c_X7_in G X.2.1 M135 (mL M135 73 (ix (mI M 62 (ix ((32 * m) + (mI M 52 25)))))) 0 ((Int32.toInt64 (mI M135 64 (ix (mI M 63 (ix ((32 * m) + (mI M 52 25))))))) - 1)) (rm_ok hRm hd (by decide) (by decide)) ⟨Nat.zero_le _, Nat.zero_le _⟩ (Nat.le_of_ble_eq_true rfl) (fun r_ N_ p_ => ?_)
        obtain ⟨rfl, hN_, z159⟩ := p_
        rw [hN_]
        clear hN_
        refine V.if_ne (off := 10) F (by decide +kernel) (tgt := 172) (by decide) (fun h162 => ?_) (fun h162 => ?_)
        · replace E := E.trans (if_neg h162)
          refine V.pick [0, 1, 2, 3, 4, 5] rfl ?_
          exact hJ172 M135 s135 (by exact j135) (by first | exact fun _ => h162 | exact fun z => absurd z h138) E
        · replace E := E.trans (if_pos h162)
          refine V.pick [0] rfl ?_
          exact hJ165 M135 s135 E
    have hJ123 : ∀ (M123 : Mem), (SK wr M M123) → ((mI M 61 (ix ((32 * m) + (mI M 52 25)))) = 9 ∨ (mI M 61 (ix ((32 * m) + (mI M 52 25)))) = 10) → f_X7_line M m = f_X7_line_123 m M w0_109 M123 → V G X 7 0 0 (Qx G X 0 0 (p_X7_line M m)) 123 [(0, .ref 52), (1, .int m), (3, .int (mI M 61 (ix ((32 * m) + (mI M 52 25))))), (4, .int (mI M 62 (ix ((32 * m) + (mI M 52 25))))), (5, .int (mI M 63 (ix ((32 * m) + (mI M 52 25))))), (6, .int w0_109)] [] M123 := by
      intro M123 s123 j123 E
      refine V.seg F floX7 cjoX7 [.aload_n 0, .getfield 72, .iload 5, .laload, .lconst 0, .lcmp] (by decide +kernel) (pc2 := 132) (lv2 := [(0, .ref 52), (1, .int m), (3, .int (mI M 61 (ix ((32 * m) + (mI M 52 25))))), (4, .int (mI M 62 (ix ((32 * m) + (mI M 52 25))))), (5, .int (mI M 63 (ix ((32 * m) + (mI M 52 25))))), (6, .int w0_109)]) (st2 := [.int (lg_cmp (mL M123 73 (ix (mI M 63 (ix ((32 * m) + (mI M 52 25)))))) 0)]) (M2 := M123) rfl ⟨trivial, ((q.sm s123.1).f 52 7 23 rfl), trivial, ((q.sm s123.1).a 73 22 8 rfl (by first | exact ask23 hL h36 | exact ask24 hL h60 | exact hL.2.1 (lt20e j123) | exact hL.2.1 (lt12 h175) | exact hL.2.1 h209 | exact hL.2.2.1 h256 | exact hL.2.2.2.1 h138)), trivial, trivial, trivial⟩ ?_
      refine V.lc_eq (off := 33) F (by decide +kernel) (tgt := 165) (by decide) (fun h132 => ?_) (fun h132 => ?_)
      · replace E := E.trans (if_pos h132)
        refine V.pick [0] rfl ?_
        exact hJ165 M123 s123 E
      · replace E := E.trans (if_neg h132)
        refine V.pick [0, 1, 2, 3, 4, 5] rfl ?_
        exact hJ135 M123 s123 (by first | exact fun _ => h132 | exact fun z => z.elim (fun y => absurd y h114) (fun y => absurd y h120)) E
    refine V.ic_eq (off := 9) F (by decide +kernel) (tgt := 123) (by decide) (fun h114 => ?_) (fun h114 => ?_)
    · replace E := E.trans (if_pos h114)
      refine V.pick [1, 2, 3, 4, 5, 0] rfl ?_
      exact hJ123 M109 s109 (by first | exact Or.inl h114 | exact Or.inr h120) E
    · replace E := E.trans (if_neg h114)
      refine V.seg F floX7 cjoX7 [.iload_n 3, .bipush 10] (by decide +kernel) (pc2 := 120) (lv2 := [(6, .int w0_109), (0, .ref 52), (1, .int m), (3, .int (mI M 61 (ix ((32 * m) + (mI M 52 25))))), (4, .int (mI M 62 (ix ((32 * m) + (mI M 52 25))))), (5, .int (mI M 63 (ix ((32 * m) + (mI M 52 25)))))]) (st2 := [.int 10, .int (mI M 61 (ix ((32 * m) + (mI M 52 25))))]) (M2 := M109) rfl ⟨trivial, trivial, trivial⟩ ?_
      refine V.ic_ne (off := 15) F (by decide +kernel) (tgt := 135) (by decide) (fun h120 => ?_) (fun h120 => ?_)
      · replace E := E.trans (if_neg h120)
        refine V.pick [1, 2, 3, 4, 5, 0] rfl ?_
        exact hJ135 M109 s109 (by first | exact fun _ => h132 | exact fun z => z.elim (fun y => absurd y h114) (fun y => absurd y h120)) E
      · replace E := E.trans (if_pos h120)
        refine V.pick [1, 2, 3, 4, 5, 0] rfl ?_
        exact hJ123 M109 s109 (by first | exact Or.inl h114 | exact Or.inr h120) E
  have hJ104 : ∀ (M104 : Mem), (SK wr M M104) → f_X7_line M m = f_X7_line_104 m M M104 → V G X 7 0 0 (Qx G X 0 0 (p_X7_line M m)) 104 [(0, .ref 52), (1, .int m), (3, .int (mI M 61 (ix ((32 * m) + (mI M 52 25))))), (4, .int (mI M 62 (ix ((32 * m) + (mI M 52 25))))), (5, .int (mI M 63 (ix ((32 * m) + (mI M 52 25)))))] [] M104 := by
    intro M104 s104 E
    refine V.seg F floX7 cjoX7 [.iconst 1, .goto 4] (by decide +kernel) (pc2 := 109) (lv2 := [(0, .ref 52), (1, .int m), (3, .int (mI M 61 (ix ((32 * m) + (mI M 52 25))))), (4, .int (mI M 62 (ix ((32 * m) + (mI M 52 25))))), (5, .int (mI M 63 (ix ((32 * m) + (mI M 52 25)))))]) (st2 := [.int 1]) (M2 := M104) rfl ⟨trivial, (by decide), trivial⟩ ?_
    refine V.pick [0, 1, 2, 3, 4] rfl ?_
    exact hJ109 1 M104 s104 E
  have hJ57 : ∀ (M57 : Mem), (SK wr M M57) → f_X7_line M m = f_X7_line_57 m M M57 → V G X 7 0 0 (Qx G X 0 0 (p_X7_line M m)) 57 [(0, .ref 52), (1, .int m), (3, .int (mI M 61 (ix ((32 * m) + (mI M 52 25))))), (4, .int (mI M 62 (ix ((32 * m) + (mI M 52 25))))), (5, .int (mI M 63 (ix ((32 * m) + (mI M 52 25)))))] [] M57 := by
    intro M57 s57 E
    refine V.seg F floX7 cjoX7 [.iload_n 3, .bipush 24] (by decide +kernel) (pc2 := 60) (lv2 := [(0, .ref 52), (1, .int m), (3, .int (mI M 61 (ix ((32 * m) + (mI M 52 25))))), (4, .int (mI M 62 (ix ((32 * m) + (mI M 52 25))))), (5, .int (mI M 63 (ix ((32 * m) + (mI M 52 25)))))]) (st2 := [.int 24, .int (mI M 61 (ix ((32 * m) + (mI M 52 25))))]) (M2 := M57) rfl ⟨trivial, trivial, trivial⟩ ?_
    have hJ81 : ∀ (M81 : Mem), (SK wr M M81) → f_X7_line M m = f_X7_line_81 m M M81 → V G X 7 0 0 (Qx G X 0 0 (p_X7_line M m)) 81 [(0, .ref 52), (1, .int m), (3, .int (mI M 61 (ix ((32 * m) + (mI M 52 25))))), (4, .int (mI M 62 (ix ((32 * m) + (mI M 52 25))))), (5, .int (mI M 63 (ix ((32 * m) + (mI M 52 25)))))] [] M81 := by
      intro M81 s81 E
      refine V.seg F floX7 cjoX7 [.iload_n 3, .bipush 25] (by decide +kernel) (pc2 := 84) (lv2 := [(0, .ref 52), (1, .int m), (3, .int (mI M 61 (ix ((32 * m) + (mI M 52 25))))), (4, .int (mI M 62 (ix ((32 * m) + (mI M 52 25))))), (5, .int (mI M 63 (ix ((32 * m) + (mI M 52 25)))))]) (st2 := [.int 25, .int (mI M 61 (ix ((32 * m) + (mI M 52 25))))]) (M2 := M81) rfl ⟨trivial, trivial, trivial⟩ ?_
      have hJ108 : ∀ (M108 : Mem), (SK wr M M108) → f_X7_line M m = f_X7_line_108 m M M108 → V G X 7 0 0 (Qx G X 0 0 (p_X7_line M m)) 108 [(0, .ref 52), (1, .int m), (3, .int (mI M 61 (ix ((32 * m) + (mI M 52 25))))), (4, .int (mI M 62 (ix ((32 * m) + (mI M 52 25))))), (5, .int (mI M 63 (ix ((32 * m) + (mI M 52 25)))))] [] M108 := by
        intro M108 s108 E
        refine V.seg F floX7 cjoX7 [.iconst 0] (by decide +kernel) (pc2 := 109) (lv2 := [(0, .ref 52), (1, .int m), (3, .int (mI M 61 (ix ((32 * m) + (mI M 52 25))))), (4, .int (mI M 62 (ix ((32 * m) + (mI M 52 25))))), (5, .int (mI M 63 (ix ((32 * m) + (mI M 52 25)))))]) (st2 := [.int 0]) (M2 := M108) rfl ⟨trivial, trivial⟩ ?_
        refine V.pick [0, 1, 2, 3, 4] rfl ?_
        exact hJ109 0 M108 s108 E
      refine V.ic_ne (off := 24) F (by decide +kernel) (tgt := 108) (by decide) (fun h84 => ?_) (fun h84 => ?_)
      · replace E := E.trans (if_neg h84)
        refine V.pick [0, 1, 2, 3, 4] rfl ?_
        exact hJ108 M81 s81 E
      · replace E := E.trans (if_pos h84)
        refine V.seg F floX7 cjoX7 [.aload_n 0, .getfield 72, .iload 4, .laload, .iload 5, .lushr, .lconst 1, .land, .lconst 1, .lcmp] (by decide +kernel) (pc2 := 101) (lv2 := [(0, .ref 52), (1, .int m), (3, .int (mI M 61 (ix ((32 * m) + (mI M 52 25))))), (4, .int (mI M 62 (ix ((32 * m) + (mI M 52 25))))), (5, .int (mI M 63 (ix ((32 * m) + (mI M 52 25)))))]) (st2 := [.int (lg_cmp ((jushr (mL M81 73 (ix (mI M 62 (ix ((32 * m) + (mI M 52 25)))))) (mI M 63 (ix ((32 * m) + (mI M 52 25))))) &&& 1) 1)]) (M2 := M81) rfl ⟨trivial, ((q.sm s81.1).f 52 7 23 rfl), trivial, ((q.sm s81.1).a 73 22 8 rfl hL.1), trivial, trivial, trivial, trivial, trivial, trivial, trivial⟩ ?_
        refine V.lc_ne (off := 7) F (by decide +kernel) (tgt := 108) (by decide) (fun h101 => ?_) (fun h101 => ?_)
        · replace E := E.trans (if_neg h101)
          refine V.pick [0, 1, 2, 3, 4] rfl ?_
          exact hJ108 M81 s81 E
        · replace E := E.trans (if_pos h101)
          refine V.pick [0, 1, 2, 3, 4] rfl ?_
          exact hJ104 M81 s81 E
    refine V.ic_ne (off := 21) F (by decide +kernel) (tgt := 81) (by decide) (fun h60 => ?_) (fun h60 => ?_)
    · replace E := E.trans (if_neg h60)
      refine V.pick [0, 1, 2, 3, 4] rfl ?_
      exact hJ81 M57 s57 E
    · replace E := E.trans (if_pos h60)
      refine V.seg F floX7 cjoX7 [.aload_n 0, .getfield 72, .iload 4, .laload, .aload_n 0, .getfield 72, .iload 5, .laload, .lcmp] (by decide +kernel) (pc2 := 78) (lv2 := [(0, .ref 52), (1, .int m), (3, .int (mI M 61 (ix ((32 * m) + (mI M 52 25))))), (4, .int (mI M 62 (ix ((32 * m) + (mI M 52 25))))), (5, .int (mI M 63 (ix ((32 * m) + (mI M 52 25)))))]) (st2 := [.int (lg_cmp (mL M57 73 (ix (mI M 62 (ix ((32 * m) + (mI M 52 25)))))) (mL M57 73 (ix (mI M 63 (ix ((32 * m) + (mI M 52 25)))))))]) (M2 := M57) rfl ⟨trivial, ((q.sm s57.1).f 52 7 23 rfl), trivial, ((q.sm s57.1).a 73 22 8 rfl hL.1), trivial, ((q.sm s57.1).f 52 7 23 rfl), trivial, ((q.sm s57.1).a 73 22 8 rfl (by first | exact ask23 hL h36 | exact ask24 hL h60 | exact hL.2.1 (lt20e j123) | exact hL.2.1 (lt12 h175) | exact hL.2.1 h209 | exact hL.2.2.1 h256 | exact hL.2.2.2.1 h138)), trivial, trivial⟩ ?_
      refine V.lc_lt (off := 26) F (by decide +kernel) (tgt := 104) (by decide) (fun h78 => ?_) (fun h78 => ?_)
      · replace E := E.trans (if_pos h78)
        refine V.pick [0, 1, 2, 3, 4] rfl ?_
        exact hJ104 M57 s57 E
      · replace E := E.trans (if_neg h78)
        refine V.pick [0, 1, 2, 3, 4] rfl ?_
        exact hJ81 M57 s57 E
  refine V.ic_ne (off := 21) F (by decide +kernel) (tgt := 57) (by decide) (fun h36 => ?_) (fun h36 => ?_)
  · replace E := E.trans (if_neg h36)
    refine V.pick [4, 5, 2, 1, 0] rfl ?_
    exact hJ57 M (SK.rf (w := wr) gb) E
  · replace E := E.trans (if_pos h36)
    refine V.seg F floX7 cjoX7 [.aload_n 0, .getfield 72, .iload 4, .laload, .aload_n 0, .getfield 72, .iload 5, .laload, .lcmp] (by decide +kernel) (pc2 := 54) (lv2 := [(5, .int (mI M 63 (ix ((32 * m) + (mI M 52 25))))), (4, .int (mI M 62 (ix ((32 * m) + (mI M 52 25))))), (3, .int (mI M 61 (ix ((32 * m) + (mI M 52 25))))), (2, .int ((32 * m) + (mI M 52 25))), (0, .ref 52), (1, .int m)]) (st2 := [.int (lg_cmp (mL M 73 (ix (mI M 62 (ix ((32 * m) + (mI M 52 25)))))) (mL M 73 (ix (mI M 63 (ix ((32 * m) + (mI M 52 25)))))))]) (M2 := M) rfl ⟨trivial, (q.f 52 7 23 rfl), trivial, (q.a 73 22 8 rfl hL.1), trivial, (q.f 52 7 23 rfl), trivial, (q.a 73 22 8 rfl (by first | exact ask23 hL h36 | exact ask24 hL h60 | exact hL.2.1 (lt20e j123) | exact hL.2.1 (lt12 h175) | exact hL.2.1 h209 | exact hL.2.2.1 h256 | exact hL.2.2.2.1 h138)), trivial, trivial⟩ ?_
    refine V.lc_eq (off := 50) F (by decide +kernel) (tgt := 104) (by decide) (fun h54 => ?_) (fun h54 => ?_)
    · replace E := E.trans (if_pos h54)
      refine V.pick [4, 5, 2, 1, 0] rfl ?_
      exact hJ104 M (SK.rf (w := wr) gb) E
    · replace E := E.trans (if_neg h54)
      refine V.pick [4, 5, 2, 1, 0] rfl ?_
      exact hJ57 M (SK.rf (w := wr) gb) E
