def f_X6_isLine_17   : Int32 := 0
def f_X6_isLine_84  (w0_84 : Int32) : Int32 := w0_84
def f_X6_isLine_83   : Int32 := f_X6_isLine_84 0
def f_X6_isLine_100  (w0_100 : Int32) : Int32 := w0_100
def f_X6_isLine_99   : Int32 := f_X6_isLine_100 0
def f_X6_isLine_120  (w0_120 : Int32) : Int32 := w0_120
def f_X6_isLine_119   : Int32 := f_X6_isLine_120 0
def f_X6_isLine_134  (w0_134 : Int32) : Int32 := w0_134
def f_X6_isLine_133   : Int32 := f_X6_isLine_134 0
def f_X6_isLine (op : Int32) (a : Int32) (b : Int32) : Int32 := if op < 0 then f_X6_isLine_17  else if 27 < op then f_X6_isLine_17  else if (f_X6_isPlace a) = 0 then f_X6_isLine_17  else if op = 20 then 1 else if op = 22 then if b < 0 then f_X6_isLine_83  else if 4 ≤ b then f_X6_isLine_83  else f_X6_isLine_84 1 else if op = 25 then if b < 0 then f_X6_isLine_99  else if 64 ≤ b then f_X6_isLine_99  else f_X6_isLine_100 1 else if op = 26 then if a = 0 then if b < 0 then f_X6_isLine_119  else if 32 < b then f_X6_isLine_119  else f_X6_isLine_120 1 else f_X6_isLine_119  else if op = 27 then if a = 0 then if b = 0 then f_X6_isLine_134 1 else f_X6_isLine_133  else f_X6_isLine_133  else f_X6_isPlace b
abbrev p_X6_isLine (M : Mem) (op : Int32) (a : Int32) (b : Int32) : Option Value → Mem → Prop := fun r N => r = some (.int (f_X6_isLine op a b)) ∧ N = M ∧ ((f_X6_isLine op a b) = 0 ∨ (f_X6_isLine op a b) = 1)
set_option maxRecDepth 100000 in
set_option maxHeartbeats 4000000 in
theorem c_X6_isLine (G : Ctx) (l : Launch) (M : Mem) (op : Int32) (a : Int32) (b : Int32)  : CT G l 1 mX6_isLine [.int op, .int a, .int b] M 0 0 (p_X6_isLine M op a b) := by
  refine CT.of (by decide) (Nat.le_of_ble_eq_true rfl) ?_
  intro X d hd hl hRm hnm F
  subst hl
  have E : f_X6_isLine op a b = f_X6_isLine op a b := rfl
  show V G X 3 0 0 (Qx G X 0 0 (p_X6_isLine M op a b)) 0 [(0, .int op), (1, .int a), (2, .int b)] [] M
  refine V.seg F floX6 cjoX6 [.iload_n 0] (by decide +kernel) (pc2 := 1) (lv2 := [(0, .int op), (1, .int a), (2, .int b)]) (st2 := [.int op]) (M2 := M) rfl ⟨trivial, trivial⟩ ?_
  have hJ17 : f_X6_isLine op a b = f_X6_isLine_17 → V G X 3 0 0 (Qx G X 0 0 (p_X6_isLine M op a b)) 17 [] [] M := by
    intro E
    refine V.seg F floX6 cjoX6 [.iconst 0] (by decide +kernel) (pc2 := 18) (lv2 := []) (st2 := [.int 0]) (M2 := M) rfl ⟨trivial, trivial⟩ ?_
    exact V.zret F (Or.inl rfl) (by decide +kernel) ⟨congrArg (fun z => some (Value.int z)) E.symm, rfl, by rw [E]; exact Or.inl rfl⟩
  refine V.if_lt (off := 16) F (by decide +kernel) (tgt := 17) (by decide) (fun h1 => ?_) (fun h1 => ?_)
  · replace E := E.trans (if_pos h1)
    refine V.pick [] rfl ?_
    exact hJ17   E
  · replace E := E.trans (if_neg h1)
    refine V.seg F floX6 cjoX6 [.iload_n 0, .bipush 27] (by decide +kernel) (pc2 := 7) (lv2 := [(0, .int op), (1, .int a), (2, .int b)]) (st2 := [.int 27, .int op]) (M2 := M) rfl ⟨trivial, trivial, trivial⟩ ?_
    refine V.ic_gt (off := 10) F (by decide +kernel) (tgt := 17) (by decide) (fun h7 => ?_) (fun h7 => ?_)
    · replace E := E.trans (if_pos h7)
      refine V.pick [] rfl ?_
      exact hJ17   E
    · replace E := E.trans (if_neg h7)
      refine V.seg F floX6 cjoX6 [.iload_n 1] (by decide +kernel) (pc2 := 11) (lv2 := [(0, .int op), (1, .int a), (2, .int b)]) (st2 := [.int a]) (M2 := M) rfl ⟨trivial, trivial⟩ ?_
      refine V.callS (as := [.int a]) (rest := []) F (by decide +kernel) lX6_155 bX6_isPlace (c_X6_isPlace G X.2.1 M a) (rm_ok hRm hd (by decide) (by decide)) ⟨Nat.zero_le _, Nat.zero_le _⟩ (Nat.le_of_ble_eq_true rfl) (fun r_ N_ p_ => ?_)
      obtain ⟨rfl, hN_, z11⟩ := p_
      rw [hN_]
      clear hN_
      refine V.if_ne (off := 5) F (by decide +kernel) (tgt := 19) (by decide) (fun h14 => ?_) (fun h14 => ?_)
      · replace E := E.trans (if_neg h14)
        refine V.seg F floX6 cjoX6 [.iload_n 0] (by decide +kernel) (pc2 := 20) (lv2 := [(0, .int op), (1, .int a), (2, .int b)]) (st2 := [.int op]) (M2 := M) rfl ⟨trivial, trivial⟩ ?_
        by_cases h20_0 : op = 20
        · replace E := E.trans (if_pos h20_0)
          refine V.swo (dflt := 115) (lo := 20) (hi := 27) (offs := #[48, 115, 50, 115, 115, 65, 81, 101]) (len := 48) (off := 48) (tgt := 68) F (by decide +kernel) (by rw [h20_0]; rfl) rfl (by decide) ?_
          refine V.seg F floX6 cjoX6 [.iconst 1] (by decide +kernel) (pc2 := 69) (lv2 := [(0, .int op), (1, .int a), (2, .int b)]) (st2 := [.int 1]) (M2 := M) rfl ⟨trivial, trivial⟩ ?_
          exact V.zret F (Or.inr rfl) (by decide +kernel) ⟨congrArg (fun z => some (Value.int z)) E.symm, rfl, by rw [E]; exact Or.inr rfl⟩
        · replace E := E.trans (if_neg h20_0)
          by_cases h20_1 : op = 22
          · replace E := E.trans (if_pos h20_1)
            refine V.swo (dflt := 115) (lo := 20) (hi := 27) (offs := #[48, 115, 50, 115, 115, 65, 81, 101]) (len := 48) (off := 50) (tgt := 70) F (by decide +kernel) (by rw [h20_1]; rfl) rfl (by decide) ?_
            refine V.seg F floX6 cjoX6 [.iload_n 2] (by decide +kernel) (pc2 := 71) (lv2 := [(0, .int op), (1, .int a), (2, .int b)]) (st2 := [.int b]) (M2 := M) rfl ⟨trivial, trivial⟩ ?_
            have hJ84 : ∀ (w0_84 : Int32), (w0_84 = 0 ∨ w0_84 = 1) → f_X6_isLine op a b = f_X6_isLine_84 w0_84 → V G X 3 0 0 (Qx G X 0 0 (p_X6_isLine M op a b)) 84 [] [.int w0_84] M := by
              intro w0_84 zw0_84 E
              exact V.zret F (zw0_84) (by decide +kernel) ⟨congrArg (fun z => some (Value.int z)) E.symm, rfl, by rw [E]; exact zw0_84⟩
            have hJ83 : f_X6_isLine op a b = f_X6_isLine_83 → V G X 3 0 0 (Qx G X 0 0 (p_X6_isLine M op a b)) 83 [] [] M := by
              intro E
              refine V.seg F floX6 cjoX6 [.iconst 0] (by decide +kernel) (pc2 := 84) (lv2 := []) (st2 := [.int 0]) (M2 := M) rfl ⟨trivial, trivial⟩ ?_
              refine V.pick [] rfl ?_
              exact hJ84 0 (Or.inl rfl) E
            refine V.if_lt (off := 12) F (by decide +kernel) (tgt := 83) (by decide) (fun h71 => ?_) (fun h71 => ?_)
            · replace E := E.trans (if_pos h71)
              refine V.pick [] rfl ?_
              exact hJ83   E
            · replace E := E.trans (if_neg h71)
              refine V.seg F floX6 cjoX6 [.iload_n 2, .iconst 4] (by decide +kernel) (pc2 := 76) (lv2 := [(0, .int op), (1, .int a), (2, .int b)]) (st2 := [.int 4, .int b]) (M2 := M) rfl ⟨trivial, trivial, trivial⟩ ?_
              refine V.ic_ge (off := 7) F (by decide +kernel) (tgt := 83) (by decide) (fun h76 => ?_) (fun h76 => ?_)
              · replace E := E.trans (if_pos h76)
                refine V.pick [] rfl ?_
                exact hJ83   E
              · replace E := E.trans (if_neg h76)
                refine V.seg F floX6 cjoX6 [.iconst 1, .goto 4] (by decide +kernel) (pc2 := 84) (lv2 := [(0, .int op), (1, .int a), (2, .int b)]) (st2 := [.int 1]) (M2 := M) rfl ⟨trivial, (by decide), trivial⟩ ?_
                refine V.pick [] rfl ?_
                exact hJ84 1 (Or.inr rfl) E
          · replace E := E.trans (if_neg h20_1)
            by_cases h20_2 : op = 25
            · replace E := E.trans (if_pos h20_2)
              refine V.swo (dflt := 115) (lo := 20) (hi := 27) (offs := #[48, 115, 50, 115, 115, 65, 81, 101]) (len := 48) (off := 65) (tgt := 85) F (by decide +kernel) (by rw [h20_2]; rfl) rfl (by decide) ?_
              refine V.seg F floX6 cjoX6 [.iload_n 2] (by decide +kernel) (pc2 := 86) (lv2 := [(0, .int op), (1, .int a), (2, .int b)]) (st2 := [.int b]) (M2 := M) rfl ⟨trivial, trivial⟩ ?_
              have hJ100 : ∀ (w0_100 : Int32), (w0_100 = 0 ∨ w0_100 = 1) → f_X6_isLine op a b = f_X6_isLine_100 w0_100 → V G X 3 0 0 (Qx G X 0 0 (p_X6_isLine M op a b)) 100 [] [.int w0_100] M := by
                intro w0_100 zw0_100 E
                exact V.zret F (zw0_100) (by decide +kernel) ⟨congrArg (fun z => some (Value.int z)) E.symm, rfl, by rw [E]; exact zw0_100⟩
              have hJ99 : f_X6_isLine op a b = f_X6_isLine_99 → V G X 3 0 0 (Qx G X 0 0 (p_X6_isLine M op a b)) 99 [] [] M := by
                intro E
                refine V.seg F floX6 cjoX6 [.iconst 0] (by decide +kernel) (pc2 := 100) (lv2 := []) (st2 := [.int 0]) (M2 := M) rfl ⟨trivial, trivial⟩ ?_
                refine V.pick [] rfl ?_
                exact hJ100 0 (Or.inl rfl) E
              refine V.if_lt (off := 13) F (by decide +kernel) (tgt := 99) (by decide) (fun h86 => ?_) (fun h86 => ?_)
              · replace E := E.trans (if_pos h86)
                refine V.pick [] rfl ?_
                exact hJ99   E
              · replace E := E.trans (if_neg h86)
                refine V.seg F floX6 cjoX6 [.iload_n 2, .bipush 64] (by decide +kernel) (pc2 := 92) (lv2 := [(0, .int op), (1, .int a), (2, .int b)]) (st2 := [.int 64, .int b]) (M2 := M) rfl ⟨trivial, trivial, trivial⟩ ?_
                refine V.ic_ge (off := 7) F (by decide +kernel) (tgt := 99) (by decide) (fun h92 => ?_) (fun h92 => ?_)
                · replace E := E.trans (if_pos h92)
                  refine V.pick [] rfl ?_
                  exact hJ99   E
                · replace E := E.trans (if_neg h92)
                  refine V.seg F floX6 cjoX6 [.iconst 1, .goto 4] (by decide +kernel) (pc2 := 100) (lv2 := [(0, .int op), (1, .int a), (2, .int b)]) (st2 := [.int 1]) (M2 := M) rfl ⟨trivial, (by decide), trivial⟩ ?_
                  refine V.pick [] rfl ?_
                  exact hJ100 1 (Or.inr rfl) E
            · replace E := E.trans (if_neg h20_2)
              by_cases h20_3 : op = 26
              · replace E := E.trans (if_pos h20_3)
                refine V.swo (dflt := 115) (lo := 20) (hi := 27) (offs := #[48, 115, 50, 115, 115, 65, 81, 101]) (len := 48) (off := 81) (tgt := 101) F (by decide +kernel) (by rw [h20_3]; rfl) rfl (by decide) ?_
                refine V.seg F floX6 cjoX6 [.iload_n 1] (by decide +kernel) (pc2 := 102) (lv2 := [(0, .int op), (1, .int a), (2, .int b)]) (st2 := [.int a]) (M2 := M) rfl ⟨trivial, trivial⟩ ?_
                have hJ120 : ∀ (w0_120 : Int32), (w0_120 = 0 ∨ w0_120 = 1) → f_X6_isLine op a b = f_X6_isLine_120 w0_120 → V G X 3 0 0 (Qx G X 0 0 (p_X6_isLine M op a b)) 120 [] [.int w0_120] M := by
                  intro w0_120 zw0_120 E
                  exact V.zret F (zw0_120) (by decide +kernel) ⟨congrArg (fun z => some (Value.int z)) E.symm, rfl, by rw [E]; exact zw0_120⟩
                have hJ119 : f_X6_isLine op a b = f_X6_isLine_119 → V G X 3 0 0 (Qx G X 0 0 (p_X6_isLine M op a b)) 119 [] [] M := by
                  intro E
                  refine V.seg F floX6 cjoX6 [.iconst 0] (by decide +kernel) (pc2 := 120) (lv2 := []) (st2 := [.int 0]) (M2 := M) rfl ⟨trivial, trivial⟩ ?_
                  refine V.pick [] rfl ?_
                  exact hJ120 0 (Or.inl rfl) E
                refine V.if_ne (off := 17) F (by decide +kernel) (tgt := 119) (by decide) (fun h102 => ?_) (fun h102 => ?_)
                · replace E := E.trans (if_neg h102)
                  refine V.pick [] rfl ?_
                  exact hJ119   E
                · replace E := E.trans (if_pos h102)
                  refine V.seg F floX6 cjoX6 [.iload_n 2] (by decide +kernel) (pc2 := 106) (lv2 := [(0, .int op), (1, .int a), (2, .int b)]) (st2 := [.int b]) (M2 := M) rfl ⟨trivial, trivial⟩ ?_
                  refine V.if_lt (off := 13) F (by decide +kernel) (tgt := 119) (by decide) (fun h106 => ?_) (fun h106 => ?_)
                  · replace E := E.trans (if_pos h106)
                    refine V.pick [] rfl ?_
                    exact hJ119   E
                  · replace E := E.trans (if_neg h106)
                    refine V.seg F floX6 cjoX6 [.iload_n 2, .bipush 32] (by decide +kernel) (pc2 := 112) (lv2 := [(0, .int op), (1, .int a), (2, .int b)]) (st2 := [.int 32, .int b]) (M2 := M) rfl ⟨trivial, trivial, trivial⟩ ?_
                    refine V.ic_gt (off := 7) F (by decide +kernel) (tgt := 119) (by decide) (fun h112 => ?_) (fun h112 => ?_)
                    · replace E := E.trans (if_pos h112)
                      refine V.pick [] rfl ?_
                      exact hJ119   E
                    · replace E := E.trans (if_neg h112)
                      refine V.seg F floX6 cjoX6 [.iconst 1, .goto 4] (by decide +kernel) (pc2 := 120) (lv2 := [(0, .int op), (1, .int a), (2, .int b)]) (st2 := [.int 1]) (M2 := M) rfl ⟨trivial, (by decide), trivial⟩ ?_
                      refine V.pick [] rfl ?_
                      exact hJ120 1 (Or.inr rfl) E
              · replace E := E.trans (if_neg h20_3)
                by_cases h20_4 : op = 27
                · replace E := E.trans (if_pos h20_4)
                  refine V.swo (dflt := 115) (lo := 20) (hi := 27) (offs := #[48, 115, 50, 115, 115, 65, 81, 101]) (len := 48) (off := 101) (tgt := 121) F (by decide +kernel) (by rw [h20_4]; rfl) rfl (by decide) ?_
                  refine V.seg F floX6 cjoX6 [.iload_n 1] (by decide +kernel) (pc2 := 122) (lv2 := [(0, .int op), (1, .int a), (2, .int b)]) (st2 := [.int a]) (M2 := M) rfl ⟨trivial, trivial⟩ ?_
                  have hJ134 : ∀ (w0_134 : Int32), (w0_134 = 0 ∨ w0_134 = 1) → f_X6_isLine op a b = f_X6_isLine_134 w0_134 → V G X 3 0 0 (Qx G X 0 0 (p_X6_isLine M op a b)) 134 [] [.int w0_134] M := by
                    intro w0_134 zw0_134 E
                    exact V.zret F (zw0_134) (by decide +kernel) ⟨congrArg (fun z => some (Value.int z)) E.symm, rfl, by rw [E]; exact zw0_134⟩
                  have hJ133 : f_X6_isLine op a b = f_X6_isLine_133 → V G X 3 0 0 (Qx G X 0 0 (p_X6_isLine M op a b)) 133 [] [] M := by
                    intro E
                    refine V.seg F floX6 cjoX6 [.iconst 0] (by decide +kernel) (pc2 := 134) (lv2 := []) (st2 := [.int 0]) (M2 := M) rfl ⟨trivial, trivial⟩ ?_
                    refine V.pick [] rfl ?_
                    exact hJ134 0 (Or.inl rfl) E
                  refine V.if_ne (off := 11) F (by decide +kernel) (tgt := 133) (by decide) (fun h122 => ?_) (fun h122 => ?_)
                  · replace E := E.trans (if_neg h122)
                    refine V.pick [] rfl ?_
                    exact hJ133   E
                  · replace E := E.trans (if_pos h122)
                    refine V.seg F floX6 cjoX6 [.iload_n 2] (by decide +kernel) (pc2 := 126) (lv2 := [(0, .int op), (1, .int a), (2, .int b)]) (st2 := [.int b]) (M2 := M) rfl ⟨trivial, trivial⟩ ?_
                    refine V.if_ne (off := 7) F (by decide +kernel) (tgt := 133) (by decide) (fun h126 => ?_) (fun h126 => ?_)
                    · replace E := E.trans (if_neg h126)
                      refine V.pick [] rfl ?_
                      exact hJ133   E
                    · replace E := E.trans (if_pos h126)
                      refine V.seg F floX6 cjoX6 [.iconst 1, .goto 4] (by decide +kernel) (pc2 := 134) (lv2 := [(0, .int op), (1, .int a), (2, .int b)]) (st2 := [.int 1]) (M2 := M) rfl ⟨trivial, (by decide), trivial⟩ ?_
                      refine V.pick [] rfl ?_
                      exact hJ134 1 (Or.inr rfl) E
                · replace E := E.trans (if_neg h20_4)
                  refine V.swo (dflt := 115) (lo := 20) (hi := 27) (offs := #[48, 115, 50, 115, 115, 65, 81, 101]) (len := 48) (off := 115) (tgt := 135) F (by decide +kernel) (sw_dflt 8 (by decide) (h := fun k_ hk_ e_ => match k_, hk_, e_ with | 0, _, e_ => absurd ((e_.trans (by decide))) h20_0 | 1, _, _ => rfl | 2, _, e_ => absurd ((e_.trans (by decide))) h20_1 | 3, _, _ => rfl | 4, _, _ => rfl | 5, _, e_ => absurd ((e_.trans (by decide))) h20_2 | 6, _, e_ => absurd ((e_.trans (by decide))) h20_3 | 7, _, e_ => absurd ((e_.trans (by decide))) h20_4 | k_ + 8, hk_, _ => absurd hk_ (by omega))) rfl (by decide) ?_
                  refine V.seg F floX6 cjoX6 [.iload_n 2] (by decide +kernel) (pc2 := 136) (lv2 := [(0, .int op), (1, .int a), (2, .int b)]) (st2 := [.int b]) (M2 := M) rfl ⟨trivial, trivial⟩ ?_
                  refine V.callS (as := [.int b]) (rest := []) F (by decide +kernel) lX6_155 bX6_isPlace (c_X6_isPlace G X.2.1 M b) (rm_ok hRm hd (by decide) (by decide)) ⟨Nat.zero_le _, Nat.zero_le _⟩ (Nat.le_of_ble_eq_true rfl) (fun r_ N_ p_ => ?_)
                  obtain ⟨rfl, hN_, z136⟩ := p_
                  rw [hN_]
                  clear hN_
                  exact V.zret F (z136) (by decide +kernel) ⟨congrArg (fun z => some (Value.int z)) E.symm, rfl, by rw [E]; exact z136⟩
      · replace E := E.trans (if_pos h14)
        refine V.pick [] rfl ?_
        exact hJ17   E
def f_X6_op_22  (M22 : Mem) : Int32 × Mem := ((-1), M22)
def f_X6_op_22y1  (M22 : Mem) : Int32 × Mem := ((-1), M22)
def f_X6_op_c46 (a2 : Nat) (M46 : Mem) : Int32 × Mem := ((mI M46 a2 3) - 1, M46)
def f_X6_op (M : Mem) (m : Int32) (op : Int32) (a : Int32) (b : Int32) : Int32 × Mem := (f_X6_routineAt M m).elim (f_X6_op_22 M) (fun a2 => if (f_X6_isLine op a b) = 0 then f_X6_op_22y1 M else if (mI M a2 3) < 32 then f_X6_op_c46 a2 (f_X3_addLine M a2 op a b) else ((-2), M))
abbrev p_X6_op (M : Mem) (m : Int32) (op : Int32) (a : Int32) (b : Int32) : Option Value → Mem → Prop := fun r N => r = some (.int (f_X6_op M m op a b).1) ∧ N = (f_X6_op M m op a b).2 ∧ SC wL M N
set_option maxRecDepth 100000 in
set_option maxHeartbeats 4000000 in
theorem c_X6_op (G : Ctx) (l : Launch) (M : Mem) (m : Int32) (op : Int32) (a : Int32) (b : Int32) (q : Ok M) (hRs : Rs M) : CT G l 2 mX6_op [.ref 1, .int m, .int op, .int a, .int b] M 0 0 (p_X6_op M m op a b) := by
  refine CT.of (by decide) (Nat.le_of_ble_eq_true rfl) ?_
  intro X d hd hl hRm hnm F
  subst hl
  have E : f_X6_op M m op a b = f_X6_op M m op a b := rfl
  show V G X 6 0 0 (Qx G X 0 0 (p_X6_op M m op a b)) 0 [(0, .ref 1), (1, .int m), (2, .int op), (3, .int a), (4, .int b)] [] M
  refine V.seg F floX6 cjoX6 [.aload_n 0, .iload_n 1] (by decide +kernel) (pc2 := 2) (lv2 := [(0, .ref 1), (1, .int m), (2, .int op), (3, .int a), (4, .int b)]) (st2 := [.int m, .ref 1]) (M2 := M) rfl ⟨trivial, trivial, trivial⟩ ?_
  refine V.callV (as := [.int m]) (rest := []) F (by decide +kernel) lX6_129 bX6_routineAt ⟨6, _, (q.o 1 6 rfl), rfl, rfl⟩ (c_X6_routineAt G X.2.1 M m q (by first | assumption | decide)) (rm_ok hRm hd (by decide) (by decide)) ⟨Nat.zero_le _, Nat.zero_le _⟩ (Nat.le_of_ble_eq_true rfl) (fun r_ N_ p_ => ?_)
  obtain ⟨rfl, hN_⟩ := p_
  rw [hN_]
  clear hN_
  rcases hq2 : (f_X6_routineAt M m) with _ | a2
  · replace E := E.trans (el_n hq2)
    refine V.seg F floX6 cjoX6 [.astore 5, .aload 5] (by decide +kernel) (pc2 := 9) (lv2 := [(5, .null), (0, .ref 1), (1, .int m), (2, .int op), (3, .int a), (4, .int b)]) (st2 := [.null]) (M2 := M) rfl ⟨(by decide), trivial, trivial⟩ ?_
    have hJ22 : ∀ (M22 : Mem), (SC wL M M22) → f_X6_op M m op a b = f_X6_op_22 M22 → V G X 6 0 0 (Qx G X 0 0 (p_X6_op M m op a b)) 22 [] [] M22 := by
      intro M22 s22 E
      refine V.seg F floX6 cjoX6 [.iconst (-1)] (by decide +kernel) (pc2 := 23) (lv2 := []) (st2 := [.int ((-1))]) (M2 := M22) rfl ⟨trivial, trivial⟩ ?_
      exact V.iret F (by decide +kernel) ⟨congrArg (fun z => some (Value.int z.1)) E.symm, congrArg Prod.snd E.symm, s22⟩
    refine V.nul_n (off := 13) F (by decide +kernel) (tgt := 22) (by decide) ?_
    refine V.pick [] rfl ?_
    exact hJ22 M (SC.rf (w := wL)) E
  · replace E := E.trans (el_s hq2)
    refine V.seg F floX6 cjoX6 [.astore 5, .aload 5] (by decide +kernel) (pc2 := 9) (lv2 := [(5, .ref a2), (0, .ref 1), (1, .int m), (2, .int op), (3, .int a), (4, .int b)]) (st2 := [.ref a2]) (M2 := M) rfl ⟨(by decide), trivial, trivial⟩ ?_
    have hJ22 : ∀ (M22 : Mem), (SC wL M M22) → f_X6_op M m op a b = f_X6_op_22y1 M22 → V G X 6 0 0 (Qx G X 0 0 (p_X6_op M m op a b)) 22 [] [] M22 := by
      intro M22 s22 E
      refine V.seg F floX6 cjoX6 [.iconst (-1)] (by decide +kernel) (pc2 := 23) (lv2 := []) (st2 := [.int ((-1))]) (M2 := M22) rfl ⟨trivial, trivial⟩ ?_
      exact V.iret F (by decide +kernel) ⟨congrArg (fun z => some (Value.int z.1)) E.symm, congrArg Prod.snd E.symm, s22⟩
    refine V.nul_r (off := 13) F (by decide +kernel) ?_
    refine V.seg F floX6 cjoX6 [.iload_n 2, .iload_n 3, .iload 4] (by decide +kernel) (pc2 := 16) (lv2 := [(5, .ref a2), (0, .ref 1), (1, .int m), (2, .int op), (3, .int a), (4, .int b)]) (st2 := [.int b, .int a, .int op]) (M2 := M) rfl ⟨trivial, trivial, trivial, trivial⟩ ?_
    refine V.callS (as := [.int op, .int a, .int b]) (rest := []) F (by decide +kernel) lX6_133 bX6_isLine (c_X6_isLine G X.2.1 M op a b) (rm_ok hRm hd (by decide) (by decide)) ⟨Nat.zero_le _, Nat.zero_le _⟩ (Nat.le_of_ble_eq_true rfl) (fun r_ N_ p_ => ?_)
    obtain ⟨rfl, hN_, z16⟩ := p_
    rw [hN_]
    clear hN_
    refine V.if_ne (off := 5) F (by decide +kernel) (tgt := 24) (by decide) (fun h19 => ?_) (fun h19 => ?_)
    · replace E := E.trans (if_neg h19)
      refine V.seg F floX6 cjoX6 [.aload 5, .getfield 137, .bipush 32] (by decide +kernel) (pc2 := 31) (lv2 := [(5, .ref a2), (0, .ref 1), (1, .int m), (2, .int op), (3, .int a), (4, .int b)]) (st2 := [.int 32, .int (mI M a2 3)]) (M2 := M) rfl ⟨trivial, (Rt.o (routineAt_o hRs hq2)), trivial, trivial⟩ ?_
      refine V.ic_lt (off := 6) F (by decide +kernel) (tgt := 37) (by decide) (fun h31 => ?_) (fun h31 => ?_)
      · replace E := E.trans (if_pos h31)
        refine V.seg F floX6 cjoX6 [.aload 5, .iload_n 2, .iload_n 3, .iload 4] (by decide +kernel) (pc2 := 43) (lv2 := [(5, .ref a2), (0, .ref 1), (1, .int m), (2, .int op), (3, .int a), (4, .int b)]) (st2 := [.int b, .int a, .int op, .ref a2]) (M2 := M) rfl ⟨trivial, trivial, trivial, trivial, trivial⟩ ?_
        refine V.callV (as := [.int op, .int a, .int b]) (rest := []) F (by decide +kernel) lX6_140 bX3_addLine ⟨3, _, (Rt.o (routineAt_o hRs hq2)), rfl, rfl⟩ (c_X3_addLine G X.2.1 M a2 op a b q (routineAt_o hRs hq2) (cnI (routineAt_c hRs hq2) rfl h31 (by decide))) (rm_ok hRm hd (by decide) (by decide)) ⟨Nat.zero_le _, Nat.zero_le _⟩ (Nat.le_of_ble_eq_true rfl) (fun r_ N_ p_ => ?_)
        obtain ⟨rfl, rfl, t43⟩ := p_
        refine (?_ : ∀ (M46 : Mem), (SC wL M M46) → f_X6_op M m op a b = f_X6_op_c46 a2 M46 → V G X 6 0 0 (Qx G X 0 0 (p_X6_op M m op a b)) 46 [(5, .ref a2), (0, .ref 1), (1, .int m), (2, .int op), (3, .int a), (4, .int b)] [] M46) _ t43 E
        intro M46 s46 E
        refine V.seg F floX6 cjoX6 [.aload 5, .getfield 137, .iconst 1, .isub] (by decide +kernel) (pc2 := 53) (lv2 := [(5, .ref a2), (0, .ref 1), (1, .int m), (2, .int op), (3, .int a), (4, .int b)]) (st2 := [.int ((mI M46 a2 3) - 1)]) (M2 := M46) rfl ⟨trivial, (Rt.o ((routineAt_o hRs hq2).sm s46.1)), trivial, trivial, trivial⟩ ?_
        exact V.iret F (by decide +kernel) ⟨congrArg (fun z => some (Value.int z.1)) E.symm, congrArg Prod.snd E.symm, s46⟩
      · replace E := E.trans (if_neg h31)
        refine V.seg F floX6 cjoX6 [.bipush (-2)] (by decide +kernel) (pc2 := 36) (lv2 := [(5, .ref a2), (0, .ref 1), (1, .int m), (2, .int op), (3, .int a), (4, .int b)]) (st2 := [.int ((-2))]) (M2 := M) rfl ⟨trivial, trivial⟩ ?_
        exact V.iret F (by decide +kernel) ⟨congrArg (fun z => some (Value.int z.1)) E.symm, congrArg Prod.snd E.symm, (SC.rf (w := wL))⟩
    · replace E := E.trans (if_pos h19)
      refine V.pick [] rfl ?_
      exact hJ22 M (SC.rf (w := wL)) E
def f_X6_table_9  (M9 : Mem) : Int32 × Mem := ((-1), M9)
def f_X6_table_40 (t : Int32) : Nat → Nat → Mem → (Int32 × Mem)
  | 0, _, M40 => (0, M40)
  | n_ + 1, j40, M40 => if (mI M40 1 2) ≤ (nI j40) then (mI M40 10 (ix t), M40) else (f_X6_table_40 t n_) (j40 + 1) (uI M40 (74 + 271 * ix (nI j40)) 7 0)
def f_X6_table_c37 (t : Int32) (M : Mem) (M37 : Mem) : Int32 × Mem := f_X6_table_40 t (ix (mI M 1 2) + 1) 0 M37
def f_X6_table (M : Mem) (t : Int32) (v : Int64) : Int32 × Mem := if t < 0 then f_X6_table_9 M else if t < 4 then if (mI M 10 (ix t)) < 16 then f_X6_table_c37 t M (f_X5_addNumber M t v) else ((-2), M) else f_X6_table_9 M
abbrev p_X6_table (M : Mem) (t : Int32) (v : Int64) : Option Value → Mem → Prop := fun r N => r = some (.int (f_X6_table M t v).1) ∧ N = (f_X6_table M t v).2 ∧ SC wT M N
set_option maxRecDepth 100000 in
set_option maxHeartbeats 4000000 in
theorem c_X6_table (G : Ctx) (l : Launch) (M : Mem) (t : Int32) (v : Int64) (q : Ok M) (hRs : Rs M) (hT : Ts M) : CT G l 1 mX6_table [.ref 1, .int t, .long v] M 0 0 (p_X6_table M t v) := by
  refine CT.of (by decide) (Nat.le_of_ble_eq_true rfl) ?_
  intro X d hd hl hRm hnm F
  subst hl
  have E : f_X6_table M t v = f_X6_table M t v := rfl
  show V G X 5 0 0 (Qx G X 0 0 (p_X6_table M t v)) 0 [(0, .ref 1), (1, .int t), (2, .long v)] [] M
  refine V.seg F floX6 cjoX6 [.iload_n 1] (by decide +kernel) (pc2 := 1) (lv2 := [(0, .ref 1), (1, .int t), (2, .long v)]) (st2 := [.int t]) (M2 := M) rfl ⟨trivial, trivial⟩ ?_
  have hJ9 : ∀ (M9 : Mem), (SC wT M M9) → f_X6_table M t v = f_X6_table_9 M9 → V G X 5 0 0 (Qx G X 0 0 (p_X6_table M t v)) 9 [] [] M9 := by
    intro M9 s9 E
    refine V.seg F floX6 cjoX6 [.iconst (-1)] (by decide +kernel) (pc2 := 10) (lv2 := []) (st2 := [.int ((-1))]) (M2 := M9) rfl ⟨trivial, trivial⟩ ?_
    exact V.iret F (by decide +kernel) ⟨congrArg (fun z => some (Value.int z.1)) E.symm, congrArg Prod.snd E.symm, s9⟩
  refine V.if_lt (off := 8) F (by decide +kernel) (tgt := 9) (by decide) (fun h1 => ?_) (fun h1 => ?_)
  · replace E := E.trans (if_pos h1)
    refine V.pick [] rfl ?_
    exact hJ9 M (SC.rf (w := wT)) E
  · replace E := E.trans (if_neg h1)
    refine V.seg F floX6 cjoX6 [.iload_n 1, .iconst 4] (by decide +kernel) (pc2 := 6) (lv2 := [(0, .ref 1), (1, .int t), (2, .long v)]) (st2 := [.int 4, .int t]) (M2 := M) rfl ⟨trivial, trivial, trivial⟩ ?_
    refine V.ic_lt (off := 5) F (by decide +kernel) (tgt := 11) (by decide) (fun h6 => ?_) (fun h6 => ?_)
    · replace E := E.trans (if_pos h6)
      refine V.seg F floX6 cjoX6 [.aload_n 0, .getfield 28, .getfield 144, .iload_n 1, .iaload, .bipush 16] (by decide +kernel) (pc2 := 22) (lv2 := [(0, .ref 1), (1, .int t), (2, .long v)]) (st2 := [.int 16, .int (mI M 10 (ix t))]) (M2 := M) rfl ⟨trivial, (q.f 1 6 3 rfl), (q.f 4 5 1 rfl), trivial, (q.a 10 20 4 rfl (fin4 h1 h6)), trivial, trivial⟩ ?_
      refine V.ic_lt (off := 6) F (by decide +kernel) (tgt := 28) (by decide) (fun h22 => ?_) (fun h22 => ?_)
      · replace E := E.trans (if_pos h22)
        refine V.seg F floX6 cjoX6 [.aload_n 0, .getfield 28, .iload_n 1, .lload_n 2] (by decide +kernel) (pc2 := 34) (lv2 := [(0, .ref 1), (1, .int t), (2, .long v)]) (st2 := [.long v, .int t, .ref 4]) (M2 := M) rfl ⟨trivial, (q.f 1 6 3 rfl), trivial, trivial, trivial⟩ ?_
        refine V.callV (as := [.int t, .long v]) (rest := []) F (by decide +kernel) lX6_148 bX5_addNumber ⟨5, _, (q.o 4 5 rfl), rfl, rfl⟩ (c_X5_addNumber G X.2.1 M t v q (fin4 h1 h6) (cnI (hT _ (vin_lt (fin4 h1 h6))) rfl h22 (by decide))) (rm_ok hRm hd (by decide) (by decide)) ⟨Nat.zero_le _, Nat.zero_le _⟩ (Nat.le_of_ble_eq_true rfl) (fun r_ N_ p_ => ?_)
        obtain ⟨rfl, rfl, t34⟩ := p_
        refine (?_ : ∀ (M37 : Mem), (SC wT M M37) → f_X6_table M t v = f_X6_table_c37 t M M37 → V G X 5 0 0 (Qx G X 0 0 (p_X6_table M t v)) 37 [(0, .ref 1), (1, .int t), (2, .long v)] [] M37) _ t34 E
        intro M37 s37 E
        refine V.seg F floX6 cjoX6 [.iconst 0] (by decide +kernel) (pc2 := 38) (lv2 := [(0, .ref 1), (1, .int t), (2, .long v)]) (st2 := [.int 0]) (M2 := M37) rfl ⟨trivial, trivial⟩ ?_
        refine V.seg F floX6 cjoX6 [.istore 4] (by decide +kernel) (pc2 := 40) (lv2 := [(4, .int 0), (0, .ref 1), (1, .int t), (2, .long v)]) (st2 := []) (M2 := M37) rfl ⟨(by decide), trivial⟩ ?_
        have hJ40 : ∀ (n_ : Nat) (j40 : Nat) (M40 : Mem), (SC wT M M40) → (j40 ≤ ix (mI M 1 2)) → (ix (mI M 1 2) - j40 < n_) → f_X6_table M t v = f_X6_table_40 t n_ j40 M40 → V G X 5 0 0 (Qx G X 0 0 (p_X6_table M t v)) 40 [(0, .ref 1), (1, .int t), (4, .int (nI j40))] [] M40 := by
          intro n_
          induction n_ with
          | zero => intro j40 M40 s40 b40 m40 E; omega
          | succ n_ ih_40 =>
            intro j40 M40 s40 b40 m40 E
            rw [f_X6_table_40] at E
            refine V.seg F floX6 cjoX6 [.iload 4, .aload_n 0, .getfield 21] (by decide +kernel) (pc2 := 46) (lv2 := [(0, .ref 1), (1, .int t), (4, .int (nI j40))]) (st2 := [.int (mI M40 1 2), .int (nI j40)]) (M2 := M40) rfl ⟨trivial, trivial, ((q.sm s40.1).o 1 6 rfl), trivial⟩ ?_
            refine V.ic_ge (off := 20) F (by decide +kernel) (tgt := 66) (by decide) (fun h46 => ?_) (fun h46 => ?_)
            · replace E := E.trans (if_pos h46)
              refine V.seg F floX6 cjoX6 [.aload_n 0, .getfield 28, .getfield 144, .iload_n 1, .iaload] (by decide +kernel) (pc2 := 75) (lv2 := [(0, .ref 1), (1, .int t), (4, .int (nI j40))]) (st2 := [.int (mI M40 10 (ix t))]) (M2 := M40) rfl ⟨trivial, ((q.sm s40.1).f 1 6 3 rfl), ((q.sm s40.1).f 4 5 1 rfl), trivial, ((q.sm s40.1).a 10 20 4 rfl (fin4 h1 h6)), trivial⟩ ?_
              exact V.iret F (by decide +kernel) ⟨congrArg (fun z => some (Value.int z.1)) E.symm, congrArg Prod.snd E.symm, s40⟩
            · replace E := E.trans (if_neg h46)
              refine V.seg F floX6 cjoX6 [.aload_n 0, .getfield 17, .iload 4] (by decide +kernel) (pc2 := 55) (lv2 := [(0, .ref 1), (1, .int t), (4, .int (nI j40))]) (st2 := [.int (nI j40), .ref 3]) (M2 := M40) rfl ⟨trivial, ((q.sm s40.1).f 1 6 1 rfl), trivial, trivial⟩ ?_
              refine V.aald (kd := 27) F (by decide +kernel) ((q.sm s40.1).a 3 27 6 rfl (vp_in_nI (by have le_ := hRs.1.2; have hlt_ := cnt_lt (n := ix (mI M 1 2)) h46 ((s40.2 1 2 rfl).1.trans hRs.1.1) (by omega) (by omega); omega) (by decide))) ⟨by decide, by decide⟩ (by show M40.2.1 3 (ix (nI j40)) = true; rw [s40.1.2]; exact (hRs.2 (ix (nI j40)) (by have le_ := hRs.1.2; have h_ := cnt_lt (n := ix (mI M 1 2)) h46 ((s40.2 1 2 rfl).1.trans hRs.1.1) (by omega) (by omega); rw [ix_n (by omega)]; exact h_)).2.1) ?_
              show V G X 5 0 0 (Qx G X 0 0 (p_X6_table M t v)) 56 [(0, .ref 1), (1, .int t), (4, .int (nI j40))] [.ref (74 + 271 * ix (nI j40))] M40
              refine V.seg F floX6 cjoX6 [.iconst 0, .putfield 152, .iinc 4 1, .goto (-23)] (by decide +kernel) (pc2 := 40) (lv2 := [(4, .int ((nI j40) + 1)), (0, .ref 1), (1, .int t)]) (st2 := []) (M2 := uI M40 (74 + 271 * ix (nI j40)) 7 0) rfl ⟨trivial, ⟨(Rt.o ((hRs.2 (ix (nI j40)) (by have le_ := hRs.1.2; have h_ := cnt_lt (n := ix (mI M 1 2)) h46 ((s40.2 1 2 rfl).1.trans hRs.1.1) (by omega) (by omega); rw [ix_n (by omega)]; exact h_)).1.sm s40.1)), Or.inl rfl⟩, (by decide), (by decide), trivial⟩ ?_
              refine V.pick [1, 2, 0] rfl ?_
              rw [nI_1]
              exact ih_40 (j40 + 1) (uI M40 (74 + 271 * ix (nI j40)) 7 0) (SC.pI s40 (wC_r (hRs.2 (ix (nI j40)) (by have le_ := hRs.1.2; have h_ := cnt_lt (n := ix (mI M 1 2)) h46 ((s40.2 1 2 rfl).1.trans hRs.1.1) (by omega) (by omega); rw [ix_n (by omega)]; exact h_)).1 rfl)) (by have le_ := hRs.1.2; have hlt_ := cnt_lt (n := ix (mI M 1 2)) h46 ((s40.2 1 2 rfl).1.trans hRs.1.1) (by omega) (by omega); omega) (by have le_ := hRs.1.2; have hlt_ := cnt_lt (n := ix (mI M 1 2)) h46 ((s40.2 1 2 rfl).1.trans hRs.1.1) (by omega) (by omega); omega) E
        refine V.pick [1, 2, 0] rfl ?_
        exact hJ40 _ 0 M37 s37 (by omega) (by omega) E
      · replace E := E.trans (if_neg h22)
        refine V.seg F floX6 cjoX6 [.bipush (-2)] (by decide +kernel) (pc2 := 27) (lv2 := [(0, .ref 1), (1, .int t), (2, .long v)]) (st2 := [.int ((-2))]) (M2 := M) rfl ⟨trivial, trivial⟩ ?_
        exact V.iret F (by decide +kernel) ⟨congrArg (fun z => some (Value.int z.1)) E.symm, congrArg Prod.snd E.symm, (SC.rf (w := wT))⟩
    · replace E := E.trans (if_neg h6)
      refine V.pick [] rfl ?_
      exact hJ9 M (SC.rf (w := wT)) E
def f_X6_given_31  (M31 : Mem) : Int32 × Mem := ((-1), M31)
def f_X6_given_31y1  (M31 : Mem) : Int32 × Mem := ((-1), M31)
def f_X6_given_31y2  (M31 : Mem) : Int32 × Mem := ((-1), M31)
def f_X6_given_31y3  (M31 : Mem) : Int32 × Mem := ((-1), M31)
def f_X6_given_c56 (a2 : Nat) (M56 : Mem) : Int32 × Mem := (1, uI M56 a2 7 0)
def f_X6_given (M : Mem) (m : Int32) (p : Int32) (f : Int32) : Int32 × Mem := (f_X6_routineAt M m).elim ((f_X6_factAt f).elim (f_X6_given_31 M) (fun a9 => f_X6_given_31y1 M)) (fun a2 => (f_X6_factAt f).elim (f_X6_given_31y2 M) (fun a9 => if (f_X6_isPlace p) = 0 then f_X6_given_31y3 M else if (mI M a9 0) = 0 then f_X6_given_c56 a2 (f_X1_copy M (a2 + 4 + 3 + ix p) a9) else ((-3), M)))
abbrev p_X6_given (M : Mem) (m : Int32) (p : Int32) (f : Int32) : Option Value → Mem → Prop := fun r N => r = some (.int (f_X6_given M m p f).1) ∧ N = (f_X6_given M m p f).2 ∧ SC wF M N
set_option maxRecDepth 100000 in
set_option maxHeartbeats 4000000 in
theorem c_X6_given (G : Ctx) (l : Launch) (M : Mem) (m : Int32) (p : Int32) (f : Int32) (q : Ok M) (hRs : Rs M) : CT G l 1 mX6_given [.ref 1, .int m, .int p, .int f] M 0 0 (p_X6_given M m p f) := by
  refine CT.of (by decide) (Nat.le_of_ble_eq_true rfl) ?_
  intro X d hd hl hRm hnm F
  subst hl
  have E : f_X6_given M m p f = f_X6_given M m p f := rfl
  show V G X 6 0 0 (Qx G X 0 0 (p_X6_given M m p f)) 0 [(0, .ref 1), (1, .int m), (2, .int p), (3, .int f)] [] M
  refine V.seg F floX6 cjoX6 [.aload_n 0, .iload_n 1] (by decide +kernel) (pc2 := 2) (lv2 := [(0, .ref 1), (1, .int m), (2, .int p), (3, .int f)]) (st2 := [.int m, .ref 1]) (M2 := M) rfl ⟨trivial, trivial, trivial⟩ ?_
  refine V.callV (as := [.int m]) (rest := []) F (by decide +kernel) lX6_129 bX6_routineAt ⟨6, _, (q.o 1 6 rfl), rfl, rfl⟩ (c_X6_routineAt G X.2.1 M m q (by first | assumption | decide)) (rm_ok hRm hd (by decide) (by decide)) ⟨Nat.zero_le _, Nat.zero_le _⟩ (Nat.le_of_ble_eq_true rfl) (fun r_ N_ p_ => ?_)
  obtain ⟨rfl, hN_⟩ := p_
  rw [hN_]
  clear hN_
  rcases hq2 : (f_X6_routineAt M m) with _ | a2
  · replace E := E.trans (el_n hq2)
    refine V.seg F floX6 cjoX6 [.astore 4, .aload_n 0, .iload_n 3] (by decide +kernel) (pc2 := 9) (lv2 := [(4, .null), (0, .ref 1), (1, .int m), (2, .int p), (3, .int f)]) (st2 := [.int f, .ref 1]) (M2 := M) rfl ⟨(by decide), trivial, trivial, trivial⟩ ?_
    refine V.callV (as := [.int f]) (rest := []) F (by decide +kernel) lX6_65 bX6_factAt ⟨6, _, (q.o 1 6 rfl), rfl, rfl⟩ (c_X6_factAt G X.2.1 M f q) (rm_ok hRm hd (by decide) (by decide)) ⟨Nat.zero_le _, Nat.zero_le _⟩ (Nat.le_of_ble_eq_true rfl) (fun r_ N_ p_ => ?_)
    obtain ⟨rfl, hN_⟩ := p_
    rw [hN_]
    clear hN_
    rcases hq9 : (f_X6_factAt f) with _ | a9
    · replace E := E.trans (el_n hq9)
      refine V.seg F floX6 cjoX6 [.astore 5, .aload 4] (by decide +kernel) (pc2 := 16) (lv2 := [(5, .null), (4, .null), (0, .ref 1), (1, .int m), (2, .int p), (3, .int f)]) (st2 := [.null]) (M2 := M) rfl ⟨(by decide), trivial, trivial⟩ ?_
      have hJ31 : ∀ (M31 : Mem), (SC wF M M31) → f_X6_given M m p f = f_X6_given_31 M31 → V G X 6 0 0 (Qx G X 0 0 (p_X6_given M m p f)) 31 [] [] M31 := by
        intro M31 s31 E
        refine V.seg F floX6 cjoX6 [.iconst (-1)] (by decide +kernel) (pc2 := 32) (lv2 := []) (st2 := [.int ((-1))]) (M2 := M31) rfl ⟨trivial, trivial⟩ ?_
        exact V.iret F (by decide +kernel) ⟨congrArg (fun z => some (Value.int z.1)) E.symm, congrArg Prod.snd E.symm, s31⟩
      refine V.nul_n (off := 15) F (by decide +kernel) (tgt := 31) (by decide) ?_
      refine V.pick [] rfl ?_
      exact hJ31 M (SC.rf (w := wF)) E
    · replace E := E.trans (el_s hq9)
      refine V.seg F floX6 cjoX6 [.astore 5, .aload 4] (by decide +kernel) (pc2 := 16) (lv2 := [(5, .ref a9), (4, .null), (0, .ref 1), (1, .int m), (2, .int p), (3, .int f)]) (st2 := [.null]) (M2 := M) rfl ⟨(by decide), trivial, trivial⟩ ?_
      have hJ31 : ∀ (M31 : Mem), (SC wF M M31) → f_X6_given M m p f = f_X6_given_31y1 M31 → V G X 6 0 0 (Qx G X 0 0 (p_X6_given M m p f)) 31 [] [] M31 := by
        intro M31 s31 E
        refine V.seg F floX6 cjoX6 [.iconst (-1)] (by decide +kernel) (pc2 := 32) (lv2 := []) (st2 := [.int ((-1))]) (M2 := M31) rfl ⟨trivial, trivial⟩ ?_
        exact V.iret F (by decide +kernel) ⟨congrArg (fun z => some (Value.int z.1)) E.symm, congrArg Prod.snd E.symm, s31⟩
      refine V.nul_n (off := 15) F (by decide +kernel) (tgt := 31) (by decide) ?_
      refine V.pick [] rfl ?_
      exact hJ31 M (SC.rf (w := wF)) E
  · replace E := E.trans (el_s hq2)
    refine V.seg F floX6 cjoX6 [.astore 4, .aload_n 0, .iload_n 3] (by decide +kernel) (pc2 := 9) (lv2 := [(4, .ref a2), (0, .ref 1), (1, .int m), (2, .int p), (3, .int f)]) (st2 := [.int f, .ref 1]) (M2 := M) rfl ⟨(by decide), trivial, trivial, trivial⟩ ?_
    refine V.callV (as := [.int f]) (rest := []) F (by decide +kernel) lX6_65 bX6_factAt ⟨6, _, (q.o 1 6 rfl), rfl, rfl⟩ (c_X6_factAt G X.2.1 M f q) (rm_ok hRm hd (by decide) (by decide)) ⟨Nat.zero_le _, Nat.zero_le _⟩ (Nat.le_of_ble_eq_true rfl) (fun r_ N_ p_ => ?_)
    obtain ⟨rfl, hN_⟩ := p_
    rw [hN_]
    clear hN_
    rcases hq9 : (f_X6_factAt f) with _ | a9
    · replace E := E.trans (el_n hq9)
      refine V.seg F floX6 cjoX6 [.astore 5, .aload 4] (by decide +kernel) (pc2 := 16) (lv2 := [(5, .null), (4, .ref a2), (0, .ref 1), (1, .int m), (2, .int p), (3, .int f)]) (st2 := [.ref a2]) (M2 := M) rfl ⟨(by decide), trivial, trivial⟩ ?_
      have hJ31 : ∀ (M31 : Mem), (SC wF M M31) → f_X6_given M m p f = f_X6_given_31y2 M31 → V G X 6 0 0 (Qx G X 0 0 (p_X6_given M m p f)) 31 [] [] M31 := by
        intro M31 s31 E
        refine V.seg F floX6 cjoX6 [.iconst (-1)] (by decide +kernel) (pc2 := 32) (lv2 := []) (st2 := [.int ((-1))]) (M2 := M31) rfl ⟨trivial, trivial⟩ ?_
        exact V.iret F (by decide +kernel) ⟨congrArg (fun z => some (Value.int z.1)) E.symm, congrArg Prod.snd E.symm, s31⟩
      refine V.nul_r (off := 15) F (by decide +kernel) ?_
      refine V.seg F floX6 cjoX6 [.aload 5] (by decide +kernel) (pc2 := 21) (lv2 := [(5, .null), (4, .ref a2), (0, .ref 1), (1, .int m), (2, .int p), (3, .int f)]) (st2 := [.null]) (M2 := M) rfl ⟨trivial, trivial⟩ ?_
      refine V.nul_n (off := 10) F (by decide +kernel) (tgt := 31) (by decide) ?_
      refine V.pick [] rfl ?_
      exact hJ31 M (SC.rf (w := wF)) E
    · replace E := E.trans (el_s hq9)
      refine V.seg F floX6 cjoX6 [.astore 5, .aload 4] (by decide +kernel) (pc2 := 16) (lv2 := [(5, .ref a9), (4, .ref a2), (0, .ref 1), (1, .int m), (2, .int p), (3, .int f)]) (st2 := [.ref a2]) (M2 := M) rfl ⟨(by decide), trivial, trivial⟩ ?_
      have hJ31 : ∀ (M31 : Mem), (SC wF M M31) → f_X6_given M m p f = f_X6_given_31y3 M31 → V G X 6 0 0 (Qx G X 0 0 (p_X6_given M m p f)) 31 [] [] M31 := by
        intro M31 s31 E
        refine V.seg F floX6 cjoX6 [.iconst (-1)] (by decide +kernel) (pc2 := 32) (lv2 := []) (st2 := [.int ((-1))]) (M2 := M31) rfl ⟨trivial, trivial⟩ ?_
        exact V.iret F (by decide +kernel) ⟨congrArg (fun z => some (Value.int z.1)) E.symm, congrArg Prod.snd E.symm, s31⟩
      refine V.nul_r (off := 15) F (by decide +kernel) ?_
      refine V.seg F floX6 cjoX6 [.aload 5] (by decide +kernel) (pc2 := 21) (lv2 := [(5, .ref a9), (4, .ref a2), (0, .ref 1), (1, .int m), (2, .int p), (3, .int f)]) (st2 := [.ref a9]) (M2 := M) rfl ⟨trivial, trivial⟩ ?_
      refine V.nul_r (off := 10) F (by decide +kernel) ?_
      refine V.seg F floX6 cjoX6 [.iload_n 2] (by decide +kernel) (pc2 := 25) (lv2 := [(5, .ref a9), (4, .ref a2), (0, .ref 1), (1, .int m), (2, .int p), (3, .int f)]) (st2 := [.int p]) (M2 := M) rfl ⟨trivial, trivial⟩ ?_
      refine V.callS (as := [.int p]) (rest := []) F (by decide +kernel) lX6_155 bX6_isPlace (c_X6_isPlace G X.2.1 M p) (rm_ok hRm hd (by decide) (by decide)) ⟨Nat.zero_le _, Nat.zero_le _⟩ (Nat.le_of_ble_eq_true rfl) (fun r_ N_ p_ => ?_)
      obtain ⟨rfl, hN_, z25⟩ := p_
      rw [hN_]
      clear hN_
      refine V.if_ne (off := 5) F (by decide +kernel) (tgt := 33) (by decide) (fun h28 => ?_) (fun h28 => ?_)
      · replace E := E.trans (if_neg h28)
        refine V.seg F floX6 cjoX6 [.aload 5, .getfield 120] (by decide +kernel) (pc2 := 38) (lv2 := [(5, .ref a9), (4, .ref a2), (0, .ref 1), (1, .int m), (2, .int p), (3, .int f)]) (st2 := [.int (mI M a9 0)]) (M2 := M) rfl ⟨trivial, (factAt_o q hq9), trivial⟩ ?_
        refine V.if_eq (off := 6) F (by decide +kernel) (tgt := 44) (by decide) (fun h38 => ?_) (fun h38 => ?_)
        · replace E := E.trans (if_pos h38)
          refine V.seg F floX6 cjoX6 [.aload 4, .getfield 159, .iload_n 2] (by decide +kernel) (pc2 := 50) (lv2 := [(5, .ref a9), (4, .ref a2), (0, .ref 1), (1, .int m), (2, .int p), (3, .int f)]) (st2 := [.int p, .ref (a2 + 4)]) (M2 := M) rfl ⟨trivial, (Rt.f (routineAt_o hRs hq2) 4 rfl), trivial, trivial⟩ ?_
          refine V.aald (kd := 25) F (by decide +kernel) (Rt.a (routineAt_o hRs hq2) 4 25 8 rfl (isPl h28)) ⟨by decide, by decide⟩ (Rt.sB (routineAt_o hRs hq2) (isPl h28)) ?_
          show V G X 6 0 0 (Qx G X 0 0 (p_X6_given M m p f)) 51 [(5, .ref a9), (4, .ref a2), (0, .ref 1), (1, .int m), (2, .int p), (3, .int f)] [.ref (a2 + 4 + 3 + ix p)] M
          refine V.seg F floX6 cjoX6 [.aload 5] (by decide +kernel) (pc2 := 53) (lv2 := [(5, .ref a9), (4, .ref a2), (0, .ref 1), (1, .int m), (2, .int p), (3, .int f)]) (st2 := [.ref a9, .ref (a2 + 4 + 3 + ix p)]) (M2 := M) rfl ⟨trivial, trivial⟩ ?_
          refine V.callV (as := [.ref a9]) (rest := []) F (by decide +kernel) lX6_116 bX1_copy ⟨1, _, (Rt.st (routineAt_o hRs hq2) (isPl h28)), rfl, rfl⟩ (c_X1_copy G X.2.1 M (a2 + 4 + 3 + ix p) a9 (Rt.st (routineAt_o hRs hq2) (isPl h28)) (factAt_o q hq9)) (rm_ok hRm hd (by decide) (by decide)) ⟨Nat.zero_le _, Nat.zero_le _⟩ (Nat.le_of_ble_eq_true rfl) (fun r_ N_ p_ => ?_)
          obtain ⟨rfl, rfl, t53⟩ := p_
          refine (?_ : ∀ (M56 : Mem), (SC wF M M56) → f_X6_given M m p f = f_X6_given_c56 a2 M56 → V G X 6 0 0 (Qx G X 0 0 (p_X6_given M m p f)) 56 [(5, .ref a9), (4, .ref a2), (0, .ref 1), (1, .int m), (2, .int p), (3, .int f)] [] M56) _ (t53.sc (fun _ _ => rfl)) E
          intro M56 s56 E
          refine V.seg F floX6 cjoX6 [.aload 4, .iconst 0, .putfield 152, .iconst 1] (by decide +kernel) (pc2 := 63) (lv2 := [(5, .ref a9), (4, .ref a2), (0, .ref 1), (1, .int m), (2, .int p), (3, .int f)]) (st2 := [.int 1]) (M2 := uI M56 a2 7 0) rfl ⟨trivial, trivial, ⟨(Rt.o ((routineAt_o hRs hq2).sm s56.1)), Or.inl rfl⟩, trivial, trivial⟩ ?_
          exact V.iret F (by decide +kernel) ⟨congrArg (fun z => some (Value.int z.1)) E.symm, congrArg Prod.snd E.symm, (SC.pI s56 (wC_r (routineAt_o hRs hq2) rfl))⟩
        · replace E := E.trans (if_neg h38)
          refine V.seg F floX6 cjoX6 [.bipush (-3)] (by decide +kernel) (pc2 := 43) (lv2 := [(5, .ref a9), (4, .ref a2), (0, .ref 1), (1, .int m), (2, .int p), (3, .int f)]) (st2 := [.int ((-3))]) (M2 := M) rfl ⟨trivial, trivial⟩ ?_
          exact V.iret F (by decide +kernel) ⟨congrArg (fun z => some (Value.int z.1)) E.symm, congrArg Prod.snd E.symm, (SC.rf (w := wF))⟩
      · replace E := E.trans (if_pos h28)
        refine V.pick [] rfl ?_
        exact hJ31 M (SC.rf (w := wF)) E
def f_X6_find_c84 (j22 : Nat) (M84 : Mem) : Int32 × Mem := (nI j22, M84)
def f_X6_find_76 (a2 : Nat) (j22 : Nat) (M76 : Mem) : Int32 × Mem := f_X6_find_c84 j22 (f_X2_end M76 a2)
def f_X6_find_c67 (j44 : Nat) (R44_ : Nat → Mem → (Int32 × Mem)) (M67 : Mem) : Int32 × Mem := R44_ (j44 + 1) M67
def f_X6_find_44 (a2 : Nat) (j22 : Nat) (R22_ : Nat → Mem → (Int32 × Mem)) : Nat → Nat → Mem → (Int32 × Mem)
  | 0, _, M44 => (0, M44)
  | n44_ + 1, j44, M44 => if (mI M44 a2 3) ≤ (nI j44) then R22_ (j22 + 1) M44 else f_X6_find_c67 j44 (f_X6_find_44 a2 j22 R22_ n44_) (f_X2_workLine M44 a2 (nI j44))
def f_X6_find_22 (M : Mem) (a2 : Nat) : Nat → Nat → Mem → (Int32 × Mem)
  | 0, _, M22 => (0, M22)
  | n_ + 1, j22, M22 => if 30 ≤ (nI j22) then f_X6_find_76 a2 j22 M22 else if (f_X2_someWait M22) = 0 then f_X6_find_76 a2 j22 M22 else f_X6_find_44 a2 j22 (f_X6_find_22 M a2 n_) (ix (mI M a2 3) + 1) 0 M22
def f_X6_find_c20 (M : Mem) (a2 : Nat) (M20 : Mem) : Int32 × Mem := f_X6_find_22 M a2 31 0 M20
def f_X6_find (M : Mem) (m : Int32) : Int32 × Mem := (f_X6_routineAt M m).elim (((-1), M)) (fun a2 => f_X6_find_c20 M a2 (f_X2_begin M a2))
abbrev p_X6_find (M : Mem) (m : Int32) : Option Value → Mem → Prop := fun r N => r = some (.int (f_X6_find M m).1) ∧ N = (f_X6_find M m).2 ∧ SC wF M N
set_option maxRecDepth 100000 in
set_option maxHeartbeats 4000000 in
theorem c_X6_find (G : Ctx) (l : Launch) (M : Mem) (m : Int32) (q : Ok M) (hRs : Rs M) (hT : Ts M) : CT G l 7 mX6_find [.ref 1, .int m] M 0 0 (p_X6_find M m) := by
  refine CT.of (by decide) (Nat.le_of_ble_eq_true rfl) ?_
  intro X d hd hl hRm hnm F
  subst hl
  have E : f_X6_find M m = f_X6_find M m := rfl
  show V G X 5 0 0 (Qx G X 0 0 (p_X6_find M m)) 0 [(0, .ref 1), (1, .int m)] [] M
  refine V.seg F floX6 cjoX6 [.aload_n 0, .iload_n 1] (by decide +kernel) (pc2 := 2) (lv2 := [(0, .ref 1), (1, .int m)]) (st2 := [.int m, .ref 1]) (M2 := M) rfl ⟨trivial, trivial, trivial⟩ ?_
  refine V.callV (as := [.int m]) (rest := []) F (by decide +kernel) lX6_129 bX6_routineAt ⟨6, _, (q.o 1 6 rfl), rfl, rfl⟩ (c_X6_routineAt G X.2.1 M m q (by first | assumption | decide)) (rm_ok hRm hd (by decide) (by decide)) ⟨Nat.zero_le _, Nat.zero_le _⟩ (Nat.le_of_ble_eq_true rfl) (fun r_ N_ p_ => ?_)
  obtain ⟨rfl, hN_⟩ := p_
  rw [hN_]
  clear hN_
  rcases hq2 : (f_X6_routineAt M m) with _ | a2
  · replace E := E.trans (el_n hq2)
    refine V.seg F floX6 cjoX6 [.astore_n 2, .aload_n 2] (by decide +kernel) (pc2 := 7) (lv2 := [(2, .null), (0, .ref 1), (1, .int m)]) (st2 := [.null]) (M2 := M) rfl ⟨(by decide), trivial, trivial⟩ ?_
    refine V.nonnul_n (off := 5) F (by decide +kernel) ?_
    refine V.seg F floX6 cjoX6 [.iconst (-1)] (by decide +kernel) (pc2 := 11) (lv2 := [(2, .null), (0, .ref 1), (1, .int m)]) (st2 := [.int ((-1))]) (M2 := M) rfl ⟨trivial, trivial⟩ ?_
    exact V.iret F (by decide +kernel) ⟨congrArg (fun z => some (Value.int z.1)) E.symm, congrArg Prod.snd E.symm, (SC.rf (w := wF))⟩
  · replace E := E.trans (el_s hq2)
    refine V.seg F floX6 cjoX6 [.astore_n 2, .aload_n 2] (by decide +kernel) (pc2 := 7) (lv2 := [(2, .ref a2), (0, .ref 1), (1, .int m)]) (st2 := [.ref a2]) (M2 := M) rfl ⟨(by decide), trivial, trivial⟩ ?_
    refine V.nonnul_r (off := 5) F (by decide +kernel) (tgt := 12) (by decide) ?_
    refine V.seg F floX6 cjoX6 [.aload_n 0, .getfield 42, .aload_n 2] (by decide +kernel) (pc2 := 17) (lv2 := [(2, .ref a2), (0, .ref 1), (1, .int m)]) (st2 := [.ref a2, .ref 14]) (M2 := M) rfl ⟨trivial, (q.f 1 6 5 rfl), trivial, trivial⟩ ?_
    refine V.callV (as := [.ref a2]) (rest := []) F (by decide +kernel) lX6_162 bX2_begin ⟨2, _, (q.o 14 2 rfl), rfl, rfl⟩ (c_X2_begin G X.2.1 M a2 (routineAt_o hRs hq2) q (routineAt_c hRs hq2)) (rm_ok hRm hd (by decide) (by decide)) ⟨Nat.zero_le _, Nat.zero_le _⟩ (Nat.le_of_ble_eq_true rfl) (fun r_ N_ p_ => ?_)
    obtain ⟨rfl, rfl, t17⟩ := p_
    refine (?_ : ∀ (M20 : Mem), (SC wF M M20) → f_X6_find M m = f_X6_find_c20 M a2 M20 → V G X 5 0 0 (Qx G X 0 0 (p_X6_find M m)) 20 [(2, .ref a2), (0, .ref 1), (1, .int m)] [] M20) _ t17 E
    intro M20 s20 E
    refine V.seg F floX6 cjoX6 [.iconst 0] (by decide +kernel) (pc2 := 21) (lv2 := [(2, .ref a2), (0, .ref 1), (1, .int m)]) (st2 := [.int 0]) (M2 := M20) rfl ⟨trivial, trivial⟩ ?_
    refine V.seg F floX6 cjoX6 [.istore_n 3] (by decide +kernel) (pc2 := 22) (lv2 := [(3, .int 0), (2, .ref a2), (0, .ref 1), (1, .int m)]) (st2 := []) (M2 := M20) rfl ⟨(by decide), trivial⟩ ?_
    have hJ22 : ∀ (n_ : Nat) (j22 : Nat) (M22 : Mem), (SC wF M M22) → (j22 ≤ 30) → (30 - j22 < n_) → f_X6_find M m = f_X6_find_22 M a2 n_ j22 M22 → V G X 5 0 0 (Qx G X 0 0 (p_X6_find M m)) 22 [(0, .ref 1), (2, .ref a2), (3, .int (nI j22))] [] M22 := by
      intro n_
      induction n_ with
      | zero => intro j22 M22 s22 b22 m22 E; omega
      | succ n_ ih_22 =>
        intro j22 M22 s22 b22 m22 E
        rw [f_X6_find_22] at E
        refine V.seg F floX6 cjoX6 [.iload_n 3, .bipush 30] (by decide +kernel) (pc2 := 25) (lv2 := [(0, .ref 1), (2, .ref a2), (3, .int (nI j22))]) (st2 := [.int 30, .int (nI j22)]) (M2 := M22) rfl ⟨trivial, trivial, trivial⟩ ?_
        have hJ76 : ∀ (M76 : Mem), (SC wF M M76) → f_X6_find M m = f_X6_find_76 a2 j22 M76 → V G X 5 0 0 (Qx G X 0 0 (p_X6_find M m)) 76 [(0, .ref 1), (2, .ref a2), (3, .int (nI j22))] [] M76 := by
          intro M76 s76 E
          refine V.seg F floX6 cjoX6 [.aload_n 0, .getfield 42, .aload_n 2] (by decide +kernel) (pc2 := 81) (lv2 := [(0, .ref 1), (2, .ref a2), (3, .int (nI j22))]) (st2 := [.ref a2, .ref 14]) (M2 := M76) rfl ⟨trivial, ((q.sm s76.1).f 1 6 5 rfl), trivial, trivial⟩ ?_
          refine V.callV (as := [.ref a2]) (rest := []) F (by decide +kernel) lX6_174 bX2_end ⟨2, _, ((q.sm s76.1).o 14 2 rfl), rfl, rfl⟩ (c_X2_end G X.2.1 M76 a2 ((routineAt_o hRs hq2).sm s76.1) (q.sm s76.1) (cn.of (s76.r (routineAt_o hRs hq2) 3 rfl) (routineAt_c hRs hq2))) (rm_ok hRm hd (by decide) (by decide)) ⟨Nat.zero_le _, Nat.zero_le _⟩ (Nat.le_of_ble_eq_true rfl) (fun r_ N_ p_ => ?_)
          obtain ⟨rfl, rfl, t81⟩ := p_
          refine (?_ : ∀ (M84 : Mem), (SC wF M M84) → f_X6_find M m = f_X6_find_c84 j22 M84 → V G X 5 0 0 (Qx G X 0 0 (p_X6_find M m)) 84 [(0, .ref 1), (2, .ref a2), (3, .int (nI j22))] [] M84) _ (SC.tr s76 t81) E
          intro M84 s84 E
          refine V.seg F floX6 cjoX6 [.iload_n 3] (by decide +kernel) (pc2 := 85) (lv2 := [(0, .ref 1), (2, .ref a2), (3, .int (nI j22))]) (st2 := [.int (nI j22)]) (M2 := M84) rfl ⟨trivial, trivial⟩ ?_
          exact V.iret F (by decide +kernel) ⟨congrArg (fun z => some (Value.int z.1)) E.symm, congrArg Prod.snd E.symm, s84⟩
        refine V.ic_ge (off := 51) F (by decide +kernel) (tgt := 76) (by decide) (fun h25 => ?_) (fun h25 => ?_)
        · replace E := E.trans (if_pos h25)
          refine V.pick [0, 1, 2] rfl ?_
          exact hJ76 M22 s22 E
        · replace E := E.trans (if_neg h25)
          refine V.seg F floX6 cjoX6 [.aload_n 0, .getfield 42] (by decide +kernel) (pc2 := 32) (lv2 := [(0, .ref 1), (2, .ref a2), (3, .int (nI j22))]) (st2 := [.ref 14]) (M2 := M22) rfl ⟨trivial, ((q.sm s22.1).f 1 6 5 rfl), trivial⟩ ?_
          refine V.callV (as := []) (rest := []) F (by decide +kernel) lX6_166 bX2_someWait ⟨2, _, ((q.sm s22.1).o 14 2 rfl), rfl, rfl⟩ (c_X2_someWait G X.2.1 M22 (q.sm s22.1)) (rm_ok hRm hd (by decide) (by decide)) ⟨Nat.zero_le _, Nat.zero_le _⟩ (Nat.le_of_ble_eq_true rfl) (fun r_ N_ p_ => ?_)
          obtain ⟨rfl, hN_, z32⟩ := p_
          rw [hN_]
          clear hN_
          refine V.if_eq (off := 41) F (by decide +kernel) (tgt := 76) (by decide) (fun h35 => ?_) (fun h35 => ?_)
          · replace E := E.trans (if_pos h35)
            refine V.pick [0, 1, 2] rfl ?_
            exact hJ76 M22 s22 E
          · replace E := E.trans (if_neg h35)
            refine V.seg F floX6 cjoX6 [.iinc 3 1, .iconst 0] (by decide +kernel) (pc2 := 42) (lv2 := [(3, .int ((nI j22) + 1)), (0, .ref 1), (2, .ref a2)]) (st2 := [.int 0]) (M2 := M22) rfl ⟨(by decide), trivial, trivial⟩ ?_
            refine V.seg F floX6 cjoX6 [.istore 4] (by decide +kernel) (pc2 := 44) (lv2 := [(4, .int 0), (3, .int ((nI j22) + 1)), (0, .ref 1), (2, .ref a2)]) (st2 := []) (M2 := M22) rfl ⟨(by decide), trivial⟩ ?_
            have hJ44 : ∀ (n44_ : Nat) (j44 : Nat) (M44 : Mem), (SC wF M M44) → (j44 ≤ ix (mI M a2 3)) → (ix (mI M a2 3) - j44 < n44_) → f_X6_find M m = f_X6_find_44 a2 j22 (f_X6_find_22 M a2 n_) n44_ j44 M44 → V G X 5 0 0 (Qx G X 0 0 (p_X6_find M m)) 44 [(0, .ref 1), (2, .ref a2), (3, .int ((nI j22) + 1)), (4, .int (nI j44))] [] M44 := by
              intro n44_
              induction n44_ with
              | zero => intro j44 M44 s44 b44 m44 E; omega
              | succ n44_ ih_44 =>
                intro j44 M44 s44 b44 m44 E
                rw [f_X6_find_44] at E
                refine V.seg F floX6 cjoX6 [.iload 4, .aload_n 2, .getfield 137] (by decide +kernel) (pc2 := 50) (lv2 := [(0, .ref 1), (2, .ref a2), (3, .int ((nI j22) + 1)), (4, .int (nI j44))]) (st2 := [.int (mI M44 a2 3), .int (nI j44)]) (M2 := M44) rfl ⟨trivial, trivial, (Rt.o ((routineAt_o hRs hq2).sm s44.1)), trivial⟩ ?_
                refine V.ic_ge (off := 23) F (by decide +kernel) (tgt := 73) (by decide) (fun h50 => ?_) (fun h50 => ?_)
                · replace E := E.trans (if_pos h50)
                  refine V.seg F floX6 cjoX6 [.goto (-51)] (by decide +kernel) (pc2 := 22) (lv2 := [(0, .ref 1), (2, .ref a2), (3, .int ((nI j22) + 1)), (4, .int (nI j44))]) (st2 := []) (M2 := M44) rfl ⟨(by decide), trivial⟩ ?_
                  refine V.pick [0, 1, 2] rfl ?_
                  rw [nI_1]
                  exact ih_22 (j22 + 1) M44 s44 (by have hlt_ := cnt_lt (n := 30) h25 rfl (by omega) (by decide); omega) (by have hlt_ := cnt_lt (n := 30) h25 rfl (by omega) (by decide); omega) E
                · replace E := E.trans (if_neg h50)
                  refine V.seg F floX6 cjoX6 [.aload_n 0, .getfield 42, .aload_n 2, .aload_n 0, .getfield 28, .iload 4] (by decide +kernel) (pc2 := 64) (lv2 := [(0, .ref 1), (2, .ref a2), (3, .int ((nI j22) + 1)), (4, .int (nI j44))]) (st2 := [.int (nI j44), .ref 4, .ref a2, .ref 14]) (M2 := M44) rfl ⟨trivial, ((q.sm s44.1).f 1 6 5 rfl), trivial, trivial, ((q.sm s44.1).f 1 6 3 rfl), trivial, trivial⟩ ?_
                  refine V.callV (as := [.ref a2, .ref 4, .int (nI j44)]) (rest := []) F (by decide +kernel) lX6_170 bX2_workLine ⟨2, _, ((q.sm s44.1).o 14 2 rfl), rfl, rfl⟩ (c_X2_workLine G X.2.1 M44 a2 (nI j44) ((routineAt_o hRs hq2).sm s44.1) (q.sm s44.1) (vp_in_nI (by have le_ := (routineAt_c hRs hq2).2; have hlt_ := cnt_lt (n := ix (mI M a2 3)) h50 ((s44.r (routineAt_o hRs hq2) 3 rfl).trans (routineAt_c hRs hq2).1) (by omega) (by omega); omega) (by decide)) (cn.of (s44.r (routineAt_o hRs hq2) 3 rfl) (routineAt_c hRs hq2)) (fun t ht => cn.of (s44.2 10 t rfl).1 (hT t ht)) (LnC.of (s44.a (routineAt_o hRs hq2) 1 (by decide) _ rfl) (s44.a (routineAt_o hRs hq2) 2 (by decide) _ rfl) (s44.a (routineAt_o hRs hq2) 3 (by decide) _ rfl) ((routineAt_l hRs hq2) _ (by have le_ := (routineAt_c hRs hq2).2; exact cnt_lt (n := ix (mI M a2 3)) h50 ((s44.r (routineAt_o hRs hq2) 3 rfl).trans (routineAt_c hRs hq2).1) (by omega) (by omega))))) (rm_ok hRm hd (by decide) (by decide)) ⟨Nat.zero_le _, Nat.zero_le _⟩ (Nat.le_of_ble_eq_true rfl) (fun r_ N_ p_ => ?_)
                  obtain ⟨rfl, rfl, t64⟩ := p_
                  refine (?_ : ∀ (M67 : Mem), (SC wF M M67) → f_X6_find M m = f_X6_find_c67 j44 (f_X6_find_44 a2 j22 (f_X6_find_22 M a2 n_) n44_) M67 → V G X 5 0 0 (Qx G X 0 0 (p_X6_find M m)) 67 [(0, .ref 1), (2, .ref a2), (3, .int ((nI j22) + 1)), (4, .int (nI j44))] [] M67) _ (SC.tr s44 t64) E
                  intro M67 s67 E
                  refine V.seg F floX6 cjoX6 [.iinc 4 1, .goto (-26)] (by decide +kernel) (pc2 := 44) (lv2 := [(4, .int ((nI j44) + 1)), (0, .ref 1), (2, .ref a2), (3, .int ((nI j22) + 1))]) (st2 := []) (M2 := M67) rfl ⟨(by decide), (by decide), trivial⟩ ?_
                  refine V.pick [1, 2, 3, 0] rfl ?_
                  rw [nI_1]
                  exact ih_44 (j44 + 1) M67 s67 (by have le_ := (routineAt_c hRs hq2).2; have hlt_ := cnt_lt (n := ix (mI M a2 3)) h50 ((s44.r (routineAt_o hRs hq2) 3 rfl).trans (routineAt_c hRs hq2).1) (by omega) (by omega); omega) (by have le_ := (routineAt_c hRs hq2).2; have hlt_ := cnt_lt (n := ix (mI M a2 3)) h50 ((s44.r (routineAt_o hRs hq2) 3 rfl).trans (routineAt_c hRs hq2).1) (by omega) (by omega); omega) E
            refine V.pick [2, 3, 1, 0] rfl ?_
            exact hJ44 _ 0 M22 s22 (by omega) (by omega) E
    refine V.pick [2, 1, 0] rfl ?_
    exact hJ22 _ 0 M20 s20 (by omega) (by omega) E
def f_X6_found_45  (M45 : Mem) : Int32 × Mem := ((-1), M45)
def f_X6_found_45y1  (M45 : Mem) : Int32 × Mem := ((-1), M45)
def f_X6_found_45y2  (M45 : Mem) : Int32 × Mem := ((-1), M45)
def f_X6_found_45y3  (M45 : Mem) : Int32 × Mem := ((-1), M45)
def f_X6_found_93 (a10 : Nat) (M93 : Mem) : Int32 × Mem := (f_X6_oneUnlessNone M93 a10, M93)
def f_X6_found_c93 (a10 : Nat) (M93 : Mem) : Int32 × Mem := f_X6_found_93 a10 M93
def f_X6_found_c85 (a10 : Nat) (M85 : Mem) : Int32 × Mem := f_X6_found_93 a10 M85
def f_X6_found (M : Mem) (m : Int32) (ln : Int32) (p : Int32) (f : Int32) : Int32 × Mem := (f_X6_routineAt M m).elim ((f_X6_factAt f).elim (f_X6_found_45 M) (fun a10 => f_X6_found_45y1 M)) (fun a2 => (f_X6_factAt f).elim (if ln < 0 then f_X6_found_45y2 M else if (mI M a2 3) ≤ ln then f_X6_found_45y2 M else if (f_X6_isPlace p) = 0 then f_X6_found_45y2 M else f_X6_found_45y2 M) (fun a10 => if ln < 0 then f_X6_found_45y3 M else if (mI M a2 3) ≤ ln then f_X6_found_45y3 M else if (f_X6_isPlace p) = 0 then f_X6_found_45y3 M else if (mI M a2 7) = 0 then ((-3), M) else if (mI M (a2 + 6) (ix ln)) = 0 then f_X6_found_c93 a10 (f_X1_makeNone M a10) else f_X6_found_c85 a10 (f_X1_copy M a10 (a2 + 5 + 10 + ix ((ln * 8) + p)))))
abbrev p_X6_found (M : Mem) (m : Int32) (ln : Int32) (p : Int32) (f : Int32) : Option Value → Mem → Prop := fun r N => r = some (.int (f_X6_found M m ln p f).1) ∧ N = (f_X6_found M m ln p f).2 ∧ Sf M N
set_option maxRecDepth 100000 in
set_option maxHeartbeats 4000000 in
theorem c_X6_found (G : Ctx) (l : Launch) (M : Mem) (m : Int32) (ln : Int32) (p : Int32) (f : Int32) (q : Ok M) (hRs : Rs M) : CT G l 2 mX6_found [.ref 1, .int m, .int ln, .int p, .int f] M 0 0 (p_X6_found M m ln p f) := by
  refine CT.of (by decide) (Nat.le_of_ble_eq_true rfl) ?_
  intro X d hd hl hRm hnm F
  subst hl
  have E : f_X6_found M m ln p f = f_X6_found M m ln p f := rfl
  show V G X 7 0 0 (Qx G X 0 0 (p_X6_found M m ln p f)) 0 [(0, .ref 1), (1, .int m), (2, .int ln), (3, .int p), (4, .int f)] [] M
  refine V.seg F floX6 cjoX6 [.aload_n 0, .iload_n 1] (by decide +kernel) (pc2 := 2) (lv2 := [(0, .ref 1), (1, .int m), (2, .int ln), (3, .int p), (4, .int f)]) (st2 := [.int m, .ref 1]) (M2 := M) rfl ⟨trivial, trivial, trivial⟩ ?_
  refine V.callV (as := [.int m]) (rest := []) F (by decide +kernel) lX6_129 bX6_routineAt ⟨6, _, (q.o 1 6 rfl), rfl, rfl⟩ (c_X6_routineAt G X.2.1 M m q (by first | assumption | decide)) (rm_ok hRm hd (by decide) (by decide)) ⟨Nat.zero_le _, Nat.zero_le _⟩ (Nat.le_of_ble_eq_true rfl) (fun r_ N_ p_ => ?_)
  obtain ⟨rfl, hN_⟩ := p_
  rw [hN_]
  clear hN_
  rcases hq2 : (f_X6_routineAt M m) with _ | a2
  · replace E := E.trans (el_n hq2)
    refine V.seg F floX6 cjoX6 [.astore 5, .aload_n 0, .iload 4] (by decide +kernel) (pc2 := 10) (lv2 := [(5, .null), (0, .ref 1), (1, .int m), (2, .int ln), (3, .int p), (4, .int f)]) (st2 := [.int f, .ref 1]) (M2 := M) rfl ⟨(by decide), trivial, trivial, trivial⟩ ?_
    refine V.callV (as := [.int f]) (rest := []) F (by decide +kernel) lX6_65 bX6_factAt ⟨6, _, (q.o 1 6 rfl), rfl, rfl⟩ (c_X6_factAt G X.2.1 M f q) (rm_ok hRm hd (by decide) (by decide)) ⟨Nat.zero_le _, Nat.zero_le _⟩ (Nat.le_of_ble_eq_true rfl) (fun r_ N_ p_ => ?_)
    obtain ⟨rfl, hN_⟩ := p_
    rw [hN_]
    clear hN_
    rcases hq10 : (f_X6_factAt f) with _ | a10
    · replace E := E.trans (el_n hq10)
      refine V.seg F floX6 cjoX6 [.astore 6, .aload 5] (by decide +kernel) (pc2 := 17) (lv2 := [(6, .null), (5, .null), (0, .ref 1), (1, .int m), (2, .int ln), (3, .int p), (4, .int f)]) (st2 := [.null]) (M2 := M) rfl ⟨(by decide), trivial, trivial⟩ ?_
      have hJ45 : ∀ (M45 : Mem), (Sf M M45) → f_X6_found M m ln p f = f_X6_found_45 M45 → V G X 7 0 0 (Qx G X 0 0 (p_X6_found M m ln p f)) 45 [] [] M45 := by
        intro M45 s45 E
        refine V.seg F floX6 cjoX6 [.iconst (-1)] (by decide +kernel) (pc2 := 46) (lv2 := []) (st2 := [.int ((-1))]) (M2 := M45) rfl ⟨trivial, trivial⟩ ?_
        exact V.iret F (by decide +kernel) ⟨congrArg (fun z => some (Value.int z.1)) E.symm, congrArg Prod.snd E.symm, s45⟩
      refine V.nul_n (off := 28) F (by decide +kernel) (tgt := 45) (by decide) ?_
      refine V.pick [] rfl ?_
      exact hJ45 M Sf.rf E
    · replace E := E.trans (el_s hq10)
      refine V.seg F floX6 cjoX6 [.astore 6, .aload 5] (by decide +kernel) (pc2 := 17) (lv2 := [(6, .ref a10), (5, .null), (0, .ref 1), (1, .int m), (2, .int ln), (3, .int p), (4, .int f)]) (st2 := [.null]) (M2 := M) rfl ⟨(by decide), trivial, trivial⟩ ?_
      have hJ45 : ∀ (M45 : Mem), (Sf M M45) → f_X6_found M m ln p f = f_X6_found_45y1 M45 → V G X 7 0 0 (Qx G X 0 0 (p_X6_found M m ln p f)) 45 [] [] M45 := by
        intro M45 s45 E
        refine V.seg F floX6 cjoX6 [.iconst (-1)] (by decide +kernel) (pc2 := 46) (lv2 := []) (st2 := [.int ((-1))]) (M2 := M45) rfl ⟨trivial, trivial⟩ ?_
        exact V.iret F (by decide +kernel) ⟨congrArg (fun z => some (Value.int z.1)) E.symm, congrArg Prod.snd E.symm, s45⟩
      refine V.nul_n (off := 28) F (by decide +kernel) (tgt := 45) (by decide) ?_
      refine V.pick [] rfl ?_
      exact hJ45 M Sf.rf E
  · replace E := E.trans (el_s hq2)
    refine V.seg F floX6 cjoX6 [.astore 5, .aload_n 0, .iload 4] (by decide +kernel) (pc2 := 10) (lv2 := [(5, .ref a2), (0, .ref 1), (1, .int m), (2, .int ln), (3, .int p), (4, .int f)]) (st2 := [.int f, .ref 1]) (M2 := M) rfl ⟨(by decide), trivial, trivial, trivial⟩ ?_
    refine V.callV (as := [.int f]) (rest := []) F (by decide +kernel) lX6_65 bX6_factAt ⟨6, _, (q.o 1 6 rfl), rfl, rfl⟩ (c_X6_factAt G X.2.1 M f q) (rm_ok hRm hd (by decide) (by decide)) ⟨Nat.zero_le _, Nat.zero_le _⟩ (Nat.le_of_ble_eq_true rfl) (fun r_ N_ p_ => ?_)
    obtain ⟨rfl, hN_⟩ := p_
    rw [hN_]
    clear hN_
    rcases hq10 : (f_X6_factAt f) with _ | a10
    · replace E := E.trans (el_n hq10)
      refine V.seg F floX6 cjoX6 [.astore 6, .aload 5] (by decide +kernel) (pc2 := 17) (lv2 := [(6, .null), (5, .ref a2), (0, .ref 1), (1, .int m), (2, .int ln), (3, .int p), (4, .int f)]) (st2 := [.ref a2]) (M2 := M) rfl ⟨(by decide), trivial, trivial⟩ ?_
      have hJ45 : ∀ (M45 : Mem), (Sf M M45) → f_X6_found M m ln p f = f_X6_found_45y2 M45 → V G X 7 0 0 (Qx G X 0 0 (p_X6_found M m ln p f)) 45 [] [] M45 := by
        intro M45 s45 E
        refine V.seg F floX6 cjoX6 [.iconst (-1)] (by decide +kernel) (pc2 := 46) (lv2 := []) (st2 := [.int ((-1))]) (M2 := M45) rfl ⟨trivial, trivial⟩ ?_
        exact V.iret F (by decide +kernel) ⟨congrArg (fun z => some (Value.int z.1)) E.symm, congrArg Prod.snd E.symm, s45⟩
      refine V.nul_r (off := 28) F (by decide +kernel) ?_
      refine V.seg F floX6 cjoX6 [.iload_n 2] (by decide +kernel) (pc2 := 21) (lv2 := [(6, .null), (5, .ref a2), (0, .ref 1), (1, .int m), (2, .int ln), (3, .int p), (4, .int f)]) (st2 := [.int ln]) (M2 := M) rfl ⟨trivial, trivial⟩ ?_
      refine V.if_lt (off := 24) F (by decide +kernel) (tgt := 45) (by decide) (fun h21 => ?_) (fun h21 => ?_)
      · replace E := E.trans (if_pos h21)
        refine V.pick [] rfl ?_
        exact hJ45 M Sf.rf E
      · replace E := E.trans (if_neg h21)
        refine V.seg F floX6 cjoX6 [.iload_n 2, .aload 5, .getfield 137] (by decide +kernel) (pc2 := 30) (lv2 := [(6, .null), (5, .ref a2), (0, .ref 1), (1, .int m), (2, .int ln), (3, .int p), (4, .int f)]) (st2 := [.int (mI M a2 3), .int ln]) (M2 := M) rfl ⟨trivial, trivial, (Rt.o (routineAt_o hRs hq2)), trivial⟩ ?_
        refine V.ic_ge (off := 15) F (by decide +kernel) (tgt := 45) (by decide) (fun h30 => ?_) (fun h30 => ?_)
        · replace E := E.trans (if_pos h30)
          refine V.pick [] rfl ?_
          exact hJ45 M Sf.rf E
        · replace E := E.trans (if_neg h30)
          refine V.seg F floX6 cjoX6 [.iload_n 3] (by decide +kernel) (pc2 := 34) (lv2 := [(6, .null), (5, .ref a2), (0, .ref 1), (1, .int m), (2, .int ln), (3, .int p), (4, .int f)]) (st2 := [.int p]) (M2 := M) rfl ⟨trivial, trivial⟩ ?_
          refine V.callS (as := [.int p]) (rest := []) F (by decide +kernel) lX6_155 bX6_isPlace (c_X6_isPlace G X.2.1 M p) (rm_ok hRm hd (by decide) (by decide)) ⟨Nat.zero_le _, Nat.zero_le _⟩ (Nat.le_of_ble_eq_true rfl) (fun r_ N_ p_ => ?_)
          obtain ⟨rfl, hN_, z34⟩ := p_
          rw [hN_]
          clear hN_
          refine V.if_eq (off := 8) F (by decide +kernel) (tgt := 45) (by decide) (fun h37 => ?_) (fun h37 => ?_)
          · replace E := E.trans (if_pos h37)
            refine V.pick [] rfl ?_
            exact hJ45 M Sf.rf E
          · replace E := E.trans (if_neg h37)
            refine V.seg F floX6 cjoX6 [.aload 6] (by decide +kernel) (pc2 := 42) (lv2 := [(6, .null), (5, .ref a2), (0, .ref 1), (1, .int m), (2, .int ln), (3, .int p), (4, .int f)]) (st2 := [.null]) (M2 := M) rfl ⟨trivial, trivial⟩ ?_
            refine V.nonnul_n (off := 5) F (by decide +kernel) ?_
            refine V.pick [] rfl ?_
            exact hJ45 M Sf.rf E
    · replace E := E.trans (el_s hq10)
      refine V.seg F floX6 cjoX6 [.astore 6, .aload 5] (by decide +kernel) (pc2 := 17) (lv2 := [(6, .ref a10), (5, .ref a2), (0, .ref 1), (1, .int m), (2, .int ln), (3, .int p), (4, .int f)]) (st2 := [.ref a2]) (M2 := M) rfl ⟨(by decide), trivial, trivial⟩ ?_
      have hJ45 : ∀ (M45 : Mem), (Sf M M45) → f_X6_found M m ln p f = f_X6_found_45y3 M45 → V G X 7 0 0 (Qx G X 0 0 (p_X6_found M m ln p f)) 45 [] [] M45 := by
        intro M45 s45 E
        refine V.seg F floX6 cjoX6 [.iconst (-1)] (by decide +kernel) (pc2 := 46) (lv2 := []) (st2 := [.int ((-1))]) (M2 := M45) rfl ⟨trivial, trivial⟩ ?_
        exact V.iret F (by decide +kernel) ⟨congrArg (fun z => some (Value.int z.1)) E.symm, congrArg Prod.snd E.symm, s45⟩
      refine V.nul_r (off := 28) F (by decide +kernel) ?_
      refine V.seg F floX6 cjoX6 [.iload_n 2] (by decide +kernel) (pc2 := 21) (lv2 := [(6, .ref a10), (5, .ref a2), (0, .ref 1), (1, .int m), (2, .int ln), (3, .int p), (4, .int f)]) (st2 := [.int ln]) (M2 := M) rfl ⟨trivial, trivial⟩ ?_
      refine V.if_lt (off := 24) F (by decide +kernel) (tgt := 45) (by decide) (fun h21 => ?_) (fun h21 => ?_)
      · replace E := E.trans (if_pos h21)
        refine V.pick [] rfl ?_
        exact hJ45 M Sf.rf E
      · replace E := E.trans (if_neg h21)
        refine V.seg F floX6 cjoX6 [.iload_n 2, .aload 5, .getfield 137] (by decide +kernel) (pc2 := 30) (lv2 := [(6, .ref a10), (5, .ref a2), (0, .ref 1), (1, .int m), (2, .int ln), (3, .int p), (4, .int f)]) (st2 := [.int (mI M a2 3), .int ln]) (M2 := M) rfl ⟨trivial, trivial, (Rt.o (routineAt_o hRs hq2)), trivial⟩ ?_
        refine V.ic_ge (off := 15) F (by decide +kernel) (tgt := 45) (by decide) (fun h30 => ?_) (fun h30 => ?_)
        · replace E := E.trans (if_pos h30)
          refine V.pick [] rfl ?_
          exact hJ45 M Sf.rf E
        · replace E := E.trans (if_neg h30)
          refine V.seg F floX6 cjoX6 [.iload_n 3] (by decide +kernel) (pc2 := 34) (lv2 := [(6, .ref a10), (5, .ref a2), (0, .ref 1), (1, .int m), (2, .int ln), (3, .int p), (4, .int f)]) (st2 := [.int p]) (M2 := M) rfl ⟨trivial, trivial⟩ ?_
          refine V.callS (as := [.int p]) (rest := []) F (by decide +kernel) lX6_155 bX6_isPlace (c_X6_isPlace G X.2.1 M p) (rm_ok hRm hd (by decide) (by decide)) ⟨Nat.zero_le _, Nat.zero_le _⟩ (Nat.le_of_ble_eq_true rfl) (fun r_ N_ p_ => ?_)
          obtain ⟨rfl, hN_, z34⟩ := p_
          rw [hN_]
          clear hN_
          refine V.if_eq (off := 8) F (by decide +kernel) (tgt := 45) (by decide) (fun h37 => ?_) (fun h37 => ?_)
          · replace E := E.trans (if_pos h37)
            refine V.pick [] rfl ?_
            exact hJ45 M Sf.rf E
          · replace E := E.trans (if_neg h37)
            refine V.seg F floX6 cjoX6 [.aload 6] (by decide +kernel) (pc2 := 42) (lv2 := [(6, .ref a10), (5, .ref a2), (0, .ref 1), (1, .int m), (2, .int ln), (3, .int p), (4, .int f)]) (st2 := [.ref a10]) (M2 := M) rfl ⟨trivial, trivial⟩ ?_
            refine V.nonnul_r (off := 5) F (by decide +kernel) (tgt := 47) (by decide) ?_
            refine V.seg F floX6 cjoX6 [.aload 5, .getfield 152] (by decide +kernel) (pc2 := 52) (lv2 := [(6, .ref a10), (5, .ref a2), (0, .ref 1), (1, .int m), (2, .int ln), (3, .int p), (4, .int f)]) (st2 := [.int (mI M a2 7)]) (M2 := M) rfl ⟨trivial, (Rt.o (routineAt_o hRs hq2)), trivial⟩ ?_
            refine V.if_ne (off := 6) F (by decide +kernel) (tgt := 58) (by decide) (fun h52 => ?_) (fun h52 => ?_)
            · replace E := E.trans (if_neg h52)
              refine V.seg F floX6 cjoX6 [.aload 5, .getfield 177, .iload_n 2, .baload] (by decide +kernel) (pc2 := 65) (lv2 := [(6, .ref a10), (5, .ref a2), (0, .ref 1), (1, .int m), (2, .int ln), (3, .int p), (4, .int f)]) (st2 := [.int (mI M (a2 + 6) (ix ln))]) (M2 := M) rfl ⟨trivial, (Rt.f (routineAt_o hRs hq2) 6 rfl), trivial, (Rt.a (routineAt_o hRs hq2) 6 21 32 rfl (lnC (routineAt_c hRs hq2) h21 h30)), trivial⟩ ?_
              have hJ93 : ∀ (M93 : Mem), (Sf M M93) → f_X6_found M m ln p f = f_X6_found_93 a10 M93 → V G X 7 0 0 (Qx G X 0 0 (p_X6_found M m ln p f)) 93 [(6, .ref a10)] [] M93 := by
                intro M93 s93 E
                refine V.seg F floX6 cjoX6 [.aload 6] (by decide +kernel) (pc2 := 95) (lv2 := [(6, .ref a10)]) (st2 := [.ref a10]) (M2 := M93) rfl ⟨trivial, trivial⟩ ?_
                refine V.callS (as := [.ref a10]) (rest := []) F (by decide +kernel) lX6_82 bX6_oneUnlessNone (c_X6_oneUnlessNone G X.2.1 M93 a10 ((factAt_o q hq10).sm s93.1)) (rm_ok hRm hd (by decide) (by decide)) ⟨Nat.zero_le _, Nat.zero_le _⟩ (Nat.le_of_ble_eq_true rfl) (fun r_ N_ p_ => ?_)
                obtain ⟨rfl, hN_⟩ := p_
                rw [hN_]
                clear hN_
                exact V.iret F (by decide +kernel) ⟨congrArg (fun z => some (Value.int z.1)) E.symm, congrArg Prod.snd E.symm, s93⟩
              refine V.if_eq (off := 23) F (by decide +kernel) (tgt := 88) (by decide) (fun h65 => ?_) (fun h65 => ?_)
              · replace E := E.trans (if_pos h65)
                refine V.seg F floX6 cjoX6 [.aload 6] (by decide +kernel) (pc2 := 90) (lv2 := [(6, .ref a10), (5, .ref a2), (0, .ref 1), (1, .int m), (2, .int ln), (3, .int p), (4, .int f)]) (st2 := [.ref a10]) (M2 := M) rfl ⟨trivial, trivial⟩ ?_
                refine V.callV (as := []) (rest := []) F (by decide +kernel) lX6_184 bX1_makeNone ⟨1, _, (factAt_o q hq10), rfl, rfl⟩ (c_X1_makeNone G X.2.1 M a10 (factAt_o q hq10)) (rm_ok hRm hd (by decide) (by decide)) ⟨Nat.zero_le _, Nat.zero_le _⟩ (Nat.le_of_ble_eq_true rfl) (fun r_ N_ p_ => ?_)
                obtain ⟨rfl, rfl, t90⟩ := p_
                refine (?_ : ∀ (M93 : Mem), (Sf M M93) → f_X6_found M m ln p f = f_X6_found_c93 a10 M93 → V G X 7 0 0 (Qx G X 0 0 (p_X6_found M m ln p f)) 93 [(6, .ref a10), (5, .ref a2), (0, .ref 1), (1, .int m), (2, .int ln), (3, .int p), (4, .int f)] [] M93) _ t90 E
                intro M93 s93 E
                refine V.pick [0] rfl ?_
                exact hJ93 M93 s93 E
              · replace E := E.trans (if_neg h65)
                refine V.seg F floX6 cjoX6 [.aload 6, .aload 5, .getfield 181, .iload_n 2, .bipush 8, .imul, .iload_n 3, .iadd] (by decide +kernel) (pc2 := 81) (lv2 := [(6, .ref a10), (5, .ref a2), (0, .ref 1), (1, .int m), (2, .int ln), (3, .int p), (4, .int f)]) (st2 := [.int ((ln * 8) + p), .ref (a2 + 5), .ref a10]) (M2 := M) rfl ⟨trivial, trivial, (Rt.f (routineAt_o hRs hq2) 5 rfl), trivial, trivial, trivial, trivial, trivial, trivial⟩ ?_
                refine V.aald (kd := 26) F (by decide +kernel) (Rt.a (routineAt_o hRs hq2) 5 26 256 rfl (lpq (lnC (routineAt_c hRs hq2) h21 h30) (isPl h37))) ⟨by decide, by decide⟩ (Rt.aB (routineAt_o hRs hq2) (lpq (lnC (routineAt_c hRs hq2) h21 h30) (isPl h37))) ?_
                show V G X 7 0 0 (Qx G X 0 0 (p_X6_found M m ln p f)) 82 [(6, .ref a10), (5, .ref a2), (0, .ref 1), (1, .int m), (2, .int ln), (3, .int p), (4, .int f)] [.ref (a2 + 5 + 10 + ix ((ln * 8) + p)), .ref a10] M
                refine V.callV (as := [.ref (a2 + 5 + 10 + ix ((ln * 8) + p))]) (rest := []) F (by decide +kernel) lX6_116 bX1_copy ⟨1, _, (factAt_o q hq10), rfl, rfl⟩ (c_X1_copy G X.2.1 M a10 (a2 + 5 + 10 + ix ((ln * 8) + p)) (factAt_o q hq10) (Rt.ah (routineAt_o hRs hq2) (lpq (lnC (routineAt_c hRs hq2) h21 h30) (isPl h37)))) (rm_ok hRm hd (by decide) (by decide)) ⟨Nat.zero_le _, Nat.zero_le _⟩ (Nat.le_of_ble_eq_true rfl) (fun r_ N_ p_ => ?_)
                obtain ⟨rfl, rfl, t82⟩ := p_
                refine (?_ : ∀ (M85 : Mem), (Sf M M85) → f_X6_found M m ln p f = f_X6_found_c85 a10 M85 → V G X 7 0 0 (Qx G X 0 0 (p_X6_found M m ln p f)) 85 [(6, .ref a10), (5, .ref a2), (0, .ref 1), (1, .int m), (2, .int ln), (3, .int p), (4, .int f)] [] M85) _ t82 E
                intro M85 s85 E
                refine V.seg F floX6 cjoX6 [.goto 8] (by decide +kernel) (pc2 := 93) (lv2 := [(6, .ref a10), (5, .ref a2), (0, .ref 1), (1, .int m), (2, .int ln), (3, .int p), (4, .int f)]) (st2 := []) (M2 := M85) rfl ⟨(by decide), trivial⟩ ?_
                refine V.pick [0] rfl ?_
                exact hJ93 M85 s85 E
            · replace E := E.trans (if_pos h52)
              refine V.seg F floX6 cjoX6 [.bipush (-3)] (by decide +kernel) (pc2 := 57) (lv2 := [(6, .ref a10), (5, .ref a2), (0, .ref 1), (1, .int m), (2, .int ln), (3, .int p), (4, .int f)]) (st2 := [.int ((-3))]) (M2 := M) rfl ⟨trivial, trivial⟩ ?_
              exact V.iret F (by decide +kernel) ⟨congrArg (fun z => some (Value.int z.1)) E.symm, congrArg Prod.snd E.symm, Sf.rf⟩
def f_X6_sum_19   : Int32 := (-1)
def f_X6_sum_19y1   : Int32 := (-1)
def f_X6_sum (M : Mem) (m : Int32) (w : Int32) : Int32 := (f_X6_routineAt M m).elim (f_X6_sum_19 ) (fun a2 => if w < 0 then f_X6_sum_19y1  else if w ≤ 3 then if (mI M a2 7) = 0 then (-3) else if w = 0 then f_X3_reachedLines M a2 else if w = 1 then f_X3_givenUpLines M a2 else if w = 2 then f_X3_constants M a2 else mI M a2 8 else f_X6_sum_19y1 )
abbrev p_X6_sum (M : Mem) (m : Int32) (w : Int32) : Option Value → Mem → Prop := fun r N => r = some (.int (f_X6_sum M m w)) ∧ N = M
set_option maxRecDepth 100000 in
set_option maxHeartbeats 4000000 in
theorem c_X6_sum (G : Ctx) (l : Launch) (M : Mem) (m : Int32) (w : Int32) (q : Ok M) (hRs : Rs M) : CT G l 3 mX6_sum [.ref 1, .int m, .int w] M 0 0 (p_X6_sum M m w) := by
  refine CT.of (by decide) (Nat.le_of_ble_eq_true rfl) ?_
  intro X d hd hl hRm hnm F
  subst hl
  have E : f_X6_sum M m w = f_X6_sum M m w := rfl
  show V G X 4 0 0 (Qx G X 0 0 (p_X6_sum M m w)) 0 [(0, .ref 1), (1, .int m), (2, .int w)] [] M
  refine V.seg F floX6 cjoX6 [.aload_n 0, .iload_n 1] (by decide +kernel) (pc2 := 2) (lv2 := [(0, .ref 1), (1, .int m), (2, .int w)]) (st2 := [.int m, .ref 1]) (M2 := M) rfl ⟨trivial, trivial, trivial⟩ ?_
  refine V.callV (as := [.int m]) (rest := []) F (by decide +kernel) lX6_129 bX6_routineAt ⟨6, _, (q.o 1 6 rfl), rfl, rfl⟩ (c_X6_routineAt G X.2.1 M m q (by first | assumption | decide)) (rm_ok hRm hd (by decide) (by decide)) ⟨Nat.zero_le _, Nat.zero_le _⟩ (Nat.le_of_ble_eq_true rfl) (fun r_ N_ p_ => ?_)
  obtain ⟨rfl, hN_⟩ := p_
  rw [hN_]
  clear hN_
  rcases hq2 : (f_X6_routineAt M m) with _ | a2
  · replace E := E.trans (el_n hq2)
    refine V.seg F floX6 cjoX6 [.astore_n 3, .aload_n 3] (by decide +kernel) (pc2 := 7) (lv2 := [(3, .null), (0, .ref 1), (1, .int m), (2, .int w)]) (st2 := [.null]) (M2 := M) rfl ⟨(by decide), trivial, trivial⟩ ?_
    have hJ19 : f_X6_sum M m w = f_X6_sum_19 → V G X 4 0 0 (Qx G X 0 0 (p_X6_sum M m w)) 19 [] [] M := by
      intro E
      refine V.seg F floX6 cjoX6 [.iconst (-1)] (by decide +kernel) (pc2 := 20) (lv2 := []) (st2 := [.int ((-1))]) (M2 := M) rfl ⟨trivial, trivial⟩ ?_
      exact V.iret F (by decide +kernel) ⟨congrArg (fun z => some (Value.int z)) E.symm, rfl⟩
    refine V.nul_n (off := 12) F (by decide +kernel) (tgt := 19) (by decide) ?_
    refine V.pick [] rfl ?_
    exact hJ19   E
  · replace E := E.trans (el_s hq2)
    refine V.seg F floX6 cjoX6 [.astore_n 3, .aload_n 3] (by decide +kernel) (pc2 := 7) (lv2 := [(3, .ref a2), (0, .ref 1), (1, .int m), (2, .int w)]) (st2 := [.ref a2]) (M2 := M) rfl ⟨(by decide), trivial, trivial⟩ ?_
    have hJ19 : f_X6_sum M m w = f_X6_sum_19y1 → V G X 4 0 0 (Qx G X 0 0 (p_X6_sum M m w)) 19 [] [] M := by
      intro E
      refine V.seg F floX6 cjoX6 [.iconst (-1)] (by decide +kernel) (pc2 := 20) (lv2 := []) (st2 := [.int ((-1))]) (M2 := M) rfl ⟨trivial, trivial⟩ ?_
      exact V.iret F (by decide +kernel) ⟨congrArg (fun z => some (Value.int z)) E.symm, rfl⟩
    refine V.nul_r (off := 12) F (by decide +kernel) ?_
    refine V.seg F floX6 cjoX6 [.iload_n 2] (by decide +kernel) (pc2 := 11) (lv2 := [(3, .ref a2), (0, .ref 1), (1, .int m), (2, .int w)]) (st2 := [.int w]) (M2 := M) rfl ⟨trivial, trivial⟩ ?_
    refine V.if_lt (off := 8) F (by decide +kernel) (tgt := 19) (by decide) (fun h11 => ?_) (fun h11 => ?_)
    · replace E := E.trans (if_pos h11)
      refine V.pick [] rfl ?_
      exact hJ19   E
    · replace E := E.trans (if_neg h11)
      refine V.seg F floX6 cjoX6 [.iload_n 2, .iconst 3] (by decide +kernel) (pc2 := 16) (lv2 := [(3, .ref a2), (0, .ref 1), (1, .int m), (2, .int w)]) (st2 := [.int 3, .int w]) (M2 := M) rfl ⟨trivial, trivial, trivial⟩ ?_
      refine V.ic_le (off := 5) F (by decide +kernel) (tgt := 21) (by decide) (fun h16 => ?_) (fun h16 => ?_)
      · replace E := E.trans (if_pos h16)
        refine V.seg F floX6 cjoX6 [.aload_n 3, .getfield 152] (by decide +kernel) (pc2 := 25) (lv2 := [(3, .ref a2), (0, .ref 1), (1, .int m), (2, .int w)]) (st2 := [.int (mI M a2 7)]) (M2 := M) rfl ⟨trivial, (Rt.o (routineAt_o hRs hq2)), trivial⟩ ?_
        refine V.if_ne (off := 6) F (by decide +kernel) (tgt := 31) (by decide) (fun h25 => ?_) (fun h25 => ?_)
        · replace E := E.trans (if_neg h25)
          refine V.seg F floX6 cjoX6 [.iload_n 2] (by decide +kernel) (pc2 := 32) (lv2 := [(3, .ref a2), (0, .ref 1), (1, .int m), (2, .int w)]) (st2 := [.int w]) (M2 := M) rfl ⟨trivial, trivial⟩ ?_
          by_cases h32_0 : w = 0
          · replace E := E.trans (if_pos h32_0)
            refine V.swo (dflt := 43) (lo := 0) (hi := 2) (offs := #[28, 33, 38]) (len := 28) (off := 28) (tgt := 60) F (by decide +kernel) (by rw [h32_0]; rfl) rfl (by decide) ?_
            refine V.seg F floX6 cjoX6 [.aload_n 3] (by decide +kernel) (pc2 := 61) (lv2 := [(3, .ref a2), (0, .ref 1), (1, .int m), (2, .int w)]) (st2 := [.ref a2]) (M2 := M) rfl ⟨trivial, trivial⟩ ?_
            refine V.callV (as := []) (rest := []) F (by decide +kernel) lX6_187 bX3_reachedLines ⟨3, _, (Rt.o (routineAt_o hRs hq2)), rfl, rfl⟩ (c_X3_reachedLines G X.2.1 M a2 q (routineAt_o hRs hq2) (routineAt_c hRs hq2)) (rm_ok hRm hd (by decide) (by decide)) ⟨Nat.zero_le _, Nat.zero_le _⟩ (Nat.le_of_ble_eq_true rfl) (fun r_ N_ p_ => ?_)
            obtain ⟨rfl, hN_⟩ := p_
            rw [hN_]
            clear hN_
            exact V.iret F (by decide +kernel) ⟨congrArg (fun z => some (Value.int z)) E.symm, rfl⟩
          · replace E := E.trans (if_neg h32_0)
            by_cases h32_1 : w = 1
            · replace E := E.trans (if_pos h32_1)
              refine V.swo (dflt := 43) (lo := 0) (hi := 2) (offs := #[28, 33, 38]) (len := 28) (off := 33) (tgt := 65) F (by decide +kernel) (by rw [h32_1]; rfl) rfl (by decide) ?_
              refine V.seg F floX6 cjoX6 [.aload_n 3] (by decide +kernel) (pc2 := 66) (lv2 := [(3, .ref a2), (0, .ref 1), (1, .int m), (2, .int w)]) (st2 := [.ref a2]) (M2 := M) rfl ⟨trivial, trivial⟩ ?_
              refine V.callV (as := []) (rest := []) F (by decide +kernel) lX6_191 bX3_givenUpLines ⟨3, _, (Rt.o (routineAt_o hRs hq2)), rfl, rfl⟩ (c_X3_givenUpLines G X.2.1 M a2 q (routineAt_o hRs hq2) (routineAt_c hRs hq2) (routineAt_l hRs hq2)) (rm_ok hRm hd (by decide) (by decide)) ⟨Nat.zero_le _, Nat.zero_le _⟩ (Nat.le_of_ble_eq_true rfl) (fun r_ N_ p_ => ?_)
              obtain ⟨rfl, hN_⟩ := p_
              rw [hN_]
              clear hN_
              exact V.iret F (by decide +kernel) ⟨congrArg (fun z => some (Value.int z)) E.symm, rfl⟩
            · replace E := E.trans (if_neg h32_1)
              by_cases h32_2 : w = 2
              · replace E := E.trans (if_pos h32_2)
                refine V.swo (dflt := 43) (lo := 0) (hi := 2) (offs := #[28, 33, 38]) (len := 28) (off := 38) (tgt := 70) F (by decide +kernel) (by rw [h32_2]; rfl) rfl (by decide) ?_
                refine V.seg F floX6 cjoX6 [.aload_n 3] (by decide +kernel) (pc2 := 71) (lv2 := [(3, .ref a2), (0, .ref 1), (1, .int m), (2, .int w)]) (st2 := [.ref a2]) (M2 := M) rfl ⟨trivial, trivial⟩ ?_
                refine V.callV (as := []) (rest := []) F (by decide +kernel) lX6_194 bX3_constants ⟨3, _, (Rt.o (routineAt_o hRs hq2)), rfl, rfl⟩ (c_X3_constants G X.2.1 M a2 q (routineAt_o hRs hq2) (routineAt_c hRs hq2)) (rm_ok hRm hd (by decide) (by decide)) ⟨Nat.zero_le _, Nat.zero_le _⟩ (Nat.le_of_ble_eq_true rfl) (fun r_ N_ p_ => ?_)
                obtain ⟨rfl, hN_⟩ := p_
                rw [hN_]
                clear hN_
                exact V.iret F (by decide +kernel) ⟨congrArg (fun z => some (Value.int z)) E.symm, rfl⟩
              · replace E := E.trans (if_neg h32_2)
                refine V.swo (dflt := 43) (lo := 0) (hi := 2) (offs := #[28, 33, 38]) (len := 28) (off := 43) (tgt := 75) F (by decide +kernel) (sw_dflt 3 (by decide) (h := fun k_ hk_ e_ => match k_, hk_, e_ with | 0, _, e_ => absurd ((e_.trans (by decide))) h32_0 | 1, _, e_ => absurd ((e_.trans (by decide))) h32_1 | 2, _, e_ => absurd ((e_.trans (by decide))) h32_2 | k_ + 3, hk_, _ => absurd hk_ (by omega))) rfl (by decide) ?_
                refine V.seg F floX6 cjoX6 [.aload_n 3, .getfield 197] (by decide +kernel) (pc2 := 79) (lv2 := [(3, .ref a2), (0, .ref 1), (1, .int m), (2, .int w)]) (st2 := [.int (mI M a2 8)]) (M2 := M) rfl ⟨trivial, (Rt.o (routineAt_o hRs hq2)), trivial⟩ ?_
                exact V.iret F (by decide +kernel) ⟨congrArg (fun z => some (Value.int z)) E.symm, rfl⟩
        · replace E := E.trans (if_pos h25)
          refine V.seg F floX6 cjoX6 [.bipush (-3)] (by decide +kernel) (pc2 := 30) (lv2 := [(3, .ref a2), (0, .ref 1), (1, .int m), (2, .int w)]) (st2 := [.int ((-3))]) (M2 := M) rfl ⟨trivial, trivial⟩ ?_
          exact V.iret F (by decide +kernel) ⟨congrArg (fun z => some (Value.int z)) E.symm, rfl⟩
      · replace E := E.trans (if_neg h16)
        refine V.pick [] rfl ?_
        exact hJ19   E
def f_X6_put (M : Mem) (p : Int32) (v : Int64) : Int64 × Mem := if (f_X6_isPlace p) = 0 then (0, M) else (mL M 33 (ix p), uL M 33 (ix p) v)
abbrev p_X6_put (M : Mem) (p : Int32) (v : Int64) : Option Value → Mem → Prop := fun r N => r = some (.long (f_X6_put M p v).1) ∧ N = (f_X6_put M p v).2 ∧ SC wN M N
set_option maxRecDepth 100000 in
set_option maxHeartbeats 4000000 in
theorem c_X6_put (G : Ctx) (l : Launch) (M : Mem) (p : Int32) (v : Int64) (q : Ok M) : CT G l 1 mX6_put [.ref 1, .int p, .long v] M 0 0 (p_X6_put M p v) := by
  refine CT.of (by decide) (Nat.le_of_ble_eq_true rfl) ?_
  intro X d hd hl hRm hnm F
  subst hl
  have E : f_X6_put M p v = f_X6_put M p v := rfl
  show V G X 6 0 0 (Qx G X 0 0 (p_X6_put M p v)) 0 [(0, .ref 1), (1, .int p), (2, .long v)] [] M
  refine V.seg F floX6 cjoX6 [.iload_n 1] (by decide +kernel) (pc2 := 1) (lv2 := [(0, .ref 1), (1, .int p), (2, .long v)]) (st2 := [.int p]) (M2 := M) rfl ⟨trivial, trivial⟩ ?_
  refine V.callS (as := [.int p]) (rest := []) F (by decide +kernel) lX6_155 bX6_isPlace (c_X6_isPlace G X.2.1 M p) (rm_ok hRm hd (by decide) (by decide)) ⟨Nat.zero_le _, Nat.zero_le _⟩ (Nat.le_of_ble_eq_true rfl) (fun r_ N_ p_ => ?_)
  obtain ⟨rfl, hN_, z1⟩ := p_
  rw [hN_]
  clear hN_
  refine V.if_ne (off := 5) F (by decide +kernel) (tgt := 9) (by decide) (fun h4 => ?_) (fun h4 => ?_)
  · replace E := E.trans (if_neg h4)
    refine V.seg F floX6 cjoX6 [.aload_n 0, .getfield 53, .iload_n 1, .laload, .lstore 4, .aload_n 0, .getfield 53, .iload_n 1, .lload_n 2, .lastore, .lload 4] (by decide +kernel) (pc2 := 26) (lv2 := [(4, .long (mL M 33 (ix p))), (0, .ref 1), (1, .int p), (2, .long v)]) (st2 := [.long (mL M 33 (ix p))]) (M2 := uL M 33 (ix p) v) rfl ⟨trivial, (q.f 1 6 7 rfl), trivial, (q.a 33 22 8 rfl (isPl h4)), (by decide), trivial, (q.f 1 6 7 rfl), trivial, trivial, (q.a 33 22 8 rfl (isPl h4)), trivial, trivial⟩ ?_
    exact V.lret F (by decide +kernel) ⟨congrArg (fun z => some (Value.long z.1)) E.symm, congrArg Prod.snd E.symm, (SC.pL (SC.rf (w := wN)) rfl)⟩
  · replace E := E.trans (if_pos h4)
    refine V.seg F floX6 cjoX6 [.lconst 0] (by decide +kernel) (pc2 := 8) (lv2 := [(0, .ref 1), (1, .int p), (2, .long v)]) (st2 := [.long 0]) (M2 := M) rfl ⟨trivial, trivial⟩ ?_
    exact V.lret F (by decide +kernel) ⟨congrArg (fun z => some (Value.long z.1)) E.symm, congrArg Prod.snd E.symm, (SC.rf (w := wN))⟩
theorem k1000 {k : Int32} (h1 : ¬ k < 0) (h2 : k ≤ 1000) : cn k 1000 := by
  obtain ⟨j, hj, rfl⟩ := nI_of h1
  have h3 : nI j ≤ nI 1000 := h2
  have h4 := (nI_leI hj (by decide)).mp h3
  exact ⟨by rw [ix_n hj], by rw [ix_n hj]; exact h4⟩
def f_X6_walk_21  (M21 : Mem) : Int32 × Mem := ((-1), M21)
def f_X6_walk_21y1  (M21 : Mem) : Int32 × Mem := ((-1), M21)
def f_X6_walk_41  (M41 : Mem) : Int32 × Mem := ((-3), M41)
def f_X6_walk_c61  (x61 : Int32) (M61 : Mem) : Int32 × Mem := (x61, M61)
def f_X6_walk (M : Mem) (m : Int32) (k : Int32) : Int32 × Mem := (f_X6_routineAt M m).elim (f_X6_walk_21 M) (fun a2 => if k < 0 then f_X6_walk_21y1 M else if k ≤ 1000 then if (mI M a2 7) = 0 then f_X6_walk_41 M else if (f_X3_allows M a2) = 0 then f_X6_walk_41 M else f_X6_walk_c61 ((f_X4_begin M a2 k).1) ((f_X4_begin M a2 k).2) else f_X6_walk_21y1 M)
abbrev p_X6_walk (M : Mem) (m : Int32) (k : Int32) : Option Value → Mem → Prop := fun r N => r = some (.int (f_X6_walk M m k).1) ∧ N = (f_X6_walk M m k).2 ∧ SC wR M N
set_option maxRecDepth 100000 in
set_option maxHeartbeats 4000000 in
theorem c_X6_walk (G : Ctx) (l : Launch) (M : Mem) (m : Int32) (k : Int32) (q : Ok M) (hRs : Rs M) (hT : Ts M) : CT G l 4 mX6_walk [.ref 1, .int m, .int k] M 0 0 (p_X6_walk M m k) := by
  refine CT.of (by decide) (Nat.le_of_ble_eq_true rfl) ?_
  intro X d hd hl hRm hnm F
  subst hl
  have E : f_X6_walk M m k = f_X6_walk M m k := rfl
  show V G X 4 0 0 (Qx G X 0 0 (p_X6_walk M m k)) 0 [(0, .ref 1), (1, .int m), (2, .int k)] [] M
  refine V.seg F floX6 cjoX6 [.aload_n 0, .iload_n 1] (by decide +kernel) (pc2 := 2) (lv2 := [(0, .ref 1), (1, .int m), (2, .int k)]) (st2 := [.int m, .ref 1]) (M2 := M) rfl ⟨trivial, trivial, trivial⟩ ?_
  refine V.callV (as := [.int m]) (rest := []) F (by decide +kernel) lX6_129 bX6_routineAt ⟨6, _, (q.o 1 6 rfl), rfl, rfl⟩ (c_X6_routineAt G X.2.1 M m q (by first | assumption | decide)) (rm_ok hRm hd (by decide) (by decide)) ⟨Nat.zero_le _, Nat.zero_le _⟩ (Nat.le_of_ble_eq_true rfl) (fun r_ N_ p_ => ?_)
  obtain ⟨rfl, hN_⟩ := p_
  rw [hN_]
  clear hN_
  rcases hq2 : (f_X6_routineAt M m) with _ | a2
  · replace E := E.trans (el_n hq2)
    refine V.seg F floX6 cjoX6 [.astore_n 3, .aload_n 3] (by decide +kernel) (pc2 := 7) (lv2 := [(3, .null), (0, .ref 1), (1, .int m), (2, .int k)]) (st2 := [.null]) (M2 := M) rfl ⟨(by decide), trivial, trivial⟩ ?_
    have hJ21 : ∀ (M21 : Mem), (SC wR M M21) → f_X6_walk M m k = f_X6_walk_21 M21 → V G X 4 0 0 (Qx G X 0 0 (p_X6_walk M m k)) 21 [] [] M21 := by
      intro M21 s21 E
      refine V.seg F floX6 cjoX6 [.iconst (-1)] (by decide +kernel) (pc2 := 22) (lv2 := []) (st2 := [.int ((-1))]) (M2 := M21) rfl ⟨trivial, trivial⟩ ?_
      exact V.iret F (by decide +kernel) ⟨congrArg (fun z => some (Value.int z.1)) E.symm, congrArg Prod.snd E.symm, s21⟩
    refine V.nul_n (off := 14) F (by decide +kernel) (tgt := 21) (by decide) ?_
    refine V.pick [] rfl ?_
    exact hJ21 M (SC.rf (w := wR)) E
  · replace E := E.trans (el_s hq2)
    refine V.seg F floX6 cjoX6 [.astore_n 3, .aload_n 3] (by decide +kernel) (pc2 := 7) (lv2 := [(3, .ref a2), (0, .ref 1), (1, .int m), (2, .int k)]) (st2 := [.ref a2]) (M2 := M) rfl ⟨(by decide), trivial, trivial⟩ ?_
    have hJ21 : ∀ (M21 : Mem), (SC wR M M21) → f_X6_walk M m k = f_X6_walk_21y1 M21 → V G X 4 0 0 (Qx G X 0 0 (p_X6_walk M m k)) 21 [] [] M21 := by
      intro M21 s21 E
      refine V.seg F floX6 cjoX6 [.iconst (-1)] (by decide +kernel) (pc2 := 22) (lv2 := []) (st2 := [.int ((-1))]) (M2 := M21) rfl ⟨trivial, trivial⟩ ?_
      exact V.iret F (by decide +kernel) ⟨congrArg (fun z => some (Value.int z.1)) E.symm, congrArg Prod.snd E.symm, s21⟩
    refine V.nul_r (off := 14) F (by decide +kernel) ?_
    refine V.seg F floX6 cjoX6 [.iload_n 2] (by decide +kernel) (pc2 := 11) (lv2 := [(3, .ref a2), (0, .ref 1), (1, .int m), (2, .int k)]) (st2 := [.int k]) (M2 := M) rfl ⟨trivial, trivial⟩ ?_
    refine V.if_lt (off := 10) F (by decide +kernel) (tgt := 21) (by decide) (fun h11 => ?_) (fun h11 => ?_)
    · replace E := E.trans (if_pos h11)
      refine V.pick [] rfl ?_
      exact hJ21 M (SC.rf (w := wR)) E
    · replace E := E.trans (if_neg h11)
      refine V.seg F floX6 cjoX6 [.iload_n 2, .sipush 1000] (by decide +kernel) (pc2 := 18) (lv2 := [(3, .ref a2), (0, .ref 1), (1, .int m), (2, .int k)]) (st2 := [.int 1000, .int k]) (M2 := M) rfl ⟨trivial, trivial, trivial⟩ ?_
      refine V.ic_le (off := 5) F (by decide +kernel) (tgt := 23) (by decide) (fun h18 => ?_) (fun h18 => ?_)
      · replace E := E.trans (if_pos h18)
        refine V.seg F floX6 cjoX6 [.aload_n 3, .getfield 152] (by decide +kernel) (pc2 := 27) (lv2 := [(3, .ref a2), (0, .ref 1), (1, .int m), (2, .int k)]) (st2 := [.int (mI M a2 7)]) (M2 := M) rfl ⟨trivial, (Rt.o (routineAt_o hRs hq2)), trivial⟩ ?_
        have hJ41 : ∀ (M41 : Mem), (SC wR M M41) → f_X6_walk M m k = f_X6_walk_41 M41 → V G X 4 0 0 (Qx G X 0 0 (p_X6_walk M m k)) 41 [] [] M41 := by
          intro M41 s41 E
          refine V.seg F floX6 cjoX6 [.bipush (-3)] (by decide +kernel) (pc2 := 43) (lv2 := []) (st2 := [.int ((-3))]) (M2 := M41) rfl ⟨trivial, trivial⟩ ?_
          exact V.iret F (by decide +kernel) ⟨congrArg (fun z => some (Value.int z.1)) E.symm, congrArg Prod.snd E.symm, s41⟩
        refine V.if_eq (off := 14) F (by decide +kernel) (tgt := 41) (by decide) (fun h27 => ?_) (fun h27 => ?_)
        · replace E := E.trans (if_pos h27)
          refine V.pick [] rfl ?_
          exact hJ41 M (SC.rf (w := wR)) E
        · replace E := E.trans (if_neg h27)
          refine V.seg F floX6 cjoX6 [.aload_n 3, .aload_n 0, .getfield 53] (by decide +kernel) (pc2 := 35) (lv2 := [(3, .ref a2), (0, .ref 1), (1, .int m), (2, .int k)]) (st2 := [.ref 33, .ref a2]) (M2 := M) rfl ⟨trivial, trivial, (q.f 1 6 7 rfl), trivial⟩ ?_
          refine V.callV (as := [.ref 33]) (rest := []) F (by decide +kernel) lX6_200 bX3_allows ⟨3, _, (Rt.o (routineAt_o hRs hq2)), rfl, rfl⟩ (c_X3_allows G X.2.1 M a2 q (routineAt_o hRs hq2)) (rm_ok hRm hd (by decide) (by decide)) ⟨Nat.zero_le _, Nat.zero_le _⟩ (Nat.le_of_ble_eq_true rfl) (fun r_ N_ p_ => ?_)
          obtain ⟨rfl, hN_, z35⟩ := p_
          rw [hN_]
          clear hN_
          refine V.if_ne (off := 6) F (by decide +kernel) (tgt := 44) (by decide) (fun h38 => ?_) (fun h38 => ?_)
          · replace E := E.trans (if_neg h38)
            refine V.seg F floX6 cjoX6 [.aload_n 0, .getfield 49, .aload_n 3, .aload_n 0, .getfield 28, .aload_n 0, .getfield 53, .iload_n 2] (by decide +kernel) (pc2 := 58) (lv2 := [(3, .ref a2), (0, .ref 1), (1, .int m), (2, .int k)]) (st2 := [.int k, .ref 33, .ref 4, .ref a2, .ref 31]) (M2 := M) rfl ⟨trivial, (q.f 1 6 6 rfl), trivial, trivial, (q.f 1 6 3 rfl), trivial, (q.f 1 6 7 rfl), trivial, trivial⟩ ?_
            refine V.callV (as := [.ref a2, .ref 4, .ref 33, .int k]) (rest := []) F (by decide +kernel) lX6_204 bX4_begin ⟨4, _, (q.o 31 4 rfl), rfl, rfl⟩ (c_X4_begin G X.2.1 M a2 k (routineAt_o hRs hq2) q (routineAt_c hRs hq2) (routineAt_l hRs hq2) (by first | assumption | decide) (k1000 h11 h18)) (rm_ok hRm hd (by decide) (by decide)) ⟨Nat.zero_le _, Nat.zero_le _⟩ (Nat.le_of_ble_eq_true rfl) (fun r_ N_ p_ => ?_)
            obtain ⟨rfl, rfl, t58⟩ := p_
            refine (?_ : ∀ (x61 : Int32) (M61 : Mem), (SC wR M M61) → f_X6_walk M m k = f_X6_walk_c61 x61 M61 → V G X 4 0 0 (Qx G X 0 0 (p_X6_walk M m k)) 61 [(3, .ref a2), (0, .ref 1), (1, .int m), (2, .int k)] [.int x61] M61) _ _ t58 E
            intro x61 M61 s61 E
            exact V.iret F (by decide +kernel) ⟨congrArg (fun z => some (Value.int z.1)) E.symm, congrArg Prod.snd E.symm, s61⟩
          · replace E := E.trans (if_pos h38)
            refine V.pick [] rfl ?_
            exact hJ41 M (SC.rf (w := wR)) E
      · replace E := E.trans (if_neg h18)
        refine V.pick [] rfl ?_
        exact hJ21 M (SC.rf (w := wR)) E
def f_X6_now_20  (w0_20 : Int64) : Int64 := w0_20
def f_X6_now (M : Mem) (p : Int32) : Int64 := if (f_X6_isPlace p) = 0 then f_X6_now_20 0 else f_X6_now_20 (mL M 32 (ix p))
abbrev p_X6_now (M : Mem) (p : Int32) : Option Value → Mem → Prop := fun r N => r = some (.long (f_X6_now M p)) ∧ N = M
set_option maxRecDepth 100000 in
set_option maxHeartbeats 4000000 in
theorem c_X6_now (G : Ctx) (l : Launch) (M : Mem) (p : Int32) (q : Ok M) : CT G l 1 mX6_now [.ref 1, .int p] M 0 0 (p_X6_now M p) := by
  refine CT.of (by decide) (Nat.le_of_ble_eq_true rfl) ?_
  intro X d hd hl hRm hnm F
  subst hl
  have E : f_X6_now M p = f_X6_now M p := rfl
  show V G X 2 0 0 (Qx G X 0 0 (p_X6_now M p)) 0 [(0, .ref 1), (1, .int p)] [] M
  refine V.seg F floX6 cjoX6 [.iload_n 1] (by decide +kernel) (pc2 := 1) (lv2 := [(0, .ref 1), (1, .int p)]) (st2 := [.int p]) (M2 := M) rfl ⟨trivial, trivial⟩ ?_
  refine V.callS (as := [.int p]) (rest := []) F (by decide +kernel) lX6_155 bX6_isPlace (c_X6_isPlace G X.2.1 M p) (rm_ok hRm hd (by decide) (by decide)) ⟨Nat.zero_le _, Nat.zero_le _⟩ (Nat.le_of_ble_eq_true rfl) (fun r_ N_ p_ => ?_)
  obtain ⟨rfl, hN_, z1⟩ := p_
  rw [hN_]
  clear hN_
  have hJ20 : ∀ (w0_20 : Int64), f_X6_now M p = f_X6_now_20 w0_20 → V G X 2 0 0 (Qx G X 0 0 (p_X6_now M p)) 20 [] [.long w0_20] M := by
    intro w0_20 E
    exact V.lret F (by decide +kernel) ⟨congrArg (fun z => some (Value.long z)) E.symm, rfl⟩
  refine V.if_eq (off := 15) F (by decide +kernel) (tgt := 19) (by decide) (fun h4 => ?_) (fun h4 => ?_)
  · replace E := E.trans (if_pos h4)
    refine V.seg F floX6 cjoX6 [.lconst 0] (by decide +kernel) (pc2 := 20) (lv2 := [(0, .ref 1), (1, .int p)]) (st2 := [.long 0]) (M2 := M) rfl ⟨trivial, trivial⟩ ?_
    refine V.pick [] rfl ?_
    exact hJ20 0  E
  · replace E := E.trans (if_neg h4)
    refine V.seg F floX6 cjoX6 [.aload_n 0, .getfield 49, .getfield 207, .iload_n 1, .laload, .goto 4] (by decide +kernel) (pc2 := 20) (lv2 := [(0, .ref 1), (1, .int p)]) (st2 := [.long (mL M 32 (ix p))]) (M2 := M) rfl ⟨trivial, (q.f 1 6 6 rfl), (q.f 31 4 0 rfl), trivial, (q.a 32 22 8 rfl (isPl h4)), (by decide), trivial⟩ ?_
    refine V.pick [] rfl ?_
    exact hJ20 (mL M 32 (ix p))  E
def f_X6_ran (M : Mem) (w : Int32) : Int32 := if w = 0 then mI M 31 1 else if w = 1 then mI M 31 2 else if w = 2 then mI M 31 3 else (-1)
abbrev p_X6_ran (M : Mem) (w : Int32) : Option Value → Mem → Prop := fun r N => r = some (.int (f_X6_ran M w)) ∧ N = M
set_option maxRecDepth 100000 in
set_option maxHeartbeats 4000000 in
theorem c_X6_ran (G : Ctx) (l : Launch) (M : Mem) (w : Int32) (q : Ok M) : CT G l 0 mX6_ran [.ref 1, .int w] M 0 0 (p_X6_ran M w) := by
  refine CT.of (by decide) (Nat.le_of_ble_eq_true rfl) ?_
  intro X d hd hl hRm hnm F
  subst hl
  have E : f_X6_ran M w = f_X6_ran M w := rfl
  show V G X 2 0 0 (Qx G X 0 0 (p_X6_ran M w)) 0 [(0, .ref 1), (1, .int w)] [] M
  refine V.seg F floX6 cjoX6 [.iload_n 1] (by decide +kernel) (pc2 := 1) (lv2 := [(0, .ref 1), (1, .int w)]) (st2 := [.int w]) (M2 := M) rfl ⟨trivial, trivial⟩ ?_
  by_cases h1_0 : w = 0
  · replace E := E.trans (if_pos h1_0)
    refine V.swo (dflt := 51) (lo := 0) (hi := 2) (offs := #[27, 35, 43]) (len := 27) (off := 27) (tgt := 28) F (by decide +kernel) (by rw [h1_0]; rfl) rfl (by decide) ?_
    refine V.seg F floX6 cjoX6 [.aload_n 0, .getfield 49, .getfield 210] (by decide +kernel) (pc2 := 35) (lv2 := [(0, .ref 1), (1, .int w)]) (st2 := [.int (mI M 31 1)]) (M2 := M) rfl ⟨trivial, (q.f 1 6 6 rfl), (q.o 31 4 rfl), trivial⟩ ?_
    exact V.iret F (by decide +kernel) ⟨congrArg (fun z => some (Value.int z)) E.symm, rfl⟩
  · replace E := E.trans (if_neg h1_0)
    by_cases h1_1 : w = 1
    · replace E := E.trans (if_pos h1_1)
      refine V.swo (dflt := 51) (lo := 0) (hi := 2) (offs := #[27, 35, 43]) (len := 27) (off := 35) (tgt := 36) F (by decide +kernel) (by rw [h1_1]; rfl) rfl (by decide) ?_
      refine V.seg F floX6 cjoX6 [.aload_n 0, .getfield 49, .getfield 213] (by decide +kernel) (pc2 := 43) (lv2 := [(0, .ref 1), (1, .int w)]) (st2 := [.int (mI M 31 2)]) (M2 := M) rfl ⟨trivial, (q.f 1 6 6 rfl), (q.o 31 4 rfl), trivial⟩ ?_
      exact V.iret F (by decide +kernel) ⟨congrArg (fun z => some (Value.int z)) E.symm, rfl⟩
    · replace E := E.trans (if_neg h1_1)
      by_cases h1_2 : w = 2
      · replace E := E.trans (if_pos h1_2)
        refine V.swo (dflt := 51) (lo := 0) (hi := 2) (offs := #[27, 35, 43]) (len := 27) (off := 43) (tgt := 44) F (by decide +kernel) (by rw [h1_2]; rfl) rfl (by decide) ?_
        refine V.seg F floX6 cjoX6 [.aload_n 0, .getfield 49, .getfield 216] (by decide +kernel) (pc2 := 51) (lv2 := [(0, .ref 1), (1, .int w)]) (st2 := [.int (mI M 31 3)]) (M2 := M) rfl ⟨trivial, (q.f 1 6 6 rfl), (q.o 31 4 rfl), trivial⟩ ?_
        exact V.iret F (by decide +kernel) ⟨congrArg (fun z => some (Value.int z)) E.symm, rfl⟩
      · replace E := E.trans (if_neg h1_2)
        refine V.swo (dflt := 51) (lo := 0) (hi := 2) (offs := #[27, 35, 43]) (len := 27) (off := 51) (tgt := 52) F (by decide +kernel) (sw_dflt 3 (by decide) (h := fun k_ hk_ e_ => match k_, hk_, e_ with | 0, _, e_ => absurd ((e_.trans (by decide))) h1_0 | 1, _, e_ => absurd ((e_.trans (by decide))) h1_1 | 2, _, e_ => absurd ((e_.trans (by decide))) h1_2 | k_ + 3, hk_, _ => absurd hk_ (by omega))) rfl (by decide) ?_
        refine V.seg F floX6 cjoX6 [.iconst (-1)] (by decide +kernel) (pc2 := 53) (lv2 := [(0, .ref 1), (1, .int w)]) (st2 := [.int ((-1))]) (M2 := M) rfl ⟨trivial, trivial⟩ ?_
        exact V.iret F (by decide +kernel) ⟨congrArg (fun z => some (Value.int z)) E.symm, rfl⟩
