theorem nle_ne {b : Int64} (h : ¬ b ≤ 0) : ¬ b = 0 := fun e => h (by rw [e]; decide)
theorem Ac.o {M : Mem} {a : Nat} (q : Ok M) (h : a = 11 ∨ a = 15) : isO M a 0 := by rcases h with rfl | rfl <;> exact q.o _ 0 rfl
theorem Ac.z {M : Mem} {a : Nat} (q : Ok M) (h : a = 11 ∨ a = 15) : isO M (a + 1) 1 := by rcases h with rfl | rfl <;> exact q.o _ 1 rfl
theorem Ac.m {M : Mem} {a : Nat} (q : Ok M) (h : a = 11 ∨ a = 15) : isO M (a + 2) 1 := by rcases h with rfl | rfl <;> exact q.o _ 1 rfl
theorem Ac.f {M : Mem} {a : Nat} (q : Ok M) (h : a = 11 ∨ a = 15) (k : Nat) (hk : k < 2) : isO M a 0 ∧ mB M a k = true := by
  rcases h with rfl | rfl <;> rcases (show k = 0 ∨ k = 1 by omega) with rfl | rfl <;> exact q.f _ 0 _ rfl
def f_X0_stops_23  (w0_23 : Int32) : Int32 := w0_23
def f_X0_stops_22   : Int32 := f_X0_stops_23 0
def f_X0_stops_12 (b : Int64)  : Int32 := if b = 0 then f_X0_stops_23 1 else f_X0_stops_22 
def f_X0_stops (op : Int32) (b : Int64) : Int32 := if op = 9 then f_X0_stops_12 b else if op = 10 then f_X0_stops_12 b else f_X0_stops_22 
abbrev p_X0_stops (M : Mem) (op : Int32) (b : Int64) : Option Value → Mem → Prop := fun r N => r = some (.int (f_X0_stops op b)) ∧ N = M ∧ ((f_X0_stops op b) = 0 ∨ (f_X0_stops op b) = 1)
set_option maxRecDepth 100000 in
set_option maxHeartbeats 4000000 in
theorem c_X0_stops (G : Ctx) (l : Launch) (M : Mem) (op : Int32) (b : Int64)  : CT G l 0 mX0_stops [.int op, .long b] M 0 0 (p_X0_stops M op b) := by
  refine CT.of (by decide) (Nat.le_of_ble_eq_true rfl) ?_
  intro X d hd hl hRm hnm F
  subst hl
  have E : f_X0_stops op b = f_X0_stops op b := rfl
  show V G X 3 0 0 (Qx G X 0 0 (p_X0_stops M op b)) 0 [(0, .int op), (1, .long b)] [] M
  refine V.seg F floX0 cjoX0 [.iload_n 0, .bipush 9] (by decide +kernel) (pc2 := 3) (lv2 := [(0, .int op), (1, .long b)]) (st2 := [.int 9, .int op]) (M2 := M) rfl ⟨trivial, trivial, trivial⟩ ?_
  have hJ23 : ∀ (w0_23 : Int32), (w0_23 = 0 ∨ w0_23 = 1) → f_X0_stops op b = f_X0_stops_23 w0_23 → V G X 3 0 0 (Qx G X 0 0 (p_X0_stops M op b)) 23 [] [.int w0_23] M := by
    intro w0_23 zw0_23 E
    exact V.zret F (zw0_23) (by decide +kernel) ⟨congrArg (fun z => some (Value.int z)) E.symm, rfl, by rw [E]; exact zw0_23⟩
  have hJ22 : f_X0_stops op b = f_X0_stops_22 → V G X 3 0 0 (Qx G X 0 0 (p_X0_stops M op b)) 22 [] [] M := by
    intro E
    refine V.seg F floX0 cjoX0 [.iconst 0] (by decide +kernel) (pc2 := 23) (lv2 := []) (st2 := [.int 0]) (M2 := M) rfl ⟨trivial, trivial⟩ ?_
    refine V.pick [] rfl ?_
    exact hJ23 0 (Or.inl rfl) E
  have hJ12 : f_X0_stops op b = f_X0_stops_12 b → V G X 3 0 0 (Qx G X 0 0 (p_X0_stops M op b)) 12 [(1, .long b)] [] M := by
    intro E
    refine V.seg F floX0 cjoX0 [.lload_n 1, .lconst 0, .lcmp] (by decide +kernel) (pc2 := 15) (lv2 := [(1, .long b)]) (st2 := [.int (lg_cmp b 0)]) (M2 := M) rfl ⟨trivial, trivial, trivial, trivial⟩ ?_
    refine V.lc_ne (off := 7) F (by decide +kernel) (tgt := 22) (by decide) (fun h15 => ?_) (fun h15 => ?_)
    · replace E := E.trans (if_neg h15)
      refine V.pick [] rfl ?_
      exact hJ22   E
    · replace E := E.trans (if_pos h15)
      refine V.seg F floX0 cjoX0 [.iconst 1, .goto 4] (by decide +kernel) (pc2 := 23) (lv2 := [(1, .long b)]) (st2 := [.int 1]) (M2 := M) rfl ⟨trivial, (by decide), trivial⟩ ?_
      refine V.pick [] rfl ?_
      exact hJ23 1 (Or.inr rfl) E
  refine V.ic_eq (off := 9) F (by decide +kernel) (tgt := 12) (by decide) (fun h3 => ?_) (fun h3 => ?_)
  · replace E := E.trans (if_pos h3)
    refine V.pick [1] rfl ?_
    exact hJ12   E
  · replace E := E.trans (if_neg h3)
    refine V.seg F floX0 cjoX0 [.iload_n 0, .bipush 10] (by decide +kernel) (pc2 := 9) (lv2 := [(0, .int op), (1, .long b)]) (st2 := [.int 10, .int op]) (M2 := M) rfl ⟨trivial, trivial, trivial⟩ ?_
    refine V.ic_ne (off := 13) F (by decide +kernel) (tgt := 22) (by decide) (fun h9 => ?_) (fun h9 => ?_)
    · replace E := E.trans (if_neg h9)
      refine V.pick [] rfl ?_
      exact hJ22   E
    · replace E := E.trans (if_pos h9)
      refine V.pick [1] rfl ?_
      exact hJ12   E
def f_X0_number_160  (w0_160 : Int64) : Int64 := w0_160
def f_X0_number_174  (w0_174 : Int64) : Int64 := w0_174
def f_X0_number (op : Int32) (a : Int64) (b : Int64) : Int64 := if op = 0 then a + b else if op = 1 then a - b else if op = 2 then a * b else if op = 3 then a &&& b else if op = 4 then a ||| b else if op = 5 then a ^^^ b else if op = 6 then jshl a (Int64.toInt32 (b &&& 63)) else if op = 7 then jshr a (Int64.toInt32 (b &&& 63)) else if op = 8 then jushr a (Int64.toInt32 (b &&& 63)) else if op = 9 then if b = 0 then f_X0_number_160 0 else f_X0_number_160 (a / b) else if op = 10 then if b = 0 then f_X0_number_174 0 else f_X0_number_174 (jrem a b) else if op = 11 then ((a ^^^ (jushr a 29)) * ((-4658895280553007687))) + b else if op = 12 then -a else if op = 13 then a ^^^ ((-1)) else if op = 14 then Int32.toInt64 (Int8.toInt32 (Int32.toInt8 (Int64.toInt32 a))) else if op = 15 then Int32.toInt64 (Int16.toInt32 (Int32.toInt16 (Int64.toInt32 a))) else if op = 16 then Int32.toInt64 (Int64.toInt32 a) else if op = 17 then a &&& 255 else if op = 18 then a &&& 65535 else if op = 19 then a &&& 4294967295 else 0
abbrev p_X0_number (M : Mem) (op : Int32) (a : Int64) (b : Int64) : Option Value → Mem → Prop := fun r N => r = some (.long (f_X0_number op a b)) ∧ N = M
set_option maxRecDepth 100000 in
set_option maxHeartbeats 4000000 in
theorem c_X0_number (G : Ctx) (l : Launch) (M : Mem) (op : Int32) (a : Int64) (b : Int64)  : CT G l 0 mX0_number [.int op, .long a, .long b] M 0 0 (p_X0_number M op a b) := by
  refine CT.of (by decide) (Nat.le_of_ble_eq_true rfl) ?_
  intro X d hd hl hRm hnm F
  subst hl
  have E : f_X0_number op a b = f_X0_number op a b := rfl
  show V G X 5 0 0 (Qx G X 0 0 (p_X0_number M op a b)) 0 [(0, .int op), (1, .long a), (3, .long b)] [] M
  refine V.seg F floX0 cjoX0 [.iload_n 0] (by decide +kernel) (pc2 := 1) (lv2 := [(0, .int op), (1, .long a), (3, .long b)]) (st2 := [.int op]) (M2 := M) rfl ⟨trivial, trivial⟩ ?_
  by_cases h1_0 : op = 0
  · replace E := E.trans (if_pos h1_0)
    refine V.swo (dflt := 228) (lo := 0) (hi := 19) (offs := #[95, 99, 103, 107, 111, 115, 119, 128, 137, 146, 160, 174, 187, 190, 196, 201, 206, 210, 216, 222]) (len := 95) (off := 95) (tgt := 96) F (by decide +kernel) (by rw [h1_0]; rfl) rfl (by decide) ?_
    refine V.seg F floX0 cjoX0 [.lload_n 1, .lload_n 3, .ladd] (by decide +kernel) (pc2 := 99) (lv2 := [(0, .int op), (1, .long a), (3, .long b)]) (st2 := [.long (a + b)]) (M2 := M) rfl ⟨trivial, trivial, trivial, trivial⟩ ?_
    exact V.lret F (by decide +kernel) ⟨congrArg (fun z => some (Value.long z)) E.symm, rfl⟩
  · replace E := E.trans (if_neg h1_0)
    by_cases h1_1 : op = 1
    · replace E := E.trans (if_pos h1_1)
      refine V.swo (dflt := 228) (lo := 0) (hi := 19) (offs := #[95, 99, 103, 107, 111, 115, 119, 128, 137, 146, 160, 174, 187, 190, 196, 201, 206, 210, 216, 222]) (len := 95) (off := 99) (tgt := 100) F (by decide +kernel) (by rw [h1_1]; rfl) rfl (by decide) ?_
      refine V.seg F floX0 cjoX0 [.lload_n 1, .lload_n 3, .lsub] (by decide +kernel) (pc2 := 103) (lv2 := [(0, .int op), (1, .long a), (3, .long b)]) (st2 := [.long (a - b)]) (M2 := M) rfl ⟨trivial, trivial, trivial, trivial⟩ ?_
      exact V.lret F (by decide +kernel) ⟨congrArg (fun z => some (Value.long z)) E.symm, rfl⟩
    · replace E := E.trans (if_neg h1_1)
      by_cases h1_2 : op = 2
      · replace E := E.trans (if_pos h1_2)
        refine V.swo (dflt := 228) (lo := 0) (hi := 19) (offs := #[95, 99, 103, 107, 111, 115, 119, 128, 137, 146, 160, 174, 187, 190, 196, 201, 206, 210, 216, 222]) (len := 95) (off := 103) (tgt := 104) F (by decide +kernel) (by rw [h1_2]; rfl) rfl (by decide) ?_
        refine V.seg F floX0 cjoX0 [.lload_n 1, .lload_n 3, .lmul] (by decide +kernel) (pc2 := 107) (lv2 := [(0, .int op), (1, .long a), (3, .long b)]) (st2 := [.long (a * b)]) (M2 := M) rfl ⟨trivial, trivial, trivial, trivial⟩ ?_
        exact V.lret F (by decide +kernel) ⟨congrArg (fun z => some (Value.long z)) E.symm, rfl⟩
      · replace E := E.trans (if_neg h1_2)
        by_cases h1_3 : op = 3
        · replace E := E.trans (if_pos h1_3)
          refine V.swo (dflt := 228) (lo := 0) (hi := 19) (offs := #[95, 99, 103, 107, 111, 115, 119, 128, 137, 146, 160, 174, 187, 190, 196, 201, 206, 210, 216, 222]) (len := 95) (off := 107) (tgt := 108) F (by decide +kernel) (by rw [h1_3]; rfl) rfl (by decide) ?_
          refine V.seg F floX0 cjoX0 [.lload_n 1, .lload_n 3, .land] (by decide +kernel) (pc2 := 111) (lv2 := [(0, .int op), (1, .long a), (3, .long b)]) (st2 := [.long (a &&& b)]) (M2 := M) rfl ⟨trivial, trivial, trivial, trivial⟩ ?_
          exact V.lret F (by decide +kernel) ⟨congrArg (fun z => some (Value.long z)) E.symm, rfl⟩
        · replace E := E.trans (if_neg h1_3)
          by_cases h1_4 : op = 4
          · replace E := E.trans (if_pos h1_4)
            refine V.swo (dflt := 228) (lo := 0) (hi := 19) (offs := #[95, 99, 103, 107, 111, 115, 119, 128, 137, 146, 160, 174, 187, 190, 196, 201, 206, 210, 216, 222]) (len := 95) (off := 111) (tgt := 112) F (by decide +kernel) (by rw [h1_4]; rfl) rfl (by decide) ?_
            refine V.seg F floX0 cjoX0 [.lload_n 1, .lload_n 3, .lor] (by decide +kernel) (pc2 := 115) (lv2 := [(0, .int op), (1, .long a), (3, .long b)]) (st2 := [.long (a ||| b)]) (M2 := M) rfl ⟨trivial, trivial, trivial, trivial⟩ ?_
            exact V.lret F (by decide +kernel) ⟨congrArg (fun z => some (Value.long z)) E.symm, rfl⟩
          · replace E := E.trans (if_neg h1_4)
            by_cases h1_5 : op = 5
            · replace E := E.trans (if_pos h1_5)
              refine V.swo (dflt := 228) (lo := 0) (hi := 19) (offs := #[95, 99, 103, 107, 111, 115, 119, 128, 137, 146, 160, 174, 187, 190, 196, 201, 206, 210, 216, 222]) (len := 95) (off := 115) (tgt := 116) F (by decide +kernel) (by rw [h1_5]; rfl) rfl (by decide) ?_
              refine V.seg F floX0 cjoX0 [.lload_n 1, .lload_n 3, .lxor] (by decide +kernel) (pc2 := 119) (lv2 := [(0, .int op), (1, .long a), (3, .long b)]) (st2 := [.long (a ^^^ b)]) (M2 := M) rfl ⟨trivial, trivial, trivial, trivial⟩ ?_
              exact V.lret F (by decide +kernel) ⟨congrArg (fun z => some (Value.long z)) E.symm, rfl⟩
            · replace E := E.trans (if_neg h1_5)
              by_cases h1_6 : op = 6
              · replace E := E.trans (if_pos h1_6)
                refine V.swo (dflt := 228) (lo := 0) (hi := 19) (offs := #[95, 99, 103, 107, 111, 115, 119, 128, 137, 146, 160, 174, 187, 190, 196, 201, 206, 210, 216, 222]) (len := 95) (off := 119) (tgt := 120) F (by decide +kernel) (by rw [h1_6]; rfl) rfl (by decide) ?_
                refine V.seg F floX0 cjoX0 [.lload_n 1, .lload_n 3, .ldc2_w 25, .land, .l2i, .lshl] (by decide +kernel) (pc2 := 128) (lv2 := [(0, .int op), (1, .long a), (3, .long b)]) (st2 := [.long (jshl a (Int64.toInt32 (b &&& 63)))]) (M2 := M) rfl ⟨trivial, trivial, trivial, trivial, trivial, trivial, trivial⟩ ?_
                exact V.lret F (by decide +kernel) ⟨congrArg (fun z => some (Value.long z)) E.symm, rfl⟩
              · replace E := E.trans (if_neg h1_6)
                by_cases h1_7 : op = 7
                · replace E := E.trans (if_pos h1_7)
                  refine V.swo (dflt := 228) (lo := 0) (hi := 19) (offs := #[95, 99, 103, 107, 111, 115, 119, 128, 137, 146, 160, 174, 187, 190, 196, 201, 206, 210, 216, 222]) (len := 95) (off := 128) (tgt := 129) F (by decide +kernel) (by rw [h1_7]; rfl) rfl (by decide) ?_
                  refine V.seg F floX0 cjoX0 [.lload_n 1, .lload_n 3, .ldc2_w 25, .land, .l2i, .lshr] (by decide +kernel) (pc2 := 137) (lv2 := [(0, .int op), (1, .long a), (3, .long b)]) (st2 := [.long (jshr a (Int64.toInt32 (b &&& 63)))]) (M2 := M) rfl ⟨trivial, trivial, trivial, trivial, trivial, trivial, trivial⟩ ?_
                  exact V.lret F (by decide +kernel) ⟨congrArg (fun z => some (Value.long z)) E.symm, rfl⟩
                · replace E := E.trans (if_neg h1_7)
                  by_cases h1_8 : op = 8
                  · replace E := E.trans (if_pos h1_8)
                    refine V.swo (dflt := 228) (lo := 0) (hi := 19) (offs := #[95, 99, 103, 107, 111, 115, 119, 128, 137, 146, 160, 174, 187, 190, 196, 201, 206, 210, 216, 222]) (len := 95) (off := 137) (tgt := 138) F (by decide +kernel) (by rw [h1_8]; rfl) rfl (by decide) ?_
                    refine V.seg F floX0 cjoX0 [.lload_n 1, .lload_n 3, .ldc2_w 25, .land, .l2i, .lushr] (by decide +kernel) (pc2 := 146) (lv2 := [(0, .int op), (1, .long a), (3, .long b)]) (st2 := [.long (jushr a (Int64.toInt32 (b &&& 63)))]) (M2 := M) rfl ⟨trivial, trivial, trivial, trivial, trivial, trivial, trivial⟩ ?_
                    exact V.lret F (by decide +kernel) ⟨congrArg (fun z => some (Value.long z)) E.symm, rfl⟩
                  · replace E := E.trans (if_neg h1_8)
                    by_cases h1_9 : op = 9
                    · replace E := E.trans (if_pos h1_9)
                      refine V.swo (dflt := 228) (lo := 0) (hi := 19) (offs := #[95, 99, 103, 107, 111, 115, 119, 128, 137, 146, 160, 174, 187, 190, 196, 201, 206, 210, 216, 222]) (len := 95) (off := 146) (tgt := 147) F (by decide +kernel) (by rw [h1_9]; rfl) rfl (by decide) ?_
                      refine V.seg F floX0 cjoX0 [.lload_n 3, .lconst 0, .lcmp] (by decide +kernel) (pc2 := 150) (lv2 := [(0, .int op), (1, .long a), (3, .long b)]) (st2 := [.int (lg_cmp b 0)]) (M2 := M) rfl ⟨trivial, trivial, trivial, trivial⟩ ?_
                      have hJ160 : ∀ (w0_160 : Int64), f_X0_number op a b = f_X0_number_160 w0_160 → V G X 5 0 0 (Qx G X 0 0 (p_X0_number M op a b)) 160 [] [.long w0_160] M := by
                        intro w0_160 E
                        exact V.lret F (by decide +kernel) ⟨congrArg (fun z => some (Value.long z)) E.symm, rfl⟩
                      refine V.lc_ne (off := 7) F (by decide +kernel) (tgt := 157) (by decide) (fun h150 => ?_) (fun h150 => ?_)
                      · replace E := E.trans (if_neg h150)
                        refine V.seg F floX0 cjoX0 [.lload_n 1, .lload_n 3, .ldiv] (by decide +kernel) (pc2 := 160) (lv2 := [(0, .int op), (1, .long a), (3, .long b)]) (st2 := [.long (a / b)]) (M2 := M) rfl ⟨trivial, trivial, h150, trivial⟩ ?_
                        refine V.pick [] rfl ?_
                        exact hJ160 (a / b)  E
                      · replace E := E.trans (if_pos h150)
                        refine V.seg F floX0 cjoX0 [.lconst 0, .goto 6] (by decide +kernel) (pc2 := 160) (lv2 := [(0, .int op), (1, .long a), (3, .long b)]) (st2 := [.long 0]) (M2 := M) rfl ⟨trivial, (by decide), trivial⟩ ?_
                        refine V.pick [] rfl ?_
                        exact hJ160 0  E
                    · replace E := E.trans (if_neg h1_9)
                      by_cases h1_10 : op = 10
                      · replace E := E.trans (if_pos h1_10)
                        refine V.swo (dflt := 228) (lo := 0) (hi := 19) (offs := #[95, 99, 103, 107, 111, 115, 119, 128, 137, 146, 160, 174, 187, 190, 196, 201, 206, 210, 216, 222]) (len := 95) (off := 160) (tgt := 161) F (by decide +kernel) (by rw [h1_10]; rfl) rfl (by decide) ?_
                        refine V.seg F floX0 cjoX0 [.lload_n 3, .lconst 0, .lcmp] (by decide +kernel) (pc2 := 164) (lv2 := [(0, .int op), (1, .long a), (3, .long b)]) (st2 := [.int (lg_cmp b 0)]) (M2 := M) rfl ⟨trivial, trivial, trivial, trivial⟩ ?_
                        have hJ174 : ∀ (w0_174 : Int64), f_X0_number op a b = f_X0_number_174 w0_174 → V G X 5 0 0 (Qx G X 0 0 (p_X0_number M op a b)) 174 [] [.long w0_174] M := by
                          intro w0_174 E
                          exact V.lret F (by decide +kernel) ⟨congrArg (fun z => some (Value.long z)) E.symm, rfl⟩
                        refine V.lc_ne (off := 7) F (by decide +kernel) (tgt := 171) (by decide) (fun h164 => ?_) (fun h164 => ?_)
                        · replace E := E.trans (if_neg h164)
                          refine V.seg F floX0 cjoX0 [.lload_n 1, .lload_n 3, .lrem] (by decide +kernel) (pc2 := 174) (lv2 := [(0, .int op), (1, .long a), (3, .long b)]) (st2 := [.long (jrem a b)]) (M2 := M) rfl ⟨trivial, trivial, h164, trivial⟩ ?_
                          refine V.pick [] rfl ?_
                          exact hJ174 (jrem a b)  E
                        · replace E := E.trans (if_pos h164)
                          refine V.seg F floX0 cjoX0 [.lconst 0, .goto 6] (by decide +kernel) (pc2 := 174) (lv2 := [(0, .int op), (1, .long a), (3, .long b)]) (st2 := [.long 0]) (M2 := M) rfl ⟨trivial, (by decide), trivial⟩ ?_
                          refine V.pick [] rfl ?_
                          exact hJ174 0  E
                      · replace E := E.trans (if_neg h1_10)
                        by_cases h1_11 : op = 11
                        · replace E := E.trans (if_pos h1_11)
                          refine V.swo (dflt := 228) (lo := 0) (hi := 19) (offs := #[95, 99, 103, 107, 111, 115, 119, 128, 137, 146, 160, 174, 187, 190, 196, 201, 206, 210, 216, 222]) (len := 95) (off := 174) (tgt := 175) F (by decide +kernel) (by rw [h1_11]; rfl) rfl (by decide) ?_
                          refine V.seg F floX0 cjoX0 [.lload_n 1, .lload_n 1, .bipush 29, .lushr, .lxor, .ldc2_w 27, .lmul, .lload_n 3, .ladd] (by decide +kernel) (pc2 := 187) (lv2 := [(0, .int op), (1, .long a), (3, .long b)]) (st2 := [.long (((a ^^^ (jushr a 29)) * ((-4658895280553007687))) + b)]) (M2 := M) rfl ⟨trivial, trivial, trivial, trivial, trivial, trivial, trivial, trivial, trivial, trivial⟩ ?_
                          exact V.lret F (by decide +kernel) ⟨congrArg (fun z => some (Value.long z)) E.symm, rfl⟩
                        · replace E := E.trans (if_neg h1_11)
                          by_cases h1_12 : op = 12
                          · replace E := E.trans (if_pos h1_12)
                            refine V.swo (dflt := 228) (lo := 0) (hi := 19) (offs := #[95, 99, 103, 107, 111, 115, 119, 128, 137, 146, 160, 174, 187, 190, 196, 201, 206, 210, 216, 222]) (len := 95) (off := 187) (tgt := 188) F (by decide +kernel) (by rw [h1_12]; rfl) rfl (by decide) ?_
                            refine V.seg F floX0 cjoX0 [.lload_n 1, .lneg] (by decide +kernel) (pc2 := 190) (lv2 := [(0, .int op), (1, .long a), (3, .long b)]) (st2 := [.long (-a)]) (M2 := M) rfl ⟨trivial, trivial, trivial⟩ ?_
                            exact V.lret F (by decide +kernel) ⟨congrArg (fun z => some (Value.long z)) E.symm, rfl⟩
                          · replace E := E.trans (if_neg h1_12)
                            by_cases h1_13 : op = 13
                            · replace E := E.trans (if_pos h1_13)
                              refine V.swo (dflt := 228) (lo := 0) (hi := 19) (offs := #[95, 99, 103, 107, 111, 115, 119, 128, 137, 146, 160, 174, 187, 190, 196, 201, 206, 210, 216, 222]) (len := 95) (off := 190) (tgt := 191) F (by decide +kernel) (by rw [h1_13]; rfl) rfl (by decide) ?_
                              refine V.seg F floX0 cjoX0 [.lload_n 1, .ldc2_w 29, .lxor] (by decide +kernel) (pc2 := 196) (lv2 := [(0, .int op), (1, .long a), (3, .long b)]) (st2 := [.long (a ^^^ ((-1)))]) (M2 := M) rfl ⟨trivial, trivial, trivial, trivial⟩ ?_
                              exact V.lret F (by decide +kernel) ⟨congrArg (fun z => some (Value.long z)) E.symm, rfl⟩
                            · replace E := E.trans (if_neg h1_13)
                              by_cases h1_14 : op = 14
                              · replace E := E.trans (if_pos h1_14)
                                refine V.swo (dflt := 228) (lo := 0) (hi := 19) (offs := #[95, 99, 103, 107, 111, 115, 119, 128, 137, 146, 160, 174, 187, 190, 196, 201, 206, 210, 216, 222]) (len := 95) (off := 196) (tgt := 197) F (by decide +kernel) (by rw [h1_14]; rfl) rfl (by decide) ?_
                                refine V.seg F floX0 cjoX0 [.lload_n 1, .l2i, .i2b, .i2l] (by decide +kernel) (pc2 := 201) (lv2 := [(0, .int op), (1, .long a), (3, .long b)]) (st2 := [.long (Int32.toInt64 (Int8.toInt32 (Int32.toInt8 (Int64.toInt32 a))))]) (M2 := M) rfl ⟨trivial, trivial, trivial, trivial, trivial⟩ ?_
                                exact V.lret F (by decide +kernel) ⟨congrArg (fun z => some (Value.long z)) E.symm, rfl⟩
                              · replace E := E.trans (if_neg h1_14)
                                by_cases h1_15 : op = 15
                                · replace E := E.trans (if_pos h1_15)
                                  refine V.swo (dflt := 228) (lo := 0) (hi := 19) (offs := #[95, 99, 103, 107, 111, 115, 119, 128, 137, 146, 160, 174, 187, 190, 196, 201, 206, 210, 216, 222]) (len := 95) (off := 201) (tgt := 202) F (by decide +kernel) (by rw [h1_15]; rfl) rfl (by decide) ?_
                                  refine V.seg F floX0 cjoX0 [.lload_n 1, .l2i, .i2s, .i2l] (by decide +kernel) (pc2 := 206) (lv2 := [(0, .int op), (1, .long a), (3, .long b)]) (st2 := [.long (Int32.toInt64 (Int16.toInt32 (Int32.toInt16 (Int64.toInt32 a))))]) (M2 := M) rfl ⟨trivial, trivial, trivial, trivial, trivial⟩ ?_
                                  exact V.lret F (by decide +kernel) ⟨congrArg (fun z => some (Value.long z)) E.symm, rfl⟩
                                · replace E := E.trans (if_neg h1_15)
                                  by_cases h1_16 : op = 16
                                  · replace E := E.trans (if_pos h1_16)
                                    refine V.swo (dflt := 228) (lo := 0) (hi := 19) (offs := #[95, 99, 103, 107, 111, 115, 119, 128, 137, 146, 160, 174, 187, 190, 196, 201, 206, 210, 216, 222]) (len := 95) (off := 206) (tgt := 207) F (by decide +kernel) (by rw [h1_16]; rfl) rfl (by decide) ?_
                                    refine V.seg F floX0 cjoX0 [.lload_n 1, .l2i, .i2l] (by decide +kernel) (pc2 := 210) (lv2 := [(0, .int op), (1, .long a), (3, .long b)]) (st2 := [.long (Int32.toInt64 (Int64.toInt32 a))]) (M2 := M) rfl ⟨trivial, trivial, trivial, trivial⟩ ?_
                                    exact V.lret F (by decide +kernel) ⟨congrArg (fun z => some (Value.long z)) E.symm, rfl⟩
                                  · replace E := E.trans (if_neg h1_16)
                                    by_cases h1_17 : op = 17
                                    · replace E := E.trans (if_pos h1_17)
                                      refine V.swo (dflt := 228) (lo := 0) (hi := 19) (offs := #[95, 99, 103, 107, 111, 115, 119, 128, 137, 146, 160, 174, 187, 190, 196, 201, 206, 210, 216, 222]) (len := 95) (off := 210) (tgt := 211) F (by decide +kernel) (by rw [h1_17]; rfl) rfl (by decide) ?_
                                      refine V.seg F floX0 cjoX0 [.lload_n 1, .ldc2_w 31, .land] (by decide +kernel) (pc2 := 216) (lv2 := [(0, .int op), (1, .long a), (3, .long b)]) (st2 := [.long (a &&& 255)]) (M2 := M) rfl ⟨trivial, trivial, trivial, trivial⟩ ?_
                                      exact V.lret F (by decide +kernel) ⟨congrArg (fun z => some (Value.long z)) E.symm, rfl⟩
                                    · replace E := E.trans (if_neg h1_17)
                                      by_cases h1_18 : op = 18
                                      · replace E := E.trans (if_pos h1_18)
                                        refine V.swo (dflt := 228) (lo := 0) (hi := 19) (offs := #[95, 99, 103, 107, 111, 115, 119, 128, 137, 146, 160, 174, 187, 190, 196, 201, 206, 210, 216, 222]) (len := 95) (off := 216) (tgt := 217) F (by decide +kernel) (by rw [h1_18]; rfl) rfl (by decide) ?_
                                        refine V.seg F floX0 cjoX0 [.lload_n 1, .ldc2_w 33, .land] (by decide +kernel) (pc2 := 222) (lv2 := [(0, .int op), (1, .long a), (3, .long b)]) (st2 := [.long (a &&& 65535)]) (M2 := M) rfl ⟨trivial, trivial, trivial, trivial⟩ ?_
                                        exact V.lret F (by decide +kernel) ⟨congrArg (fun z => some (Value.long z)) E.symm, rfl⟩
                                      · replace E := E.trans (if_neg h1_18)
                                        by_cases h1_19 : op = 19
                                        · replace E := E.trans (if_pos h1_19)
                                          refine V.swo (dflt := 228) (lo := 0) (hi := 19) (offs := #[95, 99, 103, 107, 111, 115, 119, 128, 137, 146, 160, 174, 187, 190, 196, 201, 206, 210, 216, 222]) (len := 95) (off := 222) (tgt := 223) F (by decide +kernel) (by rw [h1_19]; rfl) rfl (by decide) ?_
                                          refine V.seg F floX0 cjoX0 [.lload_n 1, .ldc2_w 35, .land] (by decide +kernel) (pc2 := 228) (lv2 := [(0, .int op), (1, .long a), (3, .long b)]) (st2 := [.long (a &&& 4294967295)]) (M2 := M) rfl ⟨trivial, trivial, trivial, trivial⟩ ?_
                                          exact V.lret F (by decide +kernel) ⟨congrArg (fun z => some (Value.long z)) E.symm, rfl⟩
                                        · replace E := E.trans (if_neg h1_19)
                                          refine V.swo (dflt := 228) (lo := 0) (hi := 19) (offs := #[95, 99, 103, 107, 111, 115, 119, 128, 137, 146, 160, 174, 187, 190, 196, 201, 206, 210, 216, 222]) (len := 95) (off := 228) (tgt := 229) F (by decide +kernel) (sw_dflt 20 (by decide) (h := fun k_ hk_ e_ => match k_, hk_, e_ with | 0, _, e_ => absurd ((e_.trans (by decide))) h1_0 | 1, _, e_ => absurd ((e_.trans (by decide))) h1_1 | 2, _, e_ => absurd ((e_.trans (by decide))) h1_2 | 3, _, e_ => absurd ((e_.trans (by decide))) h1_3 | 4, _, e_ => absurd ((e_.trans (by decide))) h1_4 | 5, _, e_ => absurd ((e_.trans (by decide))) h1_5 | 6, _, e_ => absurd ((e_.trans (by decide))) h1_6 | 7, _, e_ => absurd ((e_.trans (by decide))) h1_7 | 8, _, e_ => absurd ((e_.trans (by decide))) h1_8 | 9, _, e_ => absurd ((e_.trans (by decide))) h1_9 | 10, _, e_ => absurd ((e_.trans (by decide))) h1_10 | 11, _, e_ => absurd ((e_.trans (by decide))) h1_11 | 12, _, e_ => absurd ((e_.trans (by decide))) h1_12 | 13, _, e_ => absurd ((e_.trans (by decide))) h1_13 | 14, _, e_ => absurd ((e_.trans (by decide))) h1_14 | 15, _, e_ => absurd ((e_.trans (by decide))) h1_15 | 16, _, e_ => absurd ((e_.trans (by decide))) h1_16 | 17, _, e_ => absurd ((e_.trans (by decide))) h1_17 | 18, _, e_ => absurd ((e_.trans (by decide))) h1_18 | 19, _, e_ => absurd ((e_.trans (by decide))) h1_19 | k_ + 20, hk_, _ => absurd hk_ (by omega))) rfl (by decide) ?_
                                          refine V.seg F floX0 cjoX0 [.lconst 0] (by decide +kernel) (pc2 := 230) (lv2 := [(0, .int op), (1, .long a), (3, .long b)]) (st2 := [.long 0]) (M2 := M) rfl ⟨trivial, trivial⟩ ?_
                                          exact V.lret F (by decide +kernel) ⟨congrArg (fun z => some (Value.long z)) E.symm, rfl⟩
def f_X0_givesUp_67  (w0_67 : Int32) : Int32 := w0_67
def f_X0_givesUp_96  (w0_96 : Int32) : Int32 := w0_96
def f_X0_givesUp_91   : Int32 := f_X0_givesUp_96 1
def f_X0_givesUp_95   : Int32 := f_X0_givesUp_96 0
def f_X0_givesUp_116  (w0_116 : Int32) : Int32 := w0_116
def f_X0_givesUp_111   : Int32 := f_X0_givesUp_116 1
def f_X0_givesUp (M : Mem) (op : Int32) (a : Nat) (b : Nat) : Int32 := if op = 6 ∨ op = 7 ∨ op = 8 then if (ishl 1 (f_J13_bitCount_95d88 (((mL M b 3) ^^^ ((-1))) &&& 63))) ≤ 8 then f_X0_givesUp_67 0 else f_X0_givesUp_67 1 else if op = 9 ∨ op = 10 then if (f_X1_isConstant M b) = 0 then f_X0_givesUp_91  else if 0 < (mL M b 1) then f_X0_givesUp_95  else if (f_X1_isConstant M a) = 0 then f_X0_givesUp_91  else f_X0_givesUp_95  else if op = 11 then if (f_X1_isConstant M a) = 0 then f_X0_givesUp_111  else if (f_X1_isConstant M b) = 0 then f_X0_givesUp_111  else f_X0_givesUp_116 0 else 0
abbrev p_X0_givesUp (M : Mem) (op : Int32) (a : Nat) (b : Nat) : Option Value → Mem → Prop := fun r N => r = some (.int (f_X0_givesUp M op a b)) ∧ N = M ∧ ((f_X0_givesUp M op a b) = 0 ∨ (f_X0_givesUp M op a b) = 1)
set_option maxRecDepth 100000 in
set_option maxHeartbeats 4000000 in
theorem c_X0_givesUp (G : Ctx) (l : Launch) (M : Mem) (op : Int32) (a : Nat) (b : Nat) (o_a : isO M a 1) (o_b : isO M b 1) : CT G l 1 mX0_givesUp [.int op, .ref a, .ref b] M 0 0 (p_X0_givesUp M op a b) := by
  refine CT.of (by decide) (Nat.le_of_ble_eq_true rfl) ?_
  intro X d hd hl hRm hnm F
  subst hl
  have E : f_X0_givesUp M op a b = f_X0_givesUp M op a b := rfl
  show V G X 3 0 0 (Qx G X 0 0 (p_X0_givesUp M op a b)) 0 [(0, .int op), (1, .ref a), (2, .ref b)] [] M
  refine V.seg F floX0 cjoX0 [.iload_n 0] (by decide +kernel) (pc2 := 1) (lv2 := [(0, .int op), (1, .ref a), (2, .ref b)]) (st2 := [.int op]) (M2 := M) rfl ⟨trivial, trivial⟩ ?_
  by_cases h1_0 : op = 6 ∨ op = 7 ∨ op = 8
  · replace E := E.trans (if_pos h1_0)
    refine V.swo (dflt := 116) (lo := 6) (hi := 11) (offs := #[39, 39, 39, 67, 67, 96]) (len := 39) (off := 39) (tgt := 40) F (by decide +kernel) (by rcases h1_0 with h_ | h_ | h_ <;> rw [h_] <;> rfl) rfl (by decide) ?_
    refine V.seg F floX0 cjoX0 [.iconst 1, .aload_n 2, .getfield 37, .ldc2_w 29, .lxor, .ldc2_w 25, .land] (by decide +kernel) (pc2 := 53) (lv2 := [(0, .int op), (1, .ref a), (2, .ref b)]) (st2 := [.long (((mL M b 3) ^^^ ((-1))) &&& 63), .int 1]) (M2 := M) rfl ⟨trivial, trivial, o_b, trivial, trivial, trivial, trivial, trivial⟩ ?_
    refine V.callS (as := [.long (((mL M b 3) ^^^ ((-1))) &&& 63)]) (rest := [.int 1]) F (by decide +kernel) lX0_41 bJ13_bitCount_95d88 (c_J13_bitCount_95d88 G X.2.1 M (((mL M b 3) ^^^ ((-1))) &&& 63)) (rm_ok hRm hd (by decide) (by decide)) ⟨Nat.zero_le _, Nat.zero_le _⟩ (Nat.le_of_ble_eq_true rfl) (fun r_ N_ p_ => ?_)
    obtain ⟨rfl, hN_⟩ := p_
    rw [hN_]
    clear hN_
    refine V.seg F floX0 cjoX0 [.ishl, .bipush 8] (by decide +kernel) (pc2 := 59) (lv2 := [(0, .int op), (1, .ref a), (2, .ref b)]) (st2 := [.int 8, .int (ishl 1 (f_J13_bitCount_95d88 (((mL M b 3) ^^^ ((-1))) &&& 63)))]) (M2 := M) rfl ⟨trivial, trivial, trivial⟩ ?_
    have hJ67 : ∀ (w0_67 : Int32), (w0_67 = 0 ∨ w0_67 = 1) → f_X0_givesUp M op a b = f_X0_givesUp_67 w0_67 → V G X 3 0 0 (Qx G X 0 0 (p_X0_givesUp M op a b)) 67 [] [.int w0_67] M := by
      intro w0_67 zw0_67 E
      exact V.zret F (zw0_67) (by decide +kernel) ⟨congrArg (fun z => some (Value.int z)) E.symm, rfl, by rw [E]; exact zw0_67⟩
    refine V.ic_le (off := 7) F (by decide +kernel) (tgt := 66) (by decide) (fun h59 => ?_) (fun h59 => ?_)
    · replace E := E.trans (if_pos h59)
      refine V.seg F floX0 cjoX0 [.iconst 0] (by decide +kernel) (pc2 := 67) (lv2 := [(0, .int op), (1, .ref a), (2, .ref b)]) (st2 := [.int 0]) (M2 := M) rfl ⟨trivial, trivial⟩ ?_
      refine V.pick [] rfl ?_
      exact hJ67 0 (Or.inl rfl) E
    · replace E := E.trans (if_neg h59)
      refine V.seg F floX0 cjoX0 [.iconst 1, .goto 4] (by decide +kernel) (pc2 := 67) (lv2 := [(0, .int op), (1, .ref a), (2, .ref b)]) (st2 := [.int 1]) (M2 := M) rfl ⟨trivial, (by decide), trivial⟩ ?_
      refine V.pick [] rfl ?_
      exact hJ67 1 (Or.inr rfl) E
  · replace E := E.trans (if_neg h1_0)
    by_cases h1_1 : op = 9 ∨ op = 10
    · replace E := E.trans (if_pos h1_1)
      refine V.swo (dflt := 116) (lo := 6) (hi := 11) (offs := #[39, 39, 39, 67, 67, 96]) (len := 39) (off := 67) (tgt := 68) F (by decide +kernel) (by rcases h1_1 with h_ | h_ <;> rw [h_] <;> rfl) rfl (by decide) ?_
      refine V.seg F floX0 cjoX0 [.aload_n 2] (by decide +kernel) (pc2 := 69) (lv2 := [(0, .int op), (1, .ref a), (2, .ref b)]) (st2 := [.ref b]) (M2 := M) rfl ⟨trivial, trivial⟩ ?_
      refine V.callV (as := []) (rest := []) F (by decide +kernel) lX0_47 bX1_isConstant ⟨1, _, o_b, rfl, rfl⟩ (c_X1_isConstant G X.2.1 M b o_b) (rm_ok hRm hd (by decide) (by decide)) ⟨Nat.zero_le _, Nat.zero_le _⟩ (Nat.le_of_ble_eq_true rfl) (fun r_ N_ p_ => ?_)
      obtain ⟨rfl, hN_, z69⟩ := p_
      rw [hN_]
      clear hN_
      have hJ96 : ∀ (w0_96 : Int32), (w0_96 = 0 ∨ w0_96 = 1) → f_X0_givesUp M op a b = f_X0_givesUp_96 w0_96 → V G X 3 0 0 (Qx G X 0 0 (p_X0_givesUp M op a b)) 96 [] [.int w0_96] M := by
        intro w0_96 zw0_96 E
        exact V.zret F (zw0_96) (by decide +kernel) ⟨congrArg (fun z => some (Value.int z)) E.symm, rfl, by rw [E]; exact zw0_96⟩
      have hJ91 : f_X0_givesUp M op a b = f_X0_givesUp_91 → V G X 3 0 0 (Qx G X 0 0 (p_X0_givesUp M op a b)) 91 [] [] M := by
        intro E
        refine V.seg F floX0 cjoX0 [.iconst 1, .goto 4] (by decide +kernel) (pc2 := 96) (lv2 := []) (st2 := [.int 1]) (M2 := M) rfl ⟨trivial, (by decide), trivial⟩ ?_
        refine V.pick [] rfl ?_
        exact hJ96 1 (Or.inr rfl) E
      refine V.if_eq (off := 19) F (by decide +kernel) (tgt := 91) (by decide) (fun h72 => ?_) (fun h72 => ?_)
      · replace E := E.trans (if_pos h72)
        refine V.pick [] rfl ?_
        exact hJ91   E
      · replace E := E.trans (if_neg h72)
        refine V.seg F floX0 cjoX0 [.aload_n 2, .getfield 51, .lconst 0, .lcmp] (by decide +kernel) (pc2 := 81) (lv2 := [(0, .int op), (1, .ref a), (2, .ref b)]) (st2 := [.int (lg_cmp (mL M b 1) 0)]) (M2 := M) rfl ⟨trivial, o_b, trivial, trivial, trivial⟩ ?_
        have hJ95 : f_X0_givesUp M op a b = f_X0_givesUp_95 → V G X 3 0 0 (Qx G X 0 0 (p_X0_givesUp M op a b)) 95 [] [] M := by
          intro E
          refine V.seg F floX0 cjoX0 [.iconst 0] (by decide +kernel) (pc2 := 96) (lv2 := []) (st2 := [.int 0]) (M2 := M) rfl ⟨trivial, trivial⟩ ?_
          refine V.pick [] rfl ?_
          exact hJ96 0 (Or.inl rfl) E
        refine V.lc_gt (off := 14) F (by decide +kernel) (tgt := 95) (by decide) (fun h81 => ?_) (fun h81 => ?_)
        · replace E := E.trans (if_pos h81)
          refine V.pick [] rfl ?_
          exact hJ95   E
        · replace E := E.trans (if_neg h81)
          refine V.seg F floX0 cjoX0 [.aload_n 1] (by decide +kernel) (pc2 := 85) (lv2 := [(0, .int op), (1, .ref a), (2, .ref b)]) (st2 := [.ref a]) (M2 := M) rfl ⟨trivial, trivial⟩ ?_
          refine V.callV (as := []) (rest := []) F (by decide +kernel) lX0_47 bX1_isConstant ⟨1, _, o_a, rfl, rfl⟩ (c_X1_isConstant G X.2.1 M a o_a) (rm_ok hRm hd (by decide) (by decide)) ⟨Nat.zero_le _, Nat.zero_le _⟩ (Nat.le_of_ble_eq_true rfl) (fun r_ N_ p_ => ?_)
          obtain ⟨rfl, hN_, z85⟩ := p_
          rw [hN_]
          clear hN_
          refine V.if_ne (off := 7) F (by decide +kernel) (tgt := 95) (by decide) (fun h88 => ?_) (fun h88 => ?_)
          · replace E := E.trans (if_neg h88)
            refine V.pick [] rfl ?_
            exact hJ95   E
          · replace E := E.trans (if_pos h88)
            refine V.pick [] rfl ?_
            exact hJ91   E
    · replace E := E.trans (if_neg h1_1)
      by_cases h1_2 : op = 11
      · replace E := E.trans (if_pos h1_2)
        refine V.swo (dflt := 116) (lo := 6) (hi := 11) (offs := #[39, 39, 39, 67, 67, 96]) (len := 39) (off := 96) (tgt := 97) F (by decide +kernel) (by rw [h1_2]; rfl) rfl (by decide) ?_
        refine V.seg F floX0 cjoX0 [.aload_n 1] (by decide +kernel) (pc2 := 98) (lv2 := [(0, .int op), (1, .ref a), (2, .ref b)]) (st2 := [.ref a]) (M2 := M) rfl ⟨trivial, trivial⟩ ?_
        refine V.callV (as := []) (rest := []) F (by decide +kernel) lX0_47 bX1_isConstant ⟨1, _, o_a, rfl, rfl⟩ (c_X1_isConstant G X.2.1 M a o_a) (rm_ok hRm hd (by decide) (by decide)) ⟨Nat.zero_le _, Nat.zero_le _⟩ (Nat.le_of_ble_eq_true rfl) (fun r_ N_ p_ => ?_)
        obtain ⟨rfl, hN_, z98⟩ := p_
        rw [hN_]
        clear hN_
        have hJ116 : ∀ (w0_116 : Int32), (w0_116 = 0 ∨ w0_116 = 1) → f_X0_givesUp M op a b = f_X0_givesUp_116 w0_116 → V G X 3 0 0 (Qx G X 0 0 (p_X0_givesUp M op a b)) 116 [] [.int w0_116] M := by
          intro w0_116 zw0_116 E
          exact V.zret F (zw0_116) (by decide +kernel) ⟨congrArg (fun z => some (Value.int z)) E.symm, rfl, by rw [E]; exact zw0_116⟩
        have hJ111 : f_X0_givesUp M op a b = f_X0_givesUp_111 → V G X 3 0 0 (Qx G X 0 0 (p_X0_givesUp M op a b)) 111 [] [] M := by
          intro E
          refine V.seg F floX0 cjoX0 [.iconst 1, .goto 4] (by decide +kernel) (pc2 := 116) (lv2 := []) (st2 := [.int 1]) (M2 := M) rfl ⟨trivial, (by decide), trivial⟩ ?_
          refine V.pick [] rfl ?_
          exact hJ116 1 (Or.inr rfl) E
        refine V.if_eq (off := 10) F (by decide +kernel) (tgt := 111) (by decide) (fun h101 => ?_) (fun h101 => ?_)
        · replace E := E.trans (if_pos h101)
          refine V.pick [] rfl ?_
          exact hJ111   E
        · replace E := E.trans (if_neg h101)
          refine V.seg F floX0 cjoX0 [.aload_n 2] (by decide +kernel) (pc2 := 105) (lv2 := [(0, .int op), (1, .ref a), (2, .ref b)]) (st2 := [.ref b]) (M2 := M) rfl ⟨trivial, trivial⟩ ?_
          refine V.callV (as := []) (rest := []) F (by decide +kernel) lX0_47 bX1_isConstant ⟨1, _, o_b, rfl, rfl⟩ (c_X1_isConstant G X.2.1 M b o_b) (rm_ok hRm hd (by decide) (by decide)) ⟨Nat.zero_le _, Nat.zero_le _⟩ (Nat.le_of_ble_eq_true rfl) (fun r_ N_ p_ => ?_)
          obtain ⟨rfl, hN_, z105⟩ := p_
          rw [hN_]
          clear hN_
          refine V.if_ne (off := 7) F (by decide +kernel) (tgt := 115) (by decide) (fun h108 => ?_) (fun h108 => ?_)
          · replace E := E.trans (if_neg h108)
            refine V.seg F floX0 cjoX0 [.iconst 0] (by decide +kernel) (pc2 := 116) (lv2 := [(0, .int op), (1, .ref a), (2, .ref b)]) (st2 := [.int 0]) (M2 := M) rfl ⟨trivial, trivial⟩ ?_
            refine V.pick [] rfl ?_
            exact hJ116 0 (Or.inl rfl) E
          · replace E := E.trans (if_pos h108)
            refine V.pick [] rfl ?_
            exact hJ111   E
      · replace E := E.trans (if_neg h1_2)
        refine V.swo (dflt := 116) (lo := 6) (hi := 11) (offs := #[39, 39, 39, 67, 67, 96]) (len := 39) (off := 116) (tgt := 117) F (by decide +kernel) (sw_dflt 6 (by decide) (h := fun k_ hk_ e_ => match k_, hk_, e_ with | 0, _, e_ => absurd (Or.inl (e_.trans (by decide))) h1_0 | 1, _, e_ => absurd (Or.inr (Or.inl (e_.trans (by decide)))) h1_0 | 2, _, e_ => absurd (Or.inr (Or.inr ((e_.trans (by decide))))) h1_0 | 3, _, e_ => absurd (Or.inl (e_.trans (by decide))) h1_1 | 4, _, e_ => absurd (Or.inr ((e_.trans (by decide)))) h1_1 | 5, _, e_ => absurd ((e_.trans (by decide))) h1_2 | k_ + 6, hk_, _ => absurd hk_ (by omega))) rfl (by decide) ?_
        refine V.seg F floX0 cjoX0 [.iconst 0] (by decide +kernel) (pc2 := 118) (lv2 := [(0, .int op), (1, .ref a), (2, .ref b)]) (st2 := [.int 0]) (M2 := M) rfl ⟨trivial, trivial⟩ ?_
        exact V.zret F (Or.inl rfl) (by decide +kernel) ⟨congrArg (fun z => some (Value.int z)) E.symm, rfl, by rw [E]; exact Or.inl rfl⟩
def f_X0_constant_27  (M27 : Mem) : Mem := M27
def f_X0_constant_c27  (M27 : Mem) : Mem := f_X0_constant_27 M27
def f_X0_constant_c13  (M13 : Mem) : Mem := f_X0_constant_27 M13
def f_X0_constant (M : Mem) (op : Int32) (a : Int64) (b : Int64) (t : Nat) : Mem := if (f_X0_stops op b) = 0 then f_X0_constant_c27 (f_X1_makeConstant M t (f_X0_number op a b)) else f_X0_constant_c13 (f_X1_makeNone M t)
abbrev p_X0_constant (M : Mem) (op : Int32) (a : Int64) (b : Int64) (t : Nat) : Option Value → Mem → Prop := fun r N => r = none ∧ N = f_X0_constant M op a b t ∧ Sf M N
set_option maxRecDepth 100000 in
set_option maxHeartbeats 4000000 in
theorem c_X0_constant (G : Ctx) (l : Launch) (M : Mem) (op : Int32) (a : Int64) (b : Int64) (t : Nat) (o_t : isO M t 1) : CT G l 2 mX0_constant [.int op, .long a, .long b, .ref t] M 0 0 (p_X0_constant M op a b t) := by
  refine CT.of (by decide) (Nat.le_of_ble_eq_true rfl) ?_
  intro X d hd hl hRm hnm F
  subst hl
  have E : f_X0_constant M op a b t = f_X0_constant M op a b t := rfl
  show V G X 6 0 0 (Qx G X 0 0 (p_X0_constant M op a b t)) 0 [(0, .int op), (1, .long a), (3, .long b), (5, .ref t)] [] M
  refine V.seg F floX0 cjoX0 [.iload_n 0, .lload_n 3] (by decide +kernel) (pc2 := 2) (lv2 := [(0, .int op), (1, .long a), (3, .long b), (5, .ref t)]) (st2 := [.long b, .int op]) (M2 := M) rfl ⟨trivial, trivial, trivial⟩ ?_
  refine V.callS (as := [.int op, .long b]) (rest := []) F (by decide +kernel) lX0_107 bX0_stops (c_X0_stops G X.2.1 M op b) (rm_ok hRm hd (by decide) (by decide)) ⟨Nat.zero_le _, Nat.zero_le _⟩ (Nat.le_of_ble_eq_true rfl) (fun r_ N_ p_ => ?_)
  obtain ⟨rfl, hN_, z2⟩ := p_
  rw [hN_]
  clear hN_
  have hJ27 : ∀ (M27 : Mem), (Sf M M27) → f_X0_constant M op a b t = f_X0_constant_27 M27 → V G X 6 0 0 (Qx G X 0 0 (p_X0_constant M op a b t)) 27 [] [] M27 := by
    intro M27 s27 E
    exact V.vret F (by decide +kernel) ⟨rfl, E.symm, s27⟩
  refine V.if_eq (off := 11) F (by decide +kernel) (tgt := 16) (by decide) (fun h5 => ?_) (fun h5 => ?_)
  · replace E := E.trans (if_pos h5)
    refine V.seg F floX0 cjoX0 [.aload 5, .iload_n 0, .lload_n 1, .lload_n 3] (by decide +kernel) (pc2 := 21) (lv2 := [(0, .int op), (1, .long a), (3, .long b), (5, .ref t)]) (st2 := [.long b, .long a, .int op, .ref t]) (M2 := M) rfl ⟨trivial, trivial, trivial, trivial, trivial⟩ ?_
    refine V.callS (as := [.int op, .long a, .long b]) (rest := [.ref t]) F (by decide +kernel) lX0_111 bX0_number (c_X0_number G X.2.1 M op a b) (rm_ok hRm hd (by decide) (by decide)) ⟨Nat.zero_le _, Nat.zero_le _⟩ (Nat.le_of_ble_eq_true rfl) (fun r_ N_ p_ => ?_)
    obtain ⟨rfl, hN_⟩ := p_
    rw [hN_]
    clear hN_
    refine V.callV (as := [.long (f_X0_number op a b)]) (rest := []) F (by decide +kernel) lX0_21 bX1_makeConstant ⟨1, _, o_t, rfl, rfl⟩ (c_X1_makeConstant G X.2.1 M t (f_X0_number op a b) o_t) (rm_ok hRm hd (by decide) (by decide)) ⟨Nat.zero_le _, Nat.zero_le _⟩ (Nat.le_of_ble_eq_true rfl) (fun r_ N_ p_ => ?_)
    obtain ⟨rfl, rfl, t24⟩ := p_
    refine (?_ : ∀ (M27 : Mem), (Sf M M27) → f_X0_constant M op a b t = f_X0_constant_c27 M27 → V G X 6 0 0 (Qx G X 0 0 (p_X0_constant M op a b t)) 27 [(0, .int op), (1, .long a), (3, .long b), (5, .ref t)] [] M27) _ t24 E
    intro M27 s27 E
    refine V.pick [] rfl ?_
    exact hJ27 M27 s27 E
  · replace E := E.trans (if_neg h5)
    refine V.seg F floX0 cjoX0 [.aload 5] (by decide +kernel) (pc2 := 10) (lv2 := [(0, .int op), (1, .long a), (3, .long b), (5, .ref t)]) (st2 := [.ref t]) (M2 := M) rfl ⟨trivial, trivial⟩ ?_
    refine V.callV (as := []) (rest := []) F (by decide +kernel) lX0_58 bX1_makeNone ⟨1, _, o_t, rfl, rfl⟩ (c_X1_makeNone G X.2.1 M t o_t) (rm_ok hRm hd (by decide) (by decide)) ⟨Nat.zero_le _, Nat.zero_le _⟩ (Nat.le_of_ble_eq_true rfl) (fun r_ N_ p_ => ?_)
    obtain ⟨rfl, rfl, t10⟩ := p_
    refine (?_ : ∀ (M13 : Mem), (Sf M M13) → f_X0_constant M op a b t = f_X0_constant_c13 M13 → V G X 6 0 0 (Qx G X 0 0 (p_X0_constant M op a b t)) 13 [(0, .int op), (1, .long a), (3, .long b), (5, .ref t)] [] M13) _ t10 E
    intro M13 s13 E
    refine V.seg F floX0 cjoX0 [.goto 14] (by decide +kernel) (pc2 := 27) (lv2 := [(0, .int op), (1, .long a), (3, .long b), (5, .ref t)]) (st2 := []) (M2 := M13) rfl ⟨(by decide), trivial⟩ ?_
    refine V.pick [] rfl ?_
    exact hJ27 M13 s13 E
def f_X0_plus_112  (M112 : Mem) : Mem := M112
def f_X0_plus_c112  (M112 : Mem) : Mem := f_X0_plus_112 M112
def f_X0_plus_c83 (a : Nat) (b : Nat) (t : Nat) (M21 : Mem) (x64 : Int64) (x83 : Int64) : Mem := f_X0_plus_c112 (f_X1_limit M21 t ((mL M21 a 1) + (mL M21 b 1)) ((mL M21 a 2) + (mL M21 b 2)) x64 (f_X6_restBy x83 x64))
def f_X0_plus_c64 (a : Nat) (b : Nat) (t : Nat) (M21 : Mem) (x64 : Int64) : Mem := f_X0_plus_c83 a b t M21 x64 ((f_X6_restBy (f_X1_countedRest M21 a) x64) + (f_X6_restBy (f_X1_countedRest M21 b) x64))
def f_X0_plus_c21 (a : Nat) (b : Nat) (t : Nat) (M21 : Mem) : Mem := if (f_X6_sumWraps (mL M21 a 1) (mL M21 b 1)) = 0 then if (f_X6_sumWraps (mL M21 a 2) (mL M21 b 2)) = 0 then f_X0_plus_c64 a b t M21 (f_X6_oddPart (f_X6_commonDivisor (f_X1_countedModulus M21 a) (f_X1_countedModulus M21 b))) else f_X0_plus_112 M21 else f_X0_plus_112 M21
def f_X0_plus (M : Mem) (a : Nat) (b : Nat) (t : Nat) : Mem := f_X0_plus_c21 a b t (f_X1_becomeBitSum M t (mL M a 3) (mL M a 4) (mL M b 3) (mL M b 4) 0)
abbrev p_X0_plus (M : Mem) (a : Nat) (b : Nat) (t : Nat) : Option Value → Mem → Prop := fun r N => r = none ∧ N = f_X0_plus M a b t ∧ Sf M N
set_option maxRecDepth 100000 in
set_option maxHeartbeats 4000000 in
theorem c_X0_plus (G : Ctx) (l : Launch) (M : Mem) (a : Nat) (b : Nat) (t : Nat) (o_a : isO M a 1) (o_b : isO M b 1) (o_t : isO M t 1) : CT G l 2 mX0_plus [.ref a, .ref b, .ref t] M 0 0 (p_X0_plus M a b t) := by
  refine CT.of (by decide) (Nat.le_of_ble_eq_true rfl) ?_
  intro X d hd hl hRm hnm F
  subst hl
  have E : f_X0_plus M a b t = f_X0_plus M a b t := rfl
  show V G X 7 0 0 (Qx G X 0 0 (p_X0_plus M a b t)) 0 [(0, .ref a), (1, .ref b), (2, .ref t)] [] M
  refine V.seg F floX0 cjoX0 [.aload_n 2, .aload_n 0, .getfield 37, .aload_n 0, .getfield 115, .aload_n 1, .getfield 37, .aload_n 1, .getfield 115, .lconst 0] (by decide +kernel) (pc2 := 18) (lv2 := [(0, .ref a), (1, .ref b), (2, .ref t)]) (st2 := [.long 0, .long (mL M b 4), .long (mL M b 3), .long (mL M a 4), .long (mL M a 3), .ref t]) (M2 := M) rfl ⟨trivial, trivial, o_a, trivial, o_a, trivial, o_b, trivial, o_b, trivial, trivial⟩ ?_
  refine V.callV (as := [.long (mL M a 3), .long (mL M a 4), .long (mL M b 3), .long (mL M b 4), .long 0]) (rest := []) F (by decide +kernel) lX0_118 bX1_becomeBitSum ⟨1, _, o_t, rfl, rfl⟩ (c_X1_becomeBitSum G X.2.1 M t (mL M a 3) (mL M a 4) (mL M b 3) (mL M b 4) 0 o_t) (rm_ok hRm hd (by decide) (by decide)) ⟨Nat.zero_le _, Nat.zero_le _⟩ (Nat.le_of_ble_eq_true rfl) (fun r_ N_ p_ => ?_)
  obtain ⟨rfl, rfl, t18⟩ := p_
  refine (?_ : ∀ (M21 : Mem), (Sf M M21) → f_X0_plus M a b t = f_X0_plus_c21 a b t M21 → V G X 7 0 0 (Qx G X 0 0 (p_X0_plus M a b t)) 21 [(0, .ref a), (1, .ref b), (2, .ref t)] [] M21) _ t18 E
  intro M21 s21 E
  refine V.seg F floX0 cjoX0 [.aload_n 0, .getfield 51, .aload_n 1, .getfield 51] (by decide +kernel) (pc2 := 29) (lv2 := [(0, .ref a), (1, .ref b), (2, .ref t)]) (st2 := [.long (mL M21 b 1), .long (mL M21 a 1)]) (M2 := M21) rfl ⟨trivial, (o_a.sm s21.1), trivial, (o_b.sm s21.1), trivial⟩ ?_
  refine V.callSN (as := [.long (mL M21 a 1), .long (mL M21 b 1)]) (rest := []) F (by decide +kernel) lX0_122 bX6_sumWraps (c_X6_sumWraps G X.2.1 M21 (mL M21 a 1) (mL M21 b 1)) (rm_ok hRm hd (by decide) (by decide)) ⟨Nat.zero_le _, Nat.zero_le _⟩ (Nat.le_of_ble_eq_true rfl) (fun r_ N_ p_ => ?_)
  obtain ⟨rfl, hN_, z29⟩ := p_
  rw [hN_]
  clear hN_
  have hJ112 : ∀ (M112 : Mem), (Sf M M112) → f_X0_plus M a b t = f_X0_plus_112 M112 → V G X 7 0 0 (Qx G X 0 0 (p_X0_plus M a b t)) 112 [] [] M112 := by
    intro M112 s112 E
    exact V.vret F (by decide +kernel) ⟨rfl, E.symm, s112⟩
  refine V.if_ne (off := 80) F (by decide +kernel) (tgt := 112) (by decide) (fun h32 => ?_) (fun h32 => ?_)
  · replace E := E.trans (if_neg h32)
    refine V.pick [] rfl ?_
    exact hJ112 M21 s21 E
  · replace E := E.trans (if_pos h32)
    refine V.seg F floX0 cjoX0 [.aload_n 0, .getfield 126, .aload_n 1, .getfield 126] (by decide +kernel) (pc2 := 43) (lv2 := [(0, .ref a), (1, .ref b), (2, .ref t)]) (st2 := [.long (mL M21 b 2), .long (mL M21 a 2)]) (M2 := M21) rfl ⟨trivial, (o_a.sm s21.1), trivial, (o_b.sm s21.1), trivial⟩ ?_
    refine V.callSN (as := [.long (mL M21 a 2), .long (mL M21 b 2)]) (rest := []) F (by decide +kernel) lX0_122 bX6_sumWraps (c_X6_sumWraps G X.2.1 M21 (mL M21 a 2) (mL M21 b 2)) (rm_ok hRm hd (by decide) (by decide)) ⟨Nat.zero_le _, Nat.zero_le _⟩ (Nat.le_of_ble_eq_true rfl) (fun r_ N_ p_ => ?_)
    obtain ⟨rfl, hN_, z43⟩ := p_
    rw [hN_]
    clear hN_
    refine V.if_ne (off := 66) F (by decide +kernel) (tgt := 112) (by decide) (fun h46 => ?_) (fun h46 => ?_)
    · replace E := E.trans (if_neg h46)
      refine V.pick [] rfl ?_
      exact hJ112 M21 s21 E
    · replace E := E.trans (if_pos h46)
      refine V.seg F floX0 cjoX0 [.aload_n 0] (by decide +kernel) (pc2 := 50) (lv2 := [(0, .ref a), (1, .ref b), (2, .ref t)]) (st2 := [.ref a]) (M2 := M21) rfl ⟨trivial, trivial⟩ ?_
      refine V.callV (as := []) (rest := []) F (by decide +kernel) lX0_129 bX1_countedModulus ⟨1, _, (o_a.sm s21.1), rfl, rfl⟩ (c_X1_countedModulus G X.2.1 M21 a (o_a.sm s21.1)) (rm_ok hRm hd (by decide) (by decide)) ⟨Nat.zero_le _, Nat.zero_le _⟩ (Nat.le_of_ble_eq_true rfl) (fun r_ N_ p_ => ?_)
      obtain ⟨rfl, hN_⟩ := p_
      rw [hN_]
      clear hN_
      refine V.seg F floX0 cjoX0 [.aload_n 1] (by decide +kernel) (pc2 := 54) (lv2 := [(0, .ref a), (1, .ref b), (2, .ref t)]) (st2 := [.ref b, .long (f_X1_countedModulus M21 a)]) (M2 := M21) rfl ⟨trivial, trivial⟩ ?_
      refine V.callV (as := []) (rest := [.long (f_X1_countedModulus M21 a)]) F (by decide +kernel) lX0_129 bX1_countedModulus ⟨1, _, (o_b.sm s21.1), rfl, rfl⟩ (c_X1_countedModulus G X.2.1 M21 b (o_b.sm s21.1)) (rm_ok hRm hd (by decide) (by decide)) ⟨Nat.zero_le _, Nat.zero_le _⟩ (Nat.le_of_ble_eq_true rfl) (fun r_ N_ p_ => ?_)
      obtain ⟨rfl, hN_⟩ := p_
      rw [hN_]
      clear hN_
      refine V.callSN (as := [.long (f_X1_countedModulus M21 a), .long (f_X1_countedModulus M21 b)]) (rest := []) F (by decide +kernel) lX0_133 bX6_commonDivisor (c_X6_commonDivisor G X.2.1 M21 (f_X1_countedModulus M21 a) (f_X1_countedModulus M21 b)) (rm_ok hRm hd (by decide) (by decide)) ⟨Nat.zero_le _, Nat.zero_le _⟩ (Nat.le_of_ble_eq_true rfl) (fun r_ N_ p_ => ?_)
      obtain ⟨rfl, hN_⟩ := p_
      rw [hN_]
      clear hN_
      refine V.callSN (as := [.long (f_X6_commonDivisor (f_X1_countedModulus M21 a) (f_X1_countedModulus M21 b))]) (rest := []) F (by decide +kernel) lX0_137 bX6_oddPart (c_X6_oddPart G X.2.1 M21 (f_X6_commonDivisor (f_X1_countedModulus M21 a) (f_X1_countedModulus M21 b))) (rm_ok hRm hd (by decide) (by decide)) ⟨Nat.zero_le _, Nat.zero_le _⟩ (Nat.le_of_ble_eq_true rfl) (fun r_ N_ p_ => ?_)
      obtain ⟨rfl, hN_⟩ := p_
      rw [hN_]
      clear hN_
      refine V.seg F floX0 cjoX0 [.lstore_n 3] (by decide +kernel) (pc2 := 64) (lv2 := [(3, .long (f_X6_oddPart (f_X6_commonDivisor (f_X1_countedModulus M21 a) (f_X1_countedModulus M21 b)))), (0, .ref a), (1, .ref b), (2, .ref t)]) (st2 := []) (M2 := M21) rfl ⟨(by decide), trivial⟩ ?_
      refine (?_ : ∀ (x64 : Int64), f_X0_plus M a b t = f_X0_plus_c64 a b t M21 x64 → V G X 7 0 0 (Qx G X 0 0 (p_X0_plus M a b t)) 64 [(3, .long x64), (0, .ref a), (1, .ref b), (2, .ref t)] [] M21) _  E
      intro x64 E
      refine V.seg F floX0 cjoX0 [.aload_n 0] (by decide +kernel) (pc2 := 65) (lv2 := [(3, .long x64), (0, .ref a), (1, .ref b), (2, .ref t)]) (st2 := [.ref a]) (M2 := M21) rfl ⟨trivial, trivial⟩ ?_
      refine V.callV (as := []) (rest := []) F (by decide +kernel) lX0_141 bX1_countedRest ⟨1, _, (o_a.sm s21.1), rfl, rfl⟩ (c_X1_countedRest G X.2.1 M21 a (o_a.sm s21.1)) (rm_ok hRm hd (by decide) (by decide)) ⟨Nat.zero_le _, Nat.zero_le _⟩ (Nat.le_of_ble_eq_true rfl) (fun r_ N_ p_ => ?_)
      obtain ⟨rfl, hN_⟩ := p_
      rw [hN_]
      clear hN_
      refine V.seg F floX0 cjoX0 [.lload_n 3] (by decide +kernel) (pc2 := 69) (lv2 := [(3, .long x64), (0, .ref a), (1, .ref b), (2, .ref t)]) (st2 := [.long x64, .long (f_X1_countedRest M21 a)]) (M2 := M21) rfl ⟨trivial, trivial⟩ ?_
      refine V.callSN (as := [.long (f_X1_countedRest M21 a), .long x64]) (rest := []) F (by decide +kernel) lX0_144 bX6_restBy (c_X6_restBy G X.2.1 M21 (f_X1_countedRest M21 a) x64) (rm_ok hRm hd (by decide) (by decide)) ⟨Nat.zero_le _, Nat.zero_le _⟩ (Nat.le_of_ble_eq_true rfl) (fun r_ N_ p_ => ?_)
      obtain ⟨rfl, hN_⟩ := p_
      rw [hN_]
      clear hN_
      refine V.seg F floX0 cjoX0 [.aload_n 1] (by decide +kernel) (pc2 := 73) (lv2 := [(3, .long x64), (0, .ref a), (1, .ref b), (2, .ref t)]) (st2 := [.ref b, .long (f_X6_restBy (f_X1_countedRest M21 a) x64)]) (M2 := M21) rfl ⟨trivial, trivial⟩ ?_
      refine V.callV (as := []) (rest := [.long (f_X6_restBy (f_X1_countedRest M21 a) x64)]) F (by decide +kernel) lX0_141 bX1_countedRest ⟨1, _, (o_b.sm s21.1), rfl, rfl⟩ (c_X1_countedRest G X.2.1 M21 b (o_b.sm s21.1)) (rm_ok hRm hd (by decide) (by decide)) ⟨Nat.zero_le _, Nat.zero_le _⟩ (Nat.le_of_ble_eq_true rfl) (fun r_ N_ p_ => ?_)
      obtain ⟨rfl, hN_⟩ := p_
      rw [hN_]
      clear hN_
      refine V.seg F floX0 cjoX0 [.lload_n 3] (by decide +kernel) (pc2 := 77) (lv2 := [(3, .long x64), (0, .ref a), (1, .ref b), (2, .ref t)]) (st2 := [.long x64, .long (f_X1_countedRest M21 b), .long (f_X6_restBy (f_X1_countedRest M21 a) x64)]) (M2 := M21) rfl ⟨trivial, trivial⟩ ?_
      refine V.callSN (as := [.long (f_X1_countedRest M21 b), .long x64]) (rest := [.long (f_X6_restBy (f_X1_countedRest M21 a) x64)]) F (by decide +kernel) lX0_144 bX6_restBy (c_X6_restBy G X.2.1 M21 (f_X1_countedRest M21 b) x64) (rm_ok hRm hd (by decide) (by decide)) ⟨Nat.zero_le _, Nat.zero_le _⟩ (Nat.le_of_ble_eq_true rfl) (fun r_ N_ p_ => ?_)
      obtain ⟨rfl, hN_⟩ := p_
      rw [hN_]
      clear hN_
      refine V.seg F floX0 cjoX0 [.ladd, .lstore 5] (by decide +kernel) (pc2 := 83) (lv2 := [(5, .long ((f_X6_restBy (f_X1_countedRest M21 a) x64) + (f_X6_restBy (f_X1_countedRest M21 b) x64))), (3, .long x64), (0, .ref a), (1, .ref b), (2, .ref t)]) (st2 := []) (M2 := M21) rfl ⟨trivial, (by decide), trivial⟩ ?_
      refine (?_ : ∀ (x83 : Int64), f_X0_plus M a b t = f_X0_plus_c83 a b t M21 x64 x83 → V G X 7 0 0 (Qx G X 0 0 (p_X0_plus M a b t)) 83 [(5, .long x83), (3, .long x64), (0, .ref a), (1, .ref b), (2, .ref t)] [] M21) _  E
      intro x83 E
      refine V.seg F floX0 cjoX0 [.aload_n 2, .aload_n 0, .getfield 51, .aload_n 1, .getfield 51, .ladd, .aload_n 0, .getfield 126, .aload_n 1, .getfield 126, .ladd, .lload_n 3, .lload 5, .lload_n 3] (by decide +kernel) (pc2 := 106) (lv2 := [(5, .long x83), (3, .long x64), (0, .ref a), (1, .ref b), (2, .ref t)]) (st2 := [.long x64, .long x83, .long x64, .long ((mL M21 a 2) + (mL M21 b 2)), .long ((mL M21 a 1) + (mL M21 b 1)), .ref t]) (M2 := M21) rfl ⟨trivial, trivial, (o_a.sm s21.1), trivial, (o_b.sm s21.1), trivial, trivial, (o_a.sm s21.1), trivial, (o_b.sm s21.1), trivial, trivial, trivial, trivial, trivial⟩ ?_
      refine V.callSN (as := [.long x83, .long x64]) (rest := [.long x64, .long ((mL M21 a 2) + (mL M21 b 2)), .long ((mL M21 a 1) + (mL M21 b 1)), .ref t]) F (by decide +kernel) lX0_144 bX6_restBy (c_X6_restBy G X.2.1 M21 x83 x64) (rm_ok hRm hd (by decide) (by decide)) ⟨Nat.zero_le _, Nat.zero_le _⟩ (Nat.le_of_ble_eq_true rfl) (fun r_ N_ p_ => ?_)
      obtain ⟨rfl, hN_⟩ := p_
      rw [hN_]
      clear hN_
      refine V.callV (as := [.long ((mL M21 a 1) + (mL M21 b 1)), .long ((mL M21 a 2) + (mL M21 b 2)), .long x64, .long (f_X6_restBy x83 x64)]) (rest := []) F (by decide +kernel) lX0_147 bX1_limit ⟨1, _, (o_t.sm s21.1), rfl, rfl⟩ (c_X1_limit G X.2.1 M21 t ((mL M21 a 1) + (mL M21 b 1)) ((mL M21 a 2) + (mL M21 b 2)) x64 (f_X6_restBy x83 x64) (o_t.sm s21.1)) (rm_ok hRm hd (by decide) (by decide)) ⟨Nat.zero_le _, Nat.zero_le _⟩ (Nat.le_of_ble_eq_true rfl) (fun r_ N_ p_ => ?_)
      obtain ⟨rfl, rfl, t109⟩ := p_
      refine (?_ : ∀ (M112 : Mem), (Sf M M112) → f_X0_plus M a b t = f_X0_plus_c112 M112 → V G X 7 0 0 (Qx G X 0 0 (p_X0_plus M a b t)) 112 [(5, .long x83), (3, .long x64), (0, .ref a), (1, .ref b), (2, .ref t)] [] M112) _ (Sf.tr s21 t109) E
      intro M112 s112 E
      refine V.pick [] rfl ?_
      exact hJ112 M112 s112 E
def f_X0_minus_121  (M121 : Mem) : Mem := M121
def f_X0_minus_c121  (M121 : Mem) : Mem := f_X0_minus_121 M121
def f_X0_minus_c92 (a : Nat) (b : Nat) (t : Nat) (M30 : Mem) (x73 : Int64) (x92 : Int64) : Mem := f_X0_minus_c121 (f_X1_limit M30 t ((mL M30 a 1) - (mL M30 b 2)) ((mL M30 a 2) - (mL M30 b 1)) x73 (f_X6_restBy x92 x73))
def f_X0_minus_c73 (a : Nat) (b : Nat) (t : Nat) (M30 : Mem) (x73 : Int64) : Mem := f_X0_minus_c92 a b t M30 x73 ((f_X6_restBy (f_X1_countedRest M30 a) x73) - (f_X6_restBy (f_X1_countedRest M30 b) x73))
def f_X0_minus_c30 (a : Nat) (b : Nat) (t : Nat) (M30 : Mem) : Mem := if (f_X6_differenceWraps (mL M30 a 1) (mL M30 b 2)) = 0 then if (f_X6_differenceWraps (mL M30 a 2) (mL M30 b 1)) = 0 then f_X0_minus_c73 a b t M30 (f_X6_oddPart (f_X6_commonDivisor (f_X1_countedModulus M30 a) (f_X1_countedModulus M30 b))) else f_X0_minus_121 M30 else f_X0_minus_121 M30
def f_X0_minus (M : Mem) (a : Nat) (b : Nat) (t : Nat) : Mem := f_X0_minus_c30 a b t (f_X1_becomeBitSum M t (mL M a 3) (mL M a 4) (mL M b 3) (((mL M b 4) ^^^ ((-1))) &&& (mL M b 3)) 1)
abbrev p_X0_minus (M : Mem) (a : Nat) (b : Nat) (t : Nat) : Option Value → Mem → Prop := fun r N => r = none ∧ N = f_X0_minus M a b t ∧ Sf M N
set_option maxRecDepth 100000 in
set_option maxHeartbeats 4000000 in
theorem c_X0_minus (G : Ctx) (l : Launch) (M : Mem) (a : Nat) (b : Nat) (t : Nat) (o_a : isO M a 1) (o_b : isO M b 1) (o_t : isO M t 1) : CT G l 2 mX0_minus [.ref a, .ref b, .ref t] M 0 0 (p_X0_minus M a b t) := by
  refine CT.of (by decide) (Nat.le_of_ble_eq_true rfl) ?_
  intro X d hd hl hRm hnm F
  subst hl
  have E : f_X0_minus M a b t = f_X0_minus M a b t := rfl
  show V G X 7 0 0 (Qx G X 0 0 (p_X0_minus M a b t)) 0 [(0, .ref a), (1, .ref b), (2, .ref t)] [] M
  refine V.seg F floX0 cjoX0 [.aload_n 2, .aload_n 0, .getfield 37, .aload_n 0, .getfield 115, .aload_n 1, .getfield 37, .aload_n 1, .getfield 115, .ldc2_w 29, .lxor, .aload_n 1, .getfield 37, .land, .lconst 1] (by decide +kernel) (pc2 := 27) (lv2 := [(0, .ref a), (1, .ref b), (2, .ref t)]) (st2 := [.long 1, .long (((mL M b 4) ^^^ ((-1))) &&& (mL M b 3)), .long (mL M b 3), .long (mL M a 4), .long (mL M a 3), .ref t]) (M2 := M) rfl ⟨trivial, trivial, o_a, trivial, o_a, trivial, o_b, trivial, o_b, trivial, trivial, trivial, o_b, trivial, trivial, trivial⟩ ?_
  refine V.callV (as := [.long (mL M a 3), .long (mL M a 4), .long (mL M b 3), .long (((mL M b 4) ^^^ ((-1))) &&& (mL M b 3)), .long 1]) (rest := []) F (by decide +kernel) lX0_118 bX1_becomeBitSum ⟨1, _, o_t, rfl, rfl⟩ (c_X1_becomeBitSum G X.2.1 M t (mL M a 3) (mL M a 4) (mL M b 3) (((mL M b 4) ^^^ ((-1))) &&& (mL M b 3)) 1 o_t) (rm_ok hRm hd (by decide) (by decide)) ⟨Nat.zero_le _, Nat.zero_le _⟩ (Nat.le_of_ble_eq_true rfl) (fun r_ N_ p_ => ?_)
  obtain ⟨rfl, rfl, t27⟩ := p_
  refine (?_ : ∀ (M30 : Mem), (Sf M M30) → f_X0_minus M a b t = f_X0_minus_c30 a b t M30 → V G X 7 0 0 (Qx G X 0 0 (p_X0_minus M a b t)) 30 [(0, .ref a), (1, .ref b), (2, .ref t)] [] M30) _ t27 E
  intro M30 s30 E
  refine V.seg F floX0 cjoX0 [.aload_n 0, .getfield 51, .aload_n 1, .getfield 126] (by decide +kernel) (pc2 := 38) (lv2 := [(0, .ref a), (1, .ref b), (2, .ref t)]) (st2 := [.long (mL M30 b 2), .long (mL M30 a 1)]) (M2 := M30) rfl ⟨trivial, (o_a.sm s30.1), trivial, (o_b.sm s30.1), trivial⟩ ?_
  refine V.callSN (as := [.long (mL M30 a 1), .long (mL M30 b 2)]) (rest := []) F (by decide +kernel) lX0_151 bX6_differenceWraps (c_X6_differenceWraps G X.2.1 M30 (mL M30 a 1) (mL M30 b 2)) (rm_ok hRm hd (by decide) (by decide)) ⟨Nat.zero_le _, Nat.zero_le _⟩ (Nat.le_of_ble_eq_true rfl) (fun r_ N_ p_ => ?_)
  obtain ⟨rfl, hN_, z38⟩ := p_
  rw [hN_]
  clear hN_
  have hJ121 : ∀ (M121 : Mem), (Sf M M121) → f_X0_minus M a b t = f_X0_minus_121 M121 → V G X 7 0 0 (Qx G X 0 0 (p_X0_minus M a b t)) 121 [] [] M121 := by
    intro M121 s121 E
    exact V.vret F (by decide +kernel) ⟨rfl, E.symm, s121⟩
  refine V.if_ne (off := 80) F (by decide +kernel) (tgt := 121) (by decide) (fun h41 => ?_) (fun h41 => ?_)
  · replace E := E.trans (if_neg h41)
    refine V.pick [] rfl ?_
    exact hJ121 M30 s30 E
  · replace E := E.trans (if_pos h41)
    refine V.seg F floX0 cjoX0 [.aload_n 0, .getfield 126, .aload_n 1, .getfield 51] (by decide +kernel) (pc2 := 52) (lv2 := [(0, .ref a), (1, .ref b), (2, .ref t)]) (st2 := [.long (mL M30 b 1), .long (mL M30 a 2)]) (M2 := M30) rfl ⟨trivial, (o_a.sm s30.1), trivial, (o_b.sm s30.1), trivial⟩ ?_
    refine V.callSN (as := [.long (mL M30 a 2), .long (mL M30 b 1)]) (rest := []) F (by decide +kernel) lX0_151 bX6_differenceWraps (c_X6_differenceWraps G X.2.1 M30 (mL M30 a 2) (mL M30 b 1)) (rm_ok hRm hd (by decide) (by decide)) ⟨Nat.zero_le _, Nat.zero_le _⟩ (Nat.le_of_ble_eq_true rfl) (fun r_ N_ p_ => ?_)
    obtain ⟨rfl, hN_, z52⟩ := p_
    rw [hN_]
    clear hN_
    refine V.if_ne (off := 66) F (by decide +kernel) (tgt := 121) (by decide) (fun h55 => ?_) (fun h55 => ?_)
    · replace E := E.trans (if_neg h55)
      refine V.pick [] rfl ?_
      exact hJ121 M30 s30 E
    · replace E := E.trans (if_pos h55)
      refine V.seg F floX0 cjoX0 [.aload_n 0] (by decide +kernel) (pc2 := 59) (lv2 := [(0, .ref a), (1, .ref b), (2, .ref t)]) (st2 := [.ref a]) (M2 := M30) rfl ⟨trivial, trivial⟩ ?_
      refine V.callV (as := []) (rest := []) F (by decide +kernel) lX0_129 bX1_countedModulus ⟨1, _, (o_a.sm s30.1), rfl, rfl⟩ (c_X1_countedModulus G X.2.1 M30 a (o_a.sm s30.1)) (rm_ok hRm hd (by decide) (by decide)) ⟨Nat.zero_le _, Nat.zero_le _⟩ (Nat.le_of_ble_eq_true rfl) (fun r_ N_ p_ => ?_)
      obtain ⟨rfl, hN_⟩ := p_
      rw [hN_]
      clear hN_
      refine V.seg F floX0 cjoX0 [.aload_n 1] (by decide +kernel) (pc2 := 63) (lv2 := [(0, .ref a), (1, .ref b), (2, .ref t)]) (st2 := [.ref b, .long (f_X1_countedModulus M30 a)]) (M2 := M30) rfl ⟨trivial, trivial⟩ ?_
      refine V.callV (as := []) (rest := [.long (f_X1_countedModulus M30 a)]) F (by decide +kernel) lX0_129 bX1_countedModulus ⟨1, _, (o_b.sm s30.1), rfl, rfl⟩ (c_X1_countedModulus G X.2.1 M30 b (o_b.sm s30.1)) (rm_ok hRm hd (by decide) (by decide)) ⟨Nat.zero_le _, Nat.zero_le _⟩ (Nat.le_of_ble_eq_true rfl) (fun r_ N_ p_ => ?_)
      obtain ⟨rfl, hN_⟩ := p_
      rw [hN_]
      clear hN_
      refine V.callSN (as := [.long (f_X1_countedModulus M30 a), .long (f_X1_countedModulus M30 b)]) (rest := []) F (by decide +kernel) lX0_133 bX6_commonDivisor (c_X6_commonDivisor G X.2.1 M30 (f_X1_countedModulus M30 a) (f_X1_countedModulus M30 b)) (rm_ok hRm hd (by decide) (by decide)) ⟨Nat.zero_le _, Nat.zero_le _⟩ (Nat.le_of_ble_eq_true rfl) (fun r_ N_ p_ => ?_)
      obtain ⟨rfl, hN_⟩ := p_
      rw [hN_]
      clear hN_
      refine V.callSN (as := [.long (f_X6_commonDivisor (f_X1_countedModulus M30 a) (f_X1_countedModulus M30 b))]) (rest := []) F (by decide +kernel) lX0_137 bX6_oddPart (c_X6_oddPart G X.2.1 M30 (f_X6_commonDivisor (f_X1_countedModulus M30 a) (f_X1_countedModulus M30 b))) (rm_ok hRm hd (by decide) (by decide)) ⟨Nat.zero_le _, Nat.zero_le _⟩ (Nat.le_of_ble_eq_true rfl) (fun r_ N_ p_ => ?_)
      obtain ⟨rfl, hN_⟩ := p_
      rw [hN_]
      clear hN_
      refine V.seg F floX0 cjoX0 [.lstore_n 3] (by decide +kernel) (pc2 := 73) (lv2 := [(3, .long (f_X6_oddPart (f_X6_commonDivisor (f_X1_countedModulus M30 a) (f_X1_countedModulus M30 b)))), (0, .ref a), (1, .ref b), (2, .ref t)]) (st2 := []) (M2 := M30) rfl ⟨(by decide), trivial⟩ ?_
      refine (?_ : ∀ (x73 : Int64), f_X0_minus M a b t = f_X0_minus_c73 a b t M30 x73 → V G X 7 0 0 (Qx G X 0 0 (p_X0_minus M a b t)) 73 [(3, .long x73), (0, .ref a), (1, .ref b), (2, .ref t)] [] M30) _  E
      intro x73 E
      refine V.seg F floX0 cjoX0 [.aload_n 0] (by decide +kernel) (pc2 := 74) (lv2 := [(3, .long x73), (0, .ref a), (1, .ref b), (2, .ref t)]) (st2 := [.ref a]) (M2 := M30) rfl ⟨trivial, trivial⟩ ?_
      refine V.callV (as := []) (rest := []) F (by decide +kernel) lX0_141 bX1_countedRest ⟨1, _, (o_a.sm s30.1), rfl, rfl⟩ (c_X1_countedRest G X.2.1 M30 a (o_a.sm s30.1)) (rm_ok hRm hd (by decide) (by decide)) ⟨Nat.zero_le _, Nat.zero_le _⟩ (Nat.le_of_ble_eq_true rfl) (fun r_ N_ p_ => ?_)
      obtain ⟨rfl, hN_⟩ := p_
      rw [hN_]
      clear hN_
      refine V.seg F floX0 cjoX0 [.lload_n 3] (by decide +kernel) (pc2 := 78) (lv2 := [(3, .long x73), (0, .ref a), (1, .ref b), (2, .ref t)]) (st2 := [.long x73, .long (f_X1_countedRest M30 a)]) (M2 := M30) rfl ⟨trivial, trivial⟩ ?_
      refine V.callSN (as := [.long (f_X1_countedRest M30 a), .long x73]) (rest := []) F (by decide +kernel) lX0_144 bX6_restBy (c_X6_restBy G X.2.1 M30 (f_X1_countedRest M30 a) x73) (rm_ok hRm hd (by decide) (by decide)) ⟨Nat.zero_le _, Nat.zero_le _⟩ (Nat.le_of_ble_eq_true rfl) (fun r_ N_ p_ => ?_)
      obtain ⟨rfl, hN_⟩ := p_
      rw [hN_]
      clear hN_
      refine V.seg F floX0 cjoX0 [.aload_n 1] (by decide +kernel) (pc2 := 82) (lv2 := [(3, .long x73), (0, .ref a), (1, .ref b), (2, .ref t)]) (st2 := [.ref b, .long (f_X6_restBy (f_X1_countedRest M30 a) x73)]) (M2 := M30) rfl ⟨trivial, trivial⟩ ?_
      refine V.callV (as := []) (rest := [.long (f_X6_restBy (f_X1_countedRest M30 a) x73)]) F (by decide +kernel) lX0_141 bX1_countedRest ⟨1, _, (o_b.sm s30.1), rfl, rfl⟩ (c_X1_countedRest G X.2.1 M30 b (o_b.sm s30.1)) (rm_ok hRm hd (by decide) (by decide)) ⟨Nat.zero_le _, Nat.zero_le _⟩ (Nat.le_of_ble_eq_true rfl) (fun r_ N_ p_ => ?_)
      obtain ⟨rfl, hN_⟩ := p_
      rw [hN_]
      clear hN_
      refine V.seg F floX0 cjoX0 [.lload_n 3] (by decide +kernel) (pc2 := 86) (lv2 := [(3, .long x73), (0, .ref a), (1, .ref b), (2, .ref t)]) (st2 := [.long x73, .long (f_X1_countedRest M30 b), .long (f_X6_restBy (f_X1_countedRest M30 a) x73)]) (M2 := M30) rfl ⟨trivial, trivial⟩ ?_
      refine V.callSN (as := [.long (f_X1_countedRest M30 b), .long x73]) (rest := [.long (f_X6_restBy (f_X1_countedRest M30 a) x73)]) F (by decide +kernel) lX0_144 bX6_restBy (c_X6_restBy G X.2.1 M30 (f_X1_countedRest M30 b) x73) (rm_ok hRm hd (by decide) (by decide)) ⟨Nat.zero_le _, Nat.zero_le _⟩ (Nat.le_of_ble_eq_true rfl) (fun r_ N_ p_ => ?_)
      obtain ⟨rfl, hN_⟩ := p_
      rw [hN_]
      clear hN_
      refine V.seg F floX0 cjoX0 [.lsub, .lstore 5] (by decide +kernel) (pc2 := 92) (lv2 := [(5, .long ((f_X6_restBy (f_X1_countedRest M30 a) x73) - (f_X6_restBy (f_X1_countedRest M30 b) x73))), (3, .long x73), (0, .ref a), (1, .ref b), (2, .ref t)]) (st2 := []) (M2 := M30) rfl ⟨trivial, (by decide), trivial⟩ ?_
      refine (?_ : ∀ (x92 : Int64), f_X0_minus M a b t = f_X0_minus_c92 a b t M30 x73 x92 → V G X 7 0 0 (Qx G X 0 0 (p_X0_minus M a b t)) 92 [(5, .long x92), (3, .long x73), (0, .ref a), (1, .ref b), (2, .ref t)] [] M30) _  E
      intro x92 E
      refine V.seg F floX0 cjoX0 [.aload_n 2, .aload_n 0, .getfield 51, .aload_n 1, .getfield 126, .lsub, .aload_n 0, .getfield 126, .aload_n 1, .getfield 51, .lsub, .lload_n 3, .lload 5, .lload_n 3] (by decide +kernel) (pc2 := 115) (lv2 := [(5, .long x92), (3, .long x73), (0, .ref a), (1, .ref b), (2, .ref t)]) (st2 := [.long x73, .long x92, .long x73, .long ((mL M30 a 2) - (mL M30 b 1)), .long ((mL M30 a 1) - (mL M30 b 2)), .ref t]) (M2 := M30) rfl ⟨trivial, trivial, (o_a.sm s30.1), trivial, (o_b.sm s30.1), trivial, trivial, (o_a.sm s30.1), trivial, (o_b.sm s30.1), trivial, trivial, trivial, trivial, trivial⟩ ?_
      refine V.callSN (as := [.long x92, .long x73]) (rest := [.long x73, .long ((mL M30 a 2) - (mL M30 b 1)), .long ((mL M30 a 1) - (mL M30 b 2)), .ref t]) F (by decide +kernel) lX0_144 bX6_restBy (c_X6_restBy G X.2.1 M30 x92 x73) (rm_ok hRm hd (by decide) (by decide)) ⟨Nat.zero_le _, Nat.zero_le _⟩ (Nat.le_of_ble_eq_true rfl) (fun r_ N_ p_ => ?_)
      obtain ⟨rfl, hN_⟩ := p_
      rw [hN_]
      clear hN_
      refine V.callV (as := [.long ((mL M30 a 1) - (mL M30 b 2)), .long ((mL M30 a 2) - (mL M30 b 1)), .long x73, .long (f_X6_restBy x92 x73)]) (rest := []) F (by decide +kernel) lX0_147 bX1_limit ⟨1, _, (o_t.sm s30.1), rfl, rfl⟩ (c_X1_limit G X.2.1 M30 t ((mL M30 a 1) - (mL M30 b 2)) ((mL M30 a 2) - (mL M30 b 1)) x73 (f_X6_restBy x92 x73) (o_t.sm s30.1)) (rm_ok hRm hd (by decide) (by decide)) ⟨Nat.zero_le _, Nat.zero_le _⟩ (Nat.le_of_ble_eq_true rfl) (fun r_ N_ p_ => ?_)
      obtain ⟨rfl, rfl, t118⟩ := p_
      refine (?_ : ∀ (M121 : Mem), (Sf M M121) → f_X0_minus M a b t = f_X0_minus_c121 M121 → V G X 7 0 0 (Qx G X 0 0 (p_X0_minus M a b t)) 121 [(5, .long x92), (3, .long x73), (0, .ref a), (1, .ref b), (2, .ref t)] [] M121) _ (Sf.tr s30 t118) E
      intro M121 s121 E
      refine V.pick [] rfl ?_
      exact hJ121 M121 s121 E
def f_X0_productBits_113 (j14 : Nat) (R14_ : Nat → Mem → Mem) (M113 : Mem) : Mem := R14_ (j14 + 1) M113
def f_X0_productBits_c113 (j14 : Nat) (R14_ : Nat → Mem → Mem) (M113 : Mem) : Mem := f_X0_productBits_113 j14 R14_ M113
def f_X0_productBits_c81 (j14 : Nat) (R14_ : Nat → Mem → Mem) (M81 : Mem) : Mem := f_X0_productBits_113 j14 R14_ M81
def f_X0_productBits_14 (a : Nat) (b : Nat) (t : Nat) : Nat → Nat → Mem → Mem
  | 0, _, M14 => M14
  | n_ + 1, j14, M14 => if 64 ≤ (nI j14) then M14 else if ((mL M14 b 3) &&& (jshl 1 (nI j14))) = 0 then f_X0_productBits_c81 j14 (f_X0_productBits_14 a b t n_) (f_X1_becomeBitSum M14 t (mL M14 t 3) (mL M14 t 4) (((jshl (mL M14 a 3) (nI j14)) ||| ((jshl 1 (nI j14)) - 1)) &&& ((jshl (mL M14 a 4) (nI j14)) ^^^ ((-1)))) 0 0) else if ((mL M14 b 4) &&& (jshl 1 (nI j14))) = 0 then f_X0_productBits_113 j14 (f_X0_productBits_14 a b t n_) M14 else f_X0_productBits_c113 j14 (f_X0_productBits_14 a b t n_) (f_X1_becomeBitSum M14 t (mL M14 t 3) (mL M14 t 4) ((jshl (mL M14 a 3) (nI j14)) ||| ((jshl 1 (nI j14)) - 1)) (jshl (mL M14 a 4) (nI j14)) 0)
def f_X0_productBits (M : Mem) (a : Nat) (b : Nat) (t : Nat) : Mem := f_X0_productBits_14 a b t 65 0 (uL (uL M t 3 ((-1))) t 4 0)
abbrev p_X0_productBits (M : Mem) (a : Nat) (b : Nat) (t : Nat) : Option Value → Mem → Prop := fun r N => r = none ∧ N = f_X0_productBits M a b t ∧ Sf M N
set_option maxRecDepth 100000 in
set_option maxHeartbeats 4000000 in
theorem c_X0_productBits (G : Ctx) (l : Launch) (M : Mem) (a : Nat) (b : Nat) (t : Nat) (o_a : isO M a 1) (o_b : isO M b 1) (o_t : isO M t 1) : CT G l 1 mX0_productBits [.ref a, .ref b, .ref t] M 0 0 (p_X0_productBits M a b t) := by
  refine CT.of (by decide) (Nat.le_of_ble_eq_true rfl) ?_
  intro X d hd hl hRm hnm F
  subst hl
  have E : f_X0_productBits M a b t = f_X0_productBits M a b t := rfl
  show V G X 10 0 0 (Qx G X 0 0 (p_X0_productBits M a b t)) 0 [(0, .ref a), (1, .ref b), (2, .ref t)] [] M
  refine V.seg F floX0 cjoX0 [.aload_n 2, .ldc2_w 29, .putfield 37, .aload_n 2, .lconst 0, .putfield 115, .iconst 0] (by decide +kernel) (pc2 := 13) (lv2 := [(0, .ref a), (1, .ref b), (2, .ref t)]) (st2 := [.int 0]) (M2 := uL (uL M t 3 ((-1))) t 4 0) rfl ⟨trivial, trivial, o_t, trivial, trivial, (o_t.sm (Sf.pL Sf.rf o_t.1).1), trivial, trivial⟩ ?_
  refine V.seg F floX0 cjoX0 [.istore_n 3] (by decide +kernel) (pc2 := 14) (lv2 := [(3, .int 0), (0, .ref a), (1, .ref b), (2, .ref t)]) (st2 := []) (M2 := uL (uL M t 3 ((-1))) t 4 0) rfl ⟨(by decide), trivial⟩ ?_
  have hJ14 : ∀ (n_ : Nat) (j14 : Nat) (M14 : Mem), (Sf M M14) → (j14 ≤ 64) → (64 - j14 < n_) → f_X0_productBits M a b t = f_X0_productBits_14 a b t n_ j14 M14 → V G X 10 0 0 (Qx G X 0 0 (p_X0_productBits M a b t)) 14 [(0, .ref a), (1, .ref b), (2, .ref t), (3, .int (nI j14))] [] M14 := by
    intro n_
    induction n_ with
    | zero => intro j14 M14 s14 b14 m14 E; omega
    | succ n_ ih_14 =>
      intro j14 M14 s14 b14 m14 E
      rw [f_X0_productBits_14] at E
      refine V.seg F floX0 cjoX0 [.iload_n 3, .bipush 64] (by decide +kernel) (pc2 := 17) (lv2 := [(0, .ref a), (1, .ref b), (2, .ref t), (3, .int (nI j14))]) (st2 := [.int 64, .int (nI j14)]) (M2 := M14) rfl ⟨trivial, trivial, trivial⟩ ?_
      refine V.ic_ge (off := 102) F (by decide +kernel) (tgt := 119) (by decide) (fun h17 => ?_) (fun h17 => ?_)
      · replace E := E.trans (if_pos h17)
        exact V.vret F (by decide +kernel) ⟨rfl, E.symm, s14⟩
      · replace E := E.trans (if_neg h17)
        refine V.seg F floX0 cjoX0 [.lconst 1, .iload_n 3, .lshl, .lstore 4, .aload_n 0, .getfield 37, .iload_n 3, .lshl, .lload 4, .lconst 1, .lsub, .lor, .lstore 6, .aload_n 0, .getfield 115, .iload_n 3, .lshl, .lstore 8, .aload_n 1, .getfield 37, .lload 4, .land, .lconst 0, .lcmp] (by decide +kernel) (pc2 := 55) (lv2 := [(8, .long (jshl (mL M14 a 4) (nI j14))), (6, .long ((jshl (mL M14 a 3) (nI j14)) ||| ((jshl 1 (nI j14)) - 1))), (4, .long (jshl 1 (nI j14))), (0, .ref a), (1, .ref b), (2, .ref t), (3, .int (nI j14))]) (st2 := [.int (lg_cmp ((mL M14 b 3) &&& (jshl 1 (nI j14))) 0)]) (M2 := M14) rfl ⟨trivial, trivial, trivial, (by decide), trivial, (o_a.sm s14.1), trivial, trivial, trivial, trivial, trivial, trivial, (by decide), trivial, (o_a.sm s14.1), trivial, trivial, (by decide), trivial, (o_b.sm s14.1), trivial, trivial, trivial, trivial, trivial⟩ ?_
        have hJ113 : ∀ (M113 : Mem), (Sf M M113) → f_X0_productBits M a b t = f_X0_productBits_113 j14 (f_X0_productBits_14 a b t n_) M113 → V G X 10 0 0 (Qx G X 0 0 (p_X0_productBits M a b t)) 113 [(0, .ref a), (1, .ref b), (2, .ref t), (3, .int (nI j14))] [] M113 := by
          intro M113 s113 E
          refine V.seg F floX0 cjoX0 [.iinc 3 1, .goto (-102)] (by decide +kernel) (pc2 := 14) (lv2 := [(3, .int ((nI j14) + 1)), (0, .ref a), (1, .ref b), (2, .ref t)]) (st2 := []) (M2 := M113) rfl ⟨(by decide), (by decide), trivial⟩ ?_
          refine V.pick [1, 2, 3, 0] rfl ?_
          rw [nI_1]
          exact ih_14 (j14 + 1) M113 s113 (by have hlt_ := cnt_lt (n := 64) h17 rfl (by omega) (by decide); omega) (by have hlt_ := cnt_lt (n := 64) h17 rfl (by omega) (by decide); omega) E
        refine V.lc_ne (off := 29) F (by decide +kernel) (tgt := 84) (by decide) (fun h55 => ?_) (fun h55 => ?_)
        · replace E := E.trans (if_neg h55)
          refine V.seg F floX0 cjoX0 [.aload_n 1, .getfield 115, .lload 4, .land, .lconst 0, .lcmp] (by decide +kernel) (pc2 := 93) (lv2 := [(8, .long (jshl (mL M14 a 4) (nI j14))), (6, .long ((jshl (mL M14 a 3) (nI j14)) ||| ((jshl 1 (nI j14)) - 1))), (4, .long (jshl 1 (nI j14))), (0, .ref a), (1, .ref b), (2, .ref t), (3, .int (nI j14))]) (st2 := [.int (lg_cmp ((mL M14 b 4) &&& (jshl 1 (nI j14))) 0)]) (M2 := M14) rfl ⟨trivial, (o_b.sm s14.1), trivial, trivial, trivial, trivial, trivial⟩ ?_
          refine V.lc_eq (off := 20) F (by decide +kernel) (tgt := 113) (by decide) (fun h93 => ?_) (fun h93 => ?_)
          · replace E := E.trans (if_pos h93)
            refine V.pick [3, 4, 5, 6] rfl ?_
            exact hJ113 M14 s14 E
          · replace E := E.trans (if_neg h93)
            refine V.seg F floX0 cjoX0 [.aload_n 2, .aload_n 2, .getfield 37, .aload_n 2, .getfield 115, .lload 6, .lload 8, .lconst 0] (by decide +kernel) (pc2 := 110) (lv2 := [(8, .long (jshl (mL M14 a 4) (nI j14))), (6, .long ((jshl (mL M14 a 3) (nI j14)) ||| ((jshl 1 (nI j14)) - 1))), (4, .long (jshl 1 (nI j14))), (0, .ref a), (1, .ref b), (2, .ref t), (3, .int (nI j14))]) (st2 := [.long 0, .long (jshl (mL M14 a 4) (nI j14)), .long ((jshl (mL M14 a 3) (nI j14)) ||| ((jshl 1 (nI j14)) - 1)), .long (mL M14 t 4), .long (mL M14 t 3), .ref t]) (M2 := M14) rfl ⟨trivial, trivial, (o_t.sm s14.1), trivial, (o_t.sm s14.1), trivial, trivial, trivial, trivial⟩ ?_
            refine V.callV (as := [.long (mL M14 t 3), .long (mL M14 t 4), .long ((jshl (mL M14 a 3) (nI j14)) ||| ((jshl 1 (nI j14)) - 1)), .long (jshl (mL M14 a 4) (nI j14)), .long 0]) (rest := []) F (by decide +kernel) lX0_118 bX1_becomeBitSum ⟨1, _, (o_t.sm s14.1), rfl, rfl⟩ (c_X1_becomeBitSum G X.2.1 M14 t (mL M14 t 3) (mL M14 t 4) ((jshl (mL M14 a 3) (nI j14)) ||| ((jshl 1 (nI j14)) - 1)) (jshl (mL M14 a 4) (nI j14)) 0 (o_t.sm s14.1)) (rm_ok hRm hd (by decide) (by decide)) ⟨Nat.zero_le _, Nat.zero_le _⟩ (Nat.le_of_ble_eq_true rfl) (fun r_ N_ p_ => ?_)
            obtain ⟨rfl, rfl, t110⟩ := p_
            refine (?_ : ∀ (M113 : Mem), (Sf M M113) → f_X0_productBits M a b t = f_X0_productBits_c113 j14 (f_X0_productBits_14 a b t n_) M113 → V G X 10 0 0 (Qx G X 0 0 (p_X0_productBits M a b t)) 113 [(8, .long (jshl (mL M14 a 4) (nI j14))), (6, .long ((jshl (mL M14 a 3) (nI j14)) ||| ((jshl 1 (nI j14)) - 1))), (4, .long (jshl 1 (nI j14))), (0, .ref a), (1, .ref b), (2, .ref t), (3, .int (nI j14))] [] M113) _ (Sf.tr s14 t110) E
            intro M113 s113 E
            refine V.pick [3, 4, 5, 6] rfl ?_
            exact hJ113 M113 s113 E
        · replace E := E.trans (if_pos h55)
          refine V.seg F floX0 cjoX0 [.aload_n 2, .aload_n 2, .getfield 37, .aload_n 2, .getfield 115, .lload 6, .lload 8, .ldc2_w 29, .lxor, .land, .lconst 0, .lconst 0] (by decide +kernel) (pc2 := 78) (lv2 := [(8, .long (jshl (mL M14 a 4) (nI j14))), (6, .long ((jshl (mL M14 a 3) (nI j14)) ||| ((jshl 1 (nI j14)) - 1))), (4, .long (jshl 1 (nI j14))), (0, .ref a), (1, .ref b), (2, .ref t), (3, .int (nI j14))]) (st2 := [.long 0, .long 0, .long (((jshl (mL M14 a 3) (nI j14)) ||| ((jshl 1 (nI j14)) - 1)) &&& ((jshl (mL M14 a 4) (nI j14)) ^^^ ((-1)))), .long (mL M14 t 4), .long (mL M14 t 3), .ref t]) (M2 := M14) rfl ⟨trivial, trivial, (o_t.sm s14.1), trivial, (o_t.sm s14.1), trivial, trivial, trivial, trivial, trivial, trivial, trivial, trivial⟩ ?_
          refine V.callV (as := [.long (mL M14 t 3), .long (mL M14 t 4), .long (((jshl (mL M14 a 3) (nI j14)) ||| ((jshl 1 (nI j14)) - 1)) &&& ((jshl (mL M14 a 4) (nI j14)) ^^^ ((-1)))), .long 0, .long 0]) (rest := []) F (by decide +kernel) lX0_118 bX1_becomeBitSum ⟨1, _, (o_t.sm s14.1), rfl, rfl⟩ (c_X1_becomeBitSum G X.2.1 M14 t (mL M14 t 3) (mL M14 t 4) (((jshl (mL M14 a 3) (nI j14)) ||| ((jshl 1 (nI j14)) - 1)) &&& ((jshl (mL M14 a 4) (nI j14)) ^^^ ((-1)))) 0 0 (o_t.sm s14.1)) (rm_ok hRm hd (by decide) (by decide)) ⟨Nat.zero_le _, Nat.zero_le _⟩ (Nat.le_of_ble_eq_true rfl) (fun r_ N_ p_ => ?_)
          obtain ⟨rfl, rfl, t78⟩ := p_
          refine (?_ : ∀ (M81 : Mem), (Sf M M81) → f_X0_productBits M a b t = f_X0_productBits_c81 j14 (f_X0_productBits_14 a b t n_) M81 → V G X 10 0 0 (Qx G X 0 0 (p_X0_productBits M a b t)) 81 [(8, .long (jshl (mL M14 a 4) (nI j14))), (6, .long ((jshl (mL M14 a 3) (nI j14)) ||| ((jshl 1 (nI j14)) - 1))), (4, .long (jshl 1 (nI j14))), (0, .ref a), (1, .ref b), (2, .ref t), (3, .int (nI j14))] [] M81) _ (Sf.tr s14 t78) E
          intro M81 s81 E
          refine V.seg F floX0 cjoX0 [.goto 32] (by decide +kernel) (pc2 := 113) (lv2 := [(8, .long (jshl (mL M14 a 4) (nI j14))), (6, .long ((jshl (mL M14 a 3) (nI j14)) ||| ((jshl 1 (nI j14)) - 1))), (4, .long (jshl 1 (nI j14))), (0, .ref a), (1, .ref b), (2, .ref t), (3, .int (nI j14))]) (st2 := []) (M2 := M81) rfl ⟨(by decide), trivial⟩ ?_
          refine V.pick [3, 4, 5, 6] rfl ?_
          exact hJ113 M81 s81 E
  refine V.pick [1, 2, 3, 0] rfl ?_
  exact hJ14 _ 0 (uL (uL M t 3 ((-1))) t 4 0) (Sf.pL (Sf.pL Sf.rf o_t.1) o_t.1) (by omega) (by omega) E
def f_X0_multipliedModulus_29  (w0_29 : Int64) : Int64 := w0_29
def f_X0_multipliedModulus (m : Int64) (c : Int64) : Int64 := if (f_X6_withoutTwos (jabs c)) ≤ 2147483647 then f_X0_multipliedModulus_29 (f_X6_oddPart (m * (f_X6_withoutTwos (jabs c)))) else f_X0_multipliedModulus_29 1
abbrev p_X0_multipliedModulus (M : Mem) (m : Int64) (c : Int64) : Option Value → Mem → Prop := fun r N => r = some (.long (f_X0_multipliedModulus m c)) ∧ N = M
set_option maxRecDepth 100000 in
set_option maxHeartbeats 4000000 in
theorem c_X0_multipliedModulus (G : Ctx) (l : Launch) (M : Mem) (m : Int64) (c : Int64)  : CT G l 2 mX0_multipliedModulus [.long m, .long c] M 0 0 (p_X0_multipliedModulus M m c) := by
  refine CT.of (by decide) (Nat.le_of_ble_eq_true rfl) ?_
  intro X d hd hl hRm hnm F
  subst hl
  have E : f_X0_multipliedModulus m c = f_X0_multipliedModulus m c := rfl
  show V G X 6 0 0 (Qx G X 0 0 (p_X0_multipliedModulus M m c)) 0 [(0, .long m), (2, .long c)] [] M
  refine V.seg F floX0 cjoX0 [.lload_n 2] (by decide +kernel) (pc2 := 1) (lv2 := [(0, .long m), (2, .long c)]) (st2 := [.long c]) (M2 := M) rfl ⟨trivial, trivial⟩ ?_
  refine V.mabsL (st := []) F (by decide +kernel) lX0_181 (rm_ok hRm hd (by decide) (by decide)) ⟨Nat.zero_le _, Nat.zero_le _⟩ (Nat.le_of_ble_eq_true rfl) ?_
  refine V.callSN (as := [.long (jabs c)]) (rest := []) F (by decide +kernel) lX0_184 bX6_withoutTwos (c_X6_withoutTwos G X.2.1 M (jabs c)) (rm_ok hRm hd (by decide) (by decide)) ⟨Nat.zero_le _, Nat.zero_le _⟩ (Nat.le_of_ble_eq_true rfl) (fun r_ N_ p_ => ?_)
  obtain ⟨rfl, hN_⟩ := p_
  rw [hN_]
  clear hN_
  refine V.seg F floX0 cjoX0 [.lstore 4, .lload 4, .ldc2_w 187, .lcmp] (by decide +kernel) (pc2 := 15) (lv2 := [(4, .long (f_X6_withoutTwos (jabs c))), (0, .long m), (2, .long c)]) (st2 := [.int (lg_cmp (f_X6_withoutTwos (jabs c)) 2147483647)]) (M2 := M) rfl ⟨(by decide), trivial, trivial, trivial, trivial⟩ ?_
  have hJ29 : ∀ (w0_29 : Int64), f_X0_multipliedModulus m c = f_X0_multipliedModulus_29 w0_29 → V G X 6 0 0 (Qx G X 0 0 (p_X0_multipliedModulus M m c)) 29 [] [.long w0_29] M := by
    intro w0_29 E
    exact V.lret F (by decide +kernel) ⟨congrArg (fun z => some (Value.long z)) E.symm, rfl⟩
  refine V.lc_le (off := 7) F (by decide +kernel) (tgt := 22) (by decide) (fun h15 => ?_) (fun h15 => ?_)
  · replace E := E.trans (if_pos h15)
    refine V.seg F floX0 cjoX0 [.lload_n 0, .lload 4, .lmul] (by decide +kernel) (pc2 := 26) (lv2 := [(4, .long (f_X6_withoutTwos (jabs c))), (0, .long m), (2, .long c)]) (st2 := [.long (m * (f_X6_withoutTwos (jabs c)))]) (M2 := M) rfl ⟨trivial, trivial, trivial, trivial⟩ ?_
    refine V.callSN (as := [.long (m * (f_X6_withoutTwos (jabs c)))]) (rest := []) F (by decide +kernel) lX0_137 bX6_oddPart (c_X6_oddPart G X.2.1 M (m * (f_X6_withoutTwos (jabs c)))) (rm_ok hRm hd (by decide) (by decide)) ⟨Nat.zero_le _, Nat.zero_le _⟩ (Nat.le_of_ble_eq_true rfl) (fun r_ N_ p_ => ?_)
    obtain ⟨rfl, hN_⟩ := p_
    rw [hN_]
    clear hN_
    refine V.pick [] rfl ?_
    exact hJ29 (f_X6_oddPart (m * (f_X6_withoutTwos (jabs c))))  E
  · replace E := E.trans (if_neg h15)
    refine V.seg F floX0 cjoX0 [.lconst 1, .goto 10] (by decide +kernel) (pc2 := 29) (lv2 := [(4, .long (f_X6_withoutTwos (jabs c))), (0, .long m), (2, .long c)]) (st2 := [.long 1]) (M2 := M) rfl ⟨trivial, (by decide), trivial⟩ ?_
    refine V.pick [] rfl ?_
    exact hJ29 1  E
def f_X0_productModulus_c60 (a : Nat) (b : Nat) (M : Mem) (x60 : Int64) : Int64 := f_X6_oddPart (f_X6_commonDivisor ((mL M a 5) * (mL M b 5)) x60)
def f_X0_productModulus (M : Mem) (a : Nat) (b : Nat) : Int64 := if (f_X1_isConstant M a) = 0 then if (f_X1_isConstant M b) = 0 then f_X0_productModulus_c60 a b M (f_X6_commonDivisor ((mL M a 5) * (mL M b 6)) ((mL M b 5) * (mL M a 6))) else f_X0_multipliedModulus (mL M a 5) (mL M b 1) else f_X0_multipliedModulus (mL M b 5) (mL M a 1)
abbrev p_X0_productModulus (M : Mem) (a : Nat) (b : Nat) : Option Value → Mem → Prop := fun r N => r = some (.long (f_X0_productModulus M a b)) ∧ N = M
set_option maxRecDepth 100000 in
set_option maxHeartbeats 4000000 in
theorem c_X0_productModulus (G : Ctx) (l : Launch) (M : Mem) (a : Nat) (b : Nat) (o_a : isO M a 1) (o_b : isO M b 1) : CT G l 3 mX0_productModulus [.ref a, .ref b] M 0 0 (p_X0_productModulus M a b) := by
  refine CT.of (by decide) (Nat.le_of_ble_eq_true rfl) ?_
  intro X d hd hl hRm hnm F
  subst hl
  have E : f_X0_productModulus M a b = f_X0_productModulus M a b := rfl
  show V G X 4 0 0 (Qx G X 0 0 (p_X0_productModulus M a b)) 0 [(0, .ref a), (1, .ref b)] [] M
  refine V.seg F floX0 cjoX0 [.aload_n 0] (by decide +kernel) (pc2 := 1) (lv2 := [(0, .ref a), (1, .ref b)]) (st2 := [.ref a]) (M2 := M) rfl ⟨trivial, trivial⟩ ?_
  refine V.callV (as := []) (rest := []) F (by decide +kernel) lX0_47 bX1_isConstant ⟨1, _, o_a, rfl, rfl⟩ (c_X1_isConstant G X.2.1 M a o_a) (rm_ok hRm hd (by decide) (by decide)) ⟨Nat.zero_le _, Nat.zero_le _⟩ (Nat.le_of_ble_eq_true rfl) (fun r_ N_ p_ => ?_)
  obtain ⟨rfl, hN_, z1⟩ := p_
  rw [hN_]
  clear hN_
  refine V.if_eq (off := 15) F (by decide +kernel) (tgt := 19) (by decide) (fun h4 => ?_) (fun h4 => ?_)
  · replace E := E.trans (if_pos h4)
    refine V.seg F floX0 cjoX0 [.aload_n 1] (by decide +kernel) (pc2 := 20) (lv2 := [(0, .ref a), (1, .ref b)]) (st2 := [.ref b]) (M2 := M) rfl ⟨trivial, trivial⟩ ?_
    refine V.callV (as := []) (rest := []) F (by decide +kernel) lX0_47 bX1_isConstant ⟨1, _, o_b, rfl, rfl⟩ (c_X1_isConstant G X.2.1 M b o_b) (rm_ok hRm hd (by decide) (by decide)) ⟨Nat.zero_le _, Nat.zero_le _⟩ (Nat.le_of_ble_eq_true rfl) (fun r_ N_ p_ => ?_)
    obtain ⟨rfl, hN_, z20⟩ := p_
    rw [hN_]
    clear hN_
    refine V.if_eq (off := 15) F (by decide +kernel) (tgt := 38) (by decide) (fun h23 => ?_) (fun h23 => ?_)
    · replace E := E.trans (if_pos h23)
      refine V.seg F floX0 cjoX0 [.aload_n 0, .getfield 172, .aload_n 1, .getfield 178, .lmul, .aload_n 1, .getfield 172, .aload_n 0, .getfield 178, .lmul] (by decide +kernel) (pc2 := 56) (lv2 := [(0, .ref a), (1, .ref b)]) (st2 := [.long ((mL M b 5) * (mL M a 6)), .long ((mL M a 5) * (mL M b 6))]) (M2 := M) rfl ⟨trivial, o_a, trivial, o_b, trivial, trivial, o_b, trivial, o_a, trivial, trivial⟩ ?_
      refine V.callSN (as := [.long ((mL M a 5) * (mL M b 6)), .long ((mL M b 5) * (mL M a 6))]) (rest := []) F (by decide +kernel) lX0_133 bX6_commonDivisor (c_X6_commonDivisor G X.2.1 M ((mL M a 5) * (mL M b 6)) ((mL M b 5) * (mL M a 6))) (rm_ok hRm hd (by decide) (by decide)) ⟨Nat.zero_le _, Nat.zero_le _⟩ (Nat.le_of_ble_eq_true rfl) (fun r_ N_ p_ => ?_)
      obtain ⟨rfl, hN_⟩ := p_
      rw [hN_]
      clear hN_
      refine V.seg F floX0 cjoX0 [.lstore_n 2] (by decide +kernel) (pc2 := 60) (lv2 := [(2, .long (f_X6_commonDivisor ((mL M a 5) * (mL M b 6)) ((mL M b 5) * (mL M a 6)))), (0, .ref a), (1, .ref b)]) (st2 := []) (M2 := M) rfl ⟨(by decide), trivial⟩ ?_
      refine (?_ : ∀ (x60 : Int64), f_X0_productModulus M a b = f_X0_productModulus_c60 a b M x60 → V G X 4 0 0 (Qx G X 0 0 (p_X0_productModulus M a b)) 60 [(2, .long x60), (0, .ref a), (1, .ref b)] [] M) _  E
      intro x60 E
      refine V.seg F floX0 cjoX0 [.aload_n 0, .getfield 172, .aload_n 1, .getfield 172, .lmul, .lload_n 2] (by decide +kernel) (pc2 := 70) (lv2 := [(2, .long x60), (0, .ref a), (1, .ref b)]) (st2 := [.long x60, .long ((mL M a 5) * (mL M b 5))]) (M2 := M) rfl ⟨trivial, o_a, trivial, o_b, trivial, trivial, trivial⟩ ?_
      refine V.callSN (as := [.long ((mL M a 5) * (mL M b 5)), .long x60]) (rest := []) F (by decide +kernel) lX0_133 bX6_commonDivisor (c_X6_commonDivisor G X.2.1 M ((mL M a 5) * (mL M b 5)) x60) (rm_ok hRm hd (by decide) (by decide)) ⟨Nat.zero_le _, Nat.zero_le _⟩ (Nat.le_of_ble_eq_true rfl) (fun r_ N_ p_ => ?_)
      obtain ⟨rfl, hN_⟩ := p_
      rw [hN_]
      clear hN_
      refine V.callSN (as := [.long (f_X6_commonDivisor ((mL M a 5) * (mL M b 5)) x60)]) (rest := []) F (by decide +kernel) lX0_137 bX6_oddPart (c_X6_oddPart G X.2.1 M (f_X6_commonDivisor ((mL M a 5) * (mL M b 5)) x60)) (rm_ok hRm hd (by decide) (by decide)) ⟨Nat.zero_le _, Nat.zero_le _⟩ (Nat.le_of_ble_eq_true rfl) (fun r_ N_ p_ => ?_)
      obtain ⟨rfl, hN_⟩ := p_
      rw [hN_]
      clear hN_
      exact V.lret F (by decide +kernel) ⟨congrArg (fun z => some (Value.long z)) E.symm, rfl⟩
    · replace E := E.trans (if_neg h23)
      refine V.seg F floX0 cjoX0 [.aload_n 0, .getfield 172, .aload_n 1, .getfield 51] (by decide +kernel) (pc2 := 34) (lv2 := [(0, .ref a), (1, .ref b)]) (st2 := [.long (mL M b 1), .long (mL M a 5)]) (M2 := M) rfl ⟨trivial, o_a, trivial, o_b, trivial⟩ ?_
      refine V.callS (as := [.long (mL M a 5), .long (mL M b 1)]) (rest := []) F (by decide +kernel) lX0_175 bX0_multipliedModulus (c_X0_multipliedModulus G X.2.1 M (mL M a 5) (mL M b 1)) (rm_ok hRm hd (by decide) (by decide)) ⟨Nat.zero_le _, Nat.zero_le _⟩ (Nat.le_of_ble_eq_true rfl) (fun r_ N_ p_ => ?_)
      obtain ⟨rfl, hN_⟩ := p_
      rw [hN_]
      clear hN_
      exact V.lret F (by decide +kernel) ⟨congrArg (fun z => some (Value.long z)) E.symm, rfl⟩
  · replace E := E.trans (if_neg h4)
    refine V.seg F floX0 cjoX0 [.aload_n 1, .getfield 172, .aload_n 0, .getfield 51] (by decide +kernel) (pc2 := 15) (lv2 := [(0, .ref a), (1, .ref b)]) (st2 := [.long (mL M a 1), .long (mL M b 5)]) (M2 := M) rfl ⟨trivial, o_b, trivial, o_a, trivial⟩ ?_
    refine V.callS (as := [.long (mL M b 5), .long (mL M a 1)]) (rest := []) F (by decide +kernel) lX0_175 bX0_multipliedModulus (c_X0_multipliedModulus G X.2.1 M (mL M b 5) (mL M a 1)) (rm_ok hRm hd (by decide) (by decide)) ⟨Nat.zero_le _, Nat.zero_le _⟩ (Nat.le_of_ble_eq_true rfl) (fun r_ N_ p_ => ?_)
    obtain ⟨rfl, hN_⟩ := p_
    rw [hN_]
    clear hN_
    exact V.lret F (by decide +kernel) ⟨congrArg (fun z => some (Value.long z)) E.symm, rfl⟩
def f_X0_times_62  (M62 : Mem) : Mem := M62
def f_X0_times_c179  (M179 : Mem) : Mem := M179
def f_X0_times_c134 (a : Nat) (b : Nat) (t : Nat) (M6 : Mem) (x134 : Int64) : Mem := f_X0_times_c179 (f_X1_limit M6 t (jmin (jmin ((mL M6 a 1) * (mL M6 b 1)) ((mL M6 a 1) * (mL M6 b 2))) (jmin ((mL M6 a 2) * (mL M6 b 1)) ((mL M6 a 2) * (mL M6 b 2)))) (jmax (jmax ((mL M6 a 1) * (mL M6 b 1)) ((mL M6 a 1) * (mL M6 b 2))) (jmax ((mL M6 a 2) * (mL M6 b 1)) ((mL M6 a 2) * (mL M6 b 2)))) (f_X0_productModulus M6 a b) (f_X6_restBy x134 (f_X0_productModulus M6 a b)))
def f_X0_times_c6 (a : Nat) (b : Nat) (t : Nat) (M6 : Mem) : Mem := if (f_X6_productWraps (mL M6 a 1) (mL M6 b 1)) = 0 then if (f_X6_productWraps (mL M6 a 1) (mL M6 b 2)) = 0 then if (f_X6_productWraps (mL M6 a 2) (mL M6 b 1)) = 0 then if (f_X6_productWraps (mL M6 a 2) (mL M6 b 2)) = 0 then f_X0_times_c134 a b t M6 ((f_X6_restBy (f_X1_countedRest M6 a) (f_X0_productModulus M6 a b)) * (f_X6_restBy (f_X1_countedRest M6 b) (f_X0_productModulus M6 a b))) else f_X0_times_62 M6 else f_X0_times_62 M6 else f_X0_times_62 M6 else f_X0_times_62 M6
def f_X0_times (M : Mem) (a : Nat) (b : Nat) (t : Nat) : Mem := f_X0_times_c6 a b t (f_X0_productBits M a b t)
abbrev p_X0_times (M : Mem) (a : Nat) (b : Nat) (t : Nat) : Option Value → Mem → Prop := fun r N => r = none ∧ N = f_X0_times M a b t ∧ Sf M N
set_option maxRecDepth 100000 in
set_option maxHeartbeats 4000000 in
theorem c_X0_times (G : Ctx) (l : Launch) (M : Mem) (a : Nat) (b : Nat) (t : Nat) (o_a : isO M a 1) (o_b : isO M b 1) (o_t : isO M t 1) : CT G l 4 mX0_times [.ref a, .ref b, .ref t] M 0 0 (p_X0_times M a b t) := by
  refine CT.of (by decide) (Nat.le_of_ble_eq_true rfl) ?_
  intro X d hd hl hRm hnm F
  subst hl
  have E : f_X0_times M a b t = f_X0_times M a b t := rfl
  show V G X 15 0 0 (Qx G X 0 0 (p_X0_times M a b t)) 0 [(0, .ref a), (1, .ref b), (2, .ref t)] [] M
  refine V.seg F floX0 cjoX0 [.aload_n 0, .aload_n 1, .aload_n 2] (by decide +kernel) (pc2 := 3) (lv2 := [(0, .ref a), (1, .ref b), (2, .ref t)]) (st2 := [.ref t, .ref b, .ref a]) (M2 := M) rfl ⟨trivial, trivial, trivial, trivial⟩ ?_
  refine V.callS (as := [.ref a, .ref b, .ref t]) (rest := []) F (by decide +kernel) lX0_154 bX0_productBits (c_X0_productBits G X.2.1 M a b t o_a o_b o_t) (rm_ok hRm hd (by decide) (by decide)) ⟨Nat.zero_le _, Nat.zero_le _⟩ (Nat.le_of_ble_eq_true rfl) (fun r_ N_ p_ => ?_)
  obtain ⟨rfl, rfl, t3⟩ := p_
  refine (?_ : ∀ (M6 : Mem), (Sf M M6) → f_X0_times M a b t = f_X0_times_c6 a b t M6 → V G X 15 0 0 (Qx G X 0 0 (p_X0_times M a b t)) 6 [(0, .ref a), (1, .ref b), (2, .ref t)] [] M6) _ t3 E
  intro M6 s6 E
  refine V.seg F floX0 cjoX0 [.aload_n 0, .getfield 51, .aload_n 1, .getfield 51] (by decide +kernel) (pc2 := 14) (lv2 := [(0, .ref a), (1, .ref b), (2, .ref t)]) (st2 := [.long (mL M6 b 1), .long (mL M6 a 1)]) (M2 := M6) rfl ⟨trivial, (o_a.sm s6.1), trivial, (o_b.sm s6.1), trivial⟩ ?_
  refine V.callSN (as := [.long (mL M6 a 1), .long (mL M6 b 1)]) (rest := []) F (by decide +kernel) lX0_157 bX6_productWraps (c_X6_productWraps G X.2.1 M6 (mL M6 a 1) (mL M6 b 1)) (rm_ok hRm hd (by decide) (by decide)) ⟨Nat.zero_le _, Nat.zero_le _⟩ (Nat.le_of_ble_eq_true rfl) (fun r_ N_ p_ => ?_)
  obtain ⟨rfl, hN_, z14⟩ := p_
  rw [hN_]
  clear hN_
  have hJ62 : ∀ (M62 : Mem), (Sf M M62) → f_X0_times M a b t = f_X0_times_62 M62 → V G X 15 0 0 (Qx G X 0 0 (p_X0_times M a b t)) 62 [] [] M62 := by
    intro M62 s62 E
    exact V.vret F (by decide +kernel) ⟨rfl, E.symm, s62⟩
  refine V.if_ne (off := 45) F (by decide +kernel) (tgt := 62) (by decide) (fun h17 => ?_) (fun h17 => ?_)
  · replace E := E.trans (if_neg h17)
    refine V.pick [] rfl ?_
    exact hJ62 M6 s6 E
  · replace E := E.trans (if_pos h17)
    refine V.seg F floX0 cjoX0 [.aload_n 0, .getfield 51, .aload_n 1, .getfield 126] (by decide +kernel) (pc2 := 28) (lv2 := [(0, .ref a), (1, .ref b), (2, .ref t)]) (st2 := [.long (mL M6 b 2), .long (mL M6 a 1)]) (M2 := M6) rfl ⟨trivial, (o_a.sm s6.1), trivial, (o_b.sm s6.1), trivial⟩ ?_
    refine V.callSN (as := [.long (mL M6 a 1), .long (mL M6 b 2)]) (rest := []) F (by decide +kernel) lX0_157 bX6_productWraps (c_X6_productWraps G X.2.1 M6 (mL M6 a 1) (mL M6 b 2)) (rm_ok hRm hd (by decide) (by decide)) ⟨Nat.zero_le _, Nat.zero_le _⟩ (Nat.le_of_ble_eq_true rfl) (fun r_ N_ p_ => ?_)
    obtain ⟨rfl, hN_, z28⟩ := p_
    rw [hN_]
    clear hN_
    refine V.if_ne (off := 31) F (by decide +kernel) (tgt := 62) (by decide) (fun h31 => ?_) (fun h31 => ?_)
    · replace E := E.trans (if_neg h31)
      refine V.pick [] rfl ?_
      exact hJ62 M6 s6 E
    · replace E := E.trans (if_pos h31)
      refine V.seg F floX0 cjoX0 [.aload_n 0, .getfield 126, .aload_n 1, .getfield 51] (by decide +kernel) (pc2 := 42) (lv2 := [(0, .ref a), (1, .ref b), (2, .ref t)]) (st2 := [.long (mL M6 b 1), .long (mL M6 a 2)]) (M2 := M6) rfl ⟨trivial, (o_a.sm s6.1), trivial, (o_b.sm s6.1), trivial⟩ ?_
      refine V.callSN (as := [.long (mL M6 a 2), .long (mL M6 b 1)]) (rest := []) F (by decide +kernel) lX0_157 bX6_productWraps (c_X6_productWraps G X.2.1 M6 (mL M6 a 2) (mL M6 b 1)) (rm_ok hRm hd (by decide) (by decide)) ⟨Nat.zero_le _, Nat.zero_le _⟩ (Nat.le_of_ble_eq_true rfl) (fun r_ N_ p_ => ?_)
      obtain ⟨rfl, hN_, z42⟩ := p_
      rw [hN_]
      clear hN_
      refine V.if_ne (off := 17) F (by decide +kernel) (tgt := 62) (by decide) (fun h45 => ?_) (fun h45 => ?_)
      · replace E := E.trans (if_neg h45)
        refine V.pick [] rfl ?_
        exact hJ62 M6 s6 E
      · replace E := E.trans (if_pos h45)
        refine V.seg F floX0 cjoX0 [.aload_n 0, .getfield 126, .aload_n 1, .getfield 126] (by decide +kernel) (pc2 := 56) (lv2 := [(0, .ref a), (1, .ref b), (2, .ref t)]) (st2 := [.long (mL M6 b 2), .long (mL M6 a 2)]) (M2 := M6) rfl ⟨trivial, (o_a.sm s6.1), trivial, (o_b.sm s6.1), trivial⟩ ?_
        refine V.callSN (as := [.long (mL M6 a 2), .long (mL M6 b 2)]) (rest := []) F (by decide +kernel) lX0_157 bX6_productWraps (c_X6_productWraps G X.2.1 M6 (mL M6 a 2) (mL M6 b 2)) (rm_ok hRm hd (by decide) (by decide)) ⟨Nat.zero_le _, Nat.zero_le _⟩ (Nat.le_of_ble_eq_true rfl) (fun r_ N_ p_ => ?_)
        obtain ⟨rfl, hN_, z56⟩ := p_
        rw [hN_]
        clear hN_
        refine V.if_eq (off := 4) F (by decide +kernel) (tgt := 63) (by decide) (fun h59 => ?_) (fun h59 => ?_)
        · replace E := E.trans (if_pos h59)
          refine V.seg F floX0 cjoX0 [.aload_n 0, .getfield 51, .aload_n 1, .getfield 51, .lmul, .lstore_n 3, .aload_n 0, .getfield 51, .aload_n 1, .getfield 126, .lmul, .lstore 5, .aload_n 0, .getfield 126, .aload_n 1, .getfield 51, .lmul, .lstore 7, .aload_n 0, .getfield 126, .aload_n 1, .getfield 126, .lmul, .lstore 9, .aload_n 0, .aload_n 1] (by decide +kernel) (pc2 := 108) (lv2 := [(9, .long ((mL M6 a 2) * (mL M6 b 2))), (7, .long ((mL M6 a 2) * (mL M6 b 1))), (5, .long ((mL M6 a 1) * (mL M6 b 2))), (3, .long ((mL M6 a 1) * (mL M6 b 1))), (0, .ref a), (1, .ref b), (2, .ref t)]) (st2 := [.ref b, .ref a]) (M2 := M6) rfl ⟨trivial, (o_a.sm s6.1), trivial, (o_b.sm s6.1), trivial, (by decide), trivial, (o_a.sm s6.1), trivial, (o_b.sm s6.1), trivial, (by decide), trivial, (o_a.sm s6.1), trivial, (o_b.sm s6.1), trivial, (by decide), trivial, (o_a.sm s6.1), trivial, (o_b.sm s6.1), trivial, (by decide), trivial, trivial, trivial⟩ ?_
          refine V.callS (as := [.ref a, .ref b]) (rest := []) F (by decide +kernel) lX0_160 bX0_productModulus (c_X0_productModulus G X.2.1 M6 a b (o_a.sm s6.1) (o_b.sm s6.1)) (rm_ok hRm hd (by decide) (by decide)) ⟨Nat.zero_le _, Nat.zero_le _⟩ (Nat.le_of_ble_eq_true rfl) (fun r_ N_ p_ => ?_)
          obtain ⟨rfl, hN_⟩ := p_
          rw [hN_]
          clear hN_
          refine V.seg F floX0 cjoX0 [.lstore 11, .aload_n 0] (by decide +kernel) (pc2 := 114) (lv2 := [(11, .long (f_X0_productModulus M6 a b)), (9, .long ((mL M6 a 2) * (mL M6 b 2))), (7, .long ((mL M6 a 2) * (mL M6 b 1))), (5, .long ((mL M6 a 1) * (mL M6 b 2))), (3, .long ((mL M6 a 1) * (mL M6 b 1))), (0, .ref a), (1, .ref b), (2, .ref t)]) (st2 := [.ref a]) (M2 := M6) rfl ⟨(by decide), trivial, trivial⟩ ?_
          refine V.callV (as := []) (rest := []) F (by decide +kernel) lX0_141 bX1_countedRest ⟨1, _, (o_a.sm s6.1), rfl, rfl⟩ (c_X1_countedRest G X.2.1 M6 a (o_a.sm s6.1)) (rm_ok hRm hd (by decide) (by decide)) ⟨Nat.zero_le _, Nat.zero_le _⟩ (Nat.le_of_ble_eq_true rfl) (fun r_ N_ p_ => ?_)
          obtain ⟨rfl, hN_⟩ := p_
          rw [hN_]
          clear hN_
          refine V.seg F floX0 cjoX0 [.lload 11] (by decide +kernel) (pc2 := 119) (lv2 := [(11, .long (f_X0_productModulus M6 a b)), (9, .long ((mL M6 a 2) * (mL M6 b 2))), (7, .long ((mL M6 a 2) * (mL M6 b 1))), (5, .long ((mL M6 a 1) * (mL M6 b 2))), (3, .long ((mL M6 a 1) * (mL M6 b 1))), (0, .ref a), (1, .ref b), (2, .ref t)]) (st2 := [.long (f_X0_productModulus M6 a b), .long (f_X1_countedRest M6 a)]) (M2 := M6) rfl ⟨trivial, trivial⟩ ?_
          refine V.callSN (as := [.long (f_X1_countedRest M6 a), .long (f_X0_productModulus M6 a b)]) (rest := []) F (by decide +kernel) lX0_144 bX6_restBy (c_X6_restBy G X.2.1 M6 (f_X1_countedRest M6 a) (f_X0_productModulus M6 a b)) (rm_ok hRm hd (by decide) (by decide)) ⟨Nat.zero_le _, Nat.zero_le _⟩ (Nat.le_of_ble_eq_true rfl) (fun r_ N_ p_ => ?_)
          obtain ⟨rfl, hN_⟩ := p_
          rw [hN_]
          clear hN_
          refine V.seg F floX0 cjoX0 [.aload_n 1] (by decide +kernel) (pc2 := 123) (lv2 := [(11, .long (f_X0_productModulus M6 a b)), (9, .long ((mL M6 a 2) * (mL M6 b 2))), (7, .long ((mL M6 a 2) * (mL M6 b 1))), (5, .long ((mL M6 a 1) * (mL M6 b 2))), (3, .long ((mL M6 a 1) * (mL M6 b 1))), (0, .ref a), (1, .ref b), (2, .ref t)]) (st2 := [.ref b, .long (f_X6_restBy (f_X1_countedRest M6 a) (f_X0_productModulus M6 a b))]) (M2 := M6) rfl ⟨trivial, trivial⟩ ?_
          refine V.callV (as := []) (rest := [.long (f_X6_restBy (f_X1_countedRest M6 a) (f_X0_productModulus M6 a b))]) F (by decide +kernel) lX0_141 bX1_countedRest ⟨1, _, (o_b.sm s6.1), rfl, rfl⟩ (c_X1_countedRest G X.2.1 M6 b (o_b.sm s6.1)) (rm_ok hRm hd (by decide) (by decide)) ⟨Nat.zero_le _, Nat.zero_le _⟩ (Nat.le_of_ble_eq_true rfl) (fun r_ N_ p_ => ?_)
          obtain ⟨rfl, hN_⟩ := p_
          rw [hN_]
          clear hN_
          refine V.seg F floX0 cjoX0 [.lload 11] (by decide +kernel) (pc2 := 128) (lv2 := [(11, .long (f_X0_productModulus M6 a b)), (9, .long ((mL M6 a 2) * (mL M6 b 2))), (7, .long ((mL M6 a 2) * (mL M6 b 1))), (5, .long ((mL M6 a 1) * (mL M6 b 2))), (3, .long ((mL M6 a 1) * (mL M6 b 1))), (0, .ref a), (1, .ref b), (2, .ref t)]) (st2 := [.long (f_X0_productModulus M6 a b), .long (f_X1_countedRest M6 b), .long (f_X6_restBy (f_X1_countedRest M6 a) (f_X0_productModulus M6 a b))]) (M2 := M6) rfl ⟨trivial, trivial⟩ ?_
          refine V.callSN (as := [.long (f_X1_countedRest M6 b), .long (f_X0_productModulus M6 a b)]) (rest := [.long (f_X6_restBy (f_X1_countedRest M6 a) (f_X0_productModulus M6 a b))]) F (by decide +kernel) lX0_144 bX6_restBy (c_X6_restBy G X.2.1 M6 (f_X1_countedRest M6 b) (f_X0_productModulus M6 a b)) (rm_ok hRm hd (by decide) (by decide)) ⟨Nat.zero_le _, Nat.zero_le _⟩ (Nat.le_of_ble_eq_true rfl) (fun r_ N_ p_ => ?_)
          obtain ⟨rfl, hN_⟩ := p_
          rw [hN_]
          clear hN_
          refine V.seg F floX0 cjoX0 [.lmul, .lstore 13] (by decide +kernel) (pc2 := 134) (lv2 := [(13, .long ((f_X6_restBy (f_X1_countedRest M6 a) (f_X0_productModulus M6 a b)) * (f_X6_restBy (f_X1_countedRest M6 b) (f_X0_productModulus M6 a b)))), (11, .long (f_X0_productModulus M6 a b)), (9, .long ((mL M6 a 2) * (mL M6 b 2))), (7, .long ((mL M6 a 2) * (mL M6 b 1))), (5, .long ((mL M6 a 1) * (mL M6 b 2))), (3, .long ((mL M6 a 1) * (mL M6 b 1))), (0, .ref a), (1, .ref b), (2, .ref t)]) (st2 := []) (M2 := M6) rfl ⟨trivial, (by decide), trivial⟩ ?_
          refine (?_ : ∀ (x134 : Int64), f_X0_times M a b t = f_X0_times_c134 a b t M6 x134 → V G X 15 0 0 (Qx G X 0 0 (p_X0_times M a b t)) 134 [(13, .long x134), (11, .long (f_X0_productModulus M6 a b)), (9, .long ((mL M6 a 2) * (mL M6 b 2))), (7, .long ((mL M6 a 2) * (mL M6 b 1))), (5, .long ((mL M6 a 1) * (mL M6 b 2))), (3, .long ((mL M6 a 1) * (mL M6 b 1))), (0, .ref a), (1, .ref b), (2, .ref t)] [] M6) _  E
          intro x134 E
          refine V.seg F floX0 cjoX0 [.aload_n 2, .lload_n 3, .lload 5] (by decide +kernel) (pc2 := 138) (lv2 := [(13, .long x134), (11, .long (f_X0_productModulus M6 a b)), (9, .long ((mL M6 a 2) * (mL M6 b 2))), (7, .long ((mL M6 a 2) * (mL M6 b 1))), (5, .long ((mL M6 a 1) * (mL M6 b 2))), (3, .long ((mL M6 a 1) * (mL M6 b 1))), (0, .ref a), (1, .ref b), (2, .ref t)]) (st2 := [.long ((mL M6 a 1) * (mL M6 b 2)), .long ((mL M6 a 1) * (mL M6 b 1)), .ref t]) (M2 := M6) rfl ⟨trivial, trivial, trivial, trivial⟩ ?_
          refine V.mminL (st := [.ref t]) F (by decide +kernel) lX0_164 (rm_ok hRm hd (by decide) (by decide)) ⟨Nat.zero_le _, Nat.zero_le _⟩ (Nat.le_of_ble_eq_true rfl) ?_
          refine V.seg F floX0 cjoX0 [.lload 7, .lload 9] (by decide +kernel) (pc2 := 145) (lv2 := [(13, .long x134), (11, .long (f_X0_productModulus M6 a b)), (9, .long ((mL M6 a 2) * (mL M6 b 2))), (7, .long ((mL M6 a 2) * (mL M6 b 1))), (5, .long ((mL M6 a 1) * (mL M6 b 2))), (3, .long ((mL M6 a 1) * (mL M6 b 1))), (0, .ref a), (1, .ref b), (2, .ref t)]) (st2 := [.long ((mL M6 a 2) * (mL M6 b 2)), .long ((mL M6 a 2) * (mL M6 b 1)), .long (jmin ((mL M6 a 1) * (mL M6 b 1)) ((mL M6 a 1) * (mL M6 b 2))), .ref t]) (M2 := M6) rfl ⟨trivial, trivial, trivial⟩ ?_
          refine V.mminL (st := [.long (jmin ((mL M6 a 1) * (mL M6 b 1)) ((mL M6 a 1) * (mL M6 b 2))), .ref t]) F (by decide +kernel) lX0_164 (rm_ok hRm hd (by decide) (by decide)) ⟨Nat.zero_le _, Nat.zero_le _⟩ (Nat.le_of_ble_eq_true rfl) ?_
          refine V.mminL (st := [.ref t]) F (by decide +kernel) lX0_164 (rm_ok hRm hd (by decide) (by decide)) ⟨Nat.zero_le _, Nat.zero_le _⟩ (Nat.le_of_ble_eq_true rfl) ?_
          refine V.seg F floX0 cjoX0 [.lload_n 3, .lload 5] (by decide +kernel) (pc2 := 154) (lv2 := [(13, .long x134), (11, .long (f_X0_productModulus M6 a b)), (9, .long ((mL M6 a 2) * (mL M6 b 2))), (7, .long ((mL M6 a 2) * (mL M6 b 1))), (5, .long ((mL M6 a 1) * (mL M6 b 2))), (3, .long ((mL M6 a 1) * (mL M6 b 1))), (0, .ref a), (1, .ref b), (2, .ref t)]) (st2 := [.long ((mL M6 a 1) * (mL M6 b 2)), .long ((mL M6 a 1) * (mL M6 b 1)), .long (jmin (jmin ((mL M6 a 1) * (mL M6 b 1)) ((mL M6 a 1) * (mL M6 b 2))) (jmin ((mL M6 a 2) * (mL M6 b 1)) ((mL M6 a 2) * (mL M6 b 2)))), .ref t]) (M2 := M6) rfl ⟨trivial, trivial, trivial⟩ ?_
          refine V.mmaxL (st := [.long (jmin (jmin ((mL M6 a 1) * (mL M6 b 1)) ((mL M6 a 1) * (mL M6 b 2))) (jmin ((mL M6 a 2) * (mL M6 b 1)) ((mL M6 a 2) * (mL M6 b 2)))), .ref t]) F (by decide +kernel) lX0_169 (rm_ok hRm hd (by decide) (by decide)) ⟨Nat.zero_le _, Nat.zero_le _⟩ (Nat.le_of_ble_eq_true rfl) ?_
          refine V.seg F floX0 cjoX0 [.lload 7, .lload 9] (by decide +kernel) (pc2 := 161) (lv2 := [(13, .long x134), (11, .long (f_X0_productModulus M6 a b)), (9, .long ((mL M6 a 2) * (mL M6 b 2))), (7, .long ((mL M6 a 2) * (mL M6 b 1))), (5, .long ((mL M6 a 1) * (mL M6 b 2))), (3, .long ((mL M6 a 1) * (mL M6 b 1))), (0, .ref a), (1, .ref b), (2, .ref t)]) (st2 := [.long ((mL M6 a 2) * (mL M6 b 2)), .long ((mL M6 a 2) * (mL M6 b 1)), .long (jmax ((mL M6 a 1) * (mL M6 b 1)) ((mL M6 a 1) * (mL M6 b 2))), .long (jmin (jmin ((mL M6 a 1) * (mL M6 b 1)) ((mL M6 a 1) * (mL M6 b 2))) (jmin ((mL M6 a 2) * (mL M6 b 1)) ((mL M6 a 2) * (mL M6 b 2)))), .ref t]) (M2 := M6) rfl ⟨trivial, trivial, trivial⟩ ?_
          refine V.mmaxL (st := [.long (jmax ((mL M6 a 1) * (mL M6 b 1)) ((mL M6 a 1) * (mL M6 b 2))), .long (jmin (jmin ((mL M6 a 1) * (mL M6 b 1)) ((mL M6 a 1) * (mL M6 b 2))) (jmin ((mL M6 a 2) * (mL M6 b 1)) ((mL M6 a 2) * (mL M6 b 2)))), .ref t]) F (by decide +kernel) lX0_169 (rm_ok hRm hd (by decide) (by decide)) ⟨Nat.zero_le _, Nat.zero_le _⟩ (Nat.le_of_ble_eq_true rfl) ?_
          refine V.mmaxL (st := [.long (jmin (jmin ((mL M6 a 1) * (mL M6 b 1)) ((mL M6 a 1) * (mL M6 b 2))) (jmin ((mL M6 a 2) * (mL M6 b 1)) ((mL M6 a 2) * (mL M6 b 2)))), .ref t]) F (by decide +kernel) lX0_169 (rm_ok hRm hd (by decide) (by decide)) ⟨Nat.zero_le _, Nat.zero_le _⟩ (Nat.le_of_ble_eq_true rfl) ?_
          refine V.seg F floX0 cjoX0 [.lload 11, .lload 13, .lload 11] (by decide +kernel) (pc2 := 173) (lv2 := [(13, .long x134), (11, .long (f_X0_productModulus M6 a b)), (9, .long ((mL M6 a 2) * (mL M6 b 2))), (7, .long ((mL M6 a 2) * (mL M6 b 1))), (5, .long ((mL M6 a 1) * (mL M6 b 2))), (3, .long ((mL M6 a 1) * (mL M6 b 1))), (0, .ref a), (1, .ref b), (2, .ref t)]) (st2 := [.long (f_X0_productModulus M6 a b), .long x134, .long (f_X0_productModulus M6 a b), .long (jmax (jmax ((mL M6 a 1) * (mL M6 b 1)) ((mL M6 a 1) * (mL M6 b 2))) (jmax ((mL M6 a 2) * (mL M6 b 1)) ((mL M6 a 2) * (mL M6 b 2)))), .long (jmin (jmin ((mL M6 a 1) * (mL M6 b 1)) ((mL M6 a 1) * (mL M6 b 2))) (jmin ((mL M6 a 2) * (mL M6 b 1)) ((mL M6 a 2) * (mL M6 b 2)))), .ref t]) (M2 := M6) rfl ⟨trivial, trivial, trivial, trivial⟩ ?_
          refine V.callSN (as := [.long x134, .long (f_X0_productModulus M6 a b)]) (rest := [.long (f_X0_productModulus M6 a b), .long (jmax (jmax ((mL M6 a 1) * (mL M6 b 1)) ((mL M6 a 1) * (mL M6 b 2))) (jmax ((mL M6 a 2) * (mL M6 b 1)) ((mL M6 a 2) * (mL M6 b 2)))), .long (jmin (jmin ((mL M6 a 1) * (mL M6 b 1)) ((mL M6 a 1) * (mL M6 b 2))) (jmin ((mL M6 a 2) * (mL M6 b 1)) ((mL M6 a 2) * (mL M6 b 2)))), .ref t]) F (by decide +kernel) lX0_144 bX6_restBy (c_X6_restBy G X.2.1 M6 x134 (f_X0_productModulus M6 a b)) (rm_ok hRm hd (by decide) (by decide)) ⟨Nat.zero_le _, Nat.zero_le _⟩ (Nat.le_of_ble_eq_true rfl) (fun r_ N_ p_ => ?_)
          obtain ⟨rfl, hN_⟩ := p_
          rw [hN_]
          clear hN_
          refine V.callV (as := [.long (jmin (jmin ((mL M6 a 1) * (mL M6 b 1)) ((mL M6 a 1) * (mL M6 b 2))) (jmin ((mL M6 a 2) * (mL M6 b 1)) ((mL M6 a 2) * (mL M6 b 2)))), .long (jmax (jmax ((mL M6 a 1) * (mL M6 b 1)) ((mL M6 a 1) * (mL M6 b 2))) (jmax ((mL M6 a 2) * (mL M6 b 1)) ((mL M6 a 2) * (mL M6 b 2)))), .long (f_X0_productModulus M6 a b), .long (f_X6_restBy x134 (f_X0_productModulus M6 a b))]) (rest := []) F (by decide +kernel) lX0_147 bX1_limit ⟨1, _, (o_t.sm s6.1), rfl, rfl⟩ (c_X1_limit G X.2.1 M6 t (jmin (jmin ((mL M6 a 1) * (mL M6 b 1)) ((mL M6 a 1) * (mL M6 b 2))) (jmin ((mL M6 a 2) * (mL M6 b 1)) ((mL M6 a 2) * (mL M6 b 2)))) (jmax (jmax ((mL M6 a 1) * (mL M6 b 1)) ((mL M6 a 1) * (mL M6 b 2))) (jmax ((mL M6 a 2) * (mL M6 b 1)) ((mL M6 a 2) * (mL M6 b 2)))) (f_X0_productModulus M6 a b) (f_X6_restBy x134 (f_X0_productModulus M6 a b)) (o_t.sm s6.1)) (rm_ok hRm hd (by decide) (by decide)) ⟨Nat.zero_le _, Nat.zero_le _⟩ (Nat.le_of_ble_eq_true rfl) (fun r_ N_ p_ => ?_)
          obtain ⟨rfl, rfl, t176⟩ := p_
          refine (?_ : ∀ (M179 : Mem), (Sf M M179) → f_X0_times M a b t = f_X0_times_c179 M179 → V G X 15 0 0 (Qx G X 0 0 (p_X0_times M a b t)) 179 [(13, .long x134), (11, .long (f_X0_productModulus M6 a b)), (9, .long ((mL M6 a 2) * (mL M6 b 2))), (7, .long ((mL M6 a 2) * (mL M6 b 1))), (5, .long ((mL M6 a 1) * (mL M6 b 2))), (3, .long ((mL M6 a 1) * (mL M6 b 1))), (0, .ref a), (1, .ref b), (2, .ref t)] [] M179) _ (Sf.tr s6 t176) E
          intro M179 s179 E
          exact V.vret F (by decide +kernel) ⟨rfl, E.symm, s179⟩
        · replace E := E.trans (if_neg h59)
          refine V.pick [] rfl ?_
          exact hJ62 M6 s6 E
def f_X0_bitwise_163 (t : Nat) (y8_163 : Int64) (y10_163 : Int64) (M163 : Mem) : Mem := uL (uL M163 t 3 (y8_163 ||| y10_163)) t 4 y8_163
def f_X0_bitwise_c146 (a : Nat) (b : Nat) (t : Nat) (M : Mem) (x146 : Int64) : Mem := f_X0_bitwise_163 t x146 (((mL M a 4) &&& (mL M b 4)) ||| (((mL M a 3) &&& ((mL M a 4) ^^^ ((-1)))) &&& ((mL M b 3) &&& ((mL M b 4) ^^^ ((-1)))))) M
def f_X0_bitwise_c126 (a : Nat) (b : Nat) (t : Nat) (M : Mem) (x126 : Int64) : Mem := f_X0_bitwise_163 t ((mL M a 4) ||| (mL M b 4)) x126 M
def f_X0_bitwise_94 (a : Nat) (b : Nat) (t : Nat) (M : Mem) (x53 : Int64) (w0_74 : Int64) (w0_94 : Int64) (M94 : Mem) : Mem := f_X0_bitwise_163 t ((mL M a 4) &&& (mL M b 4)) x53 (uL M94 t 2 (jmin w0_74 w0_94))
def f_X0_bitwise_74 (a : Nat) (b : Nat) (t : Nat) (M : Mem) (x53 : Int64) (w0_74 : Int64) (M74 : Mem) : Mem := if (mL M74 b 1) < 0 then f_X0_bitwise_94 a b t M x53 w0_74 (mL M74 t 2) M74 else f_X0_bitwise_94 a b t M x53 w0_74 (mL M74 b 2) M74
def f_X0_bitwise_c53 (a : Nat) (b : Nat) (t : Nat) (M : Mem) (x53 : Int64) : Mem := if (mL M a 1) < 0 then f_X0_bitwise_74 a b t M x53 (mL M t 2) M else f_X0_bitwise_74 a b t M x53 (mL M a 2) M
def f_X0_bitwise (M : Mem) (op : Int32) (a : Nat) (b : Nat) (t : Nat) : Mem := if op = 3 then f_X0_bitwise_c53 a b t M (((mL M a 3) &&& ((mL M a 4) ^^^ ((-1)))) ||| ((mL M b 3) &&& ((mL M b 4) ^^^ ((-1))))) else if op = 4 then f_X0_bitwise_c126 a b t M (((mL M a 3) &&& ((mL M a 4) ^^^ ((-1)))) &&& ((mL M b 3) &&& ((mL M b 4) ^^^ ((-1))))) else f_X0_bitwise_c146 a b t M (((mL M a 4) &&& ((mL M b 3) &&& ((mL M b 4) ^^^ ((-1))))) ||| (((mL M a 3) &&& ((mL M a 4) ^^^ ((-1)))) &&& (mL M b 4)))
abbrev p_X0_bitwise (M : Mem) (op : Int32) (a : Nat) (b : Nat) (t : Nat) : Option Value → Mem → Prop := fun r N => r = none ∧ N = f_X0_bitwise M op a b t ∧ Sf M N
set_option maxRecDepth 100000 in
set_option maxHeartbeats 4000000 in
theorem c_X0_bitwise (G : Ctx) (l : Launch) (M : Mem) (op : Int32) (a : Nat) (b : Nat) (t : Nat) (o_a : isO M a 1) (o_b : isO M b 1) (o_t : isO M t 1) : CT G l 1 mX0_bitwise [.int op, .ref a, .ref b, .ref t] M 0 0 (p_X0_bitwise M op a b t) := by
  refine CT.of (by decide) (Nat.le_of_ble_eq_true rfl) ?_
  intro X d hd hl hRm hnm F
  subst hl
  have E : f_X0_bitwise M op a b t = f_X0_bitwise M op a b t := rfl
  show V G X 12 0 0 (Qx G X 0 0 (p_X0_bitwise M op a b t)) 0 [(0, .int op), (1, .ref a), (2, .ref b), (3, .ref t)] [] M
  refine V.seg F floX0 cjoX0 [.aload_n 1, .getfield 37, .aload_n 1, .getfield 115, .ldc2_w 29, .lxor, .land, .lstore 4, .aload_n 2, .getfield 37, .aload_n 2, .getfield 115, .ldc2_w 29, .lxor, .land, .lstore 6, .iload_n 0, .iconst 3] (by decide +kernel) (pc2 := 32) (lv2 := [(6, .long ((mL M b 3) &&& ((mL M b 4) ^^^ ((-1))))), (4, .long ((mL M a 3) &&& ((mL M a 4) ^^^ ((-1))))), (0, .int op), (1, .ref a), (2, .ref b), (3, .ref t)]) (st2 := [.int 3, .int op]) (M2 := M) rfl ⟨trivial, o_a, trivial, o_a, trivial, trivial, trivial, (by decide), trivial, o_b, trivial, o_b, trivial, trivial, trivial, (by decide), trivial, trivial, trivial⟩ ?_
  have hJ163 : ∀ (y8_163 : Int64) (y10_163 : Int64) (M163 : Mem), (Sf M M163) → f_X0_bitwise M op a b t = f_X0_bitwise_163 t y8_163 y10_163 M163 → V G X 12 0 0 (Qx G X 0 0 (p_X0_bitwise M op a b t)) 163 [(3, .ref t), (8, .long y8_163), (10, .long y10_163)] [] M163 := by
    intro y8_163 y10_163 M163 s163 E
    refine V.seg F floX0 cjoX0 [.aload_n 3, .lload 8, .lload 10, .lor, .putfield 37, .aload_n 3, .lload 8, .putfield 115] (by decide +kernel) (pc2 := 178) (lv2 := [(3, .ref t), (8, .long y8_163), (10, .long y10_163)]) (st2 := []) (M2 := uL (uL M163 t 3 (y8_163 ||| y10_163)) t 4 y8_163) rfl ⟨trivial, trivial, trivial, trivial, (o_t.sm s163.1), trivial, trivial, (o_t.sm (Sf.pL s163 o_t.1).1), trivial⟩ ?_
    exact V.vret F (by decide +kernel) ⟨rfl, E.symm, (Sf.pL (Sf.pL s163 o_t.1) o_t.1)⟩
  refine V.ic_ne (off := 71) F (by decide +kernel) (tgt := 103) (by decide) (fun h32 => ?_) (fun h32 => ?_)
  · replace E := E.trans (if_neg h32)
    refine V.seg F floX0 cjoX0 [.iload_n 0, .iconst 4] (by decide +kernel) (pc2 := 105) (lv2 := [(6, .long ((mL M b 3) &&& ((mL M b 4) ^^^ ((-1))))), (4, .long ((mL M a 3) &&& ((mL M a 4) ^^^ ((-1))))), (0, .int op), (1, .ref a), (2, .ref b), (3, .ref t)]) (st2 := [.int 4, .int op]) (M2 := M) rfl ⟨trivial, trivial, trivial⟩ ?_
    refine V.ic_ne (off := 24) F (by decide +kernel) (tgt := 129) (by decide) (fun h105 => ?_) (fun h105 => ?_)
    · replace E := E.trans (if_neg h105)
      refine V.seg F floX0 cjoX0 [.aload_n 1, .getfield 115, .lload 6, .land, .lload 4, .aload_n 2, .getfield 115, .land, .lor, .lstore 8] (by decide +kernel) (pc2 := 146) (lv2 := [(8, .long (((mL M a 4) &&& ((mL M b 3) &&& ((mL M b 4) ^^^ ((-1))))) ||| (((mL M a 3) &&& ((mL M a 4) ^^^ ((-1)))) &&& (mL M b 4)))), (6, .long ((mL M b 3) &&& ((mL M b 4) ^^^ ((-1))))), (4, .long ((mL M a 3) &&& ((mL M a 4) ^^^ ((-1))))), (0, .int op), (1, .ref a), (2, .ref b), (3, .ref t)]) (st2 := []) (M2 := M) rfl ⟨trivial, o_a, trivial, trivial, trivial, trivial, o_b, trivial, trivial, (by decide), trivial⟩ ?_
      refine (?_ : ∀ (x146 : Int64), f_X0_bitwise M op a b t = f_X0_bitwise_c146 a b t M x146 → V G X 12 0 0 (Qx G X 0 0 (p_X0_bitwise M op a b t)) 146 [(8, .long x146), (6, .long ((mL M b 3) &&& ((mL M b 4) ^^^ ((-1))))), (4, .long ((mL M a 3) &&& ((mL M a 4) ^^^ ((-1))))), (0, .int op), (1, .ref a), (2, .ref b), (3, .ref t)] [] M) _  E
      intro x146 E
      refine V.seg F floX0 cjoX0 [.aload_n 1, .getfield 115, .aload_n 2, .getfield 115, .land, .lload 4, .lload 6, .land, .lor, .lstore 10] (by decide +kernel) (pc2 := 163) (lv2 := [(10, .long (((mL M a 4) &&& (mL M b 4)) ||| (((mL M a 3) &&& ((mL M a 4) ^^^ ((-1)))) &&& ((mL M b 3) &&& ((mL M b 4) ^^^ ((-1))))))), (8, .long x146), (6, .long ((mL M b 3) &&& ((mL M b 4) ^^^ ((-1))))), (4, .long ((mL M a 3) &&& ((mL M a 4) ^^^ ((-1))))), (0, .int op), (1, .ref a), (2, .ref b), (3, .ref t)]) (st2 := []) (M2 := M) rfl ⟨trivial, o_a, trivial, o_b, trivial, trivial, trivial, trivial, trivial, (by decide), trivial⟩ ?_
      refine V.pick [7, 1, 0] rfl ?_
      exact hJ163 x146 (((mL M a 4) &&& (mL M b 4)) ||| (((mL M a 3) &&& ((mL M a 4) ^^^ ((-1)))) &&& ((mL M b 3) &&& ((mL M b 4) ^^^ ((-1)))))) M Sf.rf E
    · replace E := E.trans (if_pos h105)
      refine V.seg F floX0 cjoX0 [.aload_n 1, .getfield 115, .aload_n 2, .getfield 115, .lor, .lstore 8, .lload 4, .lload 6, .land, .lstore 10] (by decide +kernel) (pc2 := 126) (lv2 := [(10, .long (((mL M a 3) &&& ((mL M a 4) ^^^ ((-1)))) &&& ((mL M b 3) &&& ((mL M b 4) ^^^ ((-1)))))), (8, .long ((mL M a 4) ||| (mL M b 4))), (6, .long ((mL M b 3) &&& ((mL M b 4) ^^^ ((-1))))), (4, .long ((mL M a 3) &&& ((mL M a 4) ^^^ ((-1))))), (0, .int op), (1, .ref a), (2, .ref b), (3, .ref t)]) (st2 := []) (M2 := M) rfl ⟨trivial, o_a, trivial, o_b, trivial, (by decide), trivial, trivial, trivial, (by decide), trivial⟩ ?_
      refine (?_ : ∀ (x126 : Int64), f_X0_bitwise M op a b t = f_X0_bitwise_c126 a b t M x126 → V G X 12 0 0 (Qx G X 0 0 (p_X0_bitwise M op a b t)) 126 [(10, .long x126), (8, .long ((mL M a 4) ||| (mL M b 4))), (6, .long ((mL M b 3) &&& ((mL M b 4) ^^^ ((-1))))), (4, .long ((mL M a 3) &&& ((mL M a 4) ^^^ ((-1))))), (0, .int op), (1, .ref a), (2, .ref b), (3, .ref t)] [] M) _  E
      intro x126 E
      refine V.seg F floX0 cjoX0 [.goto 37] (by decide +kernel) (pc2 := 163) (lv2 := [(10, .long x126), (8, .long ((mL M a 4) ||| (mL M b 4))), (6, .long ((mL M b 3) &&& ((mL M b 4) ^^^ ((-1))))), (4, .long ((mL M a 3) &&& ((mL M a 4) ^^^ ((-1))))), (0, .int op), (1, .ref a), (2, .ref b), (3, .ref t)]) (st2 := []) (M2 := M) rfl ⟨(by decide), trivial⟩ ?_
      refine V.pick [7, 1, 0] rfl ?_
      exact hJ163 ((mL M a 4) ||| (mL M b 4)) x126 M Sf.rf E
  · replace E := E.trans (if_pos h32)
    refine V.seg F floX0 cjoX0 [.aload_n 1, .getfield 115, .aload_n 2, .getfield 115, .land, .lstore 8, .lload 4, .lload 6, .lor, .lstore 10] (by decide +kernel) (pc2 := 53) (lv2 := [(10, .long (((mL M a 3) &&& ((mL M a 4) ^^^ ((-1)))) ||| ((mL M b 3) &&& ((mL M b 4) ^^^ ((-1)))))), (8, .long ((mL M a 4) &&& (mL M b 4))), (6, .long ((mL M b 3) &&& ((mL M b 4) ^^^ ((-1))))), (4, .long ((mL M a 3) &&& ((mL M a 4) ^^^ ((-1))))), (0, .int op), (1, .ref a), (2, .ref b), (3, .ref t)]) (st2 := []) (M2 := M) rfl ⟨trivial, o_a, trivial, o_b, trivial, (by decide), trivial, trivial, trivial, (by decide), trivial⟩ ?_
    refine (?_ : ∀ (x53 : Int64), f_X0_bitwise M op a b t = f_X0_bitwise_c53 a b t M x53 → V G X 12 0 0 (Qx G X 0 0 (p_X0_bitwise M op a b t)) 53 [(10, .long x53), (8, .long ((mL M a 4) &&& (mL M b 4))), (6, .long ((mL M b 3) &&& ((mL M b 4) ^^^ ((-1))))), (4, .long ((mL M a 3) &&& ((mL M a 4) ^^^ ((-1))))), (0, .int op), (1, .ref a), (2, .ref b), (3, .ref t)] [] M) _  E
    intro x53 E
    refine V.seg F floX0 cjoX0 [.aload_n 3, .aload_n 1, .getfield 51, .lconst 0, .lcmp] (by decide +kernel) (pc2 := 60) (lv2 := [(10, .long x53), (8, .long ((mL M a 4) &&& (mL M b 4))), (6, .long ((mL M b 3) &&& ((mL M b 4) ^^^ ((-1))))), (4, .long ((mL M a 3) &&& ((mL M a 4) ^^^ ((-1))))), (0, .int op), (1, .ref a), (2, .ref b), (3, .ref t)]) (st2 := [.int (lg_cmp (mL M a 1) 0), .ref t]) (M2 := M) rfl ⟨trivial, trivial, o_a, trivial, trivial, trivial⟩ ?_
    have hJ74 : ∀ (w0_74 : Int64) (M74 : Mem), (Sf M M74) → f_X0_bitwise M op a b t = f_X0_bitwise_74 a b t M x53 w0_74 M74 → V G X 12 0 0 (Qx G X 0 0 (p_X0_bitwise M op a b t)) 74 [(2, .ref b), (3, .ref t), (8, .long ((mL M a 4) &&& (mL M b 4))), (10, .long x53)] [.long w0_74, .ref t] M74 := by
      intro w0_74 M74 s74 E
      refine V.seg F floX0 cjoX0 [.aload_n 2, .getfield 51, .lconst 0, .lcmp] (by decide +kernel) (pc2 := 80) (lv2 := [(2, .ref b), (3, .ref t), (8, .long ((mL M a 4) &&& (mL M b 4))), (10, .long x53)]) (st2 := [.int (lg_cmp (mL M74 b 1) 0), .long w0_74, .ref t]) (M2 := M74) rfl ⟨trivial, (o_b.sm s74.1), trivial, trivial, trivial⟩ ?_
      have hJ94 : ∀ (w0_94 : Int64) (M94 : Mem), (Sf M M94) → f_X0_bitwise M op a b t = f_X0_bitwise_94 a b t M x53 w0_74 w0_94 M94 → V G X 12 0 0 (Qx G X 0 0 (p_X0_bitwise M op a b t)) 94 [(3, .ref t), (8, .long ((mL M a 4) &&& (mL M b 4))), (10, .long x53)] [.long w0_94, .long w0_74, .ref t] M94 := by
        intro w0_94 M94 s94 E
        refine V.mminL (st := [.ref t]) F (by decide +kernel) lX0_164 (rm_ok hRm hd (by decide) (by decide)) ⟨Nat.zero_le _, Nat.zero_le _⟩ (Nat.le_of_ble_eq_true rfl) ?_
        refine V.seg F floX0 cjoX0 [.putfield 126, .goto 63] (by decide +kernel) (pc2 := 163) (lv2 := [(3, .ref t), (8, .long ((mL M a 4) &&& (mL M b 4))), (10, .long x53)]) (st2 := []) (M2 := uL M94 t 2 (jmin w0_74 w0_94)) rfl ⟨(o_t.sm s94.1), (by decide), trivial⟩ ?_
        refine V.pick [0, 1, 2] rfl ?_
        exact hJ163 ((mL M a 4) &&& (mL M b 4)) x53 (uL M94 t 2 (jmin w0_74 w0_94)) (Sf.pL s94 o_t.1) E
      refine V.lc_lt (off := 10) F (by decide +kernel) (tgt := 90) (by decide) (fun h80 => ?_) (fun h80 => ?_)
      · replace E := E.trans (if_pos h80)
        refine V.seg F floX0 cjoX0 [.aload_n 3, .getfield 126] (by decide +kernel) (pc2 := 94) (lv2 := [(2, .ref b), (3, .ref t), (8, .long ((mL M a 4) &&& (mL M b 4))), (10, .long x53)]) (st2 := [.long (mL M74 t 2), .long w0_74, .ref t]) (M2 := M74) rfl ⟨trivial, (o_t.sm s74.1), trivial⟩ ?_
        refine V.pick [1, 2, 3] rfl ?_
        exact hJ94 (mL M74 t 2) M74 s74 E
      · replace E := E.trans (if_neg h80)
        refine V.seg F floX0 cjoX0 [.aload_n 2, .getfield 126, .goto 7] (by decide +kernel) (pc2 := 94) (lv2 := [(2, .ref b), (3, .ref t), (8, .long ((mL M a 4) &&& (mL M b 4))), (10, .long x53)]) (st2 := [.long (mL M74 b 2), .long w0_74, .ref t]) (M2 := M74) rfl ⟨trivial, (o_b.sm s74.1), (by decide), trivial⟩ ?_
        refine V.pick [1, 2, 3] rfl ?_
        exact hJ94 (mL M74 b 2) M74 s74 E
    refine V.lc_lt (off := 10) F (by decide +kernel) (tgt := 70) (by decide) (fun h60 => ?_) (fun h60 => ?_)
    · replace E := E.trans (if_pos h60)
      refine V.seg F floX0 cjoX0 [.aload_n 3, .getfield 126] (by decide +kernel) (pc2 := 74) (lv2 := [(10, .long x53), (8, .long ((mL M a 4) &&& (mL M b 4))), (6, .long ((mL M b 3) &&& ((mL M b 4) ^^^ ((-1))))), (4, .long ((mL M a 3) &&& ((mL M a 4) ^^^ ((-1))))), (0, .int op), (1, .ref a), (2, .ref b), (3, .ref t)]) (st2 := [.long (mL M t 2), .ref t]) (M2 := M) rfl ⟨trivial, o_t, trivial⟩ ?_
      refine V.pick [6, 7, 1, 0] rfl ?_
      exact hJ74 (mL M t 2) M Sf.rf E
    · replace E := E.trans (if_neg h60)
      refine V.seg F floX0 cjoX0 [.aload_n 1, .getfield 126, .goto 7] (by decide +kernel) (pc2 := 74) (lv2 := [(10, .long x53), (8, .long ((mL M a 4) &&& (mL M b 4))), (6, .long ((mL M b 3) &&& ((mL M b 4) ^^^ ((-1))))), (4, .long ((mL M a 3) &&& ((mL M a 4) ^^^ ((-1))))), (0, .int op), (1, .ref a), (2, .ref b), (3, .ref t)]) (st2 := [.long (mL M a 2), .ref t]) (M2 := M) rfl ⟨trivial, o_a, (by decide), trivial⟩ ?_
      refine V.pick [6, 7, 1, 0] rfl ?_
      exact hJ74 (mL M a 2) M Sf.rf E
def f_X0_quotient_26  (M26 : Mem) : Mem := M26
def f_X0_quotient (M : Mem) (a : Nat) (b : Int64) (t : Nat) : Mem := if b ≤ 0 then f_X0_quotient_26 M else f_X0_quotient_26 (uL (uL M t 1 ((mL M a 1) / b)) t 2 ((mL (uL M t 1 ((mL M a 1) / b)) a 2) / b))
abbrev p_X0_quotient (M : Mem) (a : Nat) (b : Int64) (t : Nat) : Option Value → Mem → Prop := fun r N => r = none ∧ N = f_X0_quotient M a b t ∧ Sf M N
set_option maxRecDepth 100000 in
set_option maxHeartbeats 4000000 in
theorem c_X0_quotient (G : Ctx) (l : Launch) (M : Mem) (a : Nat) (b : Int64) (t : Nat) (o_a : isO M a 1) (o_t : isO M t 1) : CT G l 0 mX0_quotient [.ref a, .long b, .ref t] M 0 0 (p_X0_quotient M a b t) := by
  refine CT.of (by decide) (Nat.le_of_ble_eq_true rfl) ?_
  intro X d hd hl hRm hnm F
  subst hl
  have E : f_X0_quotient M a b t = f_X0_quotient M a b t := rfl
  show V G X 4 0 0 (Qx G X 0 0 (p_X0_quotient M a b t)) 0 [(0, .ref a), (1, .long b), (3, .ref t)] [] M
  refine V.seg F floX0 cjoX0 [.lload_n 1, .lconst 0, .lcmp] (by decide +kernel) (pc2 := 3) (lv2 := [(0, .ref a), (1, .long b), (3, .ref t)]) (st2 := [.int (lg_cmp b 0)]) (M2 := M) rfl ⟨trivial, trivial, trivial, trivial⟩ ?_
  have hJ26 : ∀ (M26 : Mem), (Sf M M26) → f_X0_quotient M a b t = f_X0_quotient_26 M26 → V G X 4 0 0 (Qx G X 0 0 (p_X0_quotient M a b t)) 26 [] [] M26 := by
    intro M26 s26 E
    exact V.vret F (by decide +kernel) ⟨rfl, E.symm, s26⟩
  refine V.lc_le (off := 23) F (by decide +kernel) (tgt := 26) (by decide) (fun h3 => ?_) (fun h3 => ?_)
  · replace E := E.trans (if_pos h3)
    refine V.pick [] rfl ?_
    exact hJ26 M Sf.rf E
  · replace E := E.trans (if_neg h3)
    refine V.seg F floX0 cjoX0 [.aload_n 3, .aload_n 0, .getfield 51, .lload_n 1, .ldiv, .putfield 51, .aload_n 3, .aload_n 0, .getfield 126, .lload_n 1, .ldiv, .putfield 126] (by decide +kernel) (pc2 := 26) (lv2 := [(0, .ref a), (1, .long b), (3, .ref t)]) (st2 := []) (M2 := uL (uL M t 1 ((mL M a 1) / b)) t 2 ((mL (uL M t 1 ((mL M a 1) / b)) a 2) / b)) rfl ⟨trivial, trivial, o_a, trivial, (nle_ne h3), o_t, trivial, trivial, (o_a.sm (Sf.pL Sf.rf o_t.1).1), trivial, (nle_ne h3), (o_t.sm (Sf.pL Sf.rf o_t.1).1), trivial⟩ ?_
    refine V.pick [] rfl ?_
    exact hJ26 (uL (uL M t 1 ((mL M a 1) / b)) t 2 ((mL (uL M t 1 ((mL M a 1) / b)) a 2) / b)) (Sf.pL (Sf.pL Sf.rf o_t.1) o_t.1) E
def f_X0_remainder_148  (M148 : Mem) : Mem := M148
def f_X0_remainder_c99 (a : Nat) (b : Int64) (t : Nat) (M99 : Mem) : Mem := if (b &&& (b - 1)) = 0 then if (mL M99 a 1) < 0 then f_X0_remainder_148 M99 else f_X0_remainder_148 (uL (uL M99 t 3 ((mL M99 a 3) ||| ((b - 1) ^^^ ((-1))))) t 4 ((mL (uL M99 t 3 ((mL M99 a 3) ||| ((b - 1) ^^^ ((-1))))) a 4) &&& (b - 1))) else f_X0_remainder_148 M99
def f_X0_remainder_85 (a : Nat) (b : Int64) (t : Nat) (M25 : Mem) (w0_62 : Int64) (w0_85 : Int64) (M85 : Mem) : Mem := f_X0_remainder_c99 a b t (f_X1_limit M85 t w0_62 w0_85 (f_X6_oddPart (f_X6_commonDivisor (mL M25 a 5) b)) (f_X6_restBy (mL M85 a 6) (f_X6_oddPart (f_X6_commonDivisor (mL M25 a 5) b))))
def f_X0_remainder_62 (a : Nat) (b : Int64) (t : Nat) (M25 : Mem) (w0_62 : Int64) (M62 : Mem) : Mem := if 0 < (mL M62 a 2) then f_X0_remainder_85 a b t M25 w0_62 (jmin (mL M62 a 2) (b - 1)) M62 else f_X0_remainder_85 a b t M25 w0_62 0 M62
def f_X0_remainder_25 (a : Nat) (b : Int64) (t : Nat) (M25 : Mem) : Mem := if (mL M25 a 1) < 0 then f_X0_remainder_62 a b t M25 (jmax (mL M25 a 1) (1 - b)) M25 else f_X0_remainder_62 a b t M25 0 M25
def f_X0_remainder_c24  (M24 : Mem) : Mem := M24
def f_X0_remainder (M : Mem) (a : Nat) (b : Int64) (t : Nat) : Mem := if (mL M a 1) ≤ (-b) then f_X0_remainder_25 a b t M else if b ≤ (mL M a 2) then f_X0_remainder_25 a b t M else f_X0_remainder_c24 (f_X1_copy M t a)
abbrev p_X0_remainder (M : Mem) (a : Nat) (b : Int64) (t : Nat) : Option Value → Mem → Prop := fun r N => r = none ∧ N = f_X0_remainder M a b t ∧ Sf M N
set_option maxRecDepth 100000 in
set_option maxHeartbeats 4000000 in
theorem c_X0_remainder (G : Ctx) (l : Launch) (M : Mem) (a : Nat) (b : Int64) (t : Nat) (o_a : isO M a 1) (o_t : isO M t 1) : CT G l 2 mX0_remainder [.ref a, .long b, .ref t] M 0 0 (p_X0_remainder M a b t) := by
  refine CT.of (by decide) (Nat.le_of_ble_eq_true rfl) ?_
  intro X d hd hl hRm hnm F
  subst hl
  have E : f_X0_remainder M a b t = f_X0_remainder M a b t := rfl
  show V G X 8 0 0 (Qx G X 0 0 (p_X0_remainder M a b t)) 0 [(0, .ref a), (1, .long b), (3, .ref t)] [] M
  refine V.seg F floX0 cjoX0 [.lload_n 1, .lneg, .aload_n 0, .getfield 51, .lcmp] (by decide +kernel) (pc2 := 7) (lv2 := [(0, .ref a), (1, .long b), (3, .ref t)]) (st2 := [.int (lg_cmp (-b) (mL M a 1))]) (M2 := M) rfl ⟨trivial, trivial, trivial, o_a, trivial, trivial⟩ ?_
  have hJ25 : ∀ (M25 : Mem), (Sf M M25) → f_X0_remainder M a b t = f_X0_remainder_25 a b t M25 → V G X 8 0 0 (Qx G X 0 0 (p_X0_remainder M a b t)) 25 [(0, .ref a), (1, .long b), (3, .ref t)] [] M25 := by
    intro M25 s25 E
    refine V.seg F floX0 cjoX0 [.aload_n 0, .getfield 172, .lload_n 1] (by decide +kernel) (pc2 := 30) (lv2 := [(0, .ref a), (1, .long b), (3, .ref t)]) (st2 := [.long b, .long (mL M25 a 5)]) (M2 := M25) rfl ⟨trivial, (o_a.sm s25.1), trivial, trivial⟩ ?_
    refine V.callSN (as := [.long (mL M25 a 5), .long b]) (rest := []) F (by decide +kernel) lX0_133 bX6_commonDivisor (c_X6_commonDivisor G X.2.1 M25 (mL M25 a 5) b) (rm_ok hRm hd (by decide) (by decide)) ⟨Nat.zero_le _, Nat.zero_le _⟩ (Nat.le_of_ble_eq_true rfl) (fun r_ N_ p_ => ?_)
    obtain ⟨rfl, hN_⟩ := p_
    rw [hN_]
    clear hN_
    refine V.callSN (as := [.long (f_X6_commonDivisor (mL M25 a 5) b)]) (rest := []) F (by decide +kernel) lX0_137 bX6_oddPart (c_X6_oddPart G X.2.1 M25 (f_X6_commonDivisor (mL M25 a 5) b)) (rm_ok hRm hd (by decide) (by decide)) ⟨Nat.zero_le _, Nat.zero_le _⟩ (Nat.le_of_ble_eq_true rfl) (fun r_ N_ p_ => ?_)
    obtain ⟨rfl, hN_⟩ := p_
    rw [hN_]
    clear hN_
    refine V.seg F floX0 cjoX0 [.lstore 4, .aload_n 3, .aload_n 0, .getfield 51, .lconst 0, .lcmp] (by decide +kernel) (pc2 := 45) (lv2 := [(4, .long (f_X6_oddPart (f_X6_commonDivisor (mL M25 a 5) b))), (0, .ref a), (1, .long b), (3, .ref t)]) (st2 := [.int (lg_cmp (mL M25 a 1) 0), .ref t]) (M2 := M25) rfl ⟨(by decide), trivial, trivial, (o_a.sm s25.1), trivial, trivial, trivial⟩ ?_
    have hJ62 : ∀ (w0_62 : Int64) (M62 : Mem), (Sf M M62) → f_X0_remainder M a b t = f_X0_remainder_62 a b t M25 w0_62 M62 → V G X 8 0 0 (Qx G X 0 0 (p_X0_remainder M a b t)) 62 [(0, .ref a), (1, .long b), (3, .ref t), (4, .long (f_X6_oddPart (f_X6_commonDivisor (mL M25 a 5) b)))] [.long w0_62, .ref t] M62 := by
      intro w0_62 M62 s62 E
      refine V.seg F floX0 cjoX0 [.aload_n 0, .getfield 126, .lconst 0, .lcmp] (by decide +kernel) (pc2 := 68) (lv2 := [(0, .ref a), (1, .long b), (3, .ref t), (4, .long (f_X6_oddPart (f_X6_commonDivisor (mL M25 a 5) b)))]) (st2 := [.int (lg_cmp (mL M62 a 2) 0), .long w0_62, .ref t]) (M2 := M62) rfl ⟨trivial, (o_a.sm s62.1), trivial, trivial, trivial⟩ ?_
      have hJ85 : ∀ (w0_85 : Int64) (M85 : Mem), (Sf M M85) → f_X0_remainder M a b t = f_X0_remainder_85 a b t M25 w0_62 w0_85 M85 → V G X 8 0 0 (Qx G X 0 0 (p_X0_remainder M a b t)) 85 [(0, .ref a), (1, .long b), (3, .ref t), (4, .long (f_X6_oddPart (f_X6_commonDivisor (mL M25 a 5) b)))] [.long w0_85, .long w0_62, .ref t] M85 := by
        intro w0_85 M85 s85 E
        refine V.seg F floX0 cjoX0 [.lload 4, .aload_n 0, .getfield 178, .lload 4] (by decide +kernel) (pc2 := 93) (lv2 := [(0, .ref a), (1, .long b), (3, .ref t), (4, .long (f_X6_oddPart (f_X6_commonDivisor (mL M25 a 5) b)))]) (st2 := [.long (f_X6_oddPart (f_X6_commonDivisor (mL M25 a 5) b)), .long (mL M85 a 6), .long (f_X6_oddPart (f_X6_commonDivisor (mL M25 a 5) b)), .long w0_85, .long w0_62, .ref t]) (M2 := M85) rfl ⟨trivial, trivial, (o_a.sm s85.1), trivial, trivial⟩ ?_
        refine V.callSN (as := [.long (mL M85 a 6), .long (f_X6_oddPart (f_X6_commonDivisor (mL M25 a 5) b))]) (rest := [.long (f_X6_oddPart (f_X6_commonDivisor (mL M25 a 5) b)), .long w0_85, .long w0_62, .ref t]) F (by decide +kernel) lX0_144 bX6_restBy (c_X6_restBy G X.2.1 M85 (mL M85 a 6) (f_X6_oddPart (f_X6_commonDivisor (mL M25 a 5) b))) (rm_ok hRm hd (by decide) (by decide)) ⟨Nat.zero_le _, Nat.zero_le _⟩ (Nat.le_of_ble_eq_true rfl) (fun r_ N_ p_ => ?_)
        obtain ⟨rfl, hN_⟩ := p_
        rw [hN_]
        clear hN_
        refine V.callV (as := [.long w0_62, .long w0_85, .long (f_X6_oddPart (f_X6_commonDivisor (mL M25 a 5) b)), .long (f_X6_restBy (mL M85 a 6) (f_X6_oddPart (f_X6_commonDivisor (mL M25 a 5) b)))]) (rest := []) F (by decide +kernel) lX0_147 bX1_limit ⟨1, _, (o_t.sm s85.1), rfl, rfl⟩ (c_X1_limit G X.2.1 M85 t w0_62 w0_85 (f_X6_oddPart (f_X6_commonDivisor (mL M25 a 5) b)) (f_X6_restBy (mL M85 a 6) (f_X6_oddPart (f_X6_commonDivisor (mL M25 a 5) b))) (o_t.sm s85.1)) (rm_ok hRm hd (by decide) (by decide)) ⟨Nat.zero_le _, Nat.zero_le _⟩ (Nat.le_of_ble_eq_true rfl) (fun r_ N_ p_ => ?_)
        obtain ⟨rfl, rfl, t96⟩ := p_
        refine (?_ : ∀ (M99 : Mem), (Sf M M99) → f_X0_remainder M a b t = f_X0_remainder_c99 a b t M99 → V G X 8 0 0 (Qx G X 0 0 (p_X0_remainder M a b t)) 99 [(0, .ref a), (1, .long b), (3, .ref t), (4, .long (f_X6_oddPart (f_X6_commonDivisor (mL M25 a 5) b)))] [] M99) _ (Sf.tr s85 t96) E
        intro M99 s99 E
        refine V.seg F floX0 cjoX0 [.lload_n 1, .lconst 1, .lsub, .lstore 6, .lload_n 1, .lload 6, .land, .lconst 0, .lcmp] (by decide +kernel) (pc2 := 110) (lv2 := [(6, .long (b - 1)), (0, .ref a), (1, .long b), (3, .ref t), (4, .long (f_X6_oddPart (f_X6_commonDivisor (mL M25 a 5) b)))]) (st2 := [.int (lg_cmp (b &&& (b - 1)) 0)]) (M2 := M99) rfl ⟨trivial, trivial, trivial, (by decide), trivial, trivial, trivial, trivial, trivial, trivial⟩ ?_
        have hJ148 : ∀ (M148 : Mem), (Sf M M148) → f_X0_remainder M a b t = f_X0_remainder_148 M148 → V G X 8 0 0 (Qx G X 0 0 (p_X0_remainder M a b t)) 148 [] [] M148 := by
          intro M148 s148 E
          exact V.vret F (by decide +kernel) ⟨rfl, E.symm, s148⟩
        refine V.lc_ne (off := 38) F (by decide +kernel) (tgt := 148) (by decide) (fun h110 => ?_) (fun h110 => ?_)
        · replace E := E.trans (if_neg h110)
          refine V.pick [] rfl ?_
          exact hJ148 M99 s99 E
        · replace E := E.trans (if_pos h110)
          refine V.seg F floX0 cjoX0 [.aload_n 0, .getfield 51, .lconst 0, .lcmp] (by decide +kernel) (pc2 := 119) (lv2 := [(6, .long (b - 1)), (0, .ref a), (1, .long b), (3, .ref t), (4, .long (f_X6_oddPart (f_X6_commonDivisor (mL M25 a 5) b)))]) (st2 := [.int (lg_cmp (mL M99 a 1) 0)]) (M2 := M99) rfl ⟨trivial, (o_a.sm s99.1), trivial, trivial, trivial⟩ ?_
          refine V.lc_lt (off := 29) F (by decide +kernel) (tgt := 148) (by decide) (fun h119 => ?_) (fun h119 => ?_)
          · replace E := E.trans (if_pos h119)
            refine V.pick [] rfl ?_
            exact hJ148 M99 s99 E
          · replace E := E.trans (if_neg h119)
            refine V.seg F floX0 cjoX0 [.aload_n 3, .aload_n 0, .getfield 37, .lload 6, .ldc2_w 29, .lxor, .lor, .putfield 37, .aload_n 3, .aload_n 0, .getfield 115, .lload 6, .land, .putfield 115] (by decide +kernel) (pc2 := 148) (lv2 := [(6, .long (b - 1)), (0, .ref a), (1, .long b), (3, .ref t), (4, .long (f_X6_oddPart (f_X6_commonDivisor (mL M25 a 5) b)))]) (st2 := []) (M2 := uL (uL M99 t 3 ((mL M99 a 3) ||| ((b - 1) ^^^ ((-1))))) t 4 ((mL (uL M99 t 3 ((mL M99 a 3) ||| ((b - 1) ^^^ ((-1))))) a 4) &&& (b - 1))) rfl ⟨trivial, trivial, (o_a.sm s99.1), trivial, trivial, trivial, trivial, (o_t.sm s99.1), trivial, trivial, (o_a.sm (Sf.pL s99 o_t.1).1), trivial, trivial, (o_t.sm (Sf.pL s99 o_t.1).1), trivial⟩ ?_
            refine V.pick [] rfl ?_
            exact hJ148 (uL (uL M99 t 3 ((mL M99 a 3) ||| ((b - 1) ^^^ ((-1))))) t 4 ((mL (uL M99 t 3 ((mL M99 a 3) ||| ((b - 1) ^^^ ((-1))))) a 4) &&& (b - 1))) (Sf.pL (Sf.pL s99 o_t.1) o_t.1) E
      refine V.lc_gt (off := 7) F (by decide +kernel) (tgt := 75) (by decide) (fun h68 => ?_) (fun h68 => ?_)
      · replace E := E.trans (if_pos h68)
        refine V.seg F floX0 cjoX0 [.aload_n 0, .getfield 126, .lload_n 1, .lconst 1, .lsub] (by decide +kernel) (pc2 := 82) (lv2 := [(0, .ref a), (1, .long b), (3, .ref t), (4, .long (f_X6_oddPart (f_X6_commonDivisor (mL M25 a 5) b)))]) (st2 := [.long (b - 1), .long (mL M62 a 2), .long w0_62, .ref t]) (M2 := M62) rfl ⟨trivial, (o_a.sm s62.1), trivial, trivial, trivial, trivial⟩ ?_
        refine V.mminL (st := [.long w0_62, .ref t]) F (by decide +kernel) lX0_164 (rm_ok hRm hd (by decide) (by decide)) ⟨Nat.zero_le _, Nat.zero_le _⟩ (Nat.le_of_ble_eq_true rfl) ?_
        refine V.pick [0, 1, 2, 3] rfl ?_
        exact hJ85 (jmin (mL M62 a 2) (b - 1)) M62 s62 E
      · replace E := E.trans (if_neg h68)
        refine V.seg F floX0 cjoX0 [.lconst 0, .goto 13] (by decide +kernel) (pc2 := 85) (lv2 := [(0, .ref a), (1, .long b), (3, .ref t), (4, .long (f_X6_oddPart (f_X6_commonDivisor (mL M25 a 5) b)))]) (st2 := [.long 0, .long w0_62, .ref t]) (M2 := M62) rfl ⟨trivial, (by decide), trivial⟩ ?_
        refine V.pick [0, 1, 2, 3] rfl ?_
        exact hJ85 0 M62 s62 E
    refine V.lc_lt (off := 7) F (by decide +kernel) (tgt := 52) (by decide) (fun h45 => ?_) (fun h45 => ?_)
    · replace E := E.trans (if_pos h45)
      refine V.seg F floX0 cjoX0 [.aload_n 0, .getfield 51, .lconst 1, .lload_n 1, .lsub] (by decide +kernel) (pc2 := 59) (lv2 := [(4, .long (f_X6_oddPart (f_X6_commonDivisor (mL M25 a 5) b))), (0, .ref a), (1, .long b), (3, .ref t)]) (st2 := [.long (1 - b), .long (mL M25 a 1), .ref t]) (M2 := M25) rfl ⟨trivial, (o_a.sm s25.1), trivial, trivial, trivial, trivial⟩ ?_
      refine V.mmaxL (st := [.ref t]) F (by decide +kernel) lX0_169 (rm_ok hRm hd (by decide) (by decide)) ⟨Nat.zero_le _, Nat.zero_le _⟩ (Nat.le_of_ble_eq_true rfl) ?_
      refine V.pick [1, 2, 3, 0] rfl ?_
      exact hJ62 (jmax (mL M25 a 1) (1 - b)) M25 s25 E
    · replace E := E.trans (if_neg h45)
      refine V.seg F floX0 cjoX0 [.lconst 0, .goto 13] (by decide +kernel) (pc2 := 62) (lv2 := [(4, .long (f_X6_oddPart (f_X6_commonDivisor (mL M25 a 5) b))), (0, .ref a), (1, .long b), (3, .ref t)]) (st2 := [.long 0, .ref t]) (M2 := M25) rfl ⟨trivial, (by decide), trivial⟩ ?_
      refine V.pick [1, 2, 3, 0] rfl ?_
      exact hJ62 0 M25 s25 E
  refine V.lc_ge (off := 18) F (by decide +kernel) (tgt := 25) (by decide) (fun h7 => ?_) (fun h7 => ?_)
  · replace E := E.trans (if_pos h7)
    refine V.pick [0, 1, 2] rfl ?_
    exact hJ25 M Sf.rf E
  · replace E := E.trans (if_neg h7)
    refine V.seg F floX0 cjoX0 [.aload_n 0, .getfield 126, .lload_n 1, .lcmp] (by decide +kernel) (pc2 := 16) (lv2 := [(0, .ref a), (1, .long b), (3, .ref t)]) (st2 := [.int (lg_cmp (mL M a 2) b)]) (M2 := M) rfl ⟨trivial, o_a, trivial, trivial, trivial⟩ ?_
    refine V.lc_ge (off := 9) F (by decide +kernel) (tgt := 25) (by decide) (fun h16 => ?_) (fun h16 => ?_)
    · replace E := E.trans (if_pos h16)
      refine V.pick [0, 1, 2] rfl ?_
      exact hJ25 M Sf.rf E
    · replace E := E.trans (if_neg h16)
      refine V.seg F floX0 cjoX0 [.aload_n 3, .aload_n 0] (by decide +kernel) (pc2 := 21) (lv2 := [(0, .ref a), (1, .long b), (3, .ref t)]) (st2 := [.ref a, .ref t]) (M2 := M) rfl ⟨trivial, trivial, trivial⟩ ?_
      refine V.callV (as := [.ref a]) (rest := []) F (by decide +kernel) lX0_196 bX1_copy ⟨1, _, o_t, rfl, rfl⟩ (c_X1_copy G X.2.1 M t a o_t o_a) (rm_ok hRm hd (by decide) (by decide)) ⟨Nat.zero_le _, Nat.zero_le _⟩ (Nat.le_of_ble_eq_true rfl) (fun r_ N_ p_ => ?_)
      obtain ⟨rfl, rfl, t21⟩ := p_
      refine (?_ : ∀ (M24 : Mem), (Sf M M24) → f_X0_remainder M a b t = f_X0_remainder_c24 M24 → V G X 8 0 0 (Qx G X 0 0 (p_X0_remainder M a b t)) 24 [(0, .ref a), (1, .long b), (3, .ref t)] [] M24) _ t21 E
      intro M24 s24 E
      exact V.vret F (by decide +kernel) ⟨rfl, E.symm, s24⟩
def f_X0_turned_c56  (M56 : Mem) : Mem := M56
def f_X0_turned (M : Mem) (a : Nat) (t : Nat) : Mem := f_X0_turned_c56 (f_X1_become M t ((mL M a 2) ^^^ ((-1))) ((mL M a 1) ^^^ ((-1))) (mL M a 3) (((mL M a 4) ^^^ ((-1))) &&& (mL M a 3)) (mL M a 5) (f_X6_restBy (((-1)) - (mL M a 6)) (mL M a 5)))
abbrev p_X0_turned (M : Mem) (a : Nat) (t : Nat) : Option Value → Mem → Prop := fun r N => r = none ∧ N = f_X0_turned M a t ∧ Sf M N
set_option maxRecDepth 100000 in
set_option maxHeartbeats 4000000 in
theorem c_X0_turned (G : Ctx) (l : Launch) (M : Mem) (a : Nat) (t : Nat) (o_a : isO M a 1) (o_t : isO M t 1) : CT G l 1 mX0_turned [.ref a, .ref t] M 0 0 (p_X0_turned M a t) := by
  refine CT.of (by decide) (Nat.le_of_ble_eq_true rfl) ?_
  intro X d hd hl hRm hnm F
  subst hl
  have E : f_X0_turned M a t = f_X0_turned M a t := rfl
  show V G X 2 0 0 (Qx G X 0 0 (p_X0_turned M a t)) 0 [(0, .ref a), (1, .ref t)] [] M
  refine V.seg F floX0 cjoX0 [.aload_n 1, .aload_n 0, .getfield 126, .ldc2_w 29, .lxor, .aload_n 0, .getfield 51, .ldc2_w 29, .lxor, .aload_n 0, .getfield 37, .aload_n 0, .getfield 115, .ldc2_w 29, .lxor, .aload_n 0, .getfield 37, .land, .aload_n 0, .getfield 172, .ldc2_w 29, .aload_n 0, .getfield 178, .lsub, .aload_n 0, .getfield 172] (by decide +kernel) (pc2 := 50) (lv2 := [(0, .ref a), (1, .ref t)]) (st2 := [.long (mL M a 5), .long (((-1)) - (mL M a 6)), .long (mL M a 5), .long (((mL M a 4) ^^^ ((-1))) &&& (mL M a 3)), .long (mL M a 3), .long ((mL M a 1) ^^^ ((-1))), .long ((mL M a 2) ^^^ ((-1))), .ref t]) (M2 := M) rfl ⟨trivial, trivial, o_a, trivial, trivial, trivial, o_a, trivial, trivial, trivial, o_a, trivial, o_a, trivial, trivial, trivial, o_a, trivial, trivial, o_a, trivial, trivial, o_a, trivial, trivial, o_a, trivial⟩ ?_
  refine V.callSN (as := [.long (((-1)) - (mL M a 6)), .long (mL M a 5)]) (rest := [.long (mL M a 5), .long (((mL M a 4) ^^^ ((-1))) &&& (mL M a 3)), .long (mL M a 3), .long ((mL M a 1) ^^^ ((-1))), .long ((mL M a 2) ^^^ ((-1))), .ref t]) F (by decide +kernel) lX0_144 bX6_restBy (c_X6_restBy G X.2.1 M (((-1)) - (mL M a 6)) (mL M a 5)) (rm_ok hRm hd (by decide) (by decide)) ⟨Nat.zero_le _, Nat.zero_le _⟩ (Nat.le_of_ble_eq_true rfl) (fun r_ N_ p_ => ?_)
  obtain ⟨rfl, hN_⟩ := p_
  rw [hN_]
  clear hN_
  refine V.callV (as := [.long ((mL M a 2) ^^^ ((-1))), .long ((mL M a 1) ^^^ ((-1))), .long (mL M a 3), .long (((mL M a 4) ^^^ ((-1))) &&& (mL M a 3)), .long (mL M a 5), .long (f_X6_restBy (((-1)) - (mL M a 6)) (mL M a 5))]) (rest := []) F (by decide +kernel) lX0_204 bX1_become ⟨1, _, o_t, rfl, rfl⟩ (c_X1_become G X.2.1 M t ((mL M a 2) ^^^ ((-1))) ((mL M a 1) ^^^ ((-1))) (mL M a 3) (((mL M a 4) ^^^ ((-1))) &&& (mL M a 3)) (mL M a 5) (f_X6_restBy (((-1)) - (mL M a 6)) (mL M a 5)) o_t) (rm_ok hRm hd (by decide) (by decide)) ⟨Nat.zero_le _, Nat.zero_le _⟩ (Nat.le_of_ble_eq_true rfl) (fun r_ N_ p_ => ?_)
  obtain ⟨rfl, rfl, t53⟩ := p_
  refine (?_ : ∀ (M56 : Mem), (Sf M M56) → f_X0_turned M a t = f_X0_turned_c56 M56 → V G X 2 0 0 (Qx G X 0 0 (p_X0_turned M a t)) 56 [(0, .ref a), (1, .ref t)] [] M56) _ t53 E
  intro M56 s56 E
  exact V.vret F (by decide +kernel) ⟨rfl, E.symm, s56⟩
def f_X0_narrowed_172  (M172 : Mem) : Mem := M172
def f_X0_narrowed_c129 (op : Int32) (a : Nat) (t : Nat) (M129 : Mem) : Mem := f_X0_narrowed_172 (uL M129 t 4 (jshr (jshl (mL M129 a 4) (64 - (ishl 8 (irem (op - 14) 3)))) (64 - (ishl 8 (irem (op - 14) 3)))))
def f_X0_narrowed_92 (op : Int32) (a : Nat) (t : Nat) (w0_11 : Int32) (w0_39 : Int64) (w0_64 : Int64) (M92 : Mem) : Mem := if w0_11 = 0 then f_X0_narrowed_172 (uL (uL (uL (uL M92 t 1 w0_39) t 2 w0_64) t 3 ((mL (uL (uL M92 t 1 w0_39) t 2 w0_64) a 3) ||| (w0_64 ^^^ ((-1))))) t 4 ((mL (uL (uL (uL M92 t 1 w0_39) t 2 w0_64) t 3 ((mL (uL (uL M92 t 1 w0_39) t 2 w0_64) a 3) ||| (w0_64 ^^^ ((-1))))) a 4) &&& w0_64)) else f_X0_narrowed_c129 op a t (uL (uL (uL M92 t 1 w0_39) t 2 w0_64) t 3 (jshr (jshl (mL (uL (uL M92 t 1 w0_39) t 2 w0_64) a 3) (64 - (ishl 8 (irem (op - 14) 3)))) (64 - (ishl 8 (irem (op - 14) 3)))))
def f_X0_narrowed_c91  (M91 : Mem) : Mem := M91
def f_X0_narrowed_64 (op : Int32) (a : Nat) (t : Nat) (w0_11 : Int32) (w0_39 : Int64) (w0_64 : Int64) (M64 : Mem) : Mem := if (mL M64 a 1) < w0_39 then f_X0_narrowed_92 op a t w0_11 w0_39 w0_64 M64 else if w0_64 < (mL M64 a 2) then f_X0_narrowed_92 op a t w0_11 w0_39 w0_64 M64 else f_X0_narrowed_c91 (f_X1_copy M64 t a)
def f_X0_narrowed_39 (op : Int32) (a : Nat) (t : Nat) (w0_11 : Int32) (w0_39 : Int64) (M39 : Mem) : Mem := if w0_11 = 0 then f_X0_narrowed_64 op a t w0_11 w0_39 ((jshl ((-1)) (ishl 8 (irem (op - 14) 3))) ^^^ ((-1))) M39 else f_X0_narrowed_64 op a t w0_11 w0_39 (w0_39 ^^^ ((-1))) M39
def f_X0_narrowed_11 (op : Int32) (a : Nat) (t : Nat) (w0_11 : Int32) (M11 : Mem) : Mem := if w0_11 = 0 then f_X0_narrowed_39 op a t w0_11 0 M11 else f_X0_narrowed_39 op a t w0_11 (jshl ((-1)) ((ishl 8 (irem (op - 14) 3)) - 1)) M11
def f_X0_narrowed (M : Mem) (op : Int32) (a : Nat) (t : Nat) : Mem := if 16 < op then f_X0_narrowed_11 op a t 0 M else f_X0_narrowed_11 op a t 1 M
abbrev p_X0_narrowed (M : Mem) (op : Int32) (a : Nat) (t : Nat) : Option Value → Mem → Prop := fun r N => r = none ∧ N = f_X0_narrowed M op a t ∧ Sf M N
set_option maxRecDepth 100000 in
set_option maxHeartbeats 4000000 in
theorem c_X0_narrowed (G : Ctx) (l : Launch) (M : Mem) (op : Int32) (a : Nat) (t : Nat) (o_a : isO M a 1) (o_t : isO M t 1) : CT G l 1 mX0_narrowed [.int op, .ref a, .ref t] M 0 0 (p_X0_narrowed M op a t) := by
  refine CT.of (by decide) (Nat.le_of_ble_eq_true rfl) ?_
  intro X d hd hl hRm hnm F
  subst hl
  have E : f_X0_narrowed M op a t = f_X0_narrowed M op a t := rfl
  show V G X 10 0 0 (Qx G X 0 0 (p_X0_narrowed M op a t)) 0 [(0, .int op), (1, .ref a), (2, .ref t)] [] M
  refine V.seg F floX0 cjoX0 [.iload_n 0, .bipush 16] (by decide +kernel) (pc2 := 3) (lv2 := [(0, .int op), (1, .ref a), (2, .ref t)]) (st2 := [.int 16, .int op]) (M2 := M) rfl ⟨trivial, trivial, trivial⟩ ?_
  have hJ11 : ∀ (w0_11 : Int32) (M11 : Mem), (Sf M M11) → f_X0_narrowed M op a t = f_X0_narrowed_11 op a t w0_11 M11 → V G X 10 0 0 (Qx G X 0 0 (p_X0_narrowed M op a t)) 11 [(0, .int op), (1, .ref a), (2, .ref t)] [.int w0_11] M11 := by
    intro w0_11 M11 s11 E
    refine V.seg F floX0 cjoX0 [.istore_n 3, .bipush 8, .iload_n 0, .bipush 14, .isub, .iconst 3, .irem, .ishl, .istore 4, .iload_n 3] (by decide +kernel) (pc2 := 24) (lv2 := [(4, .int (ishl 8 (irem (op - 14) 3))), (3, .int w0_11), (0, .int op), (1, .ref a), (2, .ref t)]) (st2 := [.int w0_11]) (M2 := M11) rfl ⟨(by decide), trivial, trivial, trivial, trivial, trivial, (by decide), trivial, (by decide), trivial, trivial⟩ ?_
    have hJ39 : ∀ (w0_39 : Int64) (M39 : Mem), (Sf M M39) → f_X0_narrowed M op a t = f_X0_narrowed_39 op a t w0_11 w0_39 M39 → V G X 10 0 0 (Qx G X 0 0 (p_X0_narrowed M op a t)) 39 [(1, .ref a), (2, .ref t), (3, .int w0_11), (4, .int (ishl 8 (irem (op - 14) 3)))] [.long w0_39] M39 := by
      intro w0_39 M39 s39 E
      refine V.seg F floX0 cjoX0 [.lstore 5, .iload_n 3] (by decide +kernel) (pc2 := 42) (lv2 := [(5, .long w0_39), (1, .ref a), (2, .ref t), (3, .int w0_11), (4, .int (ishl 8 (irem (op - 14) 3)))]) (st2 := [.int w0_11]) (M2 := M39) rfl ⟨(by decide), trivial, trivial⟩ ?_
      have hJ64 : ∀ (w0_64 : Int64) (M64 : Mem), (Sf M M64) → f_X0_narrowed M op a t = f_X0_narrowed_64 op a t w0_11 w0_39 w0_64 M64 → V G X 10 0 0 (Qx G X 0 0 (p_X0_narrowed M op a t)) 64 [(1, .ref a), (2, .ref t), (3, .int w0_11), (4, .int (ishl 8 (irem (op - 14) 3))), (5, .long w0_39)] [.long w0_64] M64 := by
        intro w0_64 M64 s64 E
        refine V.seg F floX0 cjoX0 [.lstore 7, .aload_n 1, .getfield 51, .lload 5, .lcmp] (by decide +kernel) (pc2 := 73) (lv2 := [(7, .long w0_64), (1, .ref a), (2, .ref t), (3, .int w0_11), (4, .int (ishl 8 (irem (op - 14) 3))), (5, .long w0_39)]) (st2 := [.int (lg_cmp (mL M64 a 1) w0_39)]) (M2 := M64) rfl ⟨(by decide), trivial, (o_a.sm s64.1), trivial, trivial, trivial⟩ ?_
        have hJ92 : ∀ (M92 : Mem), (Sf M M92) → f_X0_narrowed M op a t = f_X0_narrowed_92 op a t w0_11 w0_39 w0_64 M92 → V G X 10 0 0 (Qx G X 0 0 (p_X0_narrowed M op a t)) 92 [(1, .ref a), (2, .ref t), (3, .int w0_11), (4, .int (ishl 8 (irem (op - 14) 3))), (5, .long w0_39), (7, .long w0_64)] [] M92 := by
          intro M92 s92 E
          refine V.seg F floX0 cjoX0 [.aload_n 2, .lload 5, .putfield 51, .aload_n 2, .lload 7, .putfield 126, .bipush 64, .iload 4, .isub, .istore 9, .iload_n 3] (by decide +kernel) (pc2 := 112) (lv2 := [(9, .int (64 - (ishl 8 (irem (op - 14) 3)))), (1, .ref a), (2, .ref t), (3, .int w0_11), (4, .int (ishl 8 (irem (op - 14) 3))), (5, .long w0_39), (7, .long w0_64)]) (st2 := [.int w0_11]) (M2 := uL (uL M92 t 1 w0_39) t 2 w0_64) rfl ⟨trivial, trivial, (o_t.sm s92.1), trivial, trivial, (o_t.sm (Sf.pL s92 o_t.1).1), trivial, trivial, trivial, (by decide), trivial, trivial⟩ ?_
          have hJ172 : ∀ (M172 : Mem), (Sf M M172) → f_X0_narrowed M op a t = f_X0_narrowed_172 M172 → V G X 10 0 0 (Qx G X 0 0 (p_X0_narrowed M op a t)) 172 [] [] M172 := by
            intro M172 s172 E
            exact V.vret F (by decide +kernel) ⟨rfl, E.symm, s172⟩
          refine V.if_eq (off := 34) F (by decide +kernel) (tgt := 146) (by decide) (fun h112 => ?_) (fun h112 => ?_)
          · replace E := E.trans (if_pos h112)
            refine V.seg F floX0 cjoX0 [.aload_n 2, .aload_n 1, .getfield 37, .lload 7, .ldc2_w 29, .lxor, .lor, .putfield 37, .aload_n 2, .aload_n 1, .getfield 115, .lload 7, .land, .putfield 115] (by decide +kernel) (pc2 := 172) (lv2 := [(9, .int (64 - (ishl 8 (irem (op - 14) 3)))), (1, .ref a), (2, .ref t), (3, .int w0_11), (4, .int (ishl 8 (irem (op - 14) 3))), (5, .long w0_39), (7, .long w0_64)]) (st2 := []) (M2 := uL (uL (uL (uL M92 t 1 w0_39) t 2 w0_64) t 3 ((mL (uL (uL M92 t 1 w0_39) t 2 w0_64) a 3) ||| (w0_64 ^^^ ((-1))))) t 4 ((mL (uL (uL (uL M92 t 1 w0_39) t 2 w0_64) t 3 ((mL (uL (uL M92 t 1 w0_39) t 2 w0_64) a 3) ||| (w0_64 ^^^ ((-1))))) a 4) &&& w0_64)) rfl ⟨trivial, trivial, (o_a.sm (Sf.pL (Sf.pL s92 o_t.1) o_t.1).1), trivial, trivial, trivial, trivial, (o_t.sm (Sf.pL (Sf.pL s92 o_t.1) o_t.1).1), trivial, trivial, (o_a.sm (Sf.pL (Sf.pL (Sf.pL s92 o_t.1) o_t.1) o_t.1).1), trivial, trivial, (o_t.sm (Sf.pL (Sf.pL (Sf.pL s92 o_t.1) o_t.1) o_t.1).1), trivial⟩ ?_
            refine V.pick [] rfl ?_
            exact hJ172 (uL (uL (uL (uL M92 t 1 w0_39) t 2 w0_64) t 3 ((mL (uL (uL M92 t 1 w0_39) t 2 w0_64) a 3) ||| (w0_64 ^^^ ((-1))))) t 4 ((mL (uL (uL (uL M92 t 1 w0_39) t 2 w0_64) t 3 ((mL (uL (uL M92 t 1 w0_39) t 2 w0_64) a 3) ||| (w0_64 ^^^ ((-1))))) a 4) &&& w0_64)) (Sf.pL (Sf.pL (Sf.pL (Sf.pL s92 o_t.1) o_t.1) o_t.1) o_t.1) E
          · replace E := E.trans (if_neg h112)
            refine V.seg F floX0 cjoX0 [.aload_n 2, .aload_n 1, .getfield 37, .iload 9, .lshl, .iload 9, .lshr, .putfield 37] (by decide +kernel) (pc2 := 129) (lv2 := [(9, .int (64 - (ishl 8 (irem (op - 14) 3)))), (1, .ref a), (2, .ref t), (3, .int w0_11), (4, .int (ishl 8 (irem (op - 14) 3))), (5, .long w0_39), (7, .long w0_64)]) (st2 := []) (M2 := uL (uL (uL M92 t 1 w0_39) t 2 w0_64) t 3 (jshr (jshl (mL (uL (uL M92 t 1 w0_39) t 2 w0_64) a 3) (64 - (ishl 8 (irem (op - 14) 3)))) (64 - (ishl 8 (irem (op - 14) 3))))) rfl ⟨trivial, trivial, (o_a.sm (Sf.pL (Sf.pL s92 o_t.1) o_t.1).1), trivial, trivial, trivial, trivial, (o_t.sm (Sf.pL (Sf.pL s92 o_t.1) o_t.1).1), trivial⟩ ?_
            refine (?_ : ∀ (M129 : Mem), (Sf M M129) → f_X0_narrowed M op a t = f_X0_narrowed_c129 op a t M129 → V G X 10 0 0 (Qx G X 0 0 (p_X0_narrowed M op a t)) 129 [(9, .int (64 - (ishl 8 (irem (op - 14) 3)))), (1, .ref a), (2, .ref t), (3, .int w0_11), (4, .int (ishl 8 (irem (op - 14) 3))), (5, .long w0_39), (7, .long w0_64)] [] M129) _ (Sf.pL (Sf.pL (Sf.pL s92 o_t.1) o_t.1) o_t.1) E
            intro M129 s129 E
            refine V.seg F floX0 cjoX0 [.aload_n 2, .aload_n 1, .getfield 115, .iload 9, .lshl, .iload 9, .lshr, .putfield 115, .goto 29] (by decide +kernel) (pc2 := 172) (lv2 := [(9, .int (64 - (ishl 8 (irem (op - 14) 3)))), (1, .ref a), (2, .ref t), (3, .int w0_11), (4, .int (ishl 8 (irem (op - 14) 3))), (5, .long w0_39), (7, .long w0_64)]) (st2 := []) (M2 := uL M129 t 4 (jshr (jshl (mL M129 a 4) (64 - (ishl 8 (irem (op - 14) 3)))) (64 - (ishl 8 (irem (op - 14) 3))))) rfl ⟨trivial, trivial, (o_a.sm s129.1), trivial, trivial, trivial, trivial, (o_t.sm s129.1), (by decide), trivial⟩ ?_
            refine V.pick [] rfl ?_
            exact hJ172 (uL M129 t 4 (jshr (jshl (mL M129 a 4) (64 - (ishl 8 (irem (op - 14) 3)))) (64 - (ishl 8 (irem (op - 14) 3))))) (Sf.pL s129 o_t.1) E
        refine V.lc_lt (off := 19) F (by decide +kernel) (tgt := 92) (by decide) (fun h73 => ?_) (fun h73 => ?_)
        · replace E := E.trans (if_pos h73)
          refine V.pick [1, 2, 3, 4, 5, 0] rfl ?_
          exact hJ92 M64 s64 E
        · replace E := E.trans (if_neg h73)
          refine V.seg F floX0 cjoX0 [.aload_n 1, .getfield 126, .lload 7, .lcmp] (by decide +kernel) (pc2 := 83) (lv2 := [(7, .long w0_64), (1, .ref a), (2, .ref t), (3, .int w0_11), (4, .int (ishl 8 (irem (op - 14) 3))), (5, .long w0_39)]) (st2 := [.int (lg_cmp (mL M64 a 2) w0_64)]) (M2 := M64) rfl ⟨trivial, (o_a.sm s64.1), trivial, trivial, trivial⟩ ?_
          refine V.lc_gt (off := 9) F (by decide +kernel) (tgt := 92) (by decide) (fun h83 => ?_) (fun h83 => ?_)
          · replace E := E.trans (if_pos h83)
            refine V.pick [1, 2, 3, 4, 5, 0] rfl ?_
            exact hJ92 M64 s64 E
          · replace E := E.trans (if_neg h83)
            refine V.seg F floX0 cjoX0 [.aload_n 2, .aload_n 1] (by decide +kernel) (pc2 := 88) (lv2 := [(7, .long w0_64), (1, .ref a), (2, .ref t), (3, .int w0_11), (4, .int (ishl 8 (irem (op - 14) 3))), (5, .long w0_39)]) (st2 := [.ref a, .ref t]) (M2 := M64) rfl ⟨trivial, trivial, trivial⟩ ?_
            refine V.callV (as := [.ref a]) (rest := []) F (by decide +kernel) lX0_196 bX1_copy ⟨1, _, (o_t.sm s64.1), rfl, rfl⟩ (c_X1_copy G X.2.1 M64 t a (o_t.sm s64.1) (o_a.sm s64.1)) (rm_ok hRm hd (by decide) (by decide)) ⟨Nat.zero_le _, Nat.zero_le _⟩ (Nat.le_of_ble_eq_true rfl) (fun r_ N_ p_ => ?_)
            obtain ⟨rfl, rfl, t88⟩ := p_
            refine (?_ : ∀ (M91 : Mem), (Sf M M91) → f_X0_narrowed M op a t = f_X0_narrowed_c91 M91 → V G X 10 0 0 (Qx G X 0 0 (p_X0_narrowed M op a t)) 91 [(7, .long w0_64), (1, .ref a), (2, .ref t), (3, .int w0_11), (4, .int (ishl 8 (irem (op - 14) 3))), (5, .long w0_39)] [] M91) _ (Sf.tr s64 t88) E
            intro M91 s91 E
            exact V.vret F (by decide +kernel) ⟨rfl, E.symm, s91⟩
      refine V.if_eq (off := 12) F (by decide +kernel) (tgt := 54) (by decide) (fun h42 => ?_) (fun h42 => ?_)
      · replace E := E.trans (if_pos h42)
        refine V.seg F floX0 cjoX0 [.ldc2_w 29, .iload 4, .lshl, .ldc2_w 29, .lxor] (by decide +kernel) (pc2 := 64) (lv2 := [(5, .long w0_39), (1, .ref a), (2, .ref t), (3, .int w0_11), (4, .int (ishl 8 (irem (op - 14) 3)))]) (st2 := [.long ((jshl ((-1)) (ishl 8 (irem (op - 14) 3))) ^^^ ((-1)))]) (M2 := M39) rfl ⟨trivial, trivial, trivial, trivial, trivial, trivial⟩ ?_
        refine V.pick [1, 2, 3, 4, 0] rfl ?_
        exact hJ64 ((jshl ((-1)) (ishl 8 (irem (op - 14) 3))) ^^^ ((-1))) M39 s39 E
      · replace E := E.trans (if_neg h42)
        refine V.seg F floX0 cjoX0 [.lload 5, .ldc2_w 29, .lxor, .goto 13] (by decide +kernel) (pc2 := 64) (lv2 := [(5, .long w0_39), (1, .ref a), (2, .ref t), (3, .int w0_11), (4, .int (ishl 8 (irem (op - 14) 3)))]) (st2 := [.long (w0_39 ^^^ ((-1)))]) (M2 := M39) rfl ⟨trivial, trivial, trivial, (by decide), trivial⟩ ?_
        refine V.pick [1, 2, 3, 4, 0] rfl ?_
        exact hJ64 (w0_39 ^^^ ((-1))) M39 s39 E
    refine V.if_eq (off := 14) F (by decide +kernel) (tgt := 38) (by decide) (fun h24 => ?_) (fun h24 => ?_)
    · replace E := E.trans (if_pos h24)
      refine V.seg F floX0 cjoX0 [.lconst 0] (by decide +kernel) (pc2 := 39) (lv2 := [(4, .int (ishl 8 (irem (op - 14) 3))), (3, .int w0_11), (0, .int op), (1, .ref a), (2, .ref t)]) (st2 := [.long 0]) (M2 := M11) rfl ⟨trivial, trivial⟩ ?_
      refine V.pick [3, 4, 1, 0] rfl ?_
      exact hJ39 0 M11 s11 E
    · replace E := E.trans (if_neg h24)
      refine V.seg F floX0 cjoX0 [.ldc2_w 29, .iload 4, .iconst 1, .isub, .lshl, .goto 4] (by decide +kernel) (pc2 := 39) (lv2 := [(4, .int (ishl 8 (irem (op - 14) 3))), (3, .int w0_11), (0, .int op), (1, .ref a), (2, .ref t)]) (st2 := [.long (jshl ((-1)) ((ishl 8 (irem (op - 14) 3)) - 1))]) (M2 := M11) rfl ⟨trivial, trivial, trivial, trivial, trivial, (by decide), trivial⟩ ?_
      refine V.pick [3, 4, 1, 0] rfl ?_
      exact hJ39 (jshl ((-1)) ((ishl 8 (irem (op - 14) 3)) - 1)) M11 s11 E
  refine V.ic_gt (off := 7) F (by decide +kernel) (tgt := 10) (by decide) (fun h3 => ?_) (fun h3 => ?_)
  · replace E := E.trans (if_pos h3)
    refine V.seg F floX0 cjoX0 [.iconst 0] (by decide +kernel) (pc2 := 11) (lv2 := [(0, .int op), (1, .ref a), (2, .ref t)]) (st2 := [.int 0]) (M2 := M) rfl ⟨trivial, trivial⟩ ?_
    refine V.pick [0, 1, 2] rfl ?_
    exact hJ11 0 M Sf.rf E
  · replace E := E.trans (if_neg h3)
    refine V.seg F floX0 cjoX0 [.iconst 1, .goto 4] (by decide +kernel) (pc2 := 11) (lv2 := [(0, .int op), (1, .ref a), (2, .ref t)]) (st2 := [.int 1]) (M2 := M) rfl ⟨trivial, (by decide), trivial⟩ ?_
    refine V.pick [0, 1, 2] rfl ?_
    exact hJ11 1 M Sf.rf E
def f_X0_moveLeft_141  (M141 : Mem) : Mem := M141
def f_X0_moveLeft_c141  (M141 : Mem) : Mem := f_X0_moveLeft_141 M141
def f_X0_moveLeft_c125 (a0 : Nat) (a : Nat) (c : Int32) (x39 : Int64) (M39 : Mem) (x125 : Int64) : Mem := f_X0_moveLeft_c141 (f_X1_limit M39 (a0 + 2) x39 (jshl (mL M39 a 2) c) (mL M39 a 5) x125)
def f_X0_moveLeft_c100 (a0 : Nat) (a : Nat) (c : Int32) (x39 : Int64) (M39 : Mem) (x100 : Int64) : Mem := f_X0_moveLeft_c125 a0 a c x39 M39 (f_X6_restBy (x100 * (f_X6_restBy (jshl 1 (c - (c / 2))) (mL M39 a 5))) (mL M39 a 5))
def f_X0_moveLeft_c39 (a0 : Nat) (a : Nat) (c : Int32) (x39 : Int64) (M39 : Mem) : Mem := if (jshr x39 c) = (mL M39 a 1) then if (jshr (jshl (mL M39 a 2) c) c) = (mL M39 a 2) then f_X0_moveLeft_c100 a0 a c x39 M39 (f_X6_restBy ((mL M39 a 6) * (f_X6_restBy (jshl 1 (c / 2)) (mL M39 a 5))) (mL M39 a 5)) else f_X0_moveLeft_141 M39 else f_X0_moveLeft_141 M39
def f_X0_moveLeft (M : Mem) (a0 : Nat) (a : Nat) (c : Int32) : Mem := f_X0_moveLeft_c39 a0 a c (jshl (mL (uL (uL M (a0 + 2) 3 ((jshl (mL M a 3) c) ||| ((jshl 1 c) - 1))) (a0 + 2) 4 (jshl (mL (uL M (a0 + 2) 3 ((jshl (mL M a 3) c) ||| ((jshl 1 c) - 1))) a 4) c)) a 1) c) (uL (uL M (a0 + 2) 3 ((jshl (mL M a 3) c) ||| ((jshl 1 c) - 1))) (a0 + 2) 4 (jshl (mL (uL M (a0 + 2) 3 ((jshl (mL M a 3) c) ||| ((jshl 1 c) - 1))) a 4) c))
abbrev p_X0_moveLeft (M : Mem) (a0 : Nat) (a : Nat) (c : Int32) : Option Value → Mem → Prop := fun r N => r = none ∧ N = f_X0_moveLeft M a0 a c ∧ Sf M N
set_option maxRecDepth 100000 in
set_option maxHeartbeats 4000000 in
theorem c_X0_moveLeft (G : Ctx) (l : Launch) (M : Mem) (a0 : Nat) (a : Nat) (c : Int32) (q : Ok M) (ha : a0 = 11 ∨ a0 = 15) (o_a : isO M a 1) : CT G l 1 mX0_moveLeft [.ref a0, .ref a, .int c] M 0 0 (p_X0_moveLeft M a0 a c) := by
  refine CT.of (by decide) (Nat.le_of_ble_eq_true rfl) ?_
  intro X d hd hl hRm hnm F
  subst hl
  have E : f_X0_moveLeft M a0 a c = f_X0_moveLeft M a0 a c := rfl
  show V G X 12 0 0 (Qx G X 0 0 (p_X0_moveLeft M a0 a c)) 0 [(0, .ref a0), (1, .ref a), (2, .int c)] [] M
  refine V.seg F floX0 cjoX0 [.aload_n 0, .getfield 18, .aload_n 1, .getfield 37, .iload_n 2, .lshl, .lconst 1, .iload_n 2, .lshl, .lconst 1, .lsub, .lor, .putfield 37, .aload_n 0, .getfield 18, .aload_n 1, .getfield 115, .iload_n 2, .lshl, .putfield 115, .aload_n 1, .getfield 51, .iload_n 2, .lshl, .lstore_n 3] (by decide +kernel) (pc2 := 39) (lv2 := [(3, .long (jshl (mL (uL (uL M (a0 + 2) 3 ((jshl (mL M a 3) c) ||| ((jshl 1 c) - 1))) (a0 + 2) 4 (jshl (mL (uL M (a0 + 2) 3 ((jshl (mL M a 3) c) ||| ((jshl 1 c) - 1))) a 4) c)) a 1) c)), (0, .ref a0), (1, .ref a), (2, .int c)]) (st2 := []) (M2 := uL (uL M (a0 + 2) 3 ((jshl (mL M a 3) c) ||| ((jshl 1 c) - 1))) (a0 + 2) 4 (jshl (mL (uL M (a0 + 2) 3 ((jshl (mL M a 3) c) ||| ((jshl 1 c) - 1))) a 4) c)) rfl ⟨trivial, (Ac.f q ha 1 (by decide)), trivial, o_a, trivial, trivial, trivial, trivial, trivial, trivial, trivial, trivial, (Ac.m q ha), trivial, (Ac.f (q.sm (Sf.pL Sf.rf (Ac.m q ha).1).1) ha 1 (by decide)), trivial, (o_a.sm (Sf.pL Sf.rf (Ac.m q ha).1).1), trivial, trivial, ((Ac.m q ha).sm (Sf.pL Sf.rf (Ac.m q ha).1).1), trivial, (o_a.sm (Sf.pL (Sf.pL Sf.rf (Ac.m q ha).1) (Ac.m q ha).1).1), trivial, trivial, (by decide), trivial⟩ ?_
  refine (?_ : ∀ (x39 : Int64) (M39 : Mem), (Sf M M39) → f_X0_moveLeft M a0 a c = f_X0_moveLeft_c39 a0 a c x39 M39 → V G X 12 0 0 (Qx G X 0 0 (p_X0_moveLeft M a0 a c)) 39 [(3, .long x39), (0, .ref a0), (1, .ref a), (2, .int c)] [] M39) _ _ (Sf.pL (Sf.pL Sf.rf (Ac.m q ha).1) (Ac.m q ha).1) E
  intro x39 M39 s39 E
  refine V.seg F floX0 cjoX0 [.aload_n 1, .getfield 126, .iload_n 2, .lshl, .lstore 5, .lload_n 3, .iload_n 2, .lshr, .aload_n 1, .getfield 51, .lcmp] (by decide +kernel) (pc2 := 55) (lv2 := [(5, .long (jshl (mL M39 a 2) c)), (3, .long x39), (0, .ref a0), (1, .ref a), (2, .int c)]) (st2 := [.int (lg_cmp (jshr x39 c) (mL M39 a 1))]) (M2 := M39) rfl ⟨trivial, (o_a.sm s39.1), trivial, trivial, (by decide), trivial, trivial, trivial, trivial, (o_a.sm s39.1), trivial, trivial⟩ ?_
  have hJ141 : ∀ (M141 : Mem), (Sf M M141) → f_X0_moveLeft M a0 a c = f_X0_moveLeft_141 M141 → V G X 12 0 0 (Qx G X 0 0 (p_X0_moveLeft M a0 a c)) 141 [] [] M141 := by
    intro M141 s141 E
    exact V.vret F (by decide +kernel) ⟨rfl, E.symm, s141⟩
  refine V.lc_ne (off := 86) F (by decide +kernel) (tgt := 141) (by decide) (fun h55 => ?_) (fun h55 => ?_)
  · replace E := E.trans (if_neg h55)
    refine V.pick [] rfl ?_
    exact hJ141 M39 s39 E
  · replace E := E.trans (if_pos h55)
    refine V.seg F floX0 cjoX0 [.lload 5, .iload_n 2, .lshr, .aload_n 1, .getfield 126, .lcmp] (by decide +kernel) (pc2 := 67) (lv2 := [(5, .long (jshl (mL M39 a 2) c)), (3, .long x39), (0, .ref a0), (1, .ref a), (2, .int c)]) (st2 := [.int (lg_cmp (jshr (jshl (mL M39 a 2) c) c) (mL M39 a 2))]) (M2 := M39) rfl ⟨trivial, trivial, trivial, trivial, (o_a.sm s39.1), trivial, trivial⟩ ?_
    refine V.lc_ne (off := 74) F (by decide +kernel) (tgt := 141) (by decide) (fun h67 => ?_) (fun h67 => ?_)
    · replace E := E.trans (if_neg h67)
      refine V.pick [] rfl ?_
      exact hJ141 M39 s39 E
    · replace E := E.trans (if_pos h67)
      refine V.seg F floX0 cjoX0 [.iload_n 2, .iconst 2, .idiv, .istore 7, .aload_n 1, .getfield 178, .lconst 1, .iload 7, .lshl, .aload_n 1, .getfield 172] (by decide +kernel) (pc2 := 87) (lv2 := [(7, .int (c / 2)), (5, .long (jshl (mL M39 a 2) c)), (3, .long x39), (0, .ref a0), (1, .ref a), (2, .int c)]) (st2 := [.long (mL M39 a 5), .long (jshl 1 (c / 2)), .long (mL M39 a 6)]) (M2 := M39) rfl ⟨trivial, trivial, (by decide), (by decide), trivial, (o_a.sm s39.1), trivial, trivial, trivial, trivial, (o_a.sm s39.1), trivial⟩ ?_
      refine V.callSN (as := [.long (jshl 1 (c / 2)), .long (mL M39 a 5)]) (rest := [.long (mL M39 a 6)]) F (by decide +kernel) lX0_144 bX6_restBy (c_X6_restBy G X.2.1 M39 (jshl 1 (c / 2)) (mL M39 a 5)) (rm_ok hRm hd (by decide) (by decide)) ⟨Nat.zero_le _, Nat.zero_le _⟩ (Nat.le_of_ble_eq_true rfl) (fun r_ N_ p_ => ?_)
      obtain ⟨rfl, hN_⟩ := p_
      rw [hN_]
      clear hN_
      refine V.seg F floX0 cjoX0 [.lmul, .aload_n 1, .getfield 172] (by decide +kernel) (pc2 := 95) (lv2 := [(7, .int (c / 2)), (5, .long (jshl (mL M39 a 2) c)), (3, .long x39), (0, .ref a0), (1, .ref a), (2, .int c)]) (st2 := [.long (mL M39 a 5), .long ((mL M39 a 6) * (f_X6_restBy (jshl 1 (c / 2)) (mL M39 a 5)))]) (M2 := M39) rfl ⟨trivial, trivial, (o_a.sm s39.1), trivial⟩ ?_
      refine V.callSN (as := [.long ((mL M39 a 6) * (f_X6_restBy (jshl 1 (c / 2)) (mL M39 a 5))), .long (mL M39 a 5)]) (rest := []) F (by decide +kernel) lX0_144 bX6_restBy (c_X6_restBy G X.2.1 M39 ((mL M39 a 6) * (f_X6_restBy (jshl 1 (c / 2)) (mL M39 a 5))) (mL M39 a 5)) (rm_ok hRm hd (by decide) (by decide)) ⟨Nat.zero_le _, Nat.zero_le _⟩ (Nat.le_of_ble_eq_true rfl) (fun r_ N_ p_ => ?_)
      obtain ⟨rfl, hN_⟩ := p_
      rw [hN_]
      clear hN_
      refine V.seg F floX0 cjoX0 [.lstore 8] (by decide +kernel) (pc2 := 100) (lv2 := [(8, .long (f_X6_restBy ((mL M39 a 6) * (f_X6_restBy (jshl 1 (c / 2)) (mL M39 a 5))) (mL M39 a 5))), (7, .int (c / 2)), (5, .long (jshl (mL M39 a 2) c)), (3, .long x39), (0, .ref a0), (1, .ref a), (2, .int c)]) (st2 := []) (M2 := M39) rfl ⟨(by decide), trivial⟩ ?_
      refine (?_ : ∀ (x100 : Int64), f_X0_moveLeft M a0 a c = f_X0_moveLeft_c100 a0 a c x39 M39 x100 → V G X 12 0 0 (Qx G X 0 0 (p_X0_moveLeft M a0 a c)) 100 [(8, .long x100), (7, .int (c / 2)), (5, .long (jshl (mL M39 a 2) c)), (3, .long x39), (0, .ref a0), (1, .ref a), (2, .int c)] [] M39) _  E
      intro x100 E
      refine V.seg F floX0 cjoX0 [.lload 8, .lconst 1, .iload_n 2, .iload 7, .isub, .lshl, .aload_n 1, .getfield 172] (by decide +kernel) (pc2 := 112) (lv2 := [(8, .long x100), (7, .int (c / 2)), (5, .long (jshl (mL M39 a 2) c)), (3, .long x39), (0, .ref a0), (1, .ref a), (2, .int c)]) (st2 := [.long (mL M39 a 5), .long (jshl 1 (c - (c / 2))), .long x100]) (M2 := M39) rfl ⟨trivial, trivial, trivial, trivial, trivial, trivial, trivial, (o_a.sm s39.1), trivial⟩ ?_
      refine V.callSN (as := [.long (jshl 1 (c - (c / 2))), .long (mL M39 a 5)]) (rest := [.long x100]) F (by decide +kernel) lX0_144 bX6_restBy (c_X6_restBy G X.2.1 M39 (jshl 1 (c - (c / 2))) (mL M39 a 5)) (rm_ok hRm hd (by decide) (by decide)) ⟨Nat.zero_le _, Nat.zero_le _⟩ (Nat.le_of_ble_eq_true rfl) (fun r_ N_ p_ => ?_)
      obtain ⟨rfl, hN_⟩ := p_
      rw [hN_]
      clear hN_
      refine V.seg F floX0 cjoX0 [.lmul, .aload_n 1, .getfield 172] (by decide +kernel) (pc2 := 120) (lv2 := [(8, .long x100), (7, .int (c / 2)), (5, .long (jshl (mL M39 a 2) c)), (3, .long x39), (0, .ref a0), (1, .ref a), (2, .int c)]) (st2 := [.long (mL M39 a 5), .long (x100 * (f_X6_restBy (jshl 1 (c - (c / 2))) (mL M39 a 5)))]) (M2 := M39) rfl ⟨trivial, trivial, (o_a.sm s39.1), trivial⟩ ?_
      refine V.callSN (as := [.long (x100 * (f_X6_restBy (jshl 1 (c - (c / 2))) (mL M39 a 5))), .long (mL M39 a 5)]) (rest := []) F (by decide +kernel) lX0_144 bX6_restBy (c_X6_restBy G X.2.1 M39 (x100 * (f_X6_restBy (jshl 1 (c - (c / 2))) (mL M39 a 5))) (mL M39 a 5)) (rm_ok hRm hd (by decide) (by decide)) ⟨Nat.zero_le _, Nat.zero_le _⟩ (Nat.le_of_ble_eq_true rfl) (fun r_ N_ p_ => ?_)
      obtain ⟨rfl, hN_⟩ := p_
      rw [hN_]
      clear hN_
      refine V.seg F floX0 cjoX0 [.lstore 10] (by decide +kernel) (pc2 := 125) (lv2 := [(10, .long (f_X6_restBy (x100 * (f_X6_restBy (jshl 1 (c - (c / 2))) (mL M39 a 5))) (mL M39 a 5))), (8, .long x100), (7, .int (c / 2)), (5, .long (jshl (mL M39 a 2) c)), (3, .long x39), (0, .ref a0), (1, .ref a), (2, .int c)]) (st2 := []) (M2 := M39) rfl ⟨(by decide), trivial⟩ ?_
      refine (?_ : ∀ (x125 : Int64), f_X0_moveLeft M a0 a c = f_X0_moveLeft_c125 a0 a c x39 M39 x125 → V G X 12 0 0 (Qx G X 0 0 (p_X0_moveLeft M a0 a c)) 125 [(10, .long x125), (8, .long x100), (7, .int (c / 2)), (5, .long (jshl (mL M39 a 2) c)), (3, .long x39), (0, .ref a0), (1, .ref a), (2, .int c)] [] M39) _  E
      intro x125 E
      refine V.seg F floX0 cjoX0 [.aload_n 0, .getfield 18, .lload_n 3, .lload 5, .aload_n 1, .getfield 172, .lload 10] (by decide +kernel) (pc2 := 138) (lv2 := [(10, .long x125), (8, .long x100), (7, .int (c / 2)), (5, .long (jshl (mL M39 a 2) c)), (3, .long x39), (0, .ref a0), (1, .ref a), (2, .int c)]) (st2 := [.long x125, .long (mL M39 a 5), .long (jshl (mL M39 a 2) c), .long x39, .ref (a0 + 2)]) (M2 := M39) rfl ⟨trivial, (Ac.f (q.sm s39.1) ha 1 (by decide)), trivial, trivial, trivial, (o_a.sm s39.1), trivial, trivial⟩ ?_
      refine V.callV (as := [.long x39, .long (jshl (mL M39 a 2) c), .long (mL M39 a 5), .long x125]) (rest := []) F (by decide +kernel) lX0_147 bX1_limit ⟨1, _, ((Ac.m q ha).sm s39.1), rfl, rfl⟩ (c_X1_limit G X.2.1 M39 (a0 + 2) x39 (jshl (mL M39 a 2) c) (mL M39 a 5) x125 ((Ac.m q ha).sm s39.1)) (rm_ok hRm hd (by decide) (by decide)) ⟨Nat.zero_le _, Nat.zero_le _⟩ (Nat.le_of_ble_eq_true rfl) (fun r_ N_ p_ => ?_)
      obtain ⟨rfl, rfl, t138⟩ := p_
      refine (?_ : ∀ (M141 : Mem), (Sf M M141) → f_X0_moveLeft M a0 a c = f_X0_moveLeft_c141 M141 → V G X 12 0 0 (Qx G X 0 0 (p_X0_moveLeft M a0 a c)) 141 [(10, .long x125), (8, .long x100), (7, .int (c / 2)), (5, .long (jshl (mL M39 a 2) c)), (3, .long x39), (0, .ref a0), (1, .ref a), (2, .int c)] [] M141) _ (Sf.tr s39 t138) E
      intro M141 s141 E
      refine V.pick [] rfl ?_
      exact hJ141 M141 s141 E
def f_X0_moveRightZeros_c104  (M104 : Mem) : Mem := M104
def f_X0_moveRightZeros_63 (a0 : Nat) (a : Nat) (c : Int32) (w0_63 : Int64) (M63 : Mem) : Mem := f_X0_moveRightZeros_c104 (uL (uL (uL M63 (a0 + 2) 2 (jushr w0_63 c)) (a0 + 2) 3 ((jushr (mL (uL M63 (a0 + 2) 2 (jushr w0_63 c)) a 3) c) ||| ((jushr ((-1)) c) ^^^ ((-1))))) (a0 + 2) 4 (jushr (mL (uL (uL M63 (a0 + 2) 2 (jushr w0_63 c)) (a0 + 2) 3 ((jushr (mL (uL M63 (a0 + 2) 2 (jushr w0_63 c)) a 3) c) ||| ((jushr ((-1)) c) ^^^ ((-1))))) a 4) c))
def f_X0_moveRightZeros_42 (a0 : Nat) (a : Nat) (c : Int32) (w0_23 : Int32) (w0_42 : Int64) (M42 : Mem) : Mem := if w0_23 = 0 then f_X0_moveRightZeros_63 a0 a c ((-1)) (uL M42 (a0 + 2) 1 w0_42) else f_X0_moveRightZeros_63 a0 a c (mL (uL M42 (a0 + 2) 1 w0_42) a 2) (uL M42 (a0 + 2) 1 w0_42)
def f_X0_moveRightZeros_23 (a0 : Nat) (a : Nat) (c : Int32) (w0_23 : Int32) (M23 : Mem) : Mem := if w0_23 = 0 then f_X0_moveRightZeros_42 a0 a c w0_23 0 M23 else f_X0_moveRightZeros_42 a0 a c w0_23 (jushr (mL M23 a 1) c) M23
def f_X0_moveRightZeros_18 (a0 : Nat) (a : Nat) (c : Int32) (M18 : Mem) : Mem := f_X0_moveRightZeros_23 a0 a c 1 M18
def f_X0_moveRightZeros (M : Mem) (a0 : Nat) (a : Nat) (c : Int32) : Mem := if 0 ≤ (mL M a 1) then f_X0_moveRightZeros_18 a0 a c M else if 0 ≤ (mL M a 2) then f_X0_moveRightZeros_23 a0 a c 0 M else f_X0_moveRightZeros_18 a0 a c M
abbrev p_X0_moveRightZeros (M : Mem) (a0 : Nat) (a : Nat) (c : Int32) : Option Value → Mem → Prop := fun r N => r = none ∧ N = f_X0_moveRightZeros M a0 a c ∧ Sf M N
set_option maxRecDepth 100000 in
set_option maxHeartbeats 4000000 in
theorem c_X0_moveRightZeros (G : Ctx) (l : Launch) (M : Mem) (a0 : Nat) (a : Nat) (c : Int32) (q : Ok M) (ha : a0 = 11 ∨ a0 = 15) (o_a : isO M a 1) : CT G l 0 mX0_moveRightZeros [.ref a0, .ref a, .int c] M 0 0 (p_X0_moveRightZeros M a0 a c) := by
  refine CT.of (by decide) (Nat.le_of_ble_eq_true rfl) ?_
  intro X d hd hl hRm hnm F
  subst hl
  have E : f_X0_moveRightZeros M a0 a c = f_X0_moveRightZeros M a0 a c := rfl
  show V G X 4 0 0 (Qx G X 0 0 (p_X0_moveRightZeros M a0 a c)) 0 [(0, .ref a0), (1, .ref a), (2, .int c)] [] M
  refine V.seg F floX0 cjoX0 [.aload_n 1, .getfield 51, .lconst 0, .lcmp] (by decide +kernel) (pc2 := 6) (lv2 := [(0, .ref a0), (1, .ref a), (2, .int c)]) (st2 := [.int (lg_cmp (mL M a 1) 0)]) (M2 := M) rfl ⟨trivial, o_a, trivial, trivial, trivial⟩ ?_
  have hJ23 : ∀ (w0_23 : Int32) (M23 : Mem), (Sf M M23) → f_X0_moveRightZeros M a0 a c = f_X0_moveRightZeros_23 a0 a c w0_23 M23 → V G X 4 0 0 (Qx G X 0 0 (p_X0_moveRightZeros M a0 a c)) 23 [(0, .ref a0), (1, .ref a), (2, .int c)] [.int w0_23] M23 := by
    intro w0_23 M23 s23 E
    refine V.seg F floX0 cjoX0 [.istore_n 3, .aload_n 0, .getfield 18, .iload_n 3] (by decide +kernel) (pc2 := 29) (lv2 := [(3, .int w0_23), (0, .ref a0), (1, .ref a), (2, .int c)]) (st2 := [.int w0_23, .ref (a0 + 2)]) (M2 := M23) rfl ⟨(by decide), trivial, (Ac.f (q.sm s23.1) ha 1 (by decide)), trivial, trivial⟩ ?_
    have hJ42 : ∀ (w0_42 : Int64) (M42 : Mem), (Sf M M42) → f_X0_moveRightZeros M a0 a c = f_X0_moveRightZeros_42 a0 a c w0_23 w0_42 M42 → V G X 4 0 0 (Qx G X 0 0 (p_X0_moveRightZeros M a0 a c)) 42 [(0, .ref a0), (1, .ref a), (2, .int c), (3, .int w0_23)] [.long w0_42, .ref (a0 + 2)] M42 := by
      intro w0_42 M42 s42 E
      refine V.seg F floX0 cjoX0 [.putfield 51, .aload_n 0, .getfield 18, .iload_n 3] (by decide +kernel) (pc2 := 50) (lv2 := [(0, .ref a0), (1, .ref a), (2, .int c), (3, .int w0_23)]) (st2 := [.int w0_23, .ref (a0 + 2)]) (M2 := uL M42 (a0 + 2) 1 w0_42) rfl ⟨((Ac.m q ha).sm s42.1), trivial, (Ac.f (q.sm (Sf.pL s42 (Ac.m q ha).1).1) ha 1 (by decide)), trivial, trivial⟩ ?_
      have hJ63 : ∀ (w0_63 : Int64) (M63 : Mem), (Sf M M63) → f_X0_moveRightZeros M a0 a c = f_X0_moveRightZeros_63 a0 a c w0_63 M63 → V G X 4 0 0 (Qx G X 0 0 (p_X0_moveRightZeros M a0 a c)) 63 [(0, .ref a0), (1, .ref a), (2, .int c)] [.long w0_63, .ref (a0 + 2)] M63 := by
        intro w0_63 M63 s63 E
        refine V.seg F floX0 cjoX0 [.iload_n 2, .lushr, .putfield 126, .aload_n 0, .getfield 18, .aload_n 1, .getfield 37, .iload_n 2, .lushr, .ldc2_w 29, .iload_n 2, .lushr, .ldc2_w 29, .lxor, .lor, .putfield 37, .aload_n 0, .getfield 18, .aload_n 1, .getfield 115, .iload_n 2, .lushr, .putfield 115] (by decide +kernel) (pc2 := 104) (lv2 := [(0, .ref a0), (1, .ref a), (2, .int c)]) (st2 := []) (M2 := uL (uL (uL M63 (a0 + 2) 2 (jushr w0_63 c)) (a0 + 2) 3 ((jushr (mL (uL M63 (a0 + 2) 2 (jushr w0_63 c)) a 3) c) ||| ((jushr ((-1)) c) ^^^ ((-1))))) (a0 + 2) 4 (jushr (mL (uL (uL M63 (a0 + 2) 2 (jushr w0_63 c)) (a0 + 2) 3 ((jushr (mL (uL M63 (a0 + 2) 2 (jushr w0_63 c)) a 3) c) ||| ((jushr ((-1)) c) ^^^ ((-1))))) a 4) c)) rfl ⟨trivial, trivial, ((Ac.m q ha).sm s63.1), trivial, (Ac.f (q.sm (Sf.pL s63 (Ac.m q ha).1).1) ha 1 (by decide)), trivial, (o_a.sm (Sf.pL s63 (Ac.m q ha).1).1), trivial, trivial, trivial, trivial, trivial, trivial, trivial, trivial, ((Ac.m q ha).sm (Sf.pL s63 (Ac.m q ha).1).1), trivial, (Ac.f (q.sm (Sf.pL (Sf.pL s63 (Ac.m q ha).1) (Ac.m q ha).1).1) ha 1 (by decide)), trivial, (o_a.sm (Sf.pL (Sf.pL s63 (Ac.m q ha).1) (Ac.m q ha).1).1), trivial, trivial, ((Ac.m q ha).sm (Sf.pL (Sf.pL s63 (Ac.m q ha).1) (Ac.m q ha).1).1), trivial⟩ ?_
        refine (?_ : ∀ (M104 : Mem), (Sf M M104) → f_X0_moveRightZeros M a0 a c = f_X0_moveRightZeros_c104 M104 → V G X 4 0 0 (Qx G X 0 0 (p_X0_moveRightZeros M a0 a c)) 104 [(0, .ref a0), (1, .ref a), (2, .int c)] [] M104) _ (Sf.pL (Sf.pL (Sf.pL s63 (Ac.m q ha).1) (Ac.m q ha).1) (Ac.m q ha).1) E
        intro M104 s104 E
        exact V.vret F (by decide +kernel) ⟨rfl, E.symm, s104⟩
      refine V.if_eq (off := 10) F (by decide +kernel) (tgt := 60) (by decide) (fun h50 => ?_) (fun h50 => ?_)
      · replace E := E.trans (if_pos h50)
        refine V.seg F floX0 cjoX0 [.ldc2_w 29] (by decide +kernel) (pc2 := 63) (lv2 := [(0, .ref a0), (1, .ref a), (2, .int c), (3, .int w0_23)]) (st2 := [.long ((-1)), .ref (a0 + 2)]) (M2 := uL M42 (a0 + 2) 1 w0_42) rfl ⟨trivial, trivial⟩ ?_
        refine V.pick [0, 1, 2] rfl ?_
        exact hJ63 ((-1)) (uL M42 (a0 + 2) 1 w0_42) (Sf.pL s42 (Ac.m q ha).1) E
      · replace E := E.trans (if_neg h50)
        refine V.seg F floX0 cjoX0 [.aload_n 1, .getfield 126, .goto 6] (by decide +kernel) (pc2 := 63) (lv2 := [(0, .ref a0), (1, .ref a), (2, .int c), (3, .int w0_23)]) (st2 := [.long (mL (uL M42 (a0 + 2) 1 w0_42) a 2), .ref (a0 + 2)]) (M2 := uL M42 (a0 + 2) 1 w0_42) rfl ⟨trivial, (o_a.sm (Sf.pL s42 (Ac.m q ha).1).1), (by decide), trivial⟩ ?_
        refine V.pick [0, 1, 2] rfl ?_
        exact hJ63 (mL (uL M42 (a0 + 2) 1 w0_42) a 2) (uL M42 (a0 + 2) 1 w0_42) (Sf.pL s42 (Ac.m q ha).1) E
    refine V.if_eq (off := 12) F (by decide +kernel) (tgt := 41) (by decide) (fun h29 => ?_) (fun h29 => ?_)
    · replace E := E.trans (if_pos h29)
      refine V.seg F floX0 cjoX0 [.lconst 0] (by decide +kernel) (pc2 := 42) (lv2 := [(3, .int w0_23), (0, .ref a0), (1, .ref a), (2, .int c)]) (st2 := [.long 0, .ref (a0 + 2)]) (M2 := M23) rfl ⟨trivial, trivial⟩ ?_
      refine V.pick [1, 2, 3, 0] rfl ?_
      exact hJ42 0 M23 s23 E
    · replace E := E.trans (if_neg h29)
      refine V.seg F floX0 cjoX0 [.aload_n 1, .getfield 51, .iload_n 2, .lushr, .goto 4] (by decide +kernel) (pc2 := 42) (lv2 := [(3, .int w0_23), (0, .ref a0), (1, .ref a), (2, .int c)]) (st2 := [.long (jushr (mL M23 a 1) c), .ref (a0 + 2)]) (M2 := M23) rfl ⟨trivial, (o_a.sm s23.1), trivial, trivial, (by decide), trivial⟩ ?_
      refine V.pick [1, 2, 3, 0] rfl ?_
      exact hJ42 (jushr (mL M23 a 1) c) M23 s23 E
  have hJ18 : ∀ (M18 : Mem), (Sf M M18) → f_X0_moveRightZeros M a0 a c = f_X0_moveRightZeros_18 a0 a c M18 → V G X 4 0 0 (Qx G X 0 0 (p_X0_moveRightZeros M a0 a c)) 18 [(0, .ref a0), (1, .ref a), (2, .int c)] [] M18 := by
    intro M18 s18 E
    refine V.seg F floX0 cjoX0 [.iconst 1, .goto 4] (by decide +kernel) (pc2 := 23) (lv2 := [(0, .ref a0), (1, .ref a), (2, .int c)]) (st2 := [.int 1]) (M2 := M18) rfl ⟨trivial, (by decide), trivial⟩ ?_
    refine V.pick [0, 1, 2] rfl ?_
    exact hJ23 1 M18 s18 E
  refine V.lc_ge (off := 12) F (by decide +kernel) (tgt := 18) (by decide) (fun h6 => ?_) (fun h6 => ?_)
  · replace E := E.trans (if_pos h6)
    refine V.pick [0, 1, 2] rfl ?_
    exact hJ18 M Sf.rf E
  · replace E := E.trans (if_neg h6)
    refine V.seg F floX0 cjoX0 [.aload_n 1, .getfield 126, .lconst 0, .lcmp] (by decide +kernel) (pc2 := 15) (lv2 := [(0, .ref a0), (1, .ref a), (2, .int c)]) (st2 := [.int (lg_cmp (mL M a 2) 0)]) (M2 := M) rfl ⟨trivial, o_a, trivial, trivial, trivial⟩ ?_
    refine V.lc_ge (off := 7) F (by decide +kernel) (tgt := 22) (by decide) (fun h15 => ?_) (fun h15 => ?_)
    · replace E := E.trans (if_pos h15)
      refine V.seg F floX0 cjoX0 [.iconst 0] (by decide +kernel) (pc2 := 23) (lv2 := [(0, .ref a0), (1, .ref a), (2, .int c)]) (st2 := [.int 0]) (M2 := M) rfl ⟨trivial, trivial⟩ ?_
      refine V.pick [0, 1, 2] rfl ?_
      exact hJ23 0 M Sf.rf E
    · replace E := E.trans (if_neg h15)
      refine V.pick [0, 1, 2] rfl ?_
      exact hJ18 M Sf.rf E
def f_X0_move_c115  (M115 : Mem) : Mem := M115
def f_X0_move_108 (a0 : Nat) (M108 : Mem) : Mem := f_X0_move_c115 (f_X1_sharpen M108 (a0 + 2))
def f_X0_move_c108 (a0 : Nat) (M108 : Mem) : Mem := f_X0_move_108 a0 M108
def f_X0_move_c99 (a0 : Nat) (M99 : Mem) : Mem := f_X0_move_108 a0 M99
def f_X0_move_c57 (a0 : Nat) (M57 : Mem) : Mem := f_X0_move_108 a0 M57
def f_X0_move_c45 (a0 : Nat) (op : Int32) (a : Nat) (c : Int32) (M45 : Mem) : Mem := if op = 6 then f_X0_move_c57 a0 (f_X0_moveLeft M45 a0 a c) else if op = 7 then f_X0_move_c99 a0 (f_X1_become M45 (a0 + 2) (jshr (mL M45 a 1) c) (jshr (mL M45 a 2) c) (jshr (mL M45 a 3) c) (jshr (mL M45 a 4) c) 1 0) else f_X0_move_c108 a0 (f_X0_moveRightZeros M45 a0 a c)
def f_X0_move_c37  (M37 : Mem) : Mem := M37
def f_X0_move_c12  (M12 : Mem) : Mem := M12
def f_X0_move (M : Mem) (a0 : Nat) (op : Int32) (a : Nat) (c : Int32) : Mem := if c = 0 then f_X0_move_c12 (f_X1_copy M (a0 + 2) a) else if (f_X1_isConstant M a) = 0 then f_X0_move_c45 a0 op a c (f_X1_makeAll M (a0 + 2)) else f_X0_move_c37 (f_X1_makeConstant M (a0 + 2) (f_X0_number op (mL M a 1) (Int32.toInt64 c)))
abbrev p_X0_move (M : Mem) (a0 : Nat) (op : Int32) (a : Nat) (c : Int32) : Option Value → Mem → Prop := fun r N => r = none ∧ N = f_X0_move M a0 op a c ∧ Sf M N
set_option maxRecDepth 100000 in
set_option maxHeartbeats 4000000 in
theorem c_X0_move (G : Ctx) (l : Launch) (M : Mem) (a0 : Nat) (op : Int32) (a : Nat) (c : Int32) (q : Ok M) (ha : a0 = 11 ∨ a0 = 15) (o_a : isO M a 1) : CT G l 3 mX0_move [.ref a0, .int op, .ref a, .int c] M 0 0 (p_X0_move M a0 op a c) := by
  refine CT.of (by decide) (Nat.le_of_ble_eq_true rfl) ?_
  intro X d hd hl hRm hnm F
  subst hl
  have E : f_X0_move M a0 op a c = f_X0_move M a0 op a c := rfl
  show V G X 4 0 0 (Qx G X 0 0 (p_X0_move M a0 op a c)) 0 [(0, .ref a0), (1, .int op), (2, .ref a), (3, .int c)] [] M
  refine V.seg F floX0 cjoX0 [.iload_n 3] (by decide +kernel) (pc2 := 1) (lv2 := [(0, .ref a0), (1, .int op), (2, .ref a), (3, .int c)]) (st2 := [.int c]) (M2 := M) rfl ⟨trivial, trivial⟩ ?_
  refine V.if_ne (off := 12) F (by decide +kernel) (tgt := 13) (by decide) (fun h1 => ?_) (fun h1 => ?_)
  · replace E := E.trans (if_neg h1)
    refine V.seg F floX0 cjoX0 [.aload_n 2] (by decide +kernel) (pc2 := 14) (lv2 := [(0, .ref a0), (1, .int op), (2, .ref a), (3, .int c)]) (st2 := [.ref a]) (M2 := M) rfl ⟨trivial, trivial⟩ ?_
    refine V.callV (as := []) (rest := []) F (by decide +kernel) lX0_47 bX1_isConstant ⟨1, _, o_a, rfl, rfl⟩ (c_X1_isConstant G X.2.1 M a o_a) (rm_ok hRm hd (by decide) (by decide)) ⟨Nat.zero_le _, Nat.zero_le _⟩ (Nat.le_of_ble_eq_true rfl) (fun r_ N_ p_ => ?_)
    obtain ⟨rfl, hN_, z14⟩ := p_
    rw [hN_]
    clear hN_
    refine V.if_eq (off := 21) F (by decide +kernel) (tgt := 38) (by decide) (fun h17 => ?_) (fun h17 => ?_)
    · replace E := E.trans (if_pos h17)
      refine V.seg F floX0 cjoX0 [.aload_n 0, .getfield 18] (by decide +kernel) (pc2 := 42) (lv2 := [(0, .ref a0), (1, .int op), (2, .ref a), (3, .int c)]) (st2 := [.ref (a0 + 2)]) (M2 := M) rfl ⟨trivial, (Ac.f q ha 1 (by decide)), trivial⟩ ?_
      refine V.callV (as := []) (rest := []) F (by decide +kernel) lX0_65 bX1_makeAll ⟨1, _, (Ac.m q ha), rfl, rfl⟩ (c_X1_makeAll G X.2.1 M (a0 + 2) (Ac.m q ha)) (rm_ok hRm hd (by decide) (by decide)) ⟨Nat.zero_le _, Nat.zero_le _⟩ (Nat.le_of_ble_eq_true rfl) (fun r_ N_ p_ => ?_)
      obtain ⟨rfl, rfl, t42⟩ := p_
      refine (?_ : ∀ (M45 : Mem), (Sf M M45) → f_X0_move M a0 op a c = f_X0_move_c45 a0 op a c M45 → V G X 4 0 0 (Qx G X 0 0 (p_X0_move M a0 op a c)) 45 [(0, .ref a0), (1, .int op), (2, .ref a), (3, .int c)] [] M45) _ t42 E
      intro M45 s45 E
      refine V.seg F floX0 cjoX0 [.iload_n 1, .bipush 6] (by decide +kernel) (pc2 := 48) (lv2 := [(0, .ref a0), (1, .int op), (2, .ref a), (3, .int c)]) (st2 := [.int 6, .int op]) (M2 := M45) rfl ⟨trivial, trivial, trivial⟩ ?_
      have hJ108 : ∀ (M108 : Mem), (Sf M M108) → f_X0_move M a0 op a c = f_X0_move_108 a0 M108 → V G X 4 0 0 (Qx G X 0 0 (p_X0_move M a0 op a c)) 108 [(0, .ref a0)] [] M108 := by
        intro M108 s108 E
        refine V.seg F floX0 cjoX0 [.aload_n 0, .getfield 18] (by decide +kernel) (pc2 := 112) (lv2 := [(0, .ref a0)]) (st2 := [.ref (a0 + 2)]) (M2 := M108) rfl ⟨trivial, (Ac.f (q.sm s108.1) ha 1 (by decide)), trivial⟩ ?_
        refine V.callV (as := []) (rest := []) F (by decide +kernel) lX0_104 bX1_sharpen ⟨1, _, ((Ac.m q ha).sm s108.1), rfl, rfl⟩ (c_X1_sharpen G X.2.1 M108 (a0 + 2) ((Ac.m q ha).sm s108.1)) (rm_ok hRm hd (by decide) (by decide)) ⟨Nat.zero_le _, Nat.zero_le _⟩ (Nat.le_of_ble_eq_true rfl) (fun r_ N_ p_ => ?_)
        obtain ⟨rfl, rfl, t112⟩ := p_
        refine (?_ : ∀ (M115 : Mem), (Sf M M115) → f_X0_move M a0 op a c = f_X0_move_c115 M115 → V G X 4 0 0 (Qx G X 0 0 (p_X0_move M a0 op a c)) 115 [(0, .ref a0)] [] M115) _ (Sf.tr s108 t112) E
        intro M115 s115 E
        exact V.vret F (by decide +kernel) ⟨rfl, E.symm, s115⟩
      refine V.ic_ne (off := 12) F (by decide +kernel) (tgt := 60) (by decide) (fun h48 => ?_) (fun h48 => ?_)
      · replace E := E.trans (if_neg h48)
        refine V.seg F floX0 cjoX0 [.iload_n 1, .bipush 7] (by decide +kernel) (pc2 := 63) (lv2 := [(0, .ref a0), (1, .int op), (2, .ref a), (3, .int c)]) (st2 := [.int 7, .int op]) (M2 := M45) rfl ⟨trivial, trivial, trivial⟩ ?_
        refine V.ic_ne (off := 39) F (by decide +kernel) (tgt := 102) (by decide) (fun h63 => ?_) (fun h63 => ?_)
        · replace E := E.trans (if_neg h63)
          refine V.seg F floX0 cjoX0 [.aload_n 0, .aload_n 2, .iload_n 3] (by decide +kernel) (pc2 := 105) (lv2 := [(0, .ref a0), (1, .int op), (2, .ref a), (3, .int c)]) (st2 := [.int c, .ref a, .ref a0]) (M2 := M45) rfl ⟨trivial, trivial, trivial, trivial⟩ ?_
          refine V.callV (as := [.ref a, .int c]) (rest := []) F (by decide +kernel) lX0_208 bX0_moveRightZeros ⟨0, _, ((Ac.o q ha).sm s45.1), rfl, rfl⟩ (c_X0_moveRightZeros G X.2.1 M45 a0 a c (q.sm s45.1) ha (o_a.sm s45.1)) (rm_ok hRm hd (by decide) (by decide)) ⟨Nat.zero_le _, Nat.zero_le _⟩ (Nat.le_of_ble_eq_true rfl) (fun r_ N_ p_ => ?_)
          obtain ⟨rfl, rfl, t105⟩ := p_
          refine (?_ : ∀ (M108 : Mem), (Sf M M108) → f_X0_move M a0 op a c = f_X0_move_c108 a0 M108 → V G X 4 0 0 (Qx G X 0 0 (p_X0_move M a0 op a c)) 108 [(0, .ref a0), (1, .int op), (2, .ref a), (3, .int c)] [] M108) _ (Sf.tr s45 t105) E
          intro M108 s108 E
          refine V.pick [0] rfl ?_
          exact hJ108 M108 s108 E
        · replace E := E.trans (if_pos h63)
          refine V.seg F floX0 cjoX0 [.aload_n 0, .getfield 18, .aload_n 2, .getfield 51, .iload_n 3, .lshr, .aload_n 2, .getfield 126, .iload_n 3, .lshr, .aload_n 2, .getfield 37, .iload_n 3, .lshr, .aload_n 2, .getfield 115, .iload_n 3, .lshr, .lconst 1, .lconst 0] (by decide +kernel) (pc2 := 96) (lv2 := [(0, .ref a0), (1, .int op), (2, .ref a), (3, .int c)]) (st2 := [.long 0, .long 1, .long (jshr (mL M45 a 4) c), .long (jshr (mL M45 a 3) c), .long (jshr (mL M45 a 2) c), .long (jshr (mL M45 a 1) c), .ref (a0 + 2)]) (M2 := M45) rfl ⟨trivial, (Ac.f (q.sm s45.1) ha 1 (by decide)), trivial, (o_a.sm s45.1), trivial, trivial, trivial, (o_a.sm s45.1), trivial, trivial, trivial, (o_a.sm s45.1), trivial, trivial, trivial, (o_a.sm s45.1), trivial, trivial, trivial, trivial, trivial⟩ ?_
          refine V.callV (as := [.long (jshr (mL M45 a 1) c), .long (jshr (mL M45 a 2) c), .long (jshr (mL M45 a 3) c), .long (jshr (mL M45 a 4) c), .long 1, .long 0]) (rest := []) F (by decide +kernel) lX0_204 bX1_become ⟨1, _, ((Ac.m q ha).sm s45.1), rfl, rfl⟩ (c_X1_become G X.2.1 M45 (a0 + 2) (jshr (mL M45 a 1) c) (jshr (mL M45 a 2) c) (jshr (mL M45 a 3) c) (jshr (mL M45 a 4) c) 1 0 ((Ac.m q ha).sm s45.1)) (rm_ok hRm hd (by decide) (by decide)) ⟨Nat.zero_le _, Nat.zero_le _⟩ (Nat.le_of_ble_eq_true rfl) (fun r_ N_ p_ => ?_)
          obtain ⟨rfl, rfl, t96⟩ := p_
          refine (?_ : ∀ (M99 : Mem), (Sf M M99) → f_X0_move M a0 op a c = f_X0_move_c99 a0 M99 → V G X 4 0 0 (Qx G X 0 0 (p_X0_move M a0 op a c)) 99 [(0, .ref a0), (1, .int op), (2, .ref a), (3, .int c)] [] M99) _ (Sf.tr s45 t96) E
          intro M99 s99 E
          refine V.seg F floX0 cjoX0 [.goto 9] (by decide +kernel) (pc2 := 108) (lv2 := [(0, .ref a0), (1, .int op), (2, .ref a), (3, .int c)]) (st2 := []) (M2 := M99) rfl ⟨(by decide), trivial⟩ ?_
          refine V.pick [0] rfl ?_
          exact hJ108 M99 s99 E
      · replace E := E.trans (if_pos h48)
        refine V.seg F floX0 cjoX0 [.aload_n 0, .aload_n 2, .iload_n 3] (by decide +kernel) (pc2 := 54) (lv2 := [(0, .ref a0), (1, .int op), (2, .ref a), (3, .int c)]) (st2 := [.int c, .ref a, .ref a0]) (M2 := M45) rfl ⟨trivial, trivial, trivial, trivial⟩ ?_
        refine V.callV (as := [.ref a, .int c]) (rest := []) F (by decide +kernel) lX0_200 bX0_moveLeft ⟨0, _, ((Ac.o q ha).sm s45.1), rfl, rfl⟩ (c_X0_moveLeft G X.2.1 M45 a0 a c (q.sm s45.1) ha (o_a.sm s45.1)) (rm_ok hRm hd (by decide) (by decide)) ⟨Nat.zero_le _, Nat.zero_le _⟩ (Nat.le_of_ble_eq_true rfl) (fun r_ N_ p_ => ?_)
        obtain ⟨rfl, rfl, t54⟩ := p_
        refine (?_ : ∀ (M57 : Mem), (Sf M M57) → f_X0_move M a0 op a c = f_X0_move_c57 a0 M57 → V G X 4 0 0 (Qx G X 0 0 (p_X0_move M a0 op a c)) 57 [(0, .ref a0), (1, .int op), (2, .ref a), (3, .int c)] [] M57) _ (Sf.tr s45 t54) E
        intro M57 s57 E
        refine V.seg F floX0 cjoX0 [.goto 51] (by decide +kernel) (pc2 := 108) (lv2 := [(0, .ref a0), (1, .int op), (2, .ref a), (3, .int c)]) (st2 := []) (M2 := M57) rfl ⟨(by decide), trivial⟩ ?_
        refine V.pick [0] rfl ?_
        exact hJ108 M57 s57 E
    · replace E := E.trans (if_neg h17)
      refine V.seg F floX0 cjoX0 [.aload_n 0, .getfield 18, .iload_n 1, .aload_n 2, .getfield 51, .iload_n 3, .i2l] (by decide +kernel) (pc2 := 31) (lv2 := [(0, .ref a0), (1, .int op), (2, .ref a), (3, .int c)]) (st2 := [.long (Int32.toInt64 c), .long (mL M a 1), .int op, .ref (a0 + 2)]) (M2 := M) rfl ⟨trivial, (Ac.f q ha 1 (by decide)), trivial, trivial, o_a, trivial, trivial, trivial⟩ ?_
      refine V.callS (as := [.int op, .long (mL M a 1), .long (Int32.toInt64 c)]) (rest := [.ref (a0 + 2)]) F (by decide +kernel) lX0_111 bX0_number (c_X0_number G X.2.1 M op (mL M a 1) (Int32.toInt64 c)) (rm_ok hRm hd (by decide) (by decide)) ⟨Nat.zero_le _, Nat.zero_le _⟩ (Nat.le_of_ble_eq_true rfl) (fun r_ N_ p_ => ?_)
      obtain ⟨rfl, hN_⟩ := p_
      rw [hN_]
      clear hN_
      refine V.callV (as := [.long (f_X0_number op (mL M a 1) (Int32.toInt64 c))]) (rest := []) F (by decide +kernel) lX0_21 bX1_makeConstant ⟨1, _, (Ac.m q ha), rfl, rfl⟩ (c_X1_makeConstant G X.2.1 M (a0 + 2) (f_X0_number op (mL M a 1) (Int32.toInt64 c)) (Ac.m q ha)) (rm_ok hRm hd (by decide) (by decide)) ⟨Nat.zero_le _, Nat.zero_le _⟩ (Nat.le_of_ble_eq_true rfl) (fun r_ N_ p_ => ?_)
      obtain ⟨rfl, rfl, t34⟩ := p_
      refine (?_ : ∀ (M37 : Mem), (Sf M M37) → f_X0_move M a0 op a c = f_X0_move_c37 M37 → V G X 4 0 0 (Qx G X 0 0 (p_X0_move M a0 op a c)) 37 [(0, .ref a0), (1, .int op), (2, .ref a), (3, .int c)] [] M37) _ t34 E
      intro M37 s37 E
      exact V.vret F (by decide +kernel) ⟨rfl, E.symm, s37⟩
  · replace E := E.trans (if_pos h1)
    refine V.seg F floX0 cjoX0 [.aload_n 0, .getfield 18, .aload_n 2] (by decide +kernel) (pc2 := 9) (lv2 := [(0, .ref a0), (1, .int op), (2, .ref a), (3, .int c)]) (st2 := [.ref a, .ref (a0 + 2)]) (M2 := M) rfl ⟨trivial, (Ac.f q ha 1 (by decide)), trivial, trivial⟩ ?_
    refine V.callV (as := [.ref a]) (rest := []) F (by decide +kernel) lX0_196 bX1_copy ⟨1, _, (Ac.m q ha), rfl, rfl⟩ (c_X1_copy G X.2.1 M (a0 + 2) a (Ac.m q ha) o_a) (rm_ok hRm hd (by decide) (by decide)) ⟨Nat.zero_le _, Nat.zero_le _⟩ (Nat.le_of_ble_eq_true rfl) (fun r_ N_ p_ => ?_)
    obtain ⟨rfl, rfl, t9⟩ := p_
    refine (?_ : ∀ (M12 : Mem), (Sf M M12) → f_X0_move M a0 op a c = f_X0_move_c12 M12 → V G X 4 0 0 (Qx G X 0 0 (p_X0_move M a0 op a c)) 12 [(0, .ref a0), (1, .int op), (2, .ref a), (3, .int c)] [] M12) _ t9 E
    intro M12 s12 E
    exact V.vret F (by decide +kernel) ⟨rfl, E.symm, s12⟩
def f_X0_shifted_66 (j28 : Nat) (R28_ : Nat → Mem → Mem) (M66 : Mem) : Mem := R28_ (j28 + 1) M66
def f_X0_shifted_c66 (j28 : Nat) (R28_ : Nat → Mem → Mem) (M66 : Mem) : Mem := f_X0_shifted_66 j28 R28_ M66
def f_X0_shifted_c55 (a0 : Nat) (t : Nat) (j28 : Nat) (R28_ : Nat → Mem → Mem) (M55 : Mem) : Mem := f_X0_shifted_c66 j28 R28_ (f_X1_becomeJoin M55 t t (a0 + 2))
def f_X0_shifted_28 (a0 : Nat) (op : Int32) (a : Nat) (b : Nat) (t : Nat) (M : Mem) : Nat → Nat → Mem → Mem
  | 0, _, M28 => M28
  | n_ + 1, j28, M28 => if 64 ≤ (nI j28) then M28 else if ((Int32.toInt64 (nI j28)) &&& ((mL M b 3) &&& 63)) = ((mL M b 4) &&& 63) then f_X0_shifted_c55 a0 t j28 (f_X0_shifted_28 a0 op a b t M n_) (f_X0_move M28 a0 op a (nI j28)) else f_X0_shifted_66 j28 (f_X0_shifted_28 a0 op a b t M n_) M28
def f_X0_shifted_c25 (a0 : Nat) (op : Int32) (a : Nat) (b : Nat) (t : Nat) (M : Mem) (M25 : Mem) : Mem := f_X0_shifted_28 a0 op a b t M 65 0 M25
def f_X0_shifted (M : Mem) (a0 : Nat) (op : Int32) (a : Nat) (b : Nat) (t : Nat) : Mem := f_X0_shifted_c25 a0 op a b t M (f_X1_makeNone M t)
abbrev p_X0_shifted (M : Mem) (a0 : Nat) (op : Int32) (a : Nat) (b : Nat) (t : Nat) : Option Value → Mem → Prop := fun r N => r = none ∧ N = f_X0_shifted M a0 op a b t ∧ Sf M N
set_option maxRecDepth 100000 in
set_option maxHeartbeats 4000000 in
theorem c_X0_shifted (G : Ctx) (l : Launch) (M : Mem) (a0 : Nat) (op : Int32) (a : Nat) (b : Nat) (t : Nat) (q : Ok M) (ha : a0 = 11 ∨ a0 = 15) (o_a : isO M a 1) (o_b : isO M b 1) (o_t : isO M t 1) : CT G l 4 mX0_shifted [.ref a0, .int op, .ref a, .ref b, .ref t] M 0 0 (p_X0_shifted M a0 op a b t) := by
  refine CT.of (by decide) (Nat.le_of_ble_eq_true rfl) ?_
  intro X d hd hl hRm hnm F
  subst hl
  have E : f_X0_shifted M a0 op a b t = f_X0_shifted M a0 op a b t := rfl
  show V G X 10 0 0 (Qx G X 0 0 (p_X0_shifted M a0 op a b t)) 0 [(0, .ref a0), (1, .int op), (2, .ref a), (3, .ref b), (4, .ref t)] [] M
  refine V.seg F floX0 cjoX0 [.aload_n 3, .getfield 37, .ldc2_w 25, .land, .lstore 5, .aload_n 3, .getfield 115, .ldc2_w 25, .land, .lstore 7, .aload 4] (by decide +kernel) (pc2 := 22) (lv2 := [(7, .long ((mL M b 4) &&& 63)), (5, .long ((mL M b 3) &&& 63)), (0, .ref a0), (1, .int op), (2, .ref a), (3, .ref b), (4, .ref t)]) (st2 := [.ref t]) (M2 := M) rfl ⟨trivial, o_b, trivial, trivial, (by decide), trivial, o_b, trivial, trivial, (by decide), trivial, trivial⟩ ?_
  refine V.callV (as := []) (rest := []) F (by decide +kernel) lX0_58 bX1_makeNone ⟨1, _, o_t, rfl, rfl⟩ (c_X1_makeNone G X.2.1 M t o_t) (rm_ok hRm hd (by decide) (by decide)) ⟨Nat.zero_le _, Nat.zero_le _⟩ (Nat.le_of_ble_eq_true rfl) (fun r_ N_ p_ => ?_)
  obtain ⟨rfl, rfl, t22⟩ := p_
  refine (?_ : ∀ (M25 : Mem), (Sf M M25) → f_X0_shifted M a0 op a b t = f_X0_shifted_c25 a0 op a b t M M25 → V G X 10 0 0 (Qx G X 0 0 (p_X0_shifted M a0 op a b t)) 25 [(7, .long ((mL M b 4) &&& 63)), (5, .long ((mL M b 3) &&& 63)), (0, .ref a0), (1, .int op), (2, .ref a), (3, .ref b), (4, .ref t)] [] M25) _ t22 E
  intro M25 s25 E
  refine V.seg F floX0 cjoX0 [.iconst 0] (by decide +kernel) (pc2 := 26) (lv2 := [(7, .long ((mL M b 4) &&& 63)), (5, .long ((mL M b 3) &&& 63)), (0, .ref a0), (1, .int op), (2, .ref a), (3, .ref b), (4, .ref t)]) (st2 := [.int 0]) (M2 := M25) rfl ⟨trivial, trivial⟩ ?_
  refine V.seg F floX0 cjoX0 [.istore 9] (by decide +kernel) (pc2 := 28) (lv2 := [(9, .int 0), (7, .long ((mL M b 4) &&& 63)), (5, .long ((mL M b 3) &&& 63)), (0, .ref a0), (1, .int op), (2, .ref a), (3, .ref b), (4, .ref t)]) (st2 := []) (M2 := M25) rfl ⟨(by decide), trivial⟩ ?_
  have hJ28 : ∀ (n_ : Nat) (j28 : Nat) (M28 : Mem), (Sf M M28) → (j28 ≤ 64) → (64 - j28 < n_) → f_X0_shifted M a0 op a b t = f_X0_shifted_28 a0 op a b t M n_ j28 M28 → V G X 10 0 0 (Qx G X 0 0 (p_X0_shifted M a0 op a b t)) 28 [(0, .ref a0), (1, .int op), (2, .ref a), (4, .ref t), (5, .long ((mL M b 3) &&& 63)), (7, .long ((mL M b 4) &&& 63)), (9, .int (nI j28))] [] M28 := by
    intro n_
    induction n_ with
    | zero => intro j28 M28 s28 b28 m28 E; omega
    | succ n_ ih_28 =>
      intro j28 M28 s28 b28 m28 E
      rw [f_X0_shifted_28] at E
      refine V.seg F floX0 cjoX0 [.iload 9, .bipush 64] (by decide +kernel) (pc2 := 32) (lv2 := [(0, .ref a0), (1, .int op), (2, .ref a), (4, .ref t), (5, .long ((mL M b 3) &&& 63)), (7, .long ((mL M b 4) &&& 63)), (9, .int (nI j28))]) (st2 := [.int 64, .int (nI j28)]) (M2 := M28) rfl ⟨trivial, trivial, trivial⟩ ?_
      refine V.ic_ge (off := 40) F (by decide +kernel) (tgt := 72) (by decide) (fun h32 => ?_) (fun h32 => ?_)
      · replace E := E.trans (if_pos h32)
        exact V.vret F (by decide +kernel) ⟨rfl, E.symm, s28⟩
      · replace E := E.trans (if_neg h32)
        refine V.seg F floX0 cjoX0 [.iload 9, .i2l, .lload 5, .land, .lload 7, .lcmp] (by decide +kernel) (pc2 := 44) (lv2 := [(0, .ref a0), (1, .int op), (2, .ref a), (4, .ref t), (5, .long ((mL M b 3) &&& 63)), (7, .long ((mL M b 4) &&& 63)), (9, .int (nI j28))]) (st2 := [.int (lg_cmp ((Int32.toInt64 (nI j28)) &&& ((mL M b 3) &&& 63)) ((mL M b 4) &&& 63))]) (M2 := M28) rfl ⟨trivial, trivial, trivial, trivial, trivial, trivial, trivial⟩ ?_
        have hJ66 : ∀ (M66 : Mem), (Sf M M66) → f_X0_shifted M a0 op a b t = f_X0_shifted_66 j28 (f_X0_shifted_28 a0 op a b t M n_) M66 → V G X 10 0 0 (Qx G X 0 0 (p_X0_shifted M a0 op a b t)) 66 [(0, .ref a0), (1, .int op), (2, .ref a), (4, .ref t), (5, .long ((mL M b 3) &&& 63)), (7, .long ((mL M b 4) &&& 63)), (9, .int (nI j28))] [] M66 := by
          intro M66 s66 E
          refine V.seg F floX0 cjoX0 [.iinc 9 1, .goto (-41)] (by decide +kernel) (pc2 := 28) (lv2 := [(9, .int ((nI j28) + 1)), (0, .ref a0), (1, .int op), (2, .ref a), (4, .ref t), (5, .long ((mL M b 3) &&& 63)), (7, .long ((mL M b 4) &&& 63))]) (st2 := []) (M2 := M66) rfl ⟨(by decide), (by decide), trivial⟩ ?_
          refine V.pick [1, 2, 3, 4, 5, 6, 0] rfl ?_
          rw [nI_1]
          exact ih_28 (j28 + 1) M66 s66 (by have hlt_ := cnt_lt (n := 64) h32 rfl (by omega) (by decide); omega) (by have hlt_ := cnt_lt (n := 64) h32 rfl (by omega) (by decide); omega) E
        refine V.lc_ne (off := 22) F (by decide +kernel) (tgt := 66) (by decide) (fun h44 => ?_) (fun h44 => ?_)
        · replace E := E.trans (if_neg h44)
          refine V.pick [0, 1, 2, 3, 4, 5, 6] rfl ?_
          exact hJ66 M28 s28 E
        · replace E := E.trans (if_pos h44)
          refine V.seg F floX0 cjoX0 [.aload_n 0, .iload_n 1, .aload_n 2, .iload 9] (by decide +kernel) (pc2 := 52) (lv2 := [(0, .ref a0), (1, .int op), (2, .ref a), (4, .ref t), (5, .long ((mL M b 3) &&& 63)), (7, .long ((mL M b 4) &&& 63)), (9, .int (nI j28))]) (st2 := [.int (nI j28), .ref a, .int op, .ref a0]) (M2 := M28) rfl ⟨trivial, trivial, trivial, trivial, trivial⟩ ?_
          refine V.callV (as := [.int op, .ref a, .int (nI j28)]) (rest := []) F (by decide +kernel) lX0_189 bX0_move ⟨0, _, ((Ac.o q ha).sm s28.1), rfl, rfl⟩ (c_X0_move G X.2.1 M28 a0 op a (nI j28) (q.sm s28.1) ha (o_a.sm s28.1)) (rm_ok hRm hd (by decide) (by decide)) ⟨Nat.zero_le _, Nat.zero_le _⟩ (Nat.le_of_ble_eq_true rfl) (fun r_ N_ p_ => ?_)
          obtain ⟨rfl, rfl, t52⟩ := p_
          refine (?_ : ∀ (M55 : Mem), (Sf M M55) → f_X0_shifted M a0 op a b t = f_X0_shifted_c55 a0 t j28 (f_X0_shifted_28 a0 op a b t M n_) M55 → V G X 10 0 0 (Qx G X 0 0 (p_X0_shifted M a0 op a b t)) 55 [(0, .ref a0), (1, .int op), (2, .ref a), (4, .ref t), (5, .long ((mL M b 3) &&& 63)), (7, .long ((mL M b 4) &&& 63)), (9, .int (nI j28))] [] M55) _ (Sf.tr s28 t52) E
          intro M55 s55 E
          refine V.seg F floX0 cjoX0 [.aload 4, .aload 4, .aload_n 0, .getfield 18] (by decide +kernel) (pc2 := 63) (lv2 := [(0, .ref a0), (1, .int op), (2, .ref a), (4, .ref t), (5, .long ((mL M b 3) &&& 63)), (7, .long ((mL M b 4) &&& 63)), (9, .int (nI j28))]) (st2 := [.ref (a0 + 2), .ref t, .ref t]) (M2 := M55) rfl ⟨trivial, trivial, trivial, (Ac.f (q.sm s55.1) ha 1 (by decide)), trivial⟩ ?_
          refine V.callV (as := [.ref t, .ref (a0 + 2)]) (rest := []) F (by decide +kernel) lX0_193 bX1_becomeJoin ⟨1, _, (o_t.sm s55.1), rfl, rfl⟩ (c_X1_becomeJoin G X.2.1 M55 t t (a0 + 2) (o_t.sm s55.1) (o_t.sm s55.1) ((Ac.m q ha).sm s55.1)) (rm_ok hRm hd (by decide) (by decide)) ⟨Nat.zero_le _, Nat.zero_le _⟩ (Nat.le_of_ble_eq_true rfl) (fun r_ N_ p_ => ?_)
          obtain ⟨rfl, rfl, t63⟩ := p_
          refine (?_ : ∀ (M66 : Mem), (Sf M M66) → f_X0_shifted M a0 op a b t = f_X0_shifted_c66 j28 (f_X0_shifted_28 a0 op a b t M n_) M66 → V G X 10 0 0 (Qx G X 0 0 (p_X0_shifted M a0 op a b t)) 66 [(0, .ref a0), (1, .int op), (2, .ref a), (4, .ref t), (5, .long ((mL M b 3) &&& 63)), (7, .long ((mL M b 4) &&& 63)), (9, .int (nI j28))] [] M66) _ (Sf.tr s55 t63) E
          intro M66 s66 E
          refine V.pick [0, 1, 2, 3, 4, 5, 6] rfl ?_
          exact hJ66 M66 s66 E
  refine V.pick [3, 4, 5, 7, 2, 1, 0] rfl ?_
  exact hJ28 _ 0 M25 s25 (by omega) (by omega) E
def f_X0_work_c25  (M25 : Mem) : Mem := M25
def f_X0_work_20 (t : Nat) (M20 : Mem) : Mem := f_X0_work_c25 (f_X1_makeNone M20 t)
def f_X0_work_c261  (M261 : Mem) : Mem := M261
def f_X0_work_256 (t : Nat) (M256 : Mem) : Mem := f_X0_work_c261 (f_X1_sharpen M256 t)
def f_X0_work_c155 (t : Nat) (M155 : Mem) : Mem := f_X0_work_256 t M155
def f_X0_work_c165 (t : Nat) (M165 : Mem) : Mem := f_X0_work_256 t M165
def f_X0_work_c175 (t : Nat) (M175 : Mem) : Mem := f_X0_work_256 t M175
def f_X0_work_c186 (t : Nat) (M186 : Mem) : Mem := f_X0_work_256 t M186
def f_X0_work_c198 (t : Nat) (M198 : Mem) : Mem := f_X0_work_256 t M198
def f_X0_work_c211 (t : Nat) (M211 : Mem) : Mem := f_X0_work_256 t M211
def f_X0_work_c224 (t : Nat) (M224 : Mem) : Mem := f_X0_work_256 t M224
def f_X0_work_c237 (t : Nat) (M237 : Mem) : Mem := f_X0_work_256 t M237
def f_X0_work_c246 (t : Nat) (M246 : Mem) : Mem := f_X0_work_256 t M246
def f_X0_work_c256 (t : Nat) (M256 : Mem) : Mem := f_X0_work_256 t M256
def f_X0_work_c66 (a0 : Nat) (op : Int32) (a : Nat) (b : Nat) (t : Nat) (M66 : Mem) : Mem := if (f_X0_givesUp M66 op a b) = 0 then if op = 0 then f_X0_work_c155 t (f_X0_plus M66 a b t) else if op = 1 then f_X0_work_c165 t (f_X0_minus M66 a b t) else if op = 2 then f_X0_work_c175 t (f_X0_times M66 a b t) else if op = 3 ∨ op = 4 ∨ op = 5 then f_X0_work_c186 t (f_X0_bitwise M66 op a b t) else if op = 6 ∨ op = 7 ∨ op = 8 then f_X0_work_c198 t (f_X0_shifted M66 a0 op a b t) else if op = 9 then f_X0_work_c211 t (f_X0_quotient M66 a (mL M66 b 1) t) else if op = 10 then f_X0_work_c224 t (f_X0_remainder M66 a (mL M66 b 1) t) else if op = 12 then f_X0_work_c237 t (f_X0_minus M66 (a0 + 1) a t) else if op = 13 then f_X0_work_c246 t (f_X0_turned M66 a t) else f_X0_work_c256 t (f_X0_narrowed M66 op a t) else M66
def f_X0_work_61 (a0 : Nat) (op : Int32) (a : Nat) (b : Nat) (t : Nat) (M61 : Mem) : Mem := f_X0_work_c66 a0 op a b t (f_X1_makeAll M61 t)
def f_X0_work_c60  (M60 : Mem) : Mem := M60
def f_X0_work_46 (op : Int32) (a : Nat) (b : Nat) (t : Nat) (M46 : Mem) : Mem := f_X0_work_c60 (f_X0_constant M46 op (mL M46 a 1) (mL M46 b 1) t)
def f_X0_work_26 (a0 : Nat) (op : Int32) (a : Nat) (b : Nat) (t : Nat) (M26 : Mem) : Mem := if (f_X1_isConstant M26 a) = 0 then f_X0_work_61 a0 op a b t M26 else if 12 ≤ op then f_X0_work_46 op a b t M26 else if (f_X1_isConstant M26 b) = 0 then f_X0_work_61 a0 op a b t M26 else f_X0_work_46 op a b t M26
def f_X0_work (M : Mem) (a0 : Nat) (op : Int32) (a : Nat) (b : Nat) (t : Nat) : Mem := if (mI M a 0) = 0 then if 12 ≤ op then f_X0_work_26 a0 op a b t M else if (mI M b 0) = 0 then f_X0_work_26 a0 op a b t M else f_X0_work_20 t M else f_X0_work_20 t M
abbrev p_X0_work (M : Mem) (a0 : Nat) (op : Int32) (a : Nat) (b : Nat) (t : Nat) : Option Value → Mem → Prop := fun r N => r = none ∧ N = f_X0_work M a0 op a b t ∧ Sf M N
set_option maxRecDepth 100000 in
set_option maxHeartbeats 4000000 in
theorem c_X0_work (G : Ctx) (l : Launch) (M : Mem) (a0 : Nat) (op : Int32) (a : Nat) (b : Nat) (t : Nat) (q : Ok M) (ha : a0 = 11 ∨ a0 = 15) (o_a : isO M a 1) (o_b : isO M b 1) (o_t : isO M t 1) : CT G l 5 mX0_work [.ref a0, .int op, .ref a, .ref b, .ref t] M 0 0 (p_X0_work M a0 op a b t) := by
  refine CT.of (by decide) (Nat.le_of_ble_eq_true rfl) ?_
  intro X d hd hl hRm hnm F
  subst hl
  have E : f_X0_work M a0 op a b t = f_X0_work M a0 op a b t := rfl
  show V G X 5 0 0 (Qx G X 0 0 (p_X0_work M a0 op a b t)) 0 [(0, .ref a0), (1, .int op), (2, .ref a), (3, .ref b), (4, .ref t)] [] M
  refine V.seg F floX0 cjoX0 [.aload_n 2, .getfield 54] (by decide +kernel) (pc2 := 4) (lv2 := [(0, .ref a0), (1, .int op), (2, .ref a), (3, .ref b), (4, .ref t)]) (st2 := [.int (mI M a 0)]) (M2 := M) rfl ⟨trivial, o_a, trivial⟩ ?_
  have hJ20 : ∀ (M20 : Mem), (Sf M M20) → f_X0_work M a0 op a b t = f_X0_work_20 t M20 → V G X 5 0 0 (Qx G X 0 0 (p_X0_work M a0 op a b t)) 20 [(4, .ref t)] [] M20 := by
    intro M20 s20 E
    refine V.seg F floX0 cjoX0 [.aload 4] (by decide +kernel) (pc2 := 22) (lv2 := [(4, .ref t)]) (st2 := [.ref t]) (M2 := M20) rfl ⟨trivial, trivial⟩ ?_
    refine V.callV (as := []) (rest := []) F (by decide +kernel) lX0_58 bX1_makeNone ⟨1, _, (o_t.sm s20.1), rfl, rfl⟩ (c_X1_makeNone G X.2.1 M20 t (o_t.sm s20.1)) (rm_ok hRm hd (by decide) (by decide)) ⟨Nat.zero_le _, Nat.zero_le _⟩ (Nat.le_of_ble_eq_true rfl) (fun r_ N_ p_ => ?_)
    obtain ⟨rfl, rfl, t22⟩ := p_
    refine (?_ : ∀ (M25 : Mem), (Sf M M25) → f_X0_work M a0 op a b t = f_X0_work_c25 M25 → V G X 5 0 0 (Qx G X 0 0 (p_X0_work M a0 op a b t)) 25 [(4, .ref t)] [] M25) _ (Sf.tr s20 t22) E
    intro M25 s25 E
    exact V.vret F (by decide +kernel) ⟨rfl, E.symm, s25⟩
  refine V.if_ne (off := 16) F (by decide +kernel) (tgt := 20) (by decide) (fun h4 => ?_) (fun h4 => ?_)
  · replace E := E.trans (if_neg h4)
    refine V.pick [4] rfl ?_
    exact hJ20 M Sf.rf E
  · replace E := E.trans (if_pos h4)
    refine V.seg F floX0 cjoX0 [.iload_n 1, .bipush 12] (by decide +kernel) (pc2 := 10) (lv2 := [(0, .ref a0), (1, .int op), (2, .ref a), (3, .ref b), (4, .ref t)]) (st2 := [.int 12, .int op]) (M2 := M) rfl ⟨trivial, trivial, trivial⟩ ?_
    have hJ26 : ∀ (M26 : Mem), (Sf M M26) → f_X0_work M a0 op a b t = f_X0_work_26 a0 op a b t M26 → V G X 5 0 0 (Qx G X 0 0 (p_X0_work M a0 op a b t)) 26 [(0, .ref a0), (1, .int op), (2, .ref a), (3, .ref b), (4, .ref t)] [] M26 := by
      intro M26 s26 E
      refine V.seg F floX0 cjoX0 [.aload_n 2] (by decide +kernel) (pc2 := 27) (lv2 := [(0, .ref a0), (1, .int op), (2, .ref a), (3, .ref b), (4, .ref t)]) (st2 := [.ref a]) (M2 := M26) rfl ⟨trivial, trivial⟩ ?_
      refine V.callV (as := []) (rest := []) F (by decide +kernel) lX0_47 bX1_isConstant ⟨1, _, (o_a.sm s26.1), rfl, rfl⟩ (c_X1_isConstant G X.2.1 M26 a (o_a.sm s26.1)) (rm_ok hRm hd (by decide) (by decide)) ⟨Nat.zero_le _, Nat.zero_le _⟩ (Nat.le_of_ble_eq_true rfl) (fun r_ N_ p_ => ?_)
      obtain ⟨rfl, hN_, z27⟩ := p_
      rw [hN_]
      clear hN_
      have hJ61 : ∀ (M61 : Mem), (Sf M M61) → f_X0_work M a0 op a b t = f_X0_work_61 a0 op a b t M61 → V G X 5 0 0 (Qx G X 0 0 (p_X0_work M a0 op a b t)) 61 [(0, .ref a0), (1, .int op), (2, .ref a), (3, .ref b), (4, .ref t)] [] M61 := by
        intro M61 s61 E
        refine V.seg F floX0 cjoX0 [.aload 4] (by decide +kernel) (pc2 := 63) (lv2 := [(0, .ref a0), (1, .int op), (2, .ref a), (3, .ref b), (4, .ref t)]) (st2 := [.ref t]) (M2 := M61) rfl ⟨trivial, trivial⟩ ?_
        refine V.callV (as := []) (rest := []) F (by decide +kernel) lX0_65 bX1_makeAll ⟨1, _, (o_t.sm s61.1), rfl, rfl⟩ (c_X1_makeAll G X.2.1 M61 t (o_t.sm s61.1)) (rm_ok hRm hd (by decide) (by decide)) ⟨Nat.zero_le _, Nat.zero_le _⟩ (Nat.le_of_ble_eq_true rfl) (fun r_ N_ p_ => ?_)
        obtain ⟨rfl, rfl, t63⟩ := p_
        refine (?_ : ∀ (M66 : Mem), (Sf M M66) → f_X0_work M a0 op a b t = f_X0_work_c66 a0 op a b t M66 → V G X 5 0 0 (Qx G X 0 0 (p_X0_work M a0 op a b t)) 66 [(0, .ref a0), (1, .int op), (2, .ref a), (3, .ref b), (4, .ref t)] [] M66) _ (Sf.tr s61 t63) E
        intro M66 s66 E
        refine V.seg F floX0 cjoX0 [.iload_n 1, .aload_n 2, .aload_n 3] (by decide +kernel) (pc2 := 69) (lv2 := [(0, .ref a0), (1, .int op), (2, .ref a), (3, .ref b), (4, .ref t)]) (st2 := [.ref b, .ref a, .int op]) (M2 := M66) rfl ⟨trivial, trivial, trivial, trivial⟩ ?_
        refine V.callS (as := [.int op, .ref a, .ref b]) (rest := []) F (by decide +kernel) lX0_68 bX0_givesUp (c_X0_givesUp G X.2.1 M66 op a b (o_a.sm s66.1) (o_b.sm s66.1)) (rm_ok hRm hd (by decide) (by decide)) ⟨Nat.zero_le _, Nat.zero_le _⟩ (Nat.le_of_ble_eq_true rfl) (fun r_ N_ p_ => ?_)
        obtain ⟨rfl, hN_, z69⟩ := p_
        rw [hN_]
        clear hN_
        refine V.if_eq (off := 4) F (by decide +kernel) (tgt := 76) (by decide) (fun h72 => ?_) (fun h72 => ?_)
        · replace E := E.trans (if_pos h72)
          refine V.seg F floX0 cjoX0 [.iload_n 1] (by decide +kernel) (pc2 := 77) (lv2 := [(0, .ref a0), (1, .int op), (2, .ref a), (3, .ref b), (4, .ref t)]) (st2 := [.int op]) (M2 := M66) rfl ⟨trivial, trivial⟩ ?_
          have hJ256 : ∀ (M256 : Mem), (Sf M M256) → f_X0_work M a0 op a b t = f_X0_work_256 t M256 → V G X 5 0 0 (Qx G X 0 0 (p_X0_work M a0 op a b t)) 256 [(4, .ref t)] [] M256 := by
            intro M256 s256 E
            refine V.seg F floX0 cjoX0 [.aload 4] (by decide +kernel) (pc2 := 258) (lv2 := [(4, .ref t)]) (st2 := [.ref t]) (M2 := M256) rfl ⟨trivial, trivial⟩ ?_
            refine V.callV (as := []) (rest := []) F (by decide +kernel) lX0_104 bX1_sharpen ⟨1, _, (o_t.sm s256.1), rfl, rfl⟩ (c_X1_sharpen G X.2.1 M256 t (o_t.sm s256.1)) (rm_ok hRm hd (by decide) (by decide)) ⟨Nat.zero_le _, Nat.zero_le _⟩ (Nat.le_of_ble_eq_true rfl) (fun r_ N_ p_ => ?_)
            obtain ⟨rfl, rfl, t258⟩ := p_
            refine (?_ : ∀ (M261 : Mem), (Sf M M261) → f_X0_work M a0 op a b t = f_X0_work_c261 M261 → V G X 5 0 0 (Qx G X 0 0 (p_X0_work M a0 op a b t)) 261 [(4, .ref t)] [] M261) _ (Sf.tr s256 t258) E
            intro M261 s261 E
            exact V.vret F (by decide +kernel) ⟨rfl, E.symm, s261⟩
          by_cases h77_0 : op = 0
          · replace E := E.trans (if_pos h77_0)
            refine V.swo (dflt := 172) (lo := 0) (hi := 13) (offs := #[71, 81, 91, 101, 101, 101, 112, 112, 112, 124, 137, 172, 150, 163]) (len := 71) (off := 71) (tgt := 148) F (by decide +kernel) (by rw [h77_0]; rfl) rfl (by decide) ?_
            refine V.seg F floX0 cjoX0 [.aload_n 2, .aload_n 3, .aload 4] (by decide +kernel) (pc2 := 152) (lv2 := [(0, .ref a0), (1, .int op), (2, .ref a), (3, .ref b), (4, .ref t)]) (st2 := [.ref t, .ref b, .ref a]) (M2 := M66) rfl ⟨trivial, trivial, trivial, trivial⟩ ?_
            refine V.callS (as := [.ref a, .ref b, .ref t]) (rest := []) F (by decide +kernel) lX0_72 bX0_plus (c_X0_plus G X.2.1 M66 a b t (o_a.sm s66.1) (o_b.sm s66.1) (o_t.sm s66.1)) (rm_ok hRm hd (by decide) (by decide)) ⟨Nat.zero_le _, Nat.zero_le _⟩ (Nat.le_of_ble_eq_true rfl) (fun r_ N_ p_ => ?_)
            obtain ⟨rfl, rfl, t152⟩ := p_
            refine (?_ : ∀ (M155 : Mem), (Sf M M155) → f_X0_work M a0 op a b t = f_X0_work_c155 t M155 → V G X 5 0 0 (Qx G X 0 0 (p_X0_work M a0 op a b t)) 155 [(0, .ref a0), (1, .int op), (2, .ref a), (3, .ref b), (4, .ref t)] [] M155) _ (Sf.tr s66 t152) E
            intro M155 s155 E
            refine V.seg F floX0 cjoX0 [.goto 101] (by decide +kernel) (pc2 := 256) (lv2 := [(0, .ref a0), (1, .int op), (2, .ref a), (3, .ref b), (4, .ref t)]) (st2 := []) (M2 := M155) rfl ⟨(by decide), trivial⟩ ?_
            refine V.pick [4] rfl ?_
            exact hJ256 M155 s155 E
          · replace E := E.trans (if_neg h77_0)
            by_cases h77_1 : op = 1
            · replace E := E.trans (if_pos h77_1)
              refine V.swo (dflt := 172) (lo := 0) (hi := 13) (offs := #[71, 81, 91, 101, 101, 101, 112, 112, 112, 124, 137, 172, 150, 163]) (len := 71) (off := 81) (tgt := 158) F (by decide +kernel) (by rw [h77_1]; rfl) rfl (by decide) ?_
              refine V.seg F floX0 cjoX0 [.aload_n 2, .aload_n 3, .aload 4] (by decide +kernel) (pc2 := 162) (lv2 := [(0, .ref a0), (1, .int op), (2, .ref a), (3, .ref b), (4, .ref t)]) (st2 := [.ref t, .ref b, .ref a]) (M2 := M66) rfl ⟨trivial, trivial, trivial, trivial⟩ ?_
              refine V.callS (as := [.ref a, .ref b, .ref t]) (rest := []) F (by decide +kernel) lX0_76 bX0_minus (c_X0_minus G X.2.1 M66 a b t (o_a.sm s66.1) (o_b.sm s66.1) (o_t.sm s66.1)) (rm_ok hRm hd (by decide) (by decide)) ⟨Nat.zero_le _, Nat.zero_le _⟩ (Nat.le_of_ble_eq_true rfl) (fun r_ N_ p_ => ?_)
              obtain ⟨rfl, rfl, t162⟩ := p_
              refine (?_ : ∀ (M165 : Mem), (Sf M M165) → f_X0_work M a0 op a b t = f_X0_work_c165 t M165 → V G X 5 0 0 (Qx G X 0 0 (p_X0_work M a0 op a b t)) 165 [(0, .ref a0), (1, .int op), (2, .ref a), (3, .ref b), (4, .ref t)] [] M165) _ (Sf.tr s66 t162) E
              intro M165 s165 E
              refine V.seg F floX0 cjoX0 [.goto 91] (by decide +kernel) (pc2 := 256) (lv2 := [(0, .ref a0), (1, .int op), (2, .ref a), (3, .ref b), (4, .ref t)]) (st2 := []) (M2 := M165) rfl ⟨(by decide), trivial⟩ ?_
              refine V.pick [4] rfl ?_
              exact hJ256 M165 s165 E
            · replace E := E.trans (if_neg h77_1)
              by_cases h77_2 : op = 2
              · replace E := E.trans (if_pos h77_2)
                refine V.swo (dflt := 172) (lo := 0) (hi := 13) (offs := #[71, 81, 91, 101, 101, 101, 112, 112, 112, 124, 137, 172, 150, 163]) (len := 71) (off := 91) (tgt := 168) F (by decide +kernel) (by rw [h77_2]; rfl) rfl (by decide) ?_
                refine V.seg F floX0 cjoX0 [.aload_n 2, .aload_n 3, .aload 4] (by decide +kernel) (pc2 := 172) (lv2 := [(0, .ref a0), (1, .int op), (2, .ref a), (3, .ref b), (4, .ref t)]) (st2 := [.ref t, .ref b, .ref a]) (M2 := M66) rfl ⟨trivial, trivial, trivial, trivial⟩ ?_
                refine V.callS (as := [.ref a, .ref b, .ref t]) (rest := []) F (by decide +kernel) lX0_79 bX0_times (c_X0_times G X.2.1 M66 a b t (o_a.sm s66.1) (o_b.sm s66.1) (o_t.sm s66.1)) (rm_ok hRm hd (by decide) (by decide)) ⟨Nat.zero_le _, Nat.zero_le _⟩ (Nat.le_of_ble_eq_true rfl) (fun r_ N_ p_ => ?_)
                obtain ⟨rfl, rfl, t172⟩ := p_
                refine (?_ : ∀ (M175 : Mem), (Sf M M175) → f_X0_work M a0 op a b t = f_X0_work_c175 t M175 → V G X 5 0 0 (Qx G X 0 0 (p_X0_work M a0 op a b t)) 175 [(0, .ref a0), (1, .int op), (2, .ref a), (3, .ref b), (4, .ref t)] [] M175) _ (Sf.tr s66 t172) E
                intro M175 s175 E
                refine V.seg F floX0 cjoX0 [.goto 81] (by decide +kernel) (pc2 := 256) (lv2 := [(0, .ref a0), (1, .int op), (2, .ref a), (3, .ref b), (4, .ref t)]) (st2 := []) (M2 := M175) rfl ⟨(by decide), trivial⟩ ?_
                refine V.pick [4] rfl ?_
                exact hJ256 M175 s175 E
              · replace E := E.trans (if_neg h77_2)
                by_cases h77_3 : op = 3 ∨ op = 4 ∨ op = 5
                · replace E := E.trans (if_pos h77_3)
                  refine V.swo (dflt := 172) (lo := 0) (hi := 13) (offs := #[71, 81, 91, 101, 101, 101, 112, 112, 112, 124, 137, 172, 150, 163]) (len := 71) (off := 101) (tgt := 178) F (by decide +kernel) (by rcases h77_3 with h_ | h_ | h_ <;> rw [h_] <;> rfl) rfl (by decide) ?_
                  refine V.seg F floX0 cjoX0 [.iload_n 1, .aload_n 2, .aload_n 3, .aload 4] (by decide +kernel) (pc2 := 183) (lv2 := [(0, .ref a0), (1, .int op), (2, .ref a), (3, .ref b), (4, .ref t)]) (st2 := [.ref t, .ref b, .ref a, .int op]) (M2 := M66) rfl ⟨trivial, trivial, trivial, trivial, trivial⟩ ?_
                  refine V.callS (as := [.int op, .ref a, .ref b, .ref t]) (rest := []) F (by decide +kernel) lX0_82 bX0_bitwise (c_X0_bitwise G X.2.1 M66 op a b t (o_a.sm s66.1) (o_b.sm s66.1) (o_t.sm s66.1)) (rm_ok hRm hd (by decide) (by decide)) ⟨Nat.zero_le _, Nat.zero_le _⟩ (Nat.le_of_ble_eq_true rfl) (fun r_ N_ p_ => ?_)
                  obtain ⟨rfl, rfl, t183⟩ := p_
                  refine (?_ : ∀ (M186 : Mem), (Sf M M186) → f_X0_work M a0 op a b t = f_X0_work_c186 t M186 → V G X 5 0 0 (Qx G X 0 0 (p_X0_work M a0 op a b t)) 186 [(0, .ref a0), (1, .int op), (2, .ref a), (3, .ref b), (4, .ref t)] [] M186) _ (Sf.tr s66 t183) E
                  intro M186 s186 E
                  refine V.seg F floX0 cjoX0 [.goto 70] (by decide +kernel) (pc2 := 256) (lv2 := [(0, .ref a0), (1, .int op), (2, .ref a), (3, .ref b), (4, .ref t)]) (st2 := []) (M2 := M186) rfl ⟨(by decide), trivial⟩ ?_
                  refine V.pick [4] rfl ?_
                  exact hJ256 M186 s186 E
                · replace E := E.trans (if_neg h77_3)
                  by_cases h77_4 : op = 6 ∨ op = 7 ∨ op = 8
                  · replace E := E.trans (if_pos h77_4)
                    refine V.swo (dflt := 172) (lo := 0) (hi := 13) (offs := #[71, 81, 91, 101, 101, 101, 112, 112, 112, 124, 137, 172, 150, 163]) (len := 71) (off := 112) (tgt := 189) F (by decide +kernel) (by rcases h77_4 with h_ | h_ | h_ <;> rw [h_] <;> rfl) rfl (by decide) ?_
                    refine V.seg F floX0 cjoX0 [.aload_n 0, .iload_n 1, .aload_n 2, .aload_n 3, .aload 4] (by decide +kernel) (pc2 := 195) (lv2 := [(0, .ref a0), (1, .int op), (2, .ref a), (3, .ref b), (4, .ref t)]) (st2 := [.ref t, .ref b, .ref a, .int op, .ref a0]) (M2 := M66) rfl ⟨trivial, trivial, trivial, trivial, trivial, trivial⟩ ?_
                    refine V.callV (as := [.int op, .ref a, .ref b, .ref t]) (rest := []) F (by decide +kernel) lX0_86 bX0_shifted ⟨0, _, ((Ac.o q ha).sm s66.1), rfl, rfl⟩ (c_X0_shifted G X.2.1 M66 a0 op a b t (q.sm s66.1) ha (o_a.sm s66.1) (o_b.sm s66.1) (o_t.sm s66.1)) (rm_ok hRm hd (by decide) (by decide)) ⟨Nat.zero_le _, Nat.zero_le _⟩ (Nat.le_of_ble_eq_true rfl) (fun r_ N_ p_ => ?_)
                    obtain ⟨rfl, rfl, t195⟩ := p_
                    refine (?_ : ∀ (M198 : Mem), (Sf M M198) → f_X0_work M a0 op a b t = f_X0_work_c198 t M198 → V G X 5 0 0 (Qx G X 0 0 (p_X0_work M a0 op a b t)) 198 [(0, .ref a0), (1, .int op), (2, .ref a), (3, .ref b), (4, .ref t)] [] M198) _ (Sf.tr s66 t195) E
                    intro M198 s198 E
                    refine V.seg F floX0 cjoX0 [.goto 58] (by decide +kernel) (pc2 := 256) (lv2 := [(0, .ref a0), (1, .int op), (2, .ref a), (3, .ref b), (4, .ref t)]) (st2 := []) (M2 := M198) rfl ⟨(by decide), trivial⟩ ?_
                    refine V.pick [4] rfl ?_
                    exact hJ256 M198 s198 E
                  · replace E := E.trans (if_neg h77_4)
                    by_cases h77_5 : op = 9
                    · replace E := E.trans (if_pos h77_5)
                      refine V.swo (dflt := 172) (lo := 0) (hi := 13) (offs := #[71, 81, 91, 101, 101, 101, 112, 112, 112, 124, 137, 172, 150, 163]) (len := 71) (off := 124) (tgt := 201) F (by decide +kernel) (by rw [h77_5]; rfl) rfl (by decide) ?_
                      refine V.seg F floX0 cjoX0 [.aload_n 2, .aload_n 3, .getfield 51, .aload 4] (by decide +kernel) (pc2 := 208) (lv2 := [(0, .ref a0), (1, .int op), (2, .ref a), (3, .ref b), (4, .ref t)]) (st2 := [.ref t, .long (mL M66 b 1), .ref a]) (M2 := M66) rfl ⟨trivial, trivial, (o_b.sm s66.1), trivial, trivial⟩ ?_
                      refine V.callS (as := [.ref a, .long (mL M66 b 1), .ref t]) (rest := []) F (by decide +kernel) lX0_89 bX0_quotient (c_X0_quotient G X.2.1 M66 a (mL M66 b 1) t (o_a.sm s66.1) (o_t.sm s66.1)) (rm_ok hRm hd (by decide) (by decide)) ⟨Nat.zero_le _, Nat.zero_le _⟩ (Nat.le_of_ble_eq_true rfl) (fun r_ N_ p_ => ?_)
                      obtain ⟨rfl, rfl, t208⟩ := p_
                      refine (?_ : ∀ (M211 : Mem), (Sf M M211) → f_X0_work M a0 op a b t = f_X0_work_c211 t M211 → V G X 5 0 0 (Qx G X 0 0 (p_X0_work M a0 op a b t)) 211 [(0, .ref a0), (1, .int op), (2, .ref a), (3, .ref b), (4, .ref t)] [] M211) _ (Sf.tr s66 t208) E
                      intro M211 s211 E
                      refine V.seg F floX0 cjoX0 [.goto 45] (by decide +kernel) (pc2 := 256) (lv2 := [(0, .ref a0), (1, .int op), (2, .ref a), (3, .ref b), (4, .ref t)]) (st2 := []) (M2 := M211) rfl ⟨(by decide), trivial⟩ ?_
                      refine V.pick [4] rfl ?_
                      exact hJ256 M211 s211 E
                    · replace E := E.trans (if_neg h77_5)
                      by_cases h77_6 : op = 10
                      · replace E := E.trans (if_pos h77_6)
                        refine V.swo (dflt := 172) (lo := 0) (hi := 13) (offs := #[71, 81, 91, 101, 101, 101, 112, 112, 112, 124, 137, 172, 150, 163]) (len := 71) (off := 137) (tgt := 214) F (by decide +kernel) (by rw [h77_6]; rfl) rfl (by decide) ?_
                        refine V.seg F floX0 cjoX0 [.aload_n 2, .aload_n 3, .getfield 51, .aload 4] (by decide +kernel) (pc2 := 221) (lv2 := [(0, .ref a0), (1, .int op), (2, .ref a), (3, .ref b), (4, .ref t)]) (st2 := [.ref t, .long (mL M66 b 1), .ref a]) (M2 := M66) rfl ⟨trivial, trivial, (o_b.sm s66.1), trivial, trivial⟩ ?_
                        refine V.callS (as := [.ref a, .long (mL M66 b 1), .ref t]) (rest := []) F (by decide +kernel) lX0_93 bX0_remainder (c_X0_remainder G X.2.1 M66 a (mL M66 b 1) t (o_a.sm s66.1) (o_t.sm s66.1)) (rm_ok hRm hd (by decide) (by decide)) ⟨Nat.zero_le _, Nat.zero_le _⟩ (Nat.le_of_ble_eq_true rfl) (fun r_ N_ p_ => ?_)
                        obtain ⟨rfl, rfl, t221⟩ := p_
                        refine (?_ : ∀ (M224 : Mem), (Sf M M224) → f_X0_work M a0 op a b t = f_X0_work_c224 t M224 → V G X 5 0 0 (Qx G X 0 0 (p_X0_work M a0 op a b t)) 224 [(0, .ref a0), (1, .int op), (2, .ref a), (3, .ref b), (4, .ref t)] [] M224) _ (Sf.tr s66 t221) E
                        intro M224 s224 E
                        refine V.seg F floX0 cjoX0 [.goto 32] (by decide +kernel) (pc2 := 256) (lv2 := [(0, .ref a0), (1, .int op), (2, .ref a), (3, .ref b), (4, .ref t)]) (st2 := []) (M2 := M224) rfl ⟨(by decide), trivial⟩ ?_
                        refine V.pick [4] rfl ?_
                        exact hJ256 M224 s224 E
                      · replace E := E.trans (if_neg h77_6)
                        by_cases h77_7 : op = 12
                        · replace E := E.trans (if_pos h77_7)
                          refine V.swo (dflt := 172) (lo := 0) (hi := 13) (offs := #[71, 81, 91, 101, 101, 101, 112, 112, 112, 124, 137, 172, 150, 163]) (len := 71) (off := 150) (tgt := 227) F (by decide +kernel) (by rw [h77_7]; rfl) rfl (by decide) ?_
                          refine V.seg F floX0 cjoX0 [.aload_n 0, .getfield 12, .aload_n 2, .aload 4] (by decide +kernel) (pc2 := 234) (lv2 := [(0, .ref a0), (1, .int op), (2, .ref a), (3, .ref b), (4, .ref t)]) (st2 := [.ref t, .ref a, .ref (a0 + 1)]) (M2 := M66) rfl ⟨trivial, (Ac.f (q.sm s66.1) ha 0 (by decide)), trivial, trivial, trivial⟩ ?_
                          refine V.callS (as := [.ref (a0 + 1), .ref a, .ref t]) (rest := []) F (by decide +kernel) lX0_76 bX0_minus (c_X0_minus G X.2.1 M66 (a0 + 1) a t ((Ac.z q ha).sm s66.1) (o_a.sm s66.1) (o_t.sm s66.1)) (rm_ok hRm hd (by decide) (by decide)) ⟨Nat.zero_le _, Nat.zero_le _⟩ (Nat.le_of_ble_eq_true rfl) (fun r_ N_ p_ => ?_)
                          obtain ⟨rfl, rfl, t234⟩ := p_
                          refine (?_ : ∀ (M237 : Mem), (Sf M M237) → f_X0_work M a0 op a b t = f_X0_work_c237 t M237 → V G X 5 0 0 (Qx G X 0 0 (p_X0_work M a0 op a b t)) 237 [(0, .ref a0), (1, .int op), (2, .ref a), (3, .ref b), (4, .ref t)] [] M237) _ (Sf.tr s66 t234) E
                          intro M237 s237 E
                          refine V.seg F floX0 cjoX0 [.goto 19] (by decide +kernel) (pc2 := 256) (lv2 := [(0, .ref a0), (1, .int op), (2, .ref a), (3, .ref b), (4, .ref t)]) (st2 := []) (M2 := M237) rfl ⟨(by decide), trivial⟩ ?_
                          refine V.pick [4] rfl ?_
                          exact hJ256 M237 s237 E
                        · replace E := E.trans (if_neg h77_7)
                          by_cases h77_8 : op = 13
                          · replace E := E.trans (if_pos h77_8)
                            refine V.swo (dflt := 172) (lo := 0) (hi := 13) (offs := #[71, 81, 91, 101, 101, 101, 112, 112, 112, 124, 137, 172, 150, 163]) (len := 71) (off := 163) (tgt := 240) F (by decide +kernel) (by rw [h77_8]; rfl) rfl (by decide) ?_
                            refine V.seg F floX0 cjoX0 [.aload_n 2, .aload 4] (by decide +kernel) (pc2 := 243) (lv2 := [(0, .ref a0), (1, .int op), (2, .ref a), (3, .ref b), (4, .ref t)]) (st2 := [.ref t, .ref a]) (M2 := M66) rfl ⟨trivial, trivial, trivial⟩ ?_
                            refine V.callS (as := [.ref a, .ref t]) (rest := []) F (by decide +kernel) lX0_96 bX0_turned (c_X0_turned G X.2.1 M66 a t (o_a.sm s66.1) (o_t.sm s66.1)) (rm_ok hRm hd (by decide) (by decide)) ⟨Nat.zero_le _, Nat.zero_le _⟩ (Nat.le_of_ble_eq_true rfl) (fun r_ N_ p_ => ?_)
                            obtain ⟨rfl, rfl, t243⟩ := p_
                            refine (?_ : ∀ (M246 : Mem), (Sf M M246) → f_X0_work M a0 op a b t = f_X0_work_c246 t M246 → V G X 5 0 0 (Qx G X 0 0 (p_X0_work M a0 op a b t)) 246 [(0, .ref a0), (1, .int op), (2, .ref a), (3, .ref b), (4, .ref t)] [] M246) _ (Sf.tr s66 t243) E
                            intro M246 s246 E
                            refine V.seg F floX0 cjoX0 [.goto 10] (by decide +kernel) (pc2 := 256) (lv2 := [(0, .ref a0), (1, .int op), (2, .ref a), (3, .ref b), (4, .ref t)]) (st2 := []) (M2 := M246) rfl ⟨(by decide), trivial⟩ ?_
                            refine V.pick [4] rfl ?_
                            exact hJ256 M246 s246 E
                          · replace E := E.trans (if_neg h77_8)
                            refine V.swo (dflt := 172) (lo := 0) (hi := 13) (offs := #[71, 81, 91, 101, 101, 101, 112, 112, 112, 124, 137, 172, 150, 163]) (len := 71) (off := 172) (tgt := 249) F (by decide +kernel) (sw_dflt 14 (by decide) (h := fun k_ hk_ e_ => match k_, hk_, e_ with | 0, _, e_ => absurd ((e_.trans (by decide))) h77_0 | 1, _, e_ => absurd ((e_.trans (by decide))) h77_1 | 2, _, e_ => absurd ((e_.trans (by decide))) h77_2 | 3, _, e_ => absurd (Or.inl (e_.trans (by decide))) h77_3 | 4, _, e_ => absurd (Or.inr (Or.inl (e_.trans (by decide)))) h77_3 | 5, _, e_ => absurd (Or.inr (Or.inr ((e_.trans (by decide))))) h77_3 | 6, _, e_ => absurd (Or.inl (e_.trans (by decide))) h77_4 | 7, _, e_ => absurd (Or.inr (Or.inl (e_.trans (by decide)))) h77_4 | 8, _, e_ => absurd (Or.inr (Or.inr ((e_.trans (by decide))))) h77_4 | 9, _, e_ => absurd ((e_.trans (by decide))) h77_5 | 10, _, e_ => absurd ((e_.trans (by decide))) h77_6 | 11, _, _ => rfl | 12, _, e_ => absurd ((e_.trans (by decide))) h77_7 | 13, _, e_ => absurd ((e_.trans (by decide))) h77_8 | k_ + 14, hk_, _ => absurd hk_ (by omega))) rfl (by decide) ?_
                            refine V.seg F floX0 cjoX0 [.iload_n 1, .aload_n 2, .aload 4] (by decide +kernel) (pc2 := 253) (lv2 := [(0, .ref a0), (1, .int op), (2, .ref a), (3, .ref b), (4, .ref t)]) (st2 := [.ref t, .ref a, .int op]) (M2 := M66) rfl ⟨trivial, trivial, trivial, trivial⟩ ?_
                            refine V.callS (as := [.int op, .ref a, .ref t]) (rest := []) F (by decide +kernel) lX0_100 bX0_narrowed (c_X0_narrowed G X.2.1 M66 op a t (o_a.sm s66.1) (o_t.sm s66.1)) (rm_ok hRm hd (by decide) (by decide)) ⟨Nat.zero_le _, Nat.zero_le _⟩ (Nat.le_of_ble_eq_true rfl) (fun r_ N_ p_ => ?_)
                            obtain ⟨rfl, rfl, t253⟩ := p_
                            refine (?_ : ∀ (M256 : Mem), (Sf M M256) → f_X0_work M a0 op a b t = f_X0_work_c256 t M256 → V G X 5 0 0 (Qx G X 0 0 (p_X0_work M a0 op a b t)) 256 [(0, .ref a0), (1, .int op), (2, .ref a), (3, .ref b), (4, .ref t)] [] M256) _ (Sf.tr s66 t253) E
                            intro M256 s256 E
                            refine V.pick [4] rfl ?_
                            exact hJ256 M256 s256 E
        · replace E := E.trans (if_neg h72)
          exact V.vret F (by decide +kernel) ⟨rfl, E.symm, s66⟩
      refine V.if_eq (off := 31) F (by decide +kernel) (tgt := 61) (by decide) (fun h30 => ?_) (fun h30 => ?_)
      · replace E := E.trans (if_pos h30)
        refine V.pick [0, 1, 2, 3, 4] rfl ?_
        exact hJ61 M26 s26 E
      · replace E := E.trans (if_neg h30)
        refine V.seg F floX0 cjoX0 [.iload_n 1, .bipush 12] (by decide +kernel) (pc2 := 36) (lv2 := [(0, .ref a0), (1, .int op), (2, .ref a), (3, .ref b), (4, .ref t)]) (st2 := [.int 12, .int op]) (M2 := M26) rfl ⟨trivial, trivial, trivial⟩ ?_
        have hJ46 : ∀ (M46 : Mem), (Sf M M46) → f_X0_work M a0 op a b t = f_X0_work_46 op a b t M46 → V G X 5 0 0 (Qx G X 0 0 (p_X0_work M a0 op a b t)) 46 [(1, .int op), (2, .ref a), (3, .ref b), (4, .ref t)] [] M46 := by
          intro M46 s46 E
          refine V.seg F floX0 cjoX0 [.iload_n 1, .aload_n 2, .getfield 51, .aload_n 3, .getfield 51, .aload 4] (by decide +kernel) (pc2 := 57) (lv2 := [(1, .int op), (2, .ref a), (3, .ref b), (4, .ref t)]) (st2 := [.ref t, .long (mL M46 b 1), .long (mL M46 a 1), .int op]) (M2 := M46) rfl ⟨trivial, trivial, (o_a.sm s46.1), trivial, (o_b.sm s46.1), trivial, trivial⟩ ?_
          refine V.callS (as := [.int op, .long (mL M46 a 1), .long (mL M46 b 1), .ref t]) (rest := []) F (by decide +kernel) lX0_61 bX0_constant (c_X0_constant G X.2.1 M46 op (mL M46 a 1) (mL M46 b 1) t (o_t.sm s46.1)) (rm_ok hRm hd (by decide) (by decide)) ⟨Nat.zero_le _, Nat.zero_le _⟩ (Nat.le_of_ble_eq_true rfl) (fun r_ N_ p_ => ?_)
          obtain ⟨rfl, rfl, t57⟩ := p_
          refine (?_ : ∀ (M60 : Mem), (Sf M M60) → f_X0_work M a0 op a b t = f_X0_work_c60 M60 → V G X 5 0 0 (Qx G X 0 0 (p_X0_work M a0 op a b t)) 60 [(1, .int op), (2, .ref a), (3, .ref b), (4, .ref t)] [] M60) _ (Sf.tr s46 t57) E
          intro M60 s60 E
          exact V.vret F (by decide +kernel) ⟨rfl, E.symm, s60⟩
        refine V.ic_ge (off := 10) F (by decide +kernel) (tgt := 46) (by decide) (fun h36 => ?_) (fun h36 => ?_)
        · replace E := E.trans (if_pos h36)
          refine V.pick [1, 2, 3, 4] rfl ?_
          exact hJ46 M26 s26 E
        · replace E := E.trans (if_neg h36)
          refine V.seg F floX0 cjoX0 [.aload_n 3] (by decide +kernel) (pc2 := 40) (lv2 := [(0, .ref a0), (1, .int op), (2, .ref a), (3, .ref b), (4, .ref t)]) (st2 := [.ref b]) (M2 := M26) rfl ⟨trivial, trivial⟩ ?_
          refine V.callV (as := []) (rest := []) F (by decide +kernel) lX0_47 bX1_isConstant ⟨1, _, (o_b.sm s26.1), rfl, rfl⟩ (c_X1_isConstant G X.2.1 M26 b (o_b.sm s26.1)) (rm_ok hRm hd (by decide) (by decide)) ⟨Nat.zero_le _, Nat.zero_le _⟩ (Nat.le_of_ble_eq_true rfl) (fun r_ N_ p_ => ?_)
          obtain ⟨rfl, hN_, z40⟩ := p_
          rw [hN_]
          clear hN_
          refine V.if_eq (off := 18) F (by decide +kernel) (tgt := 61) (by decide) (fun h43 => ?_) (fun h43 => ?_)
          · replace E := E.trans (if_pos h43)
            refine V.pick [0, 1, 2, 3, 4] rfl ?_
            exact hJ61 M26 s26 E
          · replace E := E.trans (if_neg h43)
            refine V.pick [1, 2, 3, 4] rfl ?_
            exact hJ46 M26 s26 E
    refine V.ic_ge (off := 16) F (by decide +kernel) (tgt := 26) (by decide) (fun h10 => ?_) (fun h10 => ?_)
    · replace E := E.trans (if_pos h10)
      refine V.pick [0, 1, 2, 3, 4] rfl ?_
      exact hJ26 M Sf.rf E
    · replace E := E.trans (if_neg h10)
      refine V.seg F floX0 cjoX0 [.aload_n 3, .getfield 54] (by decide +kernel) (pc2 := 17) (lv2 := [(0, .ref a0), (1, .int op), (2, .ref a), (3, .ref b), (4, .ref t)]) (st2 := [.int (mI M b 0)]) (M2 := M) rfl ⟨trivial, o_b, trivial⟩ ?_
      refine V.if_eq (off := 9) F (by decide +kernel) (tgt := 26) (by decide) (fun h17 => ?_) (fun h17 => ?_)
      · replace E := E.trans (if_pos h17)
        refine V.pick [0, 1, 2, 3, 4] rfl ?_
        exact hJ26 M Sf.rf E
      · replace E := E.trans (if_neg h17)
        refine V.pick [4] rfl ?_
        exact hJ20 M Sf.rf E
