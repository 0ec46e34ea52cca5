/-- all that is the reference's -/
def wa (a _k : Nat) : Bool := decide (52 ≤ a) && decide (a ≤ 73)
theorem sub_wg_wa : ∀ a k, wg a k = true → wa a k = true := fun a k h => by
  simp only [wg, wa, Bool.or_eq_true, Bool.and_eq_true, decide_eq_true_eq] at h ⊢
  omega
theorem sub_wh_wa : ∀ a k, wh a k = true → wa a k = true := fun a k h => by
  simp only [wh, wg, wa, Bool.or_eq_true, Bool.and_eq_true, decide_eq_true_eq] at h ⊢
  omega
theorem cn_lt {x y : Int32} {N : Nat} (c : cn x N) (hy : y = nI N) (h : ¬ x = y) (hN : N < 2 ^ 31) : vp_in x N := by
  have h1 : ix x ≠ N := fun e => h (by rw [hy, ← e]; exact c.1)
  have h2 := c.2
  rw [c.1]
  exact vp_in_nI (by omega) hN
theorem vin_of {x y : Int32} {n : Nat} (h : x = y) (v : vp_in y n) : vp_in x n := by rw [h]; exact v
theorem in3 {t : Int32} (h : ¬ f_X7_in (Int32.toInt64 t) 0 3 = 0) : vp_in t 4 := by
  have h1 := in_iff.mp h
  rw [Int64.le_iff_toInt_le, Int64.le_iff_toInt_le, Int32.toInt_toInt64] at h1
  rw [vp_in_iff]
  have e0 : (0 : Int64).toInt = 0 := rfl
  have e3 : (3 : Int64).toInt = 3 := rfl
  rw [e0, e3] at h1
  omega
theorem lnIn {l x : Int32} (c : cn x 32) (h : ¬ f_X7_in (Int32.toInt64 l) 0 (Int32.toInt64 x - 1) = 0) : vp_in l 32 := by
  have h1 := in_iff.mp h
  rw [Int64.le_iff_toInt_le, Int64.le_iff_toInt_le, Int32.toInt_toInt64] at h1
  rw [vp_in_iff]
  have e0 : (0 : Int64).toInt = 0 := rfl
  have e1 : (x.toInt64 - 1).toInt = x.toInt - 1 := lg_i2l_sub x 1
  have e2 : x.toInt = (ix x : Int) := by
    have h9 : ix x < 2 ^ 31 := Nat.lt_of_le_of_lt c.2 (by decide)
    have h8 := nI_toInt h9
    rw [← c.1] at h8
    exact h8
  have h7 := c.2
  rw [e0, e1, e2] at h1
  omega
theorem le11 {op : Int32} (h : op ≤ 11) : ¬ 20 ≤ op := by
  rw [Int32.le_iff_toInt_le] at h ⊢
  have e1 : (11 : Int32).toInt = 11 := rfl
  have e2 : (20 : Int32).toInt = 20 := rfl
  rw [e1] at h
  rw [e2]
  omega
def f_X7_isLine_125  (w0_125 : Int32) : Int32 := w0_125
def f_X7_isLine_124   : Int32 := f_X7_isLine_125 0
def f_X7_isLine_108 (a : Int32) (w0_108 : Int32) : Int32 := if (f_X7_isPlace a) = 0 then f_X7_isLine_124  else if w0_108 = 0 then f_X7_isLine_124  else f_X7_isLine_125 1
def f_X7_isLine_103 (a : Int32)  : Int32 := f_X7_isLine_108 a 1
def f_X7_isLine_107 (a : Int32)  : Int32 := f_X7_isLine_108 a 0
def f_X7_isLine_47  (w0_47 : Int32) : Int32 := w0_47
def f_X7_isLine_46   : Int32 := f_X7_isLine_47 0
def f_X7_isLine_27  (w0_27 : Int32) : Int32 := w0_27
def f_X7_isLine_26   : Int32 := f_X7_isLine_27 0
def f_X7_isLine (op : Int32) (a : Int32) (b : Int32) : Int32 := if op = 26 then if a = 0 then if (f_X7_in (Int32.toInt64 b) 0 32) = 0 then f_X7_isLine_26  else f_X7_isLine_27 1 else f_X7_isLine_26  else if op = 27 then if a = 0 then if b = 0 then f_X7_isLine_47 1 else f_X7_isLine_46  else f_X7_isLine_46  else if op = 20 then f_X7_isLine_103 a else if op = 22 then if (f_X7_in (Int32.toInt64 b) 0 3) = 0 then f_X7_isLine_107 a else f_X7_isLine_103 a else if op = 25 then if (f_X7_in (Int32.toInt64 b) 0 63) = 0 then f_X7_isLine_107 a else f_X7_isLine_103 a else if (f_X7_isPlace b) = 0 then f_X7_isLine_107 a else f_X7_isLine_103 a
abbrev p_X7_isLine (M : Mem) (op : Int32) (a : Int32) (b : Int32) : Option Value → Mem → Prop := fun r N => r = some (.int (f_X7_isLine op a b)) ∧ N = M ∧ ((f_X7_isLine op a b) = 0 ∨ (f_X7_isLine op a b) = 1)
set_option maxRecDepth 100000 in
set_option maxHeartbeats 4000000 in
theorem c_X7_isLine (G : Ctx) (l : Launch) (M : Mem) (op : Int32) (a : Int32) (b : Int32)  : CT G l 2 mX7_isLine [.int op, .int a, .int b] M 0 0 (p_X7_isLine M op a b) := by
  refine CT.of (by decide) (Nat.le_of_ble_eq_true rfl) ?_
  intro X d hd hl hRm hnm F
  subst hl
  have E : f_X7_isLine op a b = f_X7_isLine op a b := rfl
  show V G X 4 0 0 (Qx G X 0 0 (p_X7_isLine M op a b)) 0 [(0, .int op), (1, .int a), (2, .int b)] [] M
  refine V.seg F floX7 cjoX7 [.iload_n 0, .bipush 26] (by decide +kernel) (pc2 := 3) (lv2 := [(0, .int op), (1, .int a), (2, .int b)]) (st2 := [.int 26, .int op]) (M2 := M) rfl ⟨trivial, trivial, trivial⟩ ?_
  refine V.ic_ne (off := 25) F (by decide +kernel) (tgt := 28) (by decide) (fun h3 => ?_) (fun h3 => ?_)
  · replace E := E.trans (if_neg h3)
    refine V.seg F floX7 cjoX7 [.iload_n 0, .bipush 27] (by decide +kernel) (pc2 := 31) (lv2 := [(0, .int op), (1, .int a), (2, .int b)]) (st2 := [.int 27, .int op]) (M2 := M) rfl ⟨trivial, trivial, trivial⟩ ?_
    refine V.ic_ne (off := 17) F (by decide +kernel) (tgt := 48) (by decide) (fun h31 => ?_) (fun h31 => ?_)
    · replace E := E.trans (if_neg h31)
      refine V.seg F floX7 cjoX7 [.iload_n 0, .bipush 20] (by decide +kernel) (pc2 := 51) (lv2 := [(0, .int op), (1, .int a), (2, .int b)]) (st2 := [.int 20, .int op]) (M2 := M) rfl ⟨trivial, trivial, trivial⟩ ?_
      have hJ108 : ∀ (w0_108 : Int32), f_X7_isLine op a b = f_X7_isLine_108 a w0_108 → V G X 4 0 0 (Qx G X 0 0 (p_X7_isLine M op a b)) 108 [(1, .int a)] [.int w0_108] M := by
        intro w0_108 E
        refine V.seg F floX7 cjoX7 [.istore_n 3, .iload_n 1] (by decide +kernel) (pc2 := 110) (lv2 := [(3, .int w0_108), (1, .int a)]) (st2 := [.int a]) (M2 := M) rfl ⟨(by decide), trivial, trivial⟩ ?_
        refine V.callS (as := [.int a]) (rest := []) F (by decide +kernel) lX7_264 bX7_isPlace (c_X7_isPlace G X.2.1 M a) (rm_ok hRm hd (by decide) (by decide)) ⟨Nat.zero_le _, Nat.zero_le _⟩ (Nat.le_of_ble_eq_true rfl) (fun r_ N_ p_ => ?_)
        obtain ⟨rfl, hN_, z110⟩ := p_
        rw [hN_]
        clear hN_
        have hJ125 : ∀ (w0_125 : Int32), (w0_125 = 0 ∨ w0_125 = 1) → f_X7_isLine op a b = f_X7_isLine_125 w0_125 → V G X 4 0 0 (Qx G X 0 0 (p_X7_isLine M op a b)) 125 [] [.int w0_125] M := by
          intro w0_125 zw0_125 E
          exact V.zret F (zw0_125) (by decide +kernel) ⟨congrArg (fun z => some (Value.int z)) E.symm, rfl, by rw [E]; exact zw0_125⟩
        have hJ124 : f_X7_isLine op a b = f_X7_isLine_124 → V G X 4 0 0 (Qx G X 0 0 (p_X7_isLine M op a b)) 124 [] [] M := by
          intro E
          refine V.seg F floX7 cjoX7 [.iconst 0] (by decide +kernel) (pc2 := 125) (lv2 := []) (st2 := [.int 0]) (M2 := M) rfl ⟨trivial, trivial⟩ ?_
          refine V.pick [] rfl ?_
          exact hJ125 0 (Or.inl rfl) E
        refine V.if_eq (off := 11) F (by decide +kernel) (tgt := 124) (by decide) (fun h113 => ?_) (fun h113 => ?_)
        · replace E := E.trans (if_pos h113)
          refine V.pick [] rfl ?_
          exact hJ124   E
        · replace E := E.trans (if_neg h113)
          refine V.seg F floX7 cjoX7 [.iload_n 3] (by decide +kernel) (pc2 := 117) (lv2 := [(3, .int w0_108), (1, .int a)]) (st2 := [.int w0_108]) (M2 := M) rfl ⟨trivial, trivial⟩ ?_
          refine V.if_eq (off := 7) F (by decide +kernel) (tgt := 124) (by decide) (fun h117 => ?_) (fun h117 => ?_)
          · replace E := E.trans (if_pos h117)
            refine V.pick [] rfl ?_
            exact hJ124   E
          · replace E := E.trans (if_neg h117)
            refine V.seg F floX7 cjoX7 [.iconst 1, .goto 4] (by decide +kernel) (pc2 := 125) (lv2 := [(3, .int w0_108), (1, .int a)]) (st2 := [.int 1]) (M2 := M) rfl ⟨trivial, (by decide), trivial⟩ ?_
            refine V.pick [] rfl ?_
            exact hJ125 1 (Or.inr rfl) E
      have hJ103 : f_X7_isLine op a b = f_X7_isLine_103 a → V G X 4 0 0 (Qx G X 0 0 (p_X7_isLine M op a b)) 103 [(1, .int a)] [] M := by
        intro E
        refine V.seg F floX7 cjoX7 [.iconst 1, .goto 4] (by decide +kernel) (pc2 := 108) (lv2 := [(1, .int a)]) (st2 := [.int 1]) (M2 := M) rfl ⟨trivial, (by decide), trivial⟩ ?_
        refine V.pick [0] rfl ?_
        exact hJ108 1  E
      refine V.ic_eq (off := 52) F (by decide +kernel) (tgt := 103) (by decide) (fun h51 => ?_) (fun h51 => ?_)
      · replace E := E.trans (if_pos h51)
        refine V.pick [1] rfl ?_
        exact hJ103   E
      · replace E := E.trans (if_neg h51)
        refine V.seg F floX7 cjoX7 [.iload_n 0, .bipush 22] (by decide +kernel) (pc2 := 57) (lv2 := [(0, .int op), (1, .int a), (2, .int b)]) (st2 := [.int 22, .int op]) (M2 := M) rfl ⟨trivial, trivial, trivial⟩ ?_
        have hJ107 : f_X7_isLine op a b = f_X7_isLine_107 a → V G X 4 0 0 (Qx G X 0 0 (p_X7_isLine M op a b)) 107 [(1, .int a)] [] M := by
          intro E
          refine V.seg F floX7 cjoX7 [.iconst 0] (by decide +kernel) (pc2 := 108) (lv2 := [(1, .int a)]) (st2 := [.int 0]) (M2 := M) rfl ⟨trivial, trivial⟩ ?_
          refine V.pick [0] rfl ?_
          exact hJ108 0  E
        refine V.ic_ne (off := 18) F (by decide +kernel) (tgt := 75) (by decide) (fun h57 => ?_) (fun h57 => ?_)
        · replace E := E.trans (if_neg h57)
          refine V.seg F floX7 cjoX7 [.iload_n 0, .bipush 25] (by decide +kernel) (pc2 := 78) (lv2 := [(0, .int op), (1, .int a), (2, .int b)]) (st2 := [.int 25, .int op]) (M2 := M) rfl ⟨trivial, trivial, trivial⟩ ?_
          refine V.ic_ne (off := 18) F (by decide +kernel) (tgt := 96) (by decide) (fun h78 => ?_) (fun h78 => ?_)
          · replace E := E.trans (if_neg h78)
            refine V.seg F floX7 cjoX7 [.iload_n 2] (by decide +kernel) (pc2 := 97) (lv2 := [(0, .int op), (1, .int a), (2, .int b)]) (st2 := [.int b]) (M2 := M) rfl ⟨trivial, trivial⟩ ?_
            refine V.callS (as := [.int b]) (rest := []) F (by decide +kernel) lX7_264 bX7_isPlace (c_X7_isPlace G X.2.1 M b) (rm_ok hRm hd (by decide) (by decide)) ⟨Nat.zero_le _, Nat.zero_le _⟩ (Nat.le_of_ble_eq_true rfl) (fun r_ N_ p_ => ?_)
            obtain ⟨rfl, hN_, z97⟩ := p_
            rw [hN_]
            clear hN_
            refine V.if_eq (off := 7) F (by decide +kernel) (tgt := 107) (by decide) (fun h100 => ?_) (fun h100 => ?_)
            · replace E := E.trans (if_pos h100)
              refine V.pick [1] rfl ?_
              exact hJ107   E
            · replace E := E.trans (if_neg h100)
              refine V.pick [1] rfl ?_
              exact hJ103   E
          · replace E := E.trans (if_pos h78)
            refine V.seg F floX7 cjoX7 [.iload_n 2, .i2l, .lconst 0, .ldc2_w 224] (by decide +kernel) (pc2 := 87) (lv2 := [(0, .int op), (1, .int a), (2, .int b)]) (st2 := [.long 63, .long 0, .long (Int32.toInt64 b)]) (M2 := M) rfl ⟨trivial, trivial, trivial, trivial, trivial⟩ ?_
            refine V.callS (as := [.long (Int32.toInt64 b), .long 0, .long 63]) (rest := []) F (by decide +kernel) lX7_89 bX7_in (c_X7_in G X.2.1 M (Int32.toInt64 b) 0 63) (rm_ok hRm hd (by decide) (by decide)) ⟨Nat.zero_le _, Nat.zero_le _⟩ (Nat.le_of_ble_eq_true rfl) (fun r_ N_ p_ => ?_)
            obtain ⟨rfl, hN_, z87⟩ := p_
            rw [hN_]
            clear hN_
            refine V.if_eq (off := 17) F (by decide +kernel) (tgt := 107) (by decide) (fun h90 => ?_) (fun h90 => ?_)
            · replace E := E.trans (if_pos h90)
              refine V.pick [1] rfl ?_
              exact hJ107   E
            · replace E := E.trans (if_neg h90)
              refine V.seg F floX7 cjoX7 [.goto 10] (by decide +kernel) (pc2 := 103) (lv2 := [(0, .int op), (1, .int a), (2, .int b)]) (st2 := []) (M2 := M) rfl ⟨(by decide), trivial⟩ ?_
              refine V.pick [1] rfl ?_
              exact hJ103   E
        · replace E := E.trans (if_pos h57)
          refine V.seg F floX7 cjoX7 [.iload_n 2, .i2l, .lconst 0, .ldc2_w 262] (by decide +kernel) (pc2 := 66) (lv2 := [(0, .int op), (1, .int a), (2, .int b)]) (st2 := [.long 3, .long 0, .long (Int32.toInt64 b)]) (M2 := M) rfl ⟨trivial, trivial, trivial, trivial, trivial⟩ ?_
          refine V.callS (as := [.long (Int32.toInt64 b), .long 0, .long 3]) (rest := []) F (by decide +kernel) lX7_89 bX7_in (c_X7_in G X.2.1 M (Int32.toInt64 b) 0 3) (rm_ok hRm hd (by decide) (by decide)) ⟨Nat.zero_le _, Nat.zero_le _⟩ (Nat.le_of_ble_eq_true rfl) (fun r_ N_ p_ => ?_)
          obtain ⟨rfl, hN_, z66⟩ := p_
          rw [hN_]
          clear hN_
          refine V.if_eq (off := 38) F (by decide +kernel) (tgt := 107) (by decide) (fun h69 => ?_) (fun h69 => ?_)
          · replace E := E.trans (if_pos h69)
            refine V.pick [1] rfl ?_
            exact hJ107   E
          · replace E := E.trans (if_neg h69)
            refine V.seg F floX7 cjoX7 [.goto 31] (by decide +kernel) (pc2 := 103) (lv2 := [(0, .int op), (1, .int a), (2, .int b)]) (st2 := []) (M2 := M) rfl ⟨(by decide), trivial⟩ ?_
            refine V.pick [1] rfl ?_
            exact hJ103   E
    · replace E := E.trans (if_pos h31)
      refine V.seg F floX7 cjoX7 [.iload_n 1] (by decide +kernel) (pc2 := 35) (lv2 := [(0, .int op), (1, .int a), (2, .int b)]) (st2 := [.int a]) (M2 := M) rfl ⟨trivial, trivial⟩ ?_
      have hJ47 : ∀ (w0_47 : Int32), (w0_47 = 0 ∨ w0_47 = 1) → f_X7_isLine op a b = f_X7_isLine_47 w0_47 → V G X 4 0 0 (Qx G X 0 0 (p_X7_isLine M op a b)) 47 [] [.int w0_47] M := by
        intro w0_47 zw0_47 E
        exact V.zret F (zw0_47) (by decide +kernel) ⟨congrArg (fun z => some (Value.int z)) E.symm, rfl, by rw [E]; exact zw0_47⟩
      have hJ46 : f_X7_isLine op a b = f_X7_isLine_46 → V G X 4 0 0 (Qx G X 0 0 (p_X7_isLine M op a b)) 46 [] [] M := by
        intro E
        refine V.seg F floX7 cjoX7 [.iconst 0] (by decide +kernel) (pc2 := 47) (lv2 := []) (st2 := [.int 0]) (M2 := M) rfl ⟨trivial, trivial⟩ ?_
        refine V.pick [] rfl ?_
        exact hJ47 0 (Or.inl rfl) E
      refine V.if_ne (off := 11) F (by decide +kernel) (tgt := 46) (by decide) (fun h35 => ?_) (fun h35 => ?_)
      · replace E := E.trans (if_neg h35)
        refine V.pick [] rfl ?_
        exact hJ46   E
      · replace E := E.trans (if_pos h35)
        refine V.seg F floX7 cjoX7 [.iload_n 2] (by decide +kernel) (pc2 := 39) (lv2 := [(0, .int op), (1, .int a), (2, .int b)]) (st2 := [.int b]) (M2 := M) rfl ⟨trivial, trivial⟩ ?_
        refine V.if_ne (off := 7) F (by decide +kernel) (tgt := 46) (by decide) (fun h39 => ?_) (fun h39 => ?_)
        · replace E := E.trans (if_neg h39)
          refine V.pick [] rfl ?_
          exact hJ46   E
        · replace E := E.trans (if_pos h39)
          refine V.seg F floX7 cjoX7 [.iconst 1, .goto 4] (by decide +kernel) (pc2 := 47) (lv2 := [(0, .int op), (1, .int a), (2, .int b)]) (st2 := [.int 1]) (M2 := M) rfl ⟨trivial, (by decide), trivial⟩ ?_
          refine V.pick [] rfl ?_
          exact hJ47 1 (Or.inr rfl) E
  · replace E := E.trans (if_pos h3)
    refine V.seg F floX7 cjoX7 [.iload_n 1] (by decide +kernel) (pc2 := 7) (lv2 := [(0, .int op), (1, .int a), (2, .int b)]) (st2 := [.int a]) (M2 := M) rfl ⟨trivial, trivial⟩ ?_
    have hJ27 : ∀ (w0_27 : Int32), (w0_27 = 0 ∨ w0_27 = 1) → f_X7_isLine op a b = f_X7_isLine_27 w0_27 → V G X 4 0 0 (Qx G X 0 0 (p_X7_isLine M op a b)) 27 [] [.int w0_27] M := by
      intro w0_27 zw0_27 E
      exact V.zret F (zw0_27) (by decide +kernel) ⟨congrArg (fun z => some (Value.int z)) E.symm, rfl, by rw [E]; exact zw0_27⟩
    have hJ26 : f_X7_isLine op a b = f_X7_isLine_26 → V G X 4 0 0 (Qx G X 0 0 (p_X7_isLine M op a b)) 26 [] [] M := by
      intro E
      refine V.seg F floX7 cjoX7 [.iconst 0] (by decide +kernel) (pc2 := 27) (lv2 := []) (st2 := [.int 0]) (M2 := M) rfl ⟨trivial, trivial⟩ ?_
      refine V.pick [] rfl ?_
      exact hJ27 0 (Or.inl rfl) E
    refine V.if_ne (off := 19) F (by decide +kernel) (tgt := 26) (by decide) (fun h7 => ?_) (fun h7 => ?_)
    · replace E := E.trans (if_neg h7)
      refine V.pick [] rfl ?_
      exact hJ26   E
    · replace E := E.trans (if_pos h7)
      refine V.seg F floX7 cjoX7 [.iload_n 2, .i2l, .lconst 0, .ldc2_w 260] (by decide +kernel) (pc2 := 16) (lv2 := [(0, .int op), (1, .int a), (2, .int b)]) (st2 := [.long 32, .long 0, .long (Int32.toInt64 b)]) (M2 := M) rfl ⟨trivial, trivial, trivial, trivial, trivial⟩ ?_
      refine V.callS (as := [.long (Int32.toInt64 b), .long 0, .long 32]) (rest := []) F (by decide +kernel) lX7_89 bX7_in (c_X7_in G X.2.1 M (Int32.toInt64 b) 0 32) (rm_ok hRm hd (by decide) (by decide)) ⟨Nat.zero_le _, Nat.zero_le _⟩ (Nat.le_of_ble_eq_true rfl) (fun r_ N_ p_ => ?_)
      obtain ⟨rfl, hN_, z16⟩ := p_
      rw [hN_]
      clear hN_
      refine V.if_eq (off := 7) F (by decide +kernel) (tgt := 26) (by decide) (fun h19 => ?_) (fun h19 => ?_)
      · replace E := E.trans (if_pos h19)
        refine V.pick [] rfl ?_
        exact hJ26   E
      · replace E := E.trans (if_neg h19)
        refine V.seg F floX7 cjoX7 [.iconst 1, .goto 4] (by decide +kernel) (pc2 := 27) (lv2 := [(0, .int op), (1, .int a), (2, .int b)]) (st2 := [.int 1]) (M2 := M) rfl ⟨trivial, (by decide), trivial⟩ ?_
        refine V.pick [] rfl ?_
        exact hJ27 1 (Or.inr rfl) E
def f_X7_method_c42  (M42 : Mem) : Int32 × Mem := ((mI M42 52 9) - 1, M42)
def f_X7_method (M : Mem) : Int32 × Mem := if (mI M 52 9) = 6 then ((-2), M) else f_X7_method_c42 (uI (uI (uI M 60 (ix (mI M 52 9)) 0) 66 (ix (mI (uI M 60 (ix (mI M 52 9)) 0) 52 9)) 0) 52 9 ((mI (uI (uI M 60 (ix (mI M 52 9)) 0) 66 (ix (mI (uI M 60 (ix (mI M 52 9)) 0) 52 9)) 0) 52 9) + 1))
abbrev p_X7_method (M : Mem) : Option Value → Mem → Prop := fun r N => r = some (.int (f_X7_method M).1) ∧ N = (f_X7_method M).2 ∧ SK wa M N
set_option maxRecDepth 100000 in
set_option maxHeartbeats 4000000 in
theorem c_X7_method (G : Ctx) (l : Launch) (M : Mem) (q : Ok M) (gb : Gb M) (cM : cn (mI M 52 9) 6) : CT G l 0 mX7_method [.ref 52] M 0 0 (p_X7_method M) := by
  refine CT.of (by decide) (Nat.le_of_ble_eq_true rfl) ?_
  intro X d hd hl hRm hnm F
  subst hl
  have E : f_X7_method M = f_X7_method M := rfl
  show V G X 1 0 0 (Qx G X 0 0 (p_X7_method M)) 0 [(0, .ref 52)] [] M
  refine V.seg F floX7 cjoX7 [.aload_n 0, .getfield 255, .bipush 6] (by decide +kernel) (pc2 := 6) (lv2 := [(0, .ref 52)]) (st2 := [.int 6, .int (mI M 52 9)]) (M2 := M) rfl ⟨trivial, (q.o 52 7 rfl), trivial, trivial⟩ ?_
  refine V.ic_ne (off := 6) F (by decide +kernel) (tgt := 12) (by decide) (fun h6 => ?_) (fun h6 => ?_)
  · replace E := E.trans (if_neg h6)
    refine V.seg F floX7 cjoX7 [.aload_n 0, .getfield 32, .aload_n 0, .getfield 255, .iconst 0, .iastore, .aload_n 0, .getfield 51, .aload_n 0, .getfield 255, .iconst 0, .bastore, .aload_n 0, .dup, .getfield 255, .iconst 1, .iadd, .putfield 255] (by decide +kernel) (pc2 := 42) (lv2 := [(0, .ref 52)]) (st2 := []) (M2 := uI (uI (uI M 60 (ix (mI M 52 9)) 0) 66 (ix (mI (uI M 60 (ix (mI M 52 9)) 0) 52 9)) 0) 52 9 ((mI (uI (uI M 60 (ix (mI M 52 9)) 0) 66 (ix (mI (uI M 60 (ix (mI M 52 9)) 0) 52 9)) 0) 52 9) + 1)) rfl ⟨trivial, (q.f 52 7 10 rfl), trivial, (q.o 52 7 rfl), trivial, (q.a 60 20 6 rfl (cn_lt cM rfl h6 (by decide))), trivial, ((q.sm (SK.pI (SK.rf (w := wa) gb) rfl).1).f 52 7 16 rfl), trivial, ((q.sm (SK.pI (SK.rf (w := wa) gb) rfl).1).o 52 7 rfl), trivial, ⟨((q.sm (SK.pI (SK.rf (w := wa) gb) rfl).1).a 66 21 6 rfl (vin_of (mI_uI_ne (by decide)) (cn_lt cM rfl h6 (by decide)))), Or.inl rfl⟩, trivial, trivial, ((q.sm (SK.pI (SK.pI (SK.rf (w := wa) gb) rfl) rfl).1).o 52 7 rfl), trivial, trivial, ((q.sm (SK.pI (SK.pI (SK.rf (w := wa) gb) rfl) rfl).1).o 52 7 rfl), trivial⟩ ?_
    refine (?_ : ∀ (M42 : Mem), (SK wa M M42) → f_X7_method M = f_X7_method_c42 M42 → V G X 1 0 0 (Qx G X 0 0 (p_X7_method M)) 42 [(0, .ref 52)] [] M42) _ (SK.pI (SK.pI (SK.pI (SK.rf (w := wa) gb) rfl) rfl) rfl) E
    intro M42 s42 E
    refine V.seg F floX7 cjoX7 [.aload_n 0, .getfield 255, .iconst 1, .isub] (by decide +kernel) (pc2 := 48) (lv2 := [(0, .ref 52)]) (st2 := [.int ((mI M42 52 9) - 1)]) (M2 := M42) rfl ⟨trivial, ((q.sm s42.1).o 52 7 rfl), trivial, trivial, trivial⟩ ?_
    exact V.iret F (by decide +kernel) ⟨congrArg (fun z => some (Value.int z.1)) E.symm, congrArg Prod.snd E.symm, s42⟩
  · replace E := E.trans (if_pos h6)
    refine V.seg F floX7 cjoX7 [.bipush (-2)] (by decide +kernel) (pc2 := 11) (lv2 := [(0, .ref 52)]) (st2 := [.int ((-2))]) (M2 := M) rfl ⟨trivial, trivial⟩ ?_
    exact V.iret F (by decide +kernel) ⟨congrArg (fun z => some (Value.int z.1)) E.symm, congrArg Prod.snd E.symm, (SK.rf (w := wa) gb)⟩
def f_X7_op_30  (M30 : Mem) : Int32 × Mem := ((-1), M30)
def f_X7_op (M : Mem) (m : Int32) (op : Int32) (a : Int32) (b : Int32) : Int32 × Mem := if (f_X7_isMethod M m) = 0 then f_X7_op_30 M else if (f_X7_in (Int32.toInt64 op) 0 27) = 0 then f_X7_op_30 M else if (f_X7_isLine op a b) = 0 then f_X7_op_30 M else if (mI M 60 (ix m)) = 32 then ((-2), M) else (mI M 60 (ix m), uI (uI (uI (uI (uI M 61 (ix ((32 * m) + (mI M 60 (ix m)))) op) 62 (ix ((32 * m) + (mI M 60 (ix m)))) a) 63 (ix ((32 * m) + (mI M 60 (ix m)))) b) 60 (ix m) ((mI (uI (uI (uI M 61 (ix ((32 * m) + (mI M 60 (ix m)))) op) 62 (ix ((32 * m) + (mI M 60 (ix m)))) a) 63 (ix ((32 * m) + (mI M 60 (ix m)))) b) 60 (ix m)) + 1)) 66 (ix m) 0)
abbrev p_X7_op (M : Mem) (m : Int32) (op : Int32) (a : Int32) (b : Int32) : Option Value → Mem → Prop := fun r N => r = some (.int (f_X7_op M m op a b).1) ∧ N = (f_X7_op M m op a b).2 ∧ SK wa M N
set_option maxRecDepth 100000 in
set_option maxHeartbeats 4000000 in
theorem c_X7_op (G : Ctx) (l : Launch) (M : Mem) (m : Int32) (op : Int32) (a : Int32) (b : Int32) (q : Ok M) (gb : Gb M) (cM : cn (mI M 52 9) 6) (hLs : ∀ m, m < 6 → cn (mI M 60 m) 32) : CT G l 3 mX7_op [.ref 52, .int m, .int op, .int a, .int b] M 0 0 (p_X7_op M m op a b) := by
  refine CT.of (by decide) (Nat.le_of_ble_eq_true rfl) ?_
  intro X d hd hl hRm hnm F
  subst hl
  have E : f_X7_op M m op a b = f_X7_op M m op a b := rfl
  show V G X 6 0 0 (Qx G X 0 0 (p_X7_op M m op a b)) 0 [(0, .ref 52), (1, .int m), (2, .int op), (3, .int a), (4, .int b)] [] M
  refine V.seg F floX7 cjoX7 [.aload_n 0, .iload_n 1] (by decide +kernel) (pc2 := 2) (lv2 := [(0, .ref 52), (1, .int m), (2, .int op), (3, .int a), (4, .int b)]) (st2 := [.int m, .ref 52]) (M2 := M) rfl ⟨trivial, trivial, trivial⟩ ?_
  refine V.callV (as := [.int m]) (rest := []) F (by decide +kernel) lX7_267 bX7_isMethod ⟨7, _, (q.o 52 7 rfl), rfl, rfl⟩ (c_X7_isMethod G X.2.1 M m q gb) (rm_ok hRm hd (by decide) (by decide)) ⟨Nat.zero_le _, Nat.zero_le _⟩ (Nat.le_of_ble_eq_true rfl) (fun r_ N_ p_ => ?_)
  obtain ⟨rfl, hN_, z2⟩ := p_
  rw [hN_]
  clear hN_
  have hJ30 : ∀ (M30 : Mem), (SK wa M M30) → f_X7_op M m op a b = f_X7_op_30 M30 → V G X 6 0 0 (Qx G X 0 0 (p_X7_op M m op a b)) 30 [] [] M30 := by
    intro M30 s30 E
    refine V.seg F floX7 cjoX7 [.iconst (-1)] (by decide +kernel) (pc2 := 31) (lv2 := []) (st2 := [.int ((-1))]) (M2 := M30) rfl ⟨trivial, trivial⟩ ?_
    exact V.iret F (by decide +kernel) ⟨congrArg (fun z => some (Value.int z.1)) E.symm, congrArg Prod.snd E.symm, s30⟩
  refine V.if_eq (off := 25) F (by decide +kernel) (tgt := 30) (by decide) (fun h5 => ?_) (fun h5 => ?_)
  · replace E := E.trans (if_pos h5)
    refine V.pick [] rfl ?_
    exact hJ30 M (SK.rf (w := wa) gb) E
  · replace E := E.trans (if_neg h5)
    refine V.seg F floX7 cjoX7 [.iload_n 2, .i2l, .lconst 0, .ldc2_w 270] (by decide +kernel) (pc2 := 14) (lv2 := [(0, .ref 52), (1, .int m), (2, .int op), (3, .int a), (4, .int b)]) (st2 := [.long 27, .long 0, .long (Int32.toInt64 op)]) (M2 := M) rfl ⟨trivial, trivial, trivial, trivial, trivial⟩ ?_
    refine V.callS (as := [.long (Int32.toInt64 op), .long 0, .long 27]) (rest := []) F (by decide +kernel) lX7_89 bX7_in (c_X7_in G X.2.1 M (Int32.toInt64 op) 0 27) (rm_ok hRm hd (by decide) (by decide)) ⟨Nat.zero_le _, Nat.zero_le _⟩ (Nat.le_of_ble_eq_true rfl) (fun r_ N_ p_ => ?_)
    obtain ⟨rfl, hN_, z14⟩ := p_
    rw [hN_]
    clear hN_
    refine V.if_eq (off := 13) F (by decide +kernel) (tgt := 30) (by decide) (fun h17 => ?_) (fun h17 => ?_)
    · replace E := E.trans (if_pos h17)
      refine V.pick [] rfl ?_
      exact hJ30 M (SK.rf (w := wa) gb) E
    · replace E := E.trans (if_neg h17)
      refine V.seg F floX7 cjoX7 [.iload_n 2, .iload_n 3, .iload 4] (by decide +kernel) (pc2 := 24) (lv2 := [(0, .ref 52), (1, .int m), (2, .int op), (3, .int a), (4, .int b)]) (st2 := [.int b, .int a, .int op]) (M2 := M) rfl ⟨trivial, trivial, trivial, trivial⟩ ?_
      refine V.callS (as := [.int op, .int a, .int b]) (rest := []) F (by decide +kernel) lX7_272 bX7_isLine (c_X7_isLine G X.2.1 M op a b) (rm_ok hRm hd (by decide) (by decide)) ⟨Nat.zero_le _, Nat.zero_le _⟩ (Nat.le_of_ble_eq_true rfl) (fun r_ N_ p_ => ?_)
      obtain ⟨rfl, hN_, z24⟩ := p_
      rw [hN_]
      clear hN_
      refine V.if_ne (off := 5) F (by decide +kernel) (tgt := 32) (by decide) (fun h27 => ?_) (fun h27 => ?_)
      · replace E := E.trans (if_neg h27)
        refine V.seg F floX7 cjoX7 [.aload_n 0, .getfield 32, .iload_n 1, .iaload, .istore 5, .iload 5, .bipush 32] (by decide +kernel) (pc2 := 44) (lv2 := [(5, .int (mI M 60 (ix m))), (0, .ref 52), (1, .int m), (2, .int op), (3, .int a), (4, .int b)]) (st2 := [.int 32, .int (mI M 60 (ix m))]) (M2 := M) rfl ⟨trivial, (q.f 52 7 10 rfl), trivial, (q.a 60 20 6 rfl (isMethod_in cM h5)), (by decide), trivial, trivial, trivial⟩ ?_
        refine V.ic_ne (off := 6) F (by decide +kernel) (tgt := 50) (by decide) (fun h44 => ?_) (fun h44 => ?_)
        · replace E := E.trans (if_neg h44)
          refine V.seg F floX7 cjoX7 [.aload_n 0, .getfield 36, .bipush 32, .iload_n 1, .imul, .iload 5, .iadd, .iload_n 2, .iastore, .aload_n 0, .getfield 39, .bipush 32, .iload_n 1, .imul, .iload 5, .iadd, .iload_n 3, .iastore, .aload_n 0, .getfield 42, .bipush 32, .iload_n 1, .imul, .iload 5, .iadd, .iload 4, .iastore, .aload_n 0, .getfield 32, .iload_n 1, .dup2, .iaload, .iconst 1, .iadd, .iastore, .aload_n 0, .getfield 51, .iload_n 1, .iconst 0, .bastore, .iload 5] (by decide +kernel) (pc2 := 109) (lv2 := [(5, .int (mI M 60 (ix m))), (0, .ref 52), (1, .int m), (2, .int op), (3, .int a), (4, .int b)]) (st2 := [.int (mI M 60 (ix m))]) (M2 := uI (uI (uI (uI (uI M 61 (ix ((32 * m) + (mI M 60 (ix m)))) op) 62 (ix ((32 * m) + (mI M 60 (ix m)))) a) 63 (ix ((32 * m) + (mI M 60 (ix m)))) b) 60 (ix m) ((mI (uI (uI (uI M 61 (ix ((32 * m) + (mI M 60 (ix m)))) op) 62 (ix ((32 * m) + (mI M 60 (ix m)))) a) 63 (ix ((32 * m) + (mI M 60 (ix m)))) b) 60 (ix m)) + 1)) 66 (ix m) 0) rfl ⟨trivial, (q.f 52 7 11 rfl), trivial, trivial, trivial, trivial, trivial, trivial, (q.a 61 20 192 rfl (rl_in (isMethod_in cM h5) (cn_lt (hLs (ix m) (vin_lt (isMethod_in cM h5))) rfl h44 (by decide)))), trivial, ((q.sm (SK.pI (SK.rf (w := wa) gb) rfl).1).f 52 7 12 rfl), trivial, trivial, trivial, trivial, trivial, trivial, ((q.sm (SK.pI (SK.rf (w := wa) gb) rfl).1).a 62 20 192 rfl (rl_in (isMethod_in cM h5) (cn_lt (hLs (ix m) (vin_lt (isMethod_in cM h5))) rfl h44 (by decide)))), trivial, ((q.sm (SK.pI (SK.pI (SK.rf (w := wa) gb) rfl) rfl).1).f 52 7 13 rfl), trivial, trivial, trivial, trivial, trivial, trivial, ((q.sm (SK.pI (SK.pI (SK.rf (w := wa) gb) rfl) rfl).1).a 63 20 192 rfl (rl_in (isMethod_in cM h5) (cn_lt (hLs (ix m) (vin_lt (isMethod_in cM h5))) rfl h44 (by decide)))), trivial, ((q.sm (SK.pI (SK.pI (SK.pI (SK.rf (w := wa) gb) rfl) rfl) rfl).1).f 52 7 10 rfl), trivial, trivial, ((q.sm (SK.pI (SK.pI (SK.pI (SK.rf (w := wa) gb) rfl) rfl) rfl).1).a 60 20 6 rfl (isMethod_in cM h5)), trivial, trivial, ((q.sm (SK.pI (SK.pI (SK.pI (SK.rf (w := wa) gb) rfl) rfl) rfl).1).a 60 20 6 rfl (isMethod_in cM h5)), trivial, ((q.sm (SK.pI (SK.pI (SK.pI (SK.pI (SK.rf (w := wa) gb) rfl) rfl) rfl) rfl).1).f 52 7 16 rfl), trivial, trivial, ⟨((q.sm (SK.pI (SK.pI (SK.pI (SK.pI (SK.rf (w := wa) gb) rfl) rfl) rfl) rfl).1).a 66 21 6 rfl (isMethod_in cM h5)), Or.inl rfl⟩, trivial, trivial⟩ ?_
          exact V.iret F (by decide +kernel) ⟨congrArg (fun z => some (Value.int z.1)) E.symm, congrArg Prod.snd E.symm, (SK.pI (SK.pI (SK.pI (SK.pI (SK.pI (SK.rf (w := wa) gb) rfl) rfl) rfl) rfl) rfl)⟩
        · replace E := E.trans (if_pos h44)
          refine V.seg F floX7 cjoX7 [.bipush (-2)] (by decide +kernel) (pc2 := 49) (lv2 := [(5, .int (mI M 60 (ix m))), (0, .ref 52), (1, .int m), (2, .int op), (3, .int a), (4, .int b)]) (st2 := [.int ((-2))]) (M2 := M) rfl ⟨trivial, trivial⟩ ?_
          exact V.iret F (by decide +kernel) ⟨congrArg (fun z => some (Value.int z.1)) E.symm, congrArg Prod.snd E.symm, (SK.rf (w := wa) gb)⟩
      · replace E := E.trans (if_pos h27)
        refine V.pick [] rfl ?_
        exact hJ30 M (SK.rf (w := wa) gb) E
def f_X7_table_58 (t : Int32) : Nat → Nat → Mem → (Int32 × Mem)
  | 0, _, M58 => (0, M58)
  | n_ + 1, j58, M58 => if 6 ≤ (nI j58) then (mI M58 64 (ix t), M58) else (f_X7_table_58 t n_) (j58 + 1) (uI M58 66 (ix (nI j58)) 0)
def f_X7_table (M : Mem) (t : Int32) (v : Int64) : Int32 × Mem := if (f_X7_in (Int32.toInt64 t) 0 3) = 0 then ((-1), M) else if (mI M 64 (ix t)) = 16 then ((-2), M) else f_X7_table_58 t 7 0 (uI (uL M 65 (ix ((16 * t) + (mI M 64 (ix t)))) v) 64 (ix t) ((mI (uL M 65 (ix ((16 * t) + (mI M 64 (ix t)))) v) 64 (ix t)) + 1))
abbrev p_X7_table (M : Mem) (t : Int32) (v : Int64) : Option Value → Mem → Prop := fun r N => r = some (.int (f_X7_table M t v).1) ∧ N = (f_X7_table M t v).2 ∧ SK wa M N
set_option maxRecDepth 100000 in
set_option maxHeartbeats 4000000 in
theorem c_X7_table (G : Ctx) (l : Launch) (M : Mem) (t : Int32) (v : Int64) (q : Ok M) (gb : Gb M) (hT : ∀ t, t < 4 → cn (mI M 64 t) 16) : CT G l 1 mX7_table [.ref 52, .int t, .long v] M 0 0 (p_X7_table M t v) := by
  refine CT.of (by decide) (Nat.le_of_ble_eq_true rfl) ?_
  intro X d hd hl hRm hnm F
  subst hl
  have E : f_X7_table M t v = f_X7_table M t v := rfl
  show V G X 5 0 0 (Qx G X 0 0 (p_X7_table M t v)) 0 [(0, .ref 52), (1, .int t), (2, .long v)] [] M
  refine V.seg F floX7 cjoX7 [.iload_n 1, .i2l, .lconst 0, .ldc2_w 262] (by decide +kernel) (pc2 := 6) (lv2 := [(0, .ref 52), (1, .int t), (2, .long v)]) (st2 := [.long 3, .long 0, .long (Int32.toInt64 t)]) (M2 := M) rfl ⟨trivial, trivial, trivial, trivial, trivial⟩ ?_
  refine V.callS (as := [.long (Int32.toInt64 t), .long 0, .long 3]) (rest := []) F (by decide +kernel) lX7_89 bX7_in (c_X7_in G X.2.1 M (Int32.toInt64 t) 0 3) (rm_ok hRm hd (by decide) (by decide)) ⟨Nat.zero_le _, Nat.zero_le _⟩ (Nat.le_of_ble_eq_true rfl) (fun r_ N_ p_ => ?_)
  obtain ⟨rfl, hN_, z6⟩ := p_
  rw [hN_]
  clear hN_
  refine V.if_ne (off := 5) F (by decide +kernel) (tgt := 14) (by decide) (fun h9 => ?_) (fun h9 => ?_)
  · replace E := E.trans (if_neg h9)
    refine V.seg F floX7 cjoX7 [.aload_n 0, .getfield 45, .iload_n 1, .iaload, .bipush 16] (by decide +kernel) (pc2 := 22) (lv2 := [(0, .ref 52), (1, .int t), (2, .long v)]) (st2 := [.int 16, .int (mI M 64 (ix t))]) (M2 := M) rfl ⟨trivial, (q.f 52 7 14 rfl), trivial, (q.a 64 20 4 rfl (in3 h9)), trivial, trivial⟩ ?_
    refine V.ic_ne (off := 6) F (by decide +kernel) (tgt := 28) (by decide) (fun h22 => ?_) (fun h22 => ?_)
    · replace E := E.trans (if_neg h22)
      refine V.seg F floX7 cjoX7 [.aload_n 0, .getfield 48, .bipush 16, .iload_n 1, .imul, .aload_n 0, .getfield 45, .iload_n 1, .iaload, .iadd, .lload_n 2, .lastore, .aload_n 0, .getfield 45, .iload_n 1, .dup2, .iaload, .iconst 1, .iadd, .iastore, .iconst 0] (by decide +kernel) (pc2 := 56) (lv2 := [(0, .ref 52), (1, .int t), (2, .long v)]) (st2 := [.int 0]) (M2 := uI (uL M 65 (ix ((16 * t) + (mI M 64 (ix t)))) v) 64 (ix t) ((mI (uL M 65 (ix ((16 * t) + (mI M 64 (ix t)))) v) 64 (ix t)) + 1)) rfl ⟨trivial, (q.f 52 7 15 rfl), trivial, trivial, trivial, trivial, (q.f 52 7 14 rfl), trivial, (q.a 64 20 4 rfl (in3 h9)), trivial, trivial, (q.a 65 22 64 rfl (tb_in (in3 h9) (cn_lt (hT (ix t) (vin_lt (in3 h9))) rfl h22 (by decide)))), trivial, ((q.sm (SK.pL (SK.rf (w := wa) gb) rfl (by decide)).1).f 52 7 14 rfl), trivial, trivial, ((q.sm (SK.pL (SK.rf (w := wa) gb) rfl (by decide)).1).a 64 20 4 rfl (in3 h9)), trivial, trivial, ((q.sm (SK.pL (SK.rf (w := wa) gb) rfl (by decide)).1).a 64 20 4 rfl (in3 h9)), trivial, trivial⟩ ?_
      refine V.seg F floX7 cjoX7 [.istore 4] (by decide +kernel) (pc2 := 58) (lv2 := [(4, .int 0), (0, .ref 52), (1, .int t), (2, .long v)]) (st2 := []) (M2 := uI (uL M 65 (ix ((16 * t) + (mI M 64 (ix t)))) v) 64 (ix t) ((mI (uL M 65 (ix ((16 * t) + (mI M 64 (ix t)))) v) 64 (ix t)) + 1)) rfl ⟨(by decide), trivial⟩ ?_
      have hJ58 : ∀ (n_ : Nat) (j58 : Nat) (M58 : Mem), (SK wa M M58) → (j58 ≤ 6) → (6 - j58 < n_) → f_X7_table M t v = f_X7_table_58 t n_ j58 M58 → V G X 5 0 0 (Qx G X 0 0 (p_X7_table M t v)) 58 [(0, .ref 52), (1, .int t), (4, .int (nI j58))] [] M58 := by
        intro n_
        induction n_ with
        | zero => intro j58 M58 s58 b58 m58 E; omega
        | succ n_ ih_58 =>
          intro j58 M58 s58 b58 m58 E
          rw [f_X7_table_58] at E
          refine V.seg F floX7 cjoX7 [.iload 4, .bipush 6] (by decide +kernel) (pc2 := 62) (lv2 := [(0, .ref 52), (1, .int t), (4, .int (nI j58))]) (st2 := [.int 6, .int (nI j58)]) (M2 := M58) rfl ⟨trivial, trivial, trivial⟩ ?_
          refine V.ic_ge (off := 17) F (by decide +kernel) (tgt := 79) (by decide) (fun h62 => ?_) (fun h62 => ?_)
          · replace E := E.trans (if_pos h62)
            refine V.seg F floX7 cjoX7 [.aload_n 0, .getfield 45, .iload_n 1, .iaload] (by decide +kernel) (pc2 := 85) (lv2 := [(0, .ref 52), (1, .int t), (4, .int (nI j58))]) (st2 := [.int (mI M58 64 (ix t))]) (M2 := M58) rfl ⟨trivial, ((q.sm s58.1).f 52 7 14 rfl), trivial, ((q.sm s58.1).a 64 20 4 rfl (in3 h9)), trivial⟩ ?_
            exact V.iret F (by decide +kernel) ⟨congrArg (fun z => some (Value.int z.1)) E.symm, congrArg Prod.snd E.symm, s58⟩
          · replace E := E.trans (if_neg h62)
            refine V.seg F floX7 cjoX7 [.aload_n 0, .getfield 51, .iload 4, .iconst 0, .bastore, .iinc 4 1, .goto (-18)] (by decide +kernel) (pc2 := 58) (lv2 := [(4, .int ((nI j58) + 1)), (0, .ref 52), (1, .int t)]) (st2 := []) (M2 := uI M58 66 (ix (nI j58)) 0) rfl ⟨trivial, ((q.sm s58.1).f 52 7 16 rfl), trivial, trivial, ⟨((q.sm s58.1).a 66 21 6 rfl (vnj (cnt_lt (n := 6) h62 rfl (by omega) (by decide)) (by decide) (by decide))), Or.inl rfl⟩, (by decide), (by decide), trivial⟩ ?_
            refine V.pick [1, 2, 0] rfl ?_
            rw [nI_1]
            exact ih_58 (j58 + 1) (uI M58 66 (ix (nI j58)) 0) (SK.pI s58 rfl) (by have hlt_ := cnt_lt (n := 6) h62 rfl (by omega) (by decide); omega) (by have hlt_ := cnt_lt (n := 6) h62 rfl (by omega) (by decide); omega) E
      refine V.pick [1, 2, 0] rfl ?_
      exact hJ58 _ 0 (uI (uL M 65 (ix ((16 * t) + (mI M 64 (ix t)))) v) 64 (ix t) ((mI (uL M 65 (ix ((16 * t) + (mI M 64 (ix t)))) v) 64 (ix t)) + 1)) (SK.pI (SK.pL (SK.rf (w := wa) gb) rfl (by decide)) rfl) (by omega) (by omega) E
    · replace E := E.trans (if_pos h22)
      refine V.seg F floX7 cjoX7 [.bipush (-2)] (by decide +kernel) (pc2 := 27) (lv2 := [(0, .ref 52), (1, .int t), (2, .long v)]) (st2 := [.int ((-2))]) (M2 := M) rfl ⟨trivial, trivial⟩ ?_
      exact V.iret F (by decide +kernel) ⟨congrArg (fun z => some (Value.int z.1)) E.symm, congrArg Prod.snd E.symm, (SK.rf (w := wa) gb)⟩
  · replace E := E.trans (if_pos h9)
    refine V.seg F floX7 cjoX7 [.iconst (-1)] (by decide +kernel) (pc2 := 13) (lv2 := [(0, .ref 52), (1, .int t), (2, .long v)]) (st2 := [.int ((-1))]) (M2 := M) rfl ⟨trivial, trivial⟩ ?_
    exact V.iret F (by decide +kernel) ⟨congrArg (fun z => some (Value.int z.1)) E.symm, congrArg Prod.snd E.symm, (SK.rf (w := wa) gb)⟩
def f_X7_given_22  (M22 : Mem) : Int32 × Mem := ((-1), M22)
def f_X7_given_c50 (m : Int32) (M50 : Mem) : Int32 × Mem := (1, uI M50 66 (ix m) 0)
def f_X7_given (M : Mem) (m : Int32) (p : Int32) (f : Int32) : Int32 × Mem := if (f_X7_isMethod M m) = 0 then f_X7_given_22 M else if (f_X7_isPlace p) = 0 then f_X7_given_22 M else if (f_X7_isFact f) = 0 then f_X7_given_22 M else if (mI M 53 (ix f)) = 0 then f_X7_given_c50 m (f_X7_copy M ((64 + (8 * m)) + p) f) else ((-3), M)
abbrev p_X7_given (M : Mem) (m : Int32) (p : Int32) (f : Int32) : Option Value → Mem → Prop := fun r N => r = some (.int (f_X7_given M m p f).1) ∧ N = (f_X7_given M m p f).2 ∧ SK wa M N
set_option maxRecDepth 100000 in
set_option maxHeartbeats 4000000 in
theorem c_X7_given (G : Ctx) (l : Launch) (M : Mem) (m : Int32) (p : Int32) (f : Int32) (q : Ok M) (gb : Gb M) (cM : cn (mI M 52 9) 6) : CT G l 2 mX7_given [.ref 52, .int m, .int p, .int f] M 0 0 (p_X7_given M m p f) := by
  refine CT.of (by decide) (Nat.le_of_ble_eq_true rfl) ?_
  intro X d hd hl hRm hnm F
  subst hl
  have E : f_X7_given M m p f = f_X7_given M m p f := rfl
  show V G X 4 0 0 (Qx G X 0 0 (p_X7_given M m p f)) 0 [(0, .ref 52), (1, .int m), (2, .int p), (3, .int f)] [] M
  refine V.seg F floX7 cjoX7 [.aload_n 0, .iload_n 1] (by decide +kernel) (pc2 := 2) (lv2 := [(0, .ref 52), (1, .int m), (2, .int p), (3, .int f)]) (st2 := [.int m, .ref 52]) (M2 := M) rfl ⟨trivial, trivial, trivial⟩ ?_
  refine V.callV (as := [.int m]) (rest := []) F (by decide +kernel) lX7_267 bX7_isMethod ⟨7, _, (q.o 52 7 rfl), rfl, rfl⟩ (c_X7_isMethod G X.2.1 M m q gb) (rm_ok hRm hd (by decide) (by decide)) ⟨Nat.zero_le _, Nat.zero_le _⟩ (Nat.le_of_ble_eq_true rfl) (fun r_ N_ p_ => ?_)
  obtain ⟨rfl, hN_, z2⟩ := p_
  rw [hN_]
  clear hN_
  have hJ22 : ∀ (M22 : Mem), (SK wa M M22) → f_X7_given M m p f = f_X7_given_22 M22 → V G X 4 0 0 (Qx G X 0 0 (p_X7_given M m p f)) 22 [] [] M22 := by
    intro M22 s22 E
    refine V.seg F floX7 cjoX7 [.iconst (-1)] (by decide +kernel) (pc2 := 23) (lv2 := []) (st2 := [.int ((-1))]) (M2 := M22) rfl ⟨trivial, trivial⟩ ?_
    exact V.iret F (by decide +kernel) ⟨congrArg (fun z => some (Value.int z.1)) E.symm, congrArg Prod.snd E.symm, s22⟩
  refine V.if_eq (off := 17) F (by decide +kernel) (tgt := 22) (by decide) (fun h5 => ?_) (fun h5 => ?_)
  · replace E := E.trans (if_pos h5)
    refine V.pick [] rfl ?_
    exact hJ22 M (SK.rf (w := wa) gb) E
  · replace E := E.trans (if_neg h5)
    refine V.seg F floX7 cjoX7 [.iload_n 2] (by decide +kernel) (pc2 := 9) (lv2 := [(0, .ref 52), (1, .int m), (2, .int p), (3, .int f)]) (st2 := [.int p]) (M2 := M) rfl ⟨trivial, trivial⟩ ?_
    refine V.callS (as := [.int p]) (rest := []) F (by decide +kernel) lX7_264 bX7_isPlace (c_X7_isPlace G X.2.1 M p) (rm_ok hRm hd (by decide) (by decide)) ⟨Nat.zero_le _, Nat.zero_le _⟩ (Nat.le_of_ble_eq_true rfl) (fun r_ N_ p_ => ?_)
    obtain ⟨rfl, hN_, z9⟩ := p_
    rw [hN_]
    clear hN_
    refine V.if_eq (off := 10) F (by decide +kernel) (tgt := 22) (by decide) (fun h12 => ?_) (fun h12 => ?_)
    · replace E := E.trans (if_pos h12)
      refine V.pick [] rfl ?_
      exact hJ22 M (SK.rf (w := wa) gb) E
    · replace E := E.trans (if_neg h12)
      refine V.seg F floX7 cjoX7 [.iload_n 3] (by decide +kernel) (pc2 := 16) (lv2 := [(0, .ref 52), (1, .int m), (2, .int p), (3, .int f)]) (st2 := [.int f]) (M2 := M) rfl ⟨trivial, trivial⟩ ?_
      refine V.callS (as := [.int f]) (rest := []) F (by decide +kernel) lX7_237 bX7_isFact (c_X7_isFact G X.2.1 M f) (rm_ok hRm hd (by decide) (by decide)) ⟨Nat.zero_le _, Nat.zero_le _⟩ (Nat.le_of_ble_eq_true rfl) (fun r_ N_ p_ => ?_)
      obtain ⟨rfl, hN_, z16⟩ := p_
      rw [hN_]
      clear hN_
      refine V.if_ne (off := 5) F (by decide +kernel) (tgt := 24) (by decide) (fun h19 => ?_) (fun h19 => ?_)
      · replace E := E.trans (if_neg h19)
        refine V.seg F floX7 cjoX7 [.aload_n 0, .getfield 9, .iload_n 3, .baload] (by decide +kernel) (pc2 := 30) (lv2 := [(0, .ref 52), (1, .int m), (2, .int p), (3, .int f)]) (st2 := [.int (mI M 53 (ix f))]) (M2 := M) rfl ⟨trivial, (q.f 52 7 0 rfl), trivial, (q.a 53 21 1648 rfl (vin_w (isFact_in h19) (by decide))), trivial⟩ ?_
        refine V.if_eq (off := 6) F (by decide +kernel) (tgt := 36) (by decide) (fun h30 => ?_) (fun h30 => ?_)
        · replace E := E.trans (if_pos h30)
          refine V.seg F floX7 cjoX7 [.aload_n 0, .bipush 64, .bipush 8, .iload_n 1, .imul, .iadd, .iload_n 2, .iadd, .iload_n 3] (by decide +kernel) (pc2 := 47) (lv2 := [(0, .ref 52), (1, .int m), (2, .int p), (3, .int f)]) (st2 := [.int f, .int ((64 + (8 * m)) + p), .ref 52]) (M2 := M) rfl ⟨trivial, trivial, trivial, trivial, trivial, trivial, trivial, trivial, trivial, trivial⟩ ?_
          refine V.callV (as := [.int ((64 + (8 * m)) + p), .int f]) (rest := []) F (by decide +kernel) lX7_133 bX7_copy ⟨7, _, (q.o 52 7 rfl), rfl, rfl⟩ (c_X7_copy G X.2.1 M ((64 + (8 * m)) + p) f q gb (gv_in (isMethod_in cM h5) (isPlace_in h12)) (vin_w (isFact_in h19) (by decide))) (rm_ok hRm hd (by decide) (by decide)) ⟨Nat.zero_le _, Nat.zero_le _⟩ (Nat.le_of_ble_eq_true rfl) (fun r_ N_ p_ => ?_)
          obtain ⟨rfl, rfl, t47⟩ := p_
          refine (?_ : ∀ (M50 : Mem), (SK wa M M50) → f_X7_given M m p f = f_X7_given_c50 m M50 → V G X 4 0 0 (Qx G X 0 0 (p_X7_given M m p f)) 50 [(0, .ref 52), (1, .int m), (2, .int p), (3, .int f)] [] M50) _ (t47.mono sub_wg_wa) E
          intro M50 s50 E
          refine V.seg F floX7 cjoX7 [.aload_n 0, .getfield 51, .iload_n 1, .iconst 0, .bastore, .iconst 1] (by decide +kernel) (pc2 := 58) (lv2 := [(0, .ref 52), (1, .int m), (2, .int p), (3, .int f)]) (st2 := [.int 1]) (M2 := uI M50 66 (ix m) 0) rfl ⟨trivial, ((q.sm s50.1).f 52 7 16 rfl), trivial, trivial, ⟨((q.sm s50.1).a 66 21 6 rfl (isMethod_in cM h5)), Or.inl rfl⟩, trivial, trivial⟩ ?_
          exact V.iret F (by decide +kernel) ⟨congrArg (fun z => some (Value.int z.1)) E.symm, congrArg Prod.snd E.symm, (SK.pI s50 rfl)⟩
        · replace E := E.trans (if_neg h30)
          refine V.seg F floX7 cjoX7 [.bipush (-3)] (by decide +kernel) (pc2 := 35) (lv2 := [(0, .ref 52), (1, .int m), (2, .int p), (3, .int f)]) (st2 := [.int ((-3))]) (M2 := M) rfl ⟨trivial, trivial⟩ ?_
          exact V.iret F (by decide +kernel) ⟨congrArg (fun z => some (Value.int z.1)) E.symm, congrArg Prod.snd E.symm, (SK.rf (w := wa) gb)⟩
      · replace E := E.trans (if_pos h19)
        refine V.pick [] rfl ?_
        exact hJ22 M (SK.rf (w := wa) gb) E
def f_X7_found_41  (M41 : Mem) : Int32 × Mem := ((-1), M41)
def f_X7_found_c90  (M90 : Mem) : Int32 × Mem := (1, M90)
def f_X7_found_c75  (M75 : Mem) : Int32 × Mem := (0, M75)
def f_X7_found (M : Mem) (m : Int32) (ln : Int32) (p : Int32) (f : Int32) : Int32 × Mem := if (f_X7_isMethod M m) = 0 then f_X7_found_41 M else if (f_X7_in (Int32.toInt64 ln) 0 ((Int32.toInt64 (mI M 60 (ix m))) - 1)) = 0 then f_X7_found_41 M else if (f_X7_isPlace p) = 0 then f_X7_found_41 M else if (f_X7_isFact f) = 0 then f_X7_found_41 M else if (mI M 66 (ix m)) = 0 then ((-3), M) else if (mI M 67 (ix ((32 * m) + ln))) = 0 then f_X7_found_c75 (f_X7_nothing M f) else f_X7_found_c90 (f_X7_copy M f (f_X7_cell m ln p))
abbrev p_X7_found (M : Mem) (m : Int32) (ln : Int32) (p : Int32) (f : Int32) : Option Value → Mem → Prop := fun r N => r = some (.int (f_X7_found M m ln p f).1) ∧ N = (f_X7_found M m ln p f).2 ∧ SK wa M N
set_option maxRecDepth 100000 in
set_option maxHeartbeats 4000000 in
theorem c_X7_found (G : Ctx) (l : Launch) (M : Mem) (m : Int32) (ln : Int32) (p : Int32) (f : Int32) (q : Ok M) (gb : Gb M) (cM : cn (mI M 52 9) 6) (hLs : ∀ m, m < 6 → cn (mI M 60 m) 32) : CT G l 2 mX7_found [.ref 52, .int m, .int ln, .int p, .int f] M 0 0 (p_X7_found M m ln p f) := by
  refine CT.of (by decide) (Nat.le_of_ble_eq_true rfl) ?_
  intro X d hd hl hRm hnm F
  subst hl
  have E : f_X7_found M m ln p f = f_X7_found M m ln p f := rfl
  show V G X 5 0 0 (Qx G X 0 0 (p_X7_found M m ln p f)) 0 [(0, .ref 52), (1, .int m), (2, .int ln), (3, .int p), (4, .int f)] [] M
  refine V.seg F floX7 cjoX7 [.aload_n 0, .iload_n 1] (by decide +kernel) (pc2 := 2) (lv2 := [(0, .ref 52), (1, .int m), (2, .int ln), (3, .int p), (4, .int f)]) (st2 := [.int m, .ref 52]) (M2 := M) rfl ⟨trivial, trivial, trivial⟩ ?_
  refine V.callV (as := [.int m]) (rest := []) F (by decide +kernel) lX7_267 bX7_isMethod ⟨7, _, (q.o 52 7 rfl), rfl, rfl⟩ (c_X7_isMethod G X.2.1 M m q gb) (rm_ok hRm hd (by decide) (by decide)) ⟨Nat.zero_le _, Nat.zero_le _⟩ (Nat.le_of_ble_eq_true rfl) (fun r_ N_ p_ => ?_)
  obtain ⟨rfl, hN_, z2⟩ := p_
  rw [hN_]
  clear hN_
  have hJ41 : ∀ (M41 : Mem), (SK wa M M41) → f_X7_found M m ln p f = f_X7_found_41 M41 → V G X 5 0 0 (Qx G X 0 0 (p_X7_found M m ln p f)) 41 [] [] M41 := by
    intro M41 s41 E
    refine V.seg F floX7 cjoX7 [.iconst (-1)] (by decide +kernel) (pc2 := 42) (lv2 := []) (st2 := [.int ((-1))]) (M2 := M41) rfl ⟨trivial, trivial⟩ ?_
    exact V.iret F (by decide +kernel) ⟨congrArg (fun z => some (Value.int z.1)) E.symm, congrArg Prod.snd E.symm, s41⟩
  refine V.if_eq (off := 36) F (by decide +kernel) (tgt := 41) (by decide) (fun h5 => ?_) (fun h5 => ?_)
  · replace E := E.trans (if_pos h5)
    refine V.pick [] rfl ?_
    exact hJ41 M (SK.rf (w := wa) gb) E
  · replace E := E.trans (if_neg h5)
    refine V.seg F floX7 cjoX7 [.iload_n 2, .i2l, .lconst 0, .aload_n 0, .getfield 32, .iload_n 1, .iaload, .i2l, .lconst 1, .lsub] (by decide +kernel) (pc2 := 20) (lv2 := [(0, .ref 52), (1, .int m), (2, .int ln), (3, .int p), (4, .int f)]) (st2 := [.long ((Int32.toInt64 (mI M 60 (ix m))) - 1), .long 0, .long (Int32.toInt64 ln)]) (M2 := M) rfl ⟨trivial, trivial, trivial, trivial, (q.f 52 7 10 rfl), trivial, (q.a 60 20 6 rfl (isMethod_in cM h5)), trivial, trivial, trivial, trivial⟩ ?_
    refine V.callS (as := [.long (Int32.toInt64 ln), .long 0, .long ((Int32.toInt64 (mI M 60 (ix m))) - 1)]) (rest := []) F (by decide +kernel) lX7_89 bX7_in (c_X7_in G X.2.1 M (Int32.toInt64 ln) 0 ((Int32.toInt64 (mI M 60 (ix m))) - 1)) (rm_ok hRm hd (by decide) (by decide)) ⟨Nat.zero_le _, Nat.zero_le _⟩ (Nat.le_of_ble_eq_true rfl) (fun r_ N_ p_ => ?_)
    obtain ⟨rfl, hN_, z20⟩ := p_
    rw [hN_]
    clear hN_
    refine V.if_eq (off := 18) F (by decide +kernel) (tgt := 41) (by decide) (fun h23 => ?_) (fun h23 => ?_)
    · replace E := E.trans (if_pos h23)
      refine V.pick [] rfl ?_
      exact hJ41 M (SK.rf (w := wa) gb) E
    · replace E := E.trans (if_neg h23)
      refine V.seg F floX7 cjoX7 [.iload_n 3] (by decide +kernel) (pc2 := 27) (lv2 := [(0, .ref 52), (1, .int m), (2, .int ln), (3, .int p), (4, .int f)]) (st2 := [.int p]) (M2 := M) rfl ⟨trivial, trivial⟩ ?_
      refine V.callS (as := [.int p]) (rest := []) F (by decide +kernel) lX7_264 bX7_isPlace (c_X7_isPlace G X.2.1 M p) (rm_ok hRm hd (by decide) (by decide)) ⟨Nat.zero_le _, Nat.zero_le _⟩ (Nat.le_of_ble_eq_true rfl) (fun r_ N_ p_ => ?_)
      obtain ⟨rfl, hN_, z27⟩ := p_
      rw [hN_]
      clear hN_
      refine V.if_eq (off := 11) F (by decide +kernel) (tgt := 41) (by decide) (fun h30 => ?_) (fun h30 => ?_)
      · replace E := E.trans (if_pos h30)
        refine V.pick [] rfl ?_
        exact hJ41 M (SK.rf (w := wa) gb) E
      · replace E := E.trans (if_neg h30)
        refine V.seg F floX7 cjoX7 [.iload 4] (by decide +kernel) (pc2 := 35) (lv2 := [(0, .ref 52), (1, .int m), (2, .int ln), (3, .int p), (4, .int f)]) (st2 := [.int f]) (M2 := M) rfl ⟨trivial, trivial⟩ ?_
        refine V.callS (as := [.int f]) (rest := []) F (by decide +kernel) lX7_237 bX7_isFact (c_X7_isFact G X.2.1 M f) (rm_ok hRm hd (by decide) (by decide)) ⟨Nat.zero_le _, Nat.zero_le _⟩ (Nat.le_of_ble_eq_true rfl) (fun r_ N_ p_ => ?_)
        obtain ⟨rfl, hN_, z35⟩ := p_
        rw [hN_]
        clear hN_
        refine V.if_ne (off := 5) F (by decide +kernel) (tgt := 43) (by decide) (fun h38 => ?_) (fun h38 => ?_)
        · replace E := E.trans (if_neg h38)
          refine V.seg F floX7 cjoX7 [.aload_n 0, .getfield 51, .iload_n 1, .baload] (by decide +kernel) (pc2 := 49) (lv2 := [(0, .ref 52), (1, .int m), (2, .int ln), (3, .int p), (4, .int f)]) (st2 := [.int (mI M 66 (ix m))]) (M2 := M) rfl ⟨trivial, (q.f 52 7 16 rfl), trivial, (q.a 66 21 6 rfl (isMethod_in cM h5)), trivial⟩ ?_
          refine V.if_ne (off := 6) F (by decide +kernel) (tgt := 55) (by decide) (fun h49 => ?_) (fun h49 => ?_)
          · replace E := E.trans (if_neg h49)
            refine V.seg F floX7 cjoX7 [.aload_n 0, .getfield 54, .bipush 32, .iload_n 1, .imul, .iload_n 2, .iadd, .baload] (by decide +kernel) (pc2 := 66) (lv2 := [(0, .ref 52), (1, .int m), (2, .int ln), (3, .int p), (4, .int f)]) (st2 := [.int (mI M 67 (ix ((32 * m) + ln)))]) (M2 := M) rfl ⟨trivial, (q.f 52 7 17 rfl), trivial, trivial, trivial, trivial, trivial, (q.a 67 21 192 rfl (rl_in (isMethod_in cM h5) (lnIn (hLs (ix m) (vin_lt (isMethod_in cM h5))) h23))), trivial⟩ ?_
            refine V.if_ne (off := 11) F (by decide +kernel) (tgt := 77) (by decide) (fun h66 => ?_) (fun h66 => ?_)
            · replace E := E.trans (if_neg h66)
              refine V.seg F floX7 cjoX7 [.aload_n 0, .iload 4, .aload_n 0, .iload_n 1, .iload_n 2, .iload_n 3] (by decide +kernel) (pc2 := 84) (lv2 := [(0, .ref 52), (1, .int m), (2, .int ln), (3, .int p), (4, .int f)]) (st2 := [.int p, .int ln, .int m, .ref 52, .int f, .ref 52]) (M2 := M) rfl ⟨trivial, trivial, trivial, trivial, trivial, trivial, trivial⟩ ?_
              refine V.callV (as := [.int m, .int ln, .int p]) (rest := [.int f, .ref 52]) F (by decide +kernel) lX7_276 bX7_cell ⟨7, _, (q.o 52 7 rfl), rfl, rfl⟩ (c_X7_cell G X.2.1 M m ln p q gb) (rm_ok hRm hd (by decide) (by decide)) ⟨Nat.zero_le _, Nat.zero_le _⟩ (Nat.le_of_ble_eq_true rfl) (fun r_ N_ p_ => ?_)
              obtain ⟨rfl, hN_⟩ := p_
              rw [hN_]
              clear hN_
              refine V.callV (as := [.int f, .int (f_X7_cell m ln p)]) (rest := []) F (by decide +kernel) lX7_133 bX7_copy ⟨7, _, (q.o 52 7 rfl), rfl, rfl⟩ (c_X7_copy G X.2.1 M f (f_X7_cell m ln p) q gb (vin_w (isFact_in h38) (by decide)) (cell_in (isMethod_in cM h5) (lnIn (hLs (ix m) (vin_lt (isMethod_in cM h5))) h23) (isPlace_in h30))) (rm_ok hRm hd (by decide) (by decide)) ⟨Nat.zero_le _, Nat.zero_le _⟩ (Nat.le_of_ble_eq_true rfl) (fun r_ N_ p_ => ?_)
              obtain ⟨rfl, rfl, t87⟩ := p_
              refine (?_ : ∀ (M90 : Mem), (SK wa M M90) → f_X7_found M m ln p f = f_X7_found_c90 M90 → V G X 5 0 0 (Qx G X 0 0 (p_X7_found M m ln p f)) 90 [(0, .ref 52), (1, .int m), (2, .int ln), (3, .int p), (4, .int f)] [] M90) _ (t87.mono sub_wg_wa) E
              intro M90 s90 E
              refine V.seg F floX7 cjoX7 [.iconst 1] (by decide +kernel) (pc2 := 91) (lv2 := [(0, .ref 52), (1, .int m), (2, .int ln), (3, .int p), (4, .int f)]) (st2 := [.int 1]) (M2 := M90) rfl ⟨trivial, trivial⟩ ?_
              exact V.iret F (by decide +kernel) ⟨congrArg (fun z => some (Value.int z.1)) E.symm, congrArg Prod.snd E.symm, s90⟩
            · replace E := E.trans (if_pos h66)
              refine V.seg F floX7 cjoX7 [.aload_n 0, .iload 4] (by decide +kernel) (pc2 := 72) (lv2 := [(0, .ref 52), (1, .int m), (2, .int ln), (3, .int p), (4, .int f)]) (st2 := [.int f, .ref 52]) (M2 := M) rfl ⟨trivial, trivial, trivial⟩ ?_
              refine V.callV (as := [.int f]) (rest := []) F (by decide +kernel) lX7_115 bX7_nothing ⟨7, _, (q.o 52 7 rfl), rfl, rfl⟩ (c_X7_nothing G X.2.1 M f q gb (vin_w (isFact_in h38) (by decide))) (rm_ok hRm hd (by decide) (by decide)) ⟨Nat.zero_le _, Nat.zero_le _⟩ (Nat.le_of_ble_eq_true rfl) (fun r_ N_ p_ => ?_)
              obtain ⟨rfl, rfl, t72⟩ := p_
              refine (?_ : ∀ (M75 : Mem), (SK wa M M75) → f_X7_found M m ln p f = f_X7_found_c75 M75 → V G X 5 0 0 (Qx G X 0 0 (p_X7_found M m ln p f)) 75 [(0, .ref 52), (1, .int m), (2, .int ln), (3, .int p), (4, .int f)] [] M75) _ (t72.mono sub_wg_wa) E
              intro M75 s75 E
              refine V.seg F floX7 cjoX7 [.iconst 0] (by decide +kernel) (pc2 := 76) (lv2 := [(0, .ref 52), (1, .int m), (2, .int ln), (3, .int p), (4, .int f)]) (st2 := [.int 0]) (M2 := M75) rfl ⟨trivial, trivial⟩ ?_
              exact V.iret F (by decide +kernel) ⟨congrArg (fun z => some (Value.int z.1)) E.symm, congrArg Prod.snd E.symm, s75⟩
          · replace E := E.trans (if_pos h49)
            refine V.seg F floX7 cjoX7 [.bipush (-3)] (by decide +kernel) (pc2 := 54) (lv2 := [(0, .ref 52), (1, .int m), (2, .int ln), (3, .int p), (4, .int f)]) (st2 := [.int ((-3))]) (M2 := M) rfl ⟨trivial, trivial⟩ ?_
            exact V.iret F (by decide +kernel) ⟨congrArg (fun z => some (Value.int z.1)) E.symm, congrArg Prod.snd E.symm, (SK.rf (w := wa) gb)⟩
        · replace E := E.trans (if_pos h38)
          refine V.pick [] rfl ?_
          exact hJ41 M (SK.rf (w := wa) gb) E
def f_X7_put_ (M : Mem) (p : Int32) (v : Int64) : Int64 × Mem := if (f_X7_isPlace p) = 0 then (0, M) else (mL M 72 (ix p), uL M 72 (ix p) v)
abbrev p_X7_put_ (M : Mem) (p : Int32) (v : Int64) : Option Value → Mem → Prop := fun r N => r = some (.long (f_X7_put_ M p v).1) ∧ N = (f_X7_put_ M p v).2 ∧ SK wa M N
set_option maxRecDepth 100000 in
set_option maxHeartbeats 4000000 in
theorem c_X7_put_ (G : Ctx) (l : Launch) (M : Mem) (p : Int32) (v : Int64) (q : Ok M) (gb : Gb M) : CT G l 2 mX7_put_ [.ref 52, .int p, .long v] M 0 0 (p_X7_put_ M p v) := by
  refine CT.of (by decide) (Nat.le_of_ble_eq_true rfl) ?_
  intro X d hd hl hRm hnm F
  subst hl
  have E : f_X7_put_ M p v = f_X7_put_ M p v := rfl
  show V G X 6 0 0 (Qx G X 0 0 (p_X7_put_ M p v)) 0 [(0, .ref 52), (1, .int p), (2, .long v)] [] M
  refine V.seg F floX7 cjoX7 [.iload_n 1] (by decide +kernel) (pc2 := 1) (lv2 := [(0, .ref 52), (1, .int p), (2, .long v)]) (st2 := [.int p]) (M2 := M) rfl ⟨trivial, trivial⟩ ?_
  refine V.callS (as := [.int p]) (rest := []) F (by decide +kernel) lX7_264 bX7_isPlace (c_X7_isPlace G X.2.1 M p) (rm_ok hRm hd (by decide) (by decide)) ⟨Nat.zero_le _, Nat.zero_le _⟩ (Nat.le_of_ble_eq_true rfl) (fun r_ N_ p_ => ?_)
  obtain ⟨rfl, hN_, z1⟩ := p_
  rw [hN_]
  clear hN_
  refine V.if_ne (off := 5) F (by decide +kernel) (tgt := 9) (by decide) (fun h4 => ?_) (fun h4 => ?_)
  · replace E := E.trans (if_neg h4)
    refine V.seg F floX7 cjoX7 [.aload_n 0, .getfield 69, .iload_n 1, .laload, .lstore 4, .aload_n 0, .getfield 69, .iload_n 1, .lload_n 2, .lastore, .lload 4] (by decide +kernel) (pc2 := 26) (lv2 := [(4, .long (mL M 72 (ix p))), (0, .ref 52), (1, .int p), (2, .long v)]) (st2 := [.long (mL M 72 (ix p))]) (M2 := uL M 72 (ix p) v) rfl ⟨trivial, (q.f 52 7 22 rfl), trivial, (q.a 72 22 8 rfl (isPlace_in h4)), (by decide), trivial, (q.f 52 7 22 rfl), trivial, trivial, (q.a 72 22 8 rfl (isPlace_in h4)), trivial, trivial⟩ ?_
    exact V.lret F (by decide +kernel) ⟨congrArg (fun z => some (Value.long z.1)) E.symm, congrArg Prod.snd E.symm, (SK.pL (SK.rf (w := wa) gb) rfl (by decide))⟩
  · replace E := E.trans (if_pos h4)
    refine V.seg F floX7 cjoX7 [.lconst 0] (by decide +kernel) (pc2 := 8) (lv2 := [(0, .ref 52), (1, .int p), (2, .long v)]) (st2 := [.long 0]) (M2 := M) rfl ⟨trivial, trivial⟩ ?_
    exact V.lret F (by decide +kernel) ⟨congrArg (fun z => some (Value.long z.1)) E.symm, congrArg Prod.snd E.symm, (SK.rf (w := wa) gb)⟩
def f_X7_gives_77  (w0_77 : Int32) (M77 : Mem) : Int32 × Mem := (w0_77, M77)
def f_X7_gives_c65  (M65 : Mem) : Int32 × Mem := if (mI M65 52 8) = 0 then f_X7_gives_77 0 M65 else f_X7_gives_77 1 M65
def f_X7_gives (M : Mem) (m : Int32) (ln : Int32) : Int32 × Mem := if (mI M 61 (ix ((32 * m) + ln))) ≤ 11 then f_X7_gives_c65 (f_X7_does M (mI M 61 (ix ((32 * m) + ln))) (f_X7_cell m ln (mI M 62 (ix ((32 * m) + ln)))) (f_X7_cell m ln (mI M 63 (ix ((32 * m) + ln)))) 26) else (0, M)
abbrev p_X7_gives (M : Mem) (m : Int32) (ln : Int32) : Option Value → Mem → Prop := fun r N => r = some (.int (f_X7_gives M m ln).1) ∧ N = (f_X7_gives M m ln).2 ∧ SK wg M N
set_option maxRecDepth 100000 in
set_option maxHeartbeats 4000000 in
theorem c_X7_gives (G : Ctx) (l : Launch) (M : Mem) (m : Int32) (ln : Int32) (q : Ok M) (gb : Gb M) (i_m : vp_in m 6) (i_ln : vp_in ln 32) (hL : LnOK (mI M 61 (ix ((32 * m) + ln))) (mI M 62 (ix ((32 * m) + ln))) (mI M 63 (ix ((32 * m) + ln)))) : CT G l 7 mX7_gives [.ref 52, .int m, .int ln] M 0 0 (p_X7_gives M m ln) := by
  refine CT.of (by decide) (Nat.le_of_ble_eq_true rfl) ?_
  intro X d hd hl hRm hnm F
  subst hl
  have E : f_X7_gives M m ln = f_X7_gives M m ln := rfl
  show V G X 5 0 0 (Qx G X 0 0 (p_X7_gives M m ln)) 0 [(0, .ref 52), (1, .int m), (2, .int ln)] [] M
  refine V.seg F floX7 cjoX7 [.aload_n 0, .getfield 36, .bipush 32, .iload_n 1, .imul, .iload_n 2, .iadd, .iaload, .istore_n 3, .aload_n 0, .iload_n 1, .iload_n 2, .aload_n 0, .getfield 39, .bipush 32, .iload_n 1, .imul, .iload_n 2, .iadd, .iaload] (by decide +kernel) (pc2 := 26) (lv2 := [(3, .int (mI M 61 (ix ((32 * m) + ln)))), (0, .ref 52), (1, .int m), (2, .int ln)]) (st2 := [.int (mI M 62 (ix ((32 * m) + ln))), .int ln, .int m, .ref 52]) (M2 := M) rfl ⟨trivial, (q.f 52 7 11 rfl), trivial, trivial, trivial, trivial, trivial, (q.a 61 20 192 rfl (rl_in i_m i_ln)), (by decide), trivial, trivial, trivial, trivial, (q.f 52 7 12 rfl), trivial, trivial, trivial, trivial, trivial, (q.a 62 20 192 rfl (rl_in i_m i_ln)), trivial⟩ ?_
  refine V.callV (as := [.int m, .int ln, .int (mI M 62 (ix ((32 * m) + ln)))]) (rest := []) F (by decide +kernel) lX7_276 bX7_cell ⟨7, _, (q.o 52 7 rfl), rfl, rfl⟩ (c_X7_cell G X.2.1 M m ln (mI M 62 (ix ((32 * m) + ln))) q gb) (rm_ok hRm hd (by decide) (by decide)) ⟨Nat.zero_le _, Nat.zero_le _⟩ (Nat.le_of_ble_eq_true rfl) (fun r_ N_ p_ => ?_)
  obtain ⟨rfl, hN_⟩ := p_
  rw [hN_]
  clear hN_
  refine V.seg F floX7 cjoX7 [.istore 4, .iload_n 3, .bipush 11] (by decide +kernel) (pc2 := 34) (lv2 := [(4, .int (f_X7_cell m ln (mI M 62 (ix ((32 * m) + ln))))), (3, .int (mI M 61 (ix ((32 * m) + ln)))), (0, .ref 52), (1, .int m), (2, .int ln)]) (st2 := [.int 11, .int (mI M 61 (ix ((32 * m) + ln)))]) (M2 := M) rfl ⟨(by decide), trivial, trivial, trivial⟩ ?_
  refine V.ic_le (off := 5) F (by decide +kernel) (tgt := 39) (by decide) (fun h34 => ?_) (fun h34 => ?_)
  · replace E := E.trans (if_pos h34)
    refine V.seg F floX7 cjoX7 [.aload_n 0, .iload_n 3, .iload 4, .aload_n 0, .iload_n 1, .iload_n 2, .aload_n 0, .getfield 42, .bipush 32, .iload_n 1, .imul, .iload_n 2, .iadd, .iaload] (by decide +kernel) (pc2 := 57) (lv2 := [(4, .int (f_X7_cell m ln (mI M 62 (ix ((32 * m) + ln))))), (3, .int (mI M 61 (ix ((32 * m) + ln)))), (0, .ref 52), (1, .int m), (2, .int ln)]) (st2 := [.int (mI M 63 (ix ((32 * m) + ln))), .int ln, .int m, .ref 52, .int (f_X7_cell m ln (mI M 62 (ix ((32 * m) + ln)))), .int (mI M 61 (ix ((32 * m) + ln))), .ref 52]) (M2 := M) rfl ⟨trivial, trivial, trivial, trivial, trivial, trivial, trivial, (q.f 52 7 13 rfl), trivial, trivial, trivial, trivial, trivial, (q.a 63 20 192 rfl (rl_in i_m i_ln)), trivial⟩ ?_
    refine V.callV (as := [.int m, .int ln, .int (mI M 63 (ix ((32 * m) + ln)))]) (rest := [.int (f_X7_cell m ln (mI M 62 (ix ((32 * m) + ln)))), .int (mI M 61 (ix ((32 * m) + ln))), .ref 52]) F (by decide +kernel) lX7_276 bX7_cell ⟨7, _, (q.o 52 7 rfl), rfl, rfl⟩ (c_X7_cell G X.2.1 M m ln (mI M 63 (ix ((32 * m) + ln))) q gb) (rm_ok hRm hd (by decide) (by decide)) ⟨Nat.zero_le _, Nat.zero_le _⟩ (Nat.le_of_ble_eq_true rfl) (fun r_ N_ p_ => ?_)
    obtain ⟨rfl, hN_⟩ := p_
    rw [hN_]
    clear hN_
    refine V.seg F floX7 cjoX7 [.bipush 26] (by decide +kernel) (pc2 := 62) (lv2 := [(4, .int (f_X7_cell m ln (mI M 62 (ix ((32 * m) + ln))))), (3, .int (mI M 61 (ix ((32 * m) + ln)))), (0, .ref 52), (1, .int m), (2, .int ln)]) (st2 := [.int 26, .int (f_X7_cell m ln (mI M 63 (ix ((32 * m) + ln)))), .int (f_X7_cell m ln (mI M 62 (ix ((32 * m) + ln)))), .int (mI M 61 (ix ((32 * m) + ln))), .ref 52]) (M2 := M) rfl ⟨trivial, trivial⟩ ?_
    refine V.callV (as := [.int (mI M 61 (ix ((32 * m) + ln))), .int (f_X7_cell m ln (mI M 62 (ix ((32 * m) + ln)))), .int (f_X7_cell m ln (mI M 63 (ix ((32 * m) + ln)))), .int 26]) (rest := []) F (by decide +kernel) lX7_245 bX7_does ⟨7, _, (q.o 52 7 rfl), rfl, rfl⟩ (c_X7_does G X.2.1 M (mI M 61 (ix ((32 * m) + ln))) (f_X7_cell m ln (mI M 62 (ix ((32 * m) + ln)))) (f_X7_cell m ln (mI M 63 (ix ((32 * m) + ln)))) 26 q gb (cell_in i_m i_ln hL.1) (cell_in i_m i_ln (hL.2.1 (le11 h34))) (vinc (by decide))) (rm_ok hRm hd (by decide) (by decide)) ⟨Nat.zero_le _, Nat.zero_le _⟩ (Nat.le_of_ble_eq_true rfl) (fun r_ N_ p_ => ?_)
    obtain ⟨rfl, rfl, t62⟩ := p_
    refine (?_ : ∀ (M65 : Mem), (SK wg M M65) → f_X7_gives M m ln = f_X7_gives_c65 M65 → V G X 5 0 0 (Qx G X 0 0 (p_X7_gives M m ln)) 65 [(4, .int (f_X7_cell m ln (mI M 62 (ix ((32 * m) + ln))))), (3, .int (mI M 61 (ix ((32 * m) + ln)))), (0, .ref 52), (1, .int m), (2, .int ln)] [] M65) _ t62 E
    intro M65 s65 E
    refine V.seg F floX7 cjoX7 [.aload_n 0, .getfield 180] (by decide +kernel) (pc2 := 69) (lv2 := [(4, .int (f_X7_cell m ln (mI M 62 (ix ((32 * m) + ln))))), (3, .int (mI M 61 (ix ((32 * m) + ln)))), (0, .ref 52), (1, .int m), (2, .int ln)]) (st2 := [.int (mI M65 52 8)]) (M2 := M65) rfl ⟨trivial, ((q.sm s65.1).o 52 7 rfl), trivial⟩ ?_
    have hJ77 : ∀ (w0_77 : Int32) (M77 : Mem), (SK wg M M77) → f_X7_gives M m ln = f_X7_gives_77 w0_77 M77 → V G X 5 0 0 (Qx G X 0 0 (p_X7_gives M m ln)) 77 [] [.int w0_77] M77 := by
      intro w0_77 M77 s77 E
      exact V.iret F (by decide +kernel) ⟨congrArg (fun z => some (Value.int z.1)) E.symm, congrArg Prod.snd E.symm, s77⟩
    refine V.if_eq (off := 7) F (by decide +kernel) (tgt := 76) (by decide) (fun h69 => ?_) (fun h69 => ?_)
    · replace E := E.trans (if_pos h69)
      refine V.seg F floX7 cjoX7 [.iconst 0] (by decide +kernel) (pc2 := 77) (lv2 := [(4, .int (f_X7_cell m ln (mI M 62 (ix ((32 * m) + ln))))), (3, .int (mI M 61 (ix ((32 * m) + ln)))), (0, .ref 52), (1, .int m), (2, .int ln)]) (st2 := [.int 0]) (M2 := M65) rfl ⟨trivial, trivial⟩ ?_
      refine V.pick [] rfl ?_
      exact hJ77 0 M65 s65 E
    · replace E := E.trans (if_neg h69)
      refine V.seg F floX7 cjoX7 [.iconst 1, .goto 4] (by decide +kernel) (pc2 := 77) (lv2 := [(4, .int (f_X7_cell m ln (mI M 62 (ix ((32 * m) + ln))))), (3, .int (mI M 61 (ix ((32 * m) + ln)))), (0, .ref 52), (1, .int m), (2, .int ln)]) (st2 := [.int 1]) (M2 := M65) rfl ⟨trivial, (by decide), trivial⟩ ?_
      refine V.pick [] rfl ?_
      exact hJ77 1 M65 s65 E
  · replace E := E.trans (if_neg h34)
    refine V.seg F floX7 cjoX7 [.iconst 0] (by decide +kernel) (pc2 := 38) (lv2 := [(4, .int (f_X7_cell m ln (mI M 62 (ix ((32 * m) + ln))))), (3, .int (mI M 61 (ix ((32 * m) + ln)))), (0, .ref 52), (1, .int m), (2, .int ln)]) (st2 := [.int 0]) (M2 := M) rfl ⟨trivial, trivial⟩ ?_
    exact V.iret F (by decide +kernel) ⟨congrArg (fun z => some (Value.int z.1)) E.symm, congrArg Prod.snd E.symm, (SK.rf (w := wg) gb)⟩
