def rv (r : Option Nat) : Value := match r with
  | none => .null
  | some a => .ref a
theorem el_n {β : Type} {o : Option Nat} {x : β} {y : Nat → β} (h : o = none) : o.elim x y = x := by rw [h]; rfl
theorem el_s {β : Type} {o : Option Nat} {a : Nat} {x : β} {y : Nat → β} (h : o = some a) : o.elim x y = y a := by rw [h]; rfl
theorem fin16 {f : Int32} (h1 : ¬ f < 0) (h2 : f < 16) : vp_in f 16 := by
  obtain ⟨j, hj, rfl⟩ := nI_of h1
  have h3 : nI j < nI 16 := h2
  exact vp_in_nI ((nI_ltI hj (by decide)).mp h3) (by decide)
def f_X6_factAt_10   : Option Nat := none
def f_X6_factAt (f : Int32) : Option Nat := if f < 0 then f_X6_factAt_10  else if f < 16 then some (2 + 34 + ix f) else f_X6_factAt_10 
abbrev p_X6_factAt (M : Mem) (f : Int32) : Option Value → Mem → Prop := fun r N => r = some (rv (f_X6_factAt f)) ∧ N = M
set_option maxRecDepth 100000 in
set_option maxHeartbeats 4000000 in
theorem c_X6_factAt (G : Ctx) (l : Launch) (M : Mem) (f : Int32) (q : Ok M) : CT G l 0 mX6_factAt [.ref 1, .int f] M 0 0 (p_X6_factAt M f) := by
  refine CT.of (by decide) (Nat.le_of_ble_eq_true rfl) ?_
  intro X d hd hl hRm hnm F
  subst hl
  have E : f_X6_factAt f = f_X6_factAt f := rfl
  show V G X 2 0 0 (Qx G X 0 0 (p_X6_factAt M f)) 0 [(0, .ref 1), (1, .int f)] [] M
  refine V.seg F floX6 cjoX6 [.iload_n 1] (by decide +kernel) (pc2 := 1) (lv2 := [(0, .ref 1), (1, .int f)]) (st2 := [.int f]) (M2 := M) rfl ⟨trivial, trivial⟩ ?_
  have hJ10 : f_X6_factAt f = f_X6_factAt_10 → V G X 2 0 0 (Qx G X 0 0 (p_X6_factAt M f)) 10 [] [] M := by
    intro E
    refine V.seg F floX6 cjoX6 [.aconst_null, .goto 9] (by decide +kernel) (pc2 := 20) (lv2 := []) (st2 := [.null]) (M2 := M) rfl ⟨trivial, (by decide), trivial⟩ ?_
    exact V.nret F (by decide +kernel) ⟨congrArg (fun z => some (rv z)) E.symm, rfl⟩
  refine V.if_lt (off := 9) F (by decide +kernel) (tgt := 10) (by decide) (fun h1 => ?_) (fun h1 => ?_)
  · replace E := E.trans (if_pos h1)
    refine V.pick [] rfl ?_
    exact hJ10   E
  · replace E := E.trans (if_neg h1)
    refine V.seg F floX6 cjoX6 [.iload_n 1, .bipush 16] (by decide +kernel) (pc2 := 7) (lv2 := [(0, .ref 1), (1, .int f)]) (st2 := [.int 16, .int f]) (M2 := M) rfl ⟨trivial, trivial, trivial⟩ ?_
    refine V.ic_lt (off := 7) F (by decide +kernel) (tgt := 14) (by decide) (fun h7 => ?_) (fun h7 => ?_)
    · replace E := E.trans (if_pos h7)
      refine V.seg F floX6 cjoX6 [.aload_n 0, .getfield 11, .iload_n 1] (by decide +kernel) (pc2 := 19) (lv2 := [(0, .ref 1), (1, .int f)]) (st2 := [.int f, .ref 2]) (M2 := M) rfl ⟨trivial, (q.f 1 6 0 rfl), trivial, trivial⟩ ?_
      refine V.aald (kd := 23) F (by decide +kernel) (q.a 2 23 16 rfl (fin16 h1 h7)) ⟨by decide, by decide⟩ (q.el 2 23 16 rfl rfl (fin16 h1 h7)) ?_
      show V G X 2 0 0 (Qx G X 0 0 (p_X6_factAt M f)) 20 [(0, .ref 1), (1, .int f)] [.ref (2 + 34 + ix f)] M
      exact V.aret F (by decide +kernel) ⟨congrArg (fun z => some (rv z)) E.symm, rfl⟩
    · replace E := E.trans (if_neg h7)
      refine V.pick [] rfl ?_
      exact hJ10   E
theorem factAt_o {M : Mem} {f : Int32} {a : Nat} (q : Ok M) (h : f_X6_factAt f = some a) : isO M a 1 := by
  unfold f_X6_factAt f_X6_factAt_10 at h
  split at h
  · cases h
  · rename_i h1
    split at h
    · rename_i h2
      cases h
      exact q.fa (fin16 h1 h2)
    · cases h
def f_X6_oneUnlessNone_12  (w0_12 : Int32) : Int32 := w0_12
def f_X6_oneUnlessNone (M : Mem) (a : Nat) : Int32 := if (mI M a 0) = 0 then f_X6_oneUnlessNone_12 1 else f_X6_oneUnlessNone_12 0
abbrev p_X6_oneUnlessNone (M : Mem) (a : Nat) : Option Value → Mem → Prop := fun r N => r = some (.int (f_X6_oneUnlessNone M a)) ∧ N = M
set_option maxRecDepth 100000 in
set_option maxHeartbeats 4000000 in
theorem c_X6_oneUnlessNone (G : Ctx) (l : Launch) (M : Mem) (a : Nat) (o_a : isO M a 1) : CT G l 0 mX6_oneUnlessNone [.ref a] M 0 0 (p_X6_oneUnlessNone M a) := by
  refine CT.of (by decide) (Nat.le_of_ble_eq_true rfl) ?_
  intro X d hd hl hRm hnm F
  subst hl
  have E : f_X6_oneUnlessNone M a = f_X6_oneUnlessNone M a := rfl
  show V G X 1 0 0 (Qx G X 0 0 (p_X6_oneUnlessNone M a)) 0 [(0, .ref a)] [] M
  refine V.seg F floX6 cjoX6 [.aload_n 0, .getfield 120] (by decide +kernel) (pc2 := 4) (lv2 := [(0, .ref a)]) (st2 := [.int (mI M a 0)]) (M2 := M) rfl ⟨trivial, o_a, trivial⟩ ?_
  have hJ12 : ∀ (w0_12 : Int32), f_X6_oneUnlessNone M a = f_X6_oneUnlessNone_12 w0_12 → V G X 1 0 0 (Qx G X 0 0 (p_X6_oneUnlessNone M a)) 12 [] [.int w0_12] M := by
    intro w0_12 E
    exact V.iret F (by decide +kernel) ⟨congrArg (fun z => some (Value.int z)) E.symm, rfl⟩
  refine V.if_eq (off := 7) F (by decide +kernel) (tgt := 11) (by decide) (fun h4 => ?_) (fun h4 => ?_)
  · replace E := E.trans (if_pos h4)
    refine V.seg F floX6 cjoX6 [.iconst 1] (by decide +kernel) (pc2 := 12) (lv2 := [(0, .ref a)]) (st2 := [.int 1]) (M2 := M) rfl ⟨trivial, trivial⟩ ?_
    refine V.pick [] rfl ?_
    exact hJ12 1  E
  · replace E := E.trans (if_neg h4)
    refine V.seg F floX6 cjoX6 [.iconst 0, .goto 4] (by decide +kernel) (pc2 := 12) (lv2 := [(0, .ref a)]) (st2 := [.int 0]) (M2 := M) rfl ⟨trivial, (by decide), trivial⟩ ?_
    refine V.pick [] rfl ?_
    exact hJ12 0  E
def f_X6_isPlace_15  (w0_15 : Int32) : Int32 := w0_15
def f_X6_isPlace_14   : Int32 := f_X6_isPlace_15 0
def f_X6_isPlace (p : Int32) : Int32 := if p < 0 then f_X6_isPlace_14  else if 8 ≤ p then f_X6_isPlace_14  else f_X6_isPlace_15 1
abbrev p_X6_isPlace (M : Mem) (p : Int32) : Option Value → Mem → Prop := fun r N => r = some (.int (f_X6_isPlace p)) ∧ N = M ∧ ((f_X6_isPlace p) = 0 ∨ (f_X6_isPlace p) = 1)
set_option maxRecDepth 100000 in
set_option maxHeartbeats 4000000 in
theorem c_X6_isPlace (G : Ctx) (l : Launch) (M : Mem) (p : Int32)  : CT G l 0 mX6_isPlace [.int p] M 0 0 (p_X6_isPlace M p) := by
  refine CT.of (by decide) (Nat.le_of_ble_eq_true rfl) ?_
  intro X d hd hl hRm hnm F
  subst hl
  have E : f_X6_isPlace p = f_X6_isPlace p := rfl
  show V G X 1 0 0 (Qx G X 0 0 (p_X6_isPlace M p)) 0 [(0, .int p)] [] M
  refine V.seg F floX6 cjoX6 [.iload_n 0] (by decide +kernel) (pc2 := 1) (lv2 := [(0, .int p)]) (st2 := [.int p]) (M2 := M) rfl ⟨trivial, trivial⟩ ?_
  have hJ15 : ∀ (w0_15 : Int32), (w0_15 = 0 ∨ w0_15 = 1) → f_X6_isPlace p = f_X6_isPlace_15 w0_15 → V G X 1 0 0 (Qx G X 0 0 (p_X6_isPlace M p)) 15 [] [.int w0_15] M := by
    intro w0_15 zw0_15 E
    exact V.zret F (zw0_15) (by decide +kernel) ⟨congrArg (fun z => some (Value.int z)) E.symm, rfl, by rw [E]; exact zw0_15⟩
  have hJ14 : f_X6_isPlace p = f_X6_isPlace_14 → V G X 1 0 0 (Qx G X 0 0 (p_X6_isPlace M p)) 14 [] [] M := by
    intro E
    refine V.seg F floX6 cjoX6 [.iconst 0] (by decide +kernel) (pc2 := 15) (lv2 := []) (st2 := [.int 0]) (M2 := M) rfl ⟨trivial, trivial⟩ ?_
    refine V.pick [] rfl ?_
    exact hJ15 0 (Or.inl rfl) E
  refine V.if_lt (off := 13) F (by decide +kernel) (tgt := 14) (by decide) (fun h1 => ?_) (fun h1 => ?_)
  · replace E := E.trans (if_pos h1)
    refine V.pick [] rfl ?_
    exact hJ14   E
  · replace E := E.trans (if_neg h1)
    refine V.seg F floX6 cjoX6 [.iload_n 0, .bipush 8] (by decide +kernel) (pc2 := 7) (lv2 := [(0, .int p)]) (st2 := [.int 8, .int p]) (M2 := M) rfl ⟨trivial, trivial, trivial⟩ ?_
    refine V.ic_ge (off := 7) F (by decide +kernel) (tgt := 14) (by decide) (fun h7 => ?_) (fun h7 => ?_)
    · replace E := E.trans (if_pos h7)
      refine V.pick [] rfl ?_
      exact hJ14   E
    · replace E := E.trans (if_neg h7)
      refine V.seg F floX6 cjoX6 [.iconst 1, .goto 4] (by decide +kernel) (pc2 := 15) (lv2 := [(0, .int p)]) (st2 := [.int 1]) (M2 := M) rfl ⟨trivial, (by decide), trivial⟩ ?_
      refine V.pick [] rfl ?_
      exact hJ15 1 (Or.inr rfl) E
def f_X6_meetBesides_c16 (a : Nat) (M16 : Mem) : Int32 × Mem := (f_X6_oneUnlessNone M16 a, M16)
def f_X6_meetBesides_c7 (a : Nat) (M7 : Mem) : Int32 × Mem := f_X6_meetBesides_c16 a (f_X1_becomeMeet M7 a a 34)
def f_X6_meetBesides (M : Mem) (a : Nat) : Int32 × Mem := f_X6_meetBesides_c7 a (f_X1_sharpen M 34)
abbrev p_X6_meetBesides (M : Mem) (a : Nat) : Option Value → Mem → Prop := fun r N => r = some (.int (f_X6_meetBesides M a).1) ∧ N = (f_X6_meetBesides M a).2 ∧ Sf M N
set_option maxRecDepth 100000 in
set_option maxHeartbeats 4000000 in
theorem c_X6_meetBesides (G : Ctx) (l : Launch) (M : Mem) (a : Nat) (o_a : isO M a 1) (q : Ok M) : CT G l 4 mX6_meetBesides [.ref 1, .ref a] M 0 0 (p_X6_meetBesides M a) := by
  refine CT.of (by decide) (Nat.le_of_ble_eq_true rfl) ?_
  intro X d hd hl hRm hnm F
  subst hl
  have E : f_X6_meetBesides M a = f_X6_meetBesides M a := rfl
  show V G X 2 0 0 (Qx G X 0 0 (p_X6_meetBesides M a)) 0 [(0, .ref 1), (1, .ref a)] [] M
  refine V.seg F floX6 cjoX6 [.aload_n 0, .getfield 58] (by decide +kernel) (pc2 := 4) (lv2 := [(0, .ref 1), (1, .ref a)]) (st2 := [.ref 34]) (M2 := M) rfl ⟨trivial, (q.f 1 6 8 rfl), trivial⟩ ?_
  refine V.callV (as := []) (rest := []) F (by decide +kernel) lX6_79 bX1_sharpen ⟨1, _, (q.o 34 1 rfl), rfl, rfl⟩ (c_X1_sharpen G X.2.1 M 34 (q.o 34 1 rfl)) (rm_ok hRm hd (by decide) (by decide)) ⟨Nat.zero_le _, Nat.zero_le _⟩ (Nat.le_of_ble_eq_true rfl) (fun r_ N_ p_ => ?_)
  obtain ⟨rfl, rfl, t4⟩ := p_
  refine (?_ : ∀ (M7 : Mem), (Sf M M7) → f_X6_meetBesides M a = f_X6_meetBesides_c7 a M7 → V G X 2 0 0 (Qx G X 0 0 (p_X6_meetBesides M a)) 7 [(0, .ref 1), (1, .ref a)] [] M7) _ t4 E
  intro M7 s7 E
  refine V.seg F floX6 cjoX6 [.aload_n 1, .aload_n 1, .aload_n 0, .getfield 58] (by decide +kernel) (pc2 := 13) (lv2 := [(0, .ref 1), (1, .ref a)]) (st2 := [.ref 34, .ref a, .ref a]) (M2 := M7) rfl ⟨trivial, trivial, trivial, ((q.sm s7.1).f 1 6 8 rfl), trivial⟩ ?_
  refine V.callV (as := [.ref a, .ref 34]) (rest := []) F (by decide +kernel) lX6_109 bX1_becomeMeet ⟨1, _, (o_a.sm s7.1), rfl, rfl⟩ (c_X1_becomeMeet G X.2.1 M7 a a 34 (o_a.sm s7.1) (o_a.sm s7.1) ((q.sm s7.1).o 34 1 rfl)) (rm_ok hRm hd (by decide) (by decide)) ⟨Nat.zero_le _, Nat.zero_le _⟩ (Nat.le_of_ble_eq_true rfl) (fun r_ N_ p_ => ?_)
  obtain ⟨rfl, rfl, t13⟩ := p_
  refine (?_ : ∀ (M16 : Mem), (Sf M M16) → f_X6_meetBesides M a = f_X6_meetBesides_c16 a M16 → V G X 2 0 0 (Qx G X 0 0 (p_X6_meetBesides M a)) 16 [(0, .ref 1), (1, .ref a)] [] M16) _ (Sf.tr s7 t13) E
  intro M16 s16 E
  refine V.seg F floX6 cjoX6 [.aload_n 1] (by decide +kernel) (pc2 := 17) (lv2 := [(0, .ref 1), (1, .ref a)]) (st2 := [.ref a]) (M2 := M16) rfl ⟨trivial, trivial⟩ ?_
  refine V.callS (as := [.ref a]) (rest := []) F (by decide +kernel) lX6_82 bX6_oneUnlessNone (c_X6_oneUnlessNone G X.2.1 M16 a (o_a.sm s16.1)) (rm_ok hRm hd (by decide) (by decide)) ⟨Nat.zero_le _, Nat.zero_le _⟩ (Nat.le_of_ble_eq_true rfl) (fun r_ N_ p_ => ?_)
  obtain ⟨rfl, hN_⟩ := p_
  rw [hN_]
  clear hN_
  exact V.iret F (by decide +kernel) ⟨congrArg (fun z => some (Value.int z.1)) E.symm, congrArg Prod.snd E.symm, s16⟩
def f_X6_fact_c37 (a2 : Nat) (M37 : Mem) : Int32 × Mem := (f_X6_oneUnlessNone M37 a2, M37)
def f_X6_fact_c19 (pl : Int64) (ph : Int64) (a2 : Nat) (M19 : Mem) : Int32 × Mem := f_X6_fact_c37 a2 (f_X1_sharpen (uL (uL M19 a2 1 pl) a2 2 ph) a2)
def f_X6_fact (M : Mem) (f : Int32) (pl : Int64) (ph : Int64) : Int32 × Mem := (f_X6_factAt f).elim (((-1), M)) (fun a2 => f_X6_fact_c19 pl ph a2 (f_X1_makeAll M a2))
abbrev p_X6_fact (M : Mem) (f : Int32) (pl : Int64) (ph : Int64) : Option Value → Mem → Prop := fun r N => r = some (.int (f_X6_fact M f pl ph).1) ∧ N = (f_X6_fact M f pl ph).2 ∧ Sf M N
set_option maxRecDepth 100000 in
set_option maxHeartbeats 4000000 in
theorem c_X6_fact (G : Ctx) (l : Launch) (M : Mem) (f : Int32) (pl : Int64) (ph : Int64) (q : Ok M) : CT G l 3 mX6_fact [.ref 1, .int f, .long pl, .long ph] M 0 0 (p_X6_fact M f pl ph) := by
  refine CT.of (by decide) (Nat.le_of_ble_eq_true rfl) ?_
  intro X d hd hl hRm hnm F
  subst hl
  have E : f_X6_fact M f pl ph = f_X6_fact M f pl ph := rfl
  show V G X 7 0 0 (Qx G X 0 0 (p_X6_fact M f pl ph)) 0 [(0, .ref 1), (1, .int f), (2, .long pl), (4, .long ph)] [] M
  refine V.seg F floX6 cjoX6 [.aload_n 0, .iload_n 1] (by decide +kernel) (pc2 := 2) (lv2 := [(0, .ref 1), (1, .int f), (2, .long pl), (4, .long ph)]) (st2 := [.int f, .ref 1]) (M2 := M) rfl ⟨trivial, trivial, trivial⟩ ?_
  refine V.callV (as := [.int f]) (rest := []) F (by decide +kernel) lX6_65 bX6_factAt ⟨6, _, (q.o 1 6 rfl), rfl, rfl⟩ (c_X6_factAt G X.2.1 M f q) (rm_ok hRm hd (by decide) (by decide)) ⟨Nat.zero_le _, Nat.zero_le _⟩ (Nat.le_of_ble_eq_true rfl) (fun r_ N_ p_ => ?_)
  obtain ⟨rfl, hN_⟩ := p_
  rw [hN_]
  clear hN_
  rcases hq2 : (f_X6_factAt f) with _ | a2
  · replace E := E.trans (el_n hq2)
    refine V.seg F floX6 cjoX6 [.astore 6, .aload 6] (by decide +kernel) (pc2 := 9) (lv2 := [(6, .null), (0, .ref 1), (1, .int f), (2, .long pl), (4, .long ph)]) (st2 := [.null]) (M2 := M) rfl ⟨(by decide), trivial, trivial⟩ ?_
    refine V.nonnul_n (off := 5) F (by decide +kernel) ?_
    refine V.seg F floX6 cjoX6 [.iconst (-1)] (by decide +kernel) (pc2 := 13) (lv2 := [(6, .null), (0, .ref 1), (1, .int f), (2, .long pl), (4, .long ph)]) (st2 := [.int ((-1))]) (M2 := M) rfl ⟨trivial, trivial⟩ ?_
    exact V.iret F (by decide +kernel) ⟨congrArg (fun z => some (Value.int z.1)) E.symm, congrArg Prod.snd E.symm, Sf.rf⟩
  · replace E := E.trans (el_s hq2)
    refine V.seg F floX6 cjoX6 [.astore 6, .aload 6] (by decide +kernel) (pc2 := 9) (lv2 := [(6, .ref a2), (0, .ref 1), (1, .int f), (2, .long pl), (4, .long ph)]) (st2 := [.ref a2]) (M2 := M) rfl ⟨(by decide), trivial, trivial⟩ ?_
    refine V.nonnul_r (off := 5) F (by decide +kernel) (tgt := 14) (by decide) ?_
    refine V.seg F floX6 cjoX6 [.aload 6] (by decide +kernel) (pc2 := 16) (lv2 := [(6, .ref a2), (0, .ref 1), (1, .int f), (2, .long pl), (4, .long ph)]) (st2 := [.ref a2]) (M2 := M) rfl ⟨trivial, trivial⟩ ?_
    refine V.callV (as := []) (rest := []) F (by decide +kernel) lX6_69 bX1_makeAll ⟨1, _, (factAt_o q hq2), rfl, rfl⟩ (c_X1_makeAll G X.2.1 M a2 (factAt_o q hq2)) (rm_ok hRm hd (by decide) (by decide)) ⟨Nat.zero_le _, Nat.zero_le _⟩ (Nat.le_of_ble_eq_true rfl) (fun r_ N_ p_ => ?_)
    obtain ⟨rfl, rfl, t16⟩ := p_
    refine (?_ : ∀ (M19 : Mem), (Sf M M19) → f_X6_fact M f pl ph = f_X6_fact_c19 pl ph a2 M19 → V G X 7 0 0 (Qx G X 0 0 (p_X6_fact M f pl ph)) 19 [(6, .ref a2), (0, .ref 1), (1, .int f), (2, .long pl), (4, .long ph)] [] M19) _ t16 E
    intro M19 s19 E
    refine V.seg F floX6 cjoX6 [.aload 6, .lload_n 2, .putfield 72, .aload 6, .lload 4, .putfield 76, .aload 6] (by decide +kernel) (pc2 := 34) (lv2 := [(6, .ref a2), (0, .ref 1), (1, .int f), (2, .long pl), (4, .long ph)]) (st2 := [.ref a2]) (M2 := uL (uL M19 a2 1 pl) a2 2 ph) rfl ⟨trivial, trivial, ((factAt_o q hq2).sm s19.1), trivial, trivial, ((factAt_o q hq2).sm (Sf.pL s19 (factAt_o q hq2).1).1), trivial, trivial⟩ ?_
    refine V.callV (as := []) (rest := []) F (by decide +kernel) lX6_79 bX1_sharpen ⟨1, _, ((factAt_o q hq2).sm (Sf.pL (Sf.pL s19 (factAt_o q hq2).1) (factAt_o q hq2).1).1), rfl, rfl⟩ (c_X1_sharpen G X.2.1 (uL (uL M19 a2 1 pl) a2 2 ph) a2 ((factAt_o q hq2).sm (Sf.pL (Sf.pL s19 (factAt_o q hq2).1) (factAt_o q hq2).1).1)) (rm_ok hRm hd (by decide) (by decide)) ⟨Nat.zero_le _, Nat.zero_le _⟩ (Nat.le_of_ble_eq_true rfl) (fun r_ N_ p_ => ?_)
    obtain ⟨rfl, rfl, t34⟩ := p_
    refine (?_ : ∀ (M37 : Mem), (Sf M M37) → f_X6_fact M f pl ph = f_X6_fact_c37 a2 M37 → V G X 7 0 0 (Qx G X 0 0 (p_X6_fact M f pl ph)) 37 [(6, .ref a2), (0, .ref 1), (1, .int f), (2, .long pl), (4, .long ph)] [] M37) _ (Sf.tr (Sf.pL (Sf.pL s19 (factAt_o q hq2).1) (factAt_o q hq2).1) t34) E
    intro M37 s37 E
    refine V.seg F floX6 cjoX6 [.aload 6] (by decide +kernel) (pc2 := 39) (lv2 := [(6, .ref a2), (0, .ref 1), (1, .int f), (2, .long pl), (4, .long ph)]) (st2 := [.ref a2]) (M2 := M37) rfl ⟨trivial, trivial⟩ ?_
    refine V.callS (as := [.ref a2]) (rest := []) F (by decide +kernel) lX6_82 bX6_oneUnlessNone (c_X6_oneUnlessNone G X.2.1 M37 a2 ((factAt_o q hq2).sm s37.1)) (rm_ok hRm hd (by decide) (by decide)) ⟨Nat.zero_le _, Nat.zero_le _⟩ (Nat.le_of_ble_eq_true rfl) (fun r_ N_ p_ => ?_)
    obtain ⟨rfl, hN_⟩ := p_
    rw [hN_]
    clear hN_
    exact V.iret F (by decide +kernel) ⟨congrArg (fun z => some (Value.int z.1)) E.symm, congrArg Prod.snd E.symm, s37⟩
def f_X6_bits_c46  (x46 : Int32) (M46 : Mem) : Int32 × Mem := (x46, M46)
def f_X6_bits_c21 (k : Int64) (v : Int64) (a2 : Nat) (M21 : Mem) : Int32 × Mem := f_X6_bits_c46 ((f_X6_meetBesides (uL (uL M21 34 3 k) 34 4 (v &&& k)) a2).1) ((f_X6_meetBesides (uL (uL M21 34 3 k) 34 4 (v &&& k)) a2).2)
def f_X6_bits (M : Mem) (f : Int32) (k : Int64) (v : Int64) : Int32 × Mem := (f_X6_factAt f).elim (((-1), M)) (fun a2 => f_X6_bits_c21 k v a2 (f_X1_makeAll M 34))
abbrev p_X6_bits (M : Mem) (f : Int32) (k : Int64) (v : Int64) : Option Value → Mem → Prop := fun r N => r = some (.int (f_X6_bits M f k v).1) ∧ N = (f_X6_bits M f k v).2 ∧ Sf M N
set_option maxRecDepth 100000 in
set_option maxHeartbeats 4000000 in
theorem c_X6_bits (G : Ctx) (l : Launch) (M : Mem) (f : Int32) (k : Int64) (v : Int64) (q : Ok M) : CT G l 5 mX6_bits [.ref 1, .int f, .long k, .long v] M 0 0 (p_X6_bits M f k v) := by
  refine CT.of (by decide) (Nat.le_of_ble_eq_true rfl) ?_
  intro X d hd hl hRm hnm F
  subst hl
  have E : f_X6_bits M f k v = f_X6_bits M f k v := rfl
  show V G X 7 0 0 (Qx G X 0 0 (p_X6_bits M f k v)) 0 [(0, .ref 1), (1, .int f), (2, .long k), (4, .long v)] [] M
  refine V.seg F floX6 cjoX6 [.aload_n 0, .iload_n 1] (by decide +kernel) (pc2 := 2) (lv2 := [(0, .ref 1), (1, .int f), (2, .long k), (4, .long v)]) (st2 := [.int f, .ref 1]) (M2 := M) rfl ⟨trivial, trivial, trivial⟩ ?_
  refine V.callV (as := [.int f]) (rest := []) F (by decide +kernel) lX6_65 bX6_factAt ⟨6, _, (q.o 1 6 rfl), rfl, rfl⟩ (c_X6_factAt G X.2.1 M f q) (rm_ok hRm hd (by decide) (by decide)) ⟨Nat.zero_le _, Nat.zero_le _⟩ (Nat.le_of_ble_eq_true rfl) (fun r_ N_ p_ => ?_)
  obtain ⟨rfl, hN_⟩ := p_
  rw [hN_]
  clear hN_
  rcases hq2 : (f_X6_factAt f) with _ | a2
  · replace E := E.trans (el_n hq2)
    refine V.seg F floX6 cjoX6 [.astore 6, .aload 6] (by decide +kernel) (pc2 := 9) (lv2 := [(6, .null), (0, .ref 1), (1, .int f), (2, .long k), (4, .long v)]) (st2 := [.null]) (M2 := M) rfl ⟨(by decide), trivial, trivial⟩ ?_
    refine V.nonnul_n (off := 5) F (by decide +kernel) ?_
    refine V.seg F floX6 cjoX6 [.iconst (-1)] (by decide +kernel) (pc2 := 13) (lv2 := [(6, .null), (0, .ref 1), (1, .int f), (2, .long k), (4, .long v)]) (st2 := [.int ((-1))]) (M2 := M) rfl ⟨trivial, trivial⟩ ?_
    exact V.iret F (by decide +kernel) ⟨congrArg (fun z => some (Value.int z.1)) E.symm, congrArg Prod.snd E.symm, Sf.rf⟩
  · replace E := E.trans (el_s hq2)
    refine V.seg F floX6 cjoX6 [.astore 6, .aload 6] (by decide +kernel) (pc2 := 9) (lv2 := [(6, .ref a2), (0, .ref 1), (1, .int f), (2, .long k), (4, .long v)]) (st2 := [.ref a2]) (M2 := M) rfl ⟨(by decide), trivial, trivial⟩ ?_
    refine V.nonnul_r (off := 5) F (by decide +kernel) (tgt := 14) (by decide) ?_
    refine V.seg F floX6 cjoX6 [.aload_n 0, .getfield 58] (by decide +kernel) (pc2 := 18) (lv2 := [(6, .ref a2), (0, .ref 1), (1, .int f), (2, .long k), (4, .long v)]) (st2 := [.ref 34]) (M2 := M) rfl ⟨trivial, (q.f 1 6 8 rfl), trivial⟩ ?_
    refine V.callV (as := []) (rest := []) F (by decide +kernel) lX6_69 bX1_makeAll ⟨1, _, (q.o 34 1 rfl), rfl, rfl⟩ (c_X1_makeAll G X.2.1 M 34 (q.o 34 1 rfl)) (rm_ok hRm hd (by decide) (by decide)) ⟨Nat.zero_le _, Nat.zero_le _⟩ (Nat.le_of_ble_eq_true rfl) (fun r_ N_ p_ => ?_)
    obtain ⟨rfl, rfl, t18⟩ := p_
    refine (?_ : ∀ (M21 : Mem), (Sf M M21) → f_X6_bits M f k v = f_X6_bits_c21 k v a2 M21 → V G X 7 0 0 (Qx G X 0 0 (p_X6_bits M f k v)) 21 [(6, .ref a2), (0, .ref 1), (1, .int f), (2, .long k), (4, .long v)] [] M21) _ t18 E
    intro M21 s21 E
    refine V.seg F floX6 cjoX6 [.aload_n 0, .getfield 58, .lload_n 2, .putfield 86, .aload_n 0, .getfield 58, .lload 4, .lload_n 2, .land, .putfield 89, .aload_n 0, .aload 6] (by decide +kernel) (pc2 := 43) (lv2 := [(6, .ref a2), (0, .ref 1), (1, .int f), (2, .long k), (4, .long v)]) (st2 := [.ref a2, .ref 1]) (M2 := uL (uL M21 34 3 k) 34 4 (v &&& k)) rfl ⟨trivial, ((q.sm s21.1).f 1 6 8 rfl), trivial, ((q.sm s21.1).o 34 1 rfl), trivial, ((q.sm (Sf.pL s21 (q.o 34 1 rfl).1).1).f 1 6 8 rfl), trivial, trivial, trivial, ((q.sm (Sf.pL s21 (q.o 34 1 rfl).1).1).o 34 1 rfl), trivial, trivial, trivial⟩ ?_
    refine V.callV (as := [.ref a2]) (rest := []) F (by decide +kernel) lX6_92 bX6_meetBesides ⟨6, _, ((q.sm (Sf.pL (Sf.pL s21 (q.o 34 1 rfl).1) (q.o 34 1 rfl).1).1).o 1 6 rfl), rfl, rfl⟩ (c_X6_meetBesides G X.2.1 (uL (uL M21 34 3 k) 34 4 (v &&& k)) a2 ((factAt_o q hq2).sm (Sf.pL (Sf.pL s21 (q.o 34 1 rfl).1) (q.o 34 1 rfl).1).1) (q.sm (Sf.pL (Sf.pL s21 (q.o 34 1 rfl).1) (q.o 34 1 rfl).1).1)) (rm_ok hRm hd (by decide) (by decide)) ⟨Nat.zero_le _, Nat.zero_le _⟩ (Nat.le_of_ble_eq_true rfl) (fun r_ N_ p_ => ?_)
    obtain ⟨rfl, rfl, t43⟩ := p_
    refine (?_ : ∀ (x46 : Int32) (M46 : Mem), (Sf M M46) → f_X6_bits M f k v = f_X6_bits_c46 x46 M46 → V G X 7 0 0 (Qx G X 0 0 (p_X6_bits M f k v)) 46 [(6, .ref a2), (0, .ref 1), (1, .int f), (2, .long k), (4, .long v)] [.int x46] M46) _ _ (Sf.tr (Sf.pL (Sf.pL s21 (q.o 34 1 rfl).1) (q.o 34 1 rfl).1) t43) E
    intro x46 M46 s46 E
    exact V.iret F (by decide +kernel) ⟨congrArg (fun z => some (Value.int z.1)) E.symm, congrArg Prod.snd E.symm, s46⟩
def f_X6_rest_22  (M22 : Mem) : Int32 × Mem := ((-1), M22)
def f_X6_rest_22y1  (M22 : Mem) : Int32 × Mem := ((-1), M22)
def f_X6_rest_c59  (x59 : Int32) (M59 : Mem) : Int32 × Mem := (x59, M59)
def f_X6_rest_c31 (m : Int32) (pr : Int64) (a2 : Nat) (M31 : Mem) : Int32 × Mem := f_X6_rest_c59 ((f_X6_meetBesides (uL (uL M31 34 5 (Int32.toInt64 m)) 34 6 (f_X6_restBy pr (Int32.toInt64 m))) a2).1) ((f_X6_meetBesides (uL (uL M31 34 5 (Int32.toInt64 m)) 34 6 (f_X6_restBy pr (Int32.toInt64 m))) a2).2)
def f_X6_rest (M : Mem) (f : Int32) (m : Int32) (pr : Int64) : Int32 × Mem := (f_X6_factAt f).elim (f_X6_rest_22 M) (fun a2 => if m ≤ 0 then f_X6_rest_22y1 M else if (irem m 2) = 0 then f_X6_rest_22y1 M else f_X6_rest_c31 m pr a2 (f_X1_makeAll M 34))
abbrev p_X6_rest (M : Mem) (f : Int32) (m : Int32) (pr : Int64) : Option Value → Mem → Prop := fun r N => r = some (.int (f_X6_rest M f m pr).1) ∧ N = (f_X6_rest M f m pr).2 ∧ Sf M N
set_option maxRecDepth 100000 in
set_option maxHeartbeats 4000000 in
theorem c_X6_rest (G : Ctx) (l : Launch) (M : Mem) (f : Int32) (m : Int32) (pr : Int64) (q : Ok M) : CT G l 5 mX6_rest [.ref 1, .int f, .int m, .long pr] M 0 0 (p_X6_rest M f m pr) := by
  refine CT.of (by decide) (Nat.le_of_ble_eq_true rfl) ?_
  intro X d hd hl hRm hnm F
  subst hl
  have E : f_X6_rest M f m pr = f_X6_rest M f m pr := rfl
  show V G X 6 0 0 (Qx G X 0 0 (p_X6_rest M f m pr)) 0 [(0, .ref 1), (1, .int f), (2, .int m), (3, .long pr)] [] M
  refine V.seg F floX6 cjoX6 [.aload_n 0, .iload_n 1] (by decide +kernel) (pc2 := 2) (lv2 := [(0, .ref 1), (1, .int f), (2, .int m), (3, .long pr)]) (st2 := [.int f, .ref 1]) (M2 := M) rfl ⟨trivial, trivial, trivial⟩ ?_
  refine V.callV (as := [.int f]) (rest := []) F (by decide +kernel) lX6_65 bX6_factAt ⟨6, _, (q.o 1 6 rfl), rfl, rfl⟩ (c_X6_factAt G X.2.1 M f q) (rm_ok hRm hd (by decide) (by decide)) ⟨Nat.zero_le _, Nat.zero_le _⟩ (Nat.le_of_ble_eq_true rfl) (fun r_ N_ p_ => ?_)
  obtain ⟨rfl, hN_⟩ := p_
  rw [hN_]
  clear hN_
  rcases hq2 : (f_X6_factAt f) with _ | a2
  · replace E := E.trans (el_n hq2)
    refine V.seg F floX6 cjoX6 [.astore 5, .aload 5] (by decide +kernel) (pc2 := 9) (lv2 := [(5, .null), (0, .ref 1), (1, .int f), (2, .int m), (3, .long pr)]) (st2 := [.null]) (M2 := M) rfl ⟨(by decide), trivial, trivial⟩ ?_
    have hJ22 : ∀ (M22 : Mem), (Sf M M22) → f_X6_rest M f m pr = f_X6_rest_22 M22 → V G X 6 0 0 (Qx G X 0 0 (p_X6_rest M f m pr)) 22 [] [] M22 := by
      intro M22 s22 E
      refine V.seg F floX6 cjoX6 [.iconst (-1)] (by decide +kernel) (pc2 := 23) (lv2 := []) (st2 := [.int ((-1))]) (M2 := M22) rfl ⟨trivial, trivial⟩ ?_
      exact V.iret F (by decide +kernel) ⟨congrArg (fun z => some (Value.int z.1)) E.symm, congrArg Prod.snd E.symm, s22⟩
    refine V.nul_n (off := 13) F (by decide +kernel) (tgt := 22) (by decide) ?_
    refine V.pick [] rfl ?_
    exact hJ22 M Sf.rf E
  · replace E := E.trans (el_s hq2)
    refine V.seg F floX6 cjoX6 [.astore 5, .aload 5] (by decide +kernel) (pc2 := 9) (lv2 := [(5, .ref a2), (0, .ref 1), (1, .int f), (2, .int m), (3, .long pr)]) (st2 := [.ref a2]) (M2 := M) rfl ⟨(by decide), trivial, trivial⟩ ?_
    have hJ22 : ∀ (M22 : Mem), (Sf M M22) → f_X6_rest M f m pr = f_X6_rest_22y1 M22 → V G X 6 0 0 (Qx G X 0 0 (p_X6_rest M f m pr)) 22 [] [] M22 := by
      intro M22 s22 E
      refine V.seg F floX6 cjoX6 [.iconst (-1)] (by decide +kernel) (pc2 := 23) (lv2 := []) (st2 := [.int ((-1))]) (M2 := M22) rfl ⟨trivial, trivial⟩ ?_
      exact V.iret F (by decide +kernel) ⟨congrArg (fun z => some (Value.int z.1)) E.symm, congrArg Prod.snd E.symm, s22⟩
    refine V.nul_r (off := 13) F (by decide +kernel) ?_
    refine V.seg F floX6 cjoX6 [.iload_n 2] (by decide +kernel) (pc2 := 13) (lv2 := [(5, .ref a2), (0, .ref 1), (1, .int f), (2, .int m), (3, .long pr)]) (st2 := [.int m]) (M2 := M) rfl ⟨trivial, trivial⟩ ?_
    refine V.if_le (off := 9) F (by decide +kernel) (tgt := 22) (by decide) (fun h13 => ?_) (fun h13 => ?_)
    · replace E := E.trans (if_pos h13)
      refine V.pick [] rfl ?_
      exact hJ22 M Sf.rf E
    · replace E := E.trans (if_neg h13)
      refine V.seg F floX6 cjoX6 [.iload_n 2, .iconst 2, .irem] (by decide +kernel) (pc2 := 19) (lv2 := [(5, .ref a2), (0, .ref 1), (1, .int f), (2, .int m), (3, .long pr)]) (st2 := [.int (irem m 2)]) (M2 := M) rfl ⟨trivial, trivial, (by decide), trivial⟩ ?_
      refine V.if_ne (off := 5) F (by decide +kernel) (tgt := 24) (by decide) (fun h19 => ?_) (fun h19 => ?_)
      · replace E := E.trans (if_neg h19)
        refine V.seg F floX6 cjoX6 [.aload_n 0, .getfield 58] (by decide +kernel) (pc2 := 28) (lv2 := [(5, .ref a2), (0, .ref 1), (1, .int f), (2, .int m), (3, .long pr)]) (st2 := [.ref 34]) (M2 := M) rfl ⟨trivial, (q.f 1 6 8 rfl), trivial⟩ ?_
        refine V.callV (as := []) (rest := []) F (by decide +kernel) lX6_69 bX1_makeAll ⟨1, _, (q.o 34 1 rfl), rfl, rfl⟩ (c_X1_makeAll G X.2.1 M 34 (q.o 34 1 rfl)) (rm_ok hRm hd (by decide) (by decide)) ⟨Nat.zero_le _, Nat.zero_le _⟩ (Nat.le_of_ble_eq_true rfl) (fun r_ N_ p_ => ?_)
        obtain ⟨rfl, rfl, t28⟩ := p_
        refine (?_ : ∀ (M31 : Mem), (Sf M M31) → f_X6_rest M f m pr = f_X6_rest_c31 m pr a2 M31 → V G X 6 0 0 (Qx G X 0 0 (p_X6_rest M f m pr)) 31 [(5, .ref a2), (0, .ref 1), (1, .int f), (2, .int m), (3, .long pr)] [] M31) _ t28 E
        intro M31 s31 E
        refine V.seg F floX6 cjoX6 [.aload_n 0, .getfield 58, .iload_n 2, .i2l, .putfield 95, .aload_n 0, .getfield 58, .lload_n 3, .iload_n 2, .i2l] (by decide +kernel) (pc2 := 47) (lv2 := [(5, .ref a2), (0, .ref 1), (1, .int f), (2, .int m), (3, .long pr)]) (st2 := [.long (Int32.toInt64 m), .long pr, .ref 34]) (M2 := uL M31 34 5 (Int32.toInt64 m)) rfl ⟨trivial, ((q.sm s31.1).f 1 6 8 rfl), trivial, trivial, ((q.sm s31.1).o 34 1 rfl), trivial, ((q.sm (Sf.pL s31 (q.o 34 1 rfl).1).1).f 1 6 8 rfl), trivial, trivial, trivial, trivial⟩ ?_
        refine V.callS (as := [.long pr, .long (Int32.toInt64 m)]) (rest := [.ref 34]) F (by decide +kernel) lX6_98 bX6_restBy (c_X6_restBy G X.2.1 (uL M31 34 5 (Int32.toInt64 m)) pr (Int32.toInt64 m)) (rm_ok hRm hd (by decide) (by decide)) ⟨Nat.zero_le _, Nat.zero_le _⟩ (Nat.le_of_ble_eq_true rfl) (fun r_ N_ p_ => ?_)
        obtain ⟨rfl, hN_⟩ := p_
        rw [hN_]
        clear hN_
        refine V.seg F floX6 cjoX6 [.putfield 102, .aload_n 0, .aload 5] (by decide +kernel) (pc2 := 56) (lv2 := [(5, .ref a2), (0, .ref 1), (1, .int f), (2, .int m), (3, .long pr)]) (st2 := [.ref a2, .ref 1]) (M2 := uL (uL M31 34 5 (Int32.toInt64 m)) 34 6 (f_X6_restBy pr (Int32.toInt64 m))) rfl ⟨((q.sm (Sf.pL s31 (q.o 34 1 rfl).1).1).o 34 1 rfl), trivial, trivial, trivial⟩ ?_
        refine V.callV (as := [.ref a2]) (rest := []) F (by decide +kernel) lX6_92 bX6_meetBesides ⟨6, _, ((q.sm (Sf.pL (Sf.pL s31 (q.o 34 1 rfl).1) (q.o 34 1 rfl).1).1).o 1 6 rfl), rfl, rfl⟩ (c_X6_meetBesides G X.2.1 (uL (uL M31 34 5 (Int32.toInt64 m)) 34 6 (f_X6_restBy pr (Int32.toInt64 m))) a2 ((factAt_o q hq2).sm (Sf.pL (Sf.pL s31 (q.o 34 1 rfl).1) (q.o 34 1 rfl).1).1) (q.sm (Sf.pL (Sf.pL s31 (q.o 34 1 rfl).1) (q.o 34 1 rfl).1).1)) (rm_ok hRm hd (by decide) (by decide)) ⟨Nat.zero_le _, Nat.zero_le _⟩ (Nat.le_of_ble_eq_true rfl) (fun r_ N_ p_ => ?_)
        obtain ⟨rfl, rfl, t56⟩ := p_
        refine (?_ : ∀ (x59 : Int32) (M59 : Mem), (Sf M M59) → f_X6_rest M f m pr = f_X6_rest_c59 x59 M59 → V G X 6 0 0 (Qx G X 0 0 (p_X6_rest M f m pr)) 59 [(5, .ref a2), (0, .ref 1), (1, .int f), (2, .int m), (3, .long pr)] [.int x59] M59) _ _ (Sf.tr (Sf.pL (Sf.pL s31 (q.o 34 1 rfl).1) (q.o 34 1 rfl).1) t56) E
        intro x59 M59 s59 E
        exact V.iret F (by decide +kernel) ⟨congrArg (fun z => some (Value.int z.1)) E.symm, congrArg Prod.snd E.symm, s59⟩
      · replace E := E.trans (if_pos h19)
        refine V.pick [] rfl ?_
        exact hJ22 M Sf.rf E
def f_X6_act_47  (M47 : Mem) : Int32 × Mem := ((-1), M47)
def f_X6_act_47y1  (M47 : Mem) : Int32 × Mem := ((-1), M47)
def f_X6_act_47y2  (M47 : Mem) : Int32 × Mem := ((-1), M47)
def f_X6_act_47y3  (M47 : Mem) : Int32 × Mem := ((-1), M47)
def f_X6_act_47y4  (M47 : Mem) : Int32 × Mem := ((-1), M47)
def f_X6_act_47y5  (M47 : Mem) : Int32 × Mem := ((-1), M47)
def f_X6_act_47y6  (M47 : Mem) : Int32 × Mem := ((-1), M47)
def f_X6_act_47y7  (M47 : Mem) : Int32 × Mem := ((-1), M47)
def f_X6_act_c114 (a17 : Nat) (M114 : Mem) : Int32 × Mem := (f_X6_oneUnlessNone M114 a17, M114)
def f_X6_act_105 (a17 : Nat) (M105 : Mem) : Int32 × Mem := f_X6_act_c114 a17 (f_X1_copy M105 a17 35)
def f_X6_act_c105 (a17 : Nat) (M105 : Mem) : Int32 × Mem := f_X6_act_105 a17 M105
def f_X6_act_c86 (a17 : Nat) (M86 : Mem) : Int32 × Mem := f_X6_act_105 a17 M86
def f_X6_act_c66 (a17 : Nat) (M66 : Mem) : Int32 × Mem := f_X6_act_105 a17 M66
def f_X6_act (M : Mem) (op : Int32) (a : Int32) (b : Int32) (t : Int32) : Int32 × Mem := (f_X6_factAt a).elim ((f_X6_factAt b).elim ((f_X6_factAt t).elim (if op < 0 then f_X6_act_47 M else if 21 < op then f_X6_act_47 M else f_X6_act_47 M) (fun a17 => if op < 0 then f_X6_act_47y1 M else if 21 < op then f_X6_act_47y1 M else f_X6_act_47y1 M)) (fun a9 => (f_X6_factAt t).elim (if op < 0 then f_X6_act_47y2 M else if 21 < op then f_X6_act_47y2 M else f_X6_act_47y2 M) (fun a17 => if op < 0 then f_X6_act_47y3 M else if 21 < op then f_X6_act_47y3 M else f_X6_act_47y3 M))) (fun a2 => (f_X6_factAt b).elim ((f_X6_factAt t).elim (if op < 0 then f_X6_act_47y4 M else if 21 < op then f_X6_act_47y4 M else f_X6_act_47y4 M) (fun a17 => if op < 0 then f_X6_act_47y5 M else if 21 < op then f_X6_act_47y5 M else f_X6_act_47y5 M)) (fun a9 => (f_X6_factAt t).elim (if op < 0 then f_X6_act_47y6 M else if 21 < op then f_X6_act_47y6 M else f_X6_act_47y6 M) (fun a17 => if op < 0 then f_X6_act_47y7 M else if 21 < op then f_X6_act_47y7 M else if op = 20 then f_X6_act_c66 a17 (f_X1_becomeJoin M 35 a2 a9) else if op = 21 then f_X6_act_c86 a17 (f_X1_becomeMeet M 35 a2 a9) else f_X6_act_c105 a17 (f_X0_work M 11 op a2 a9 35))))
abbrev p_X6_act (M : Mem) (op : Int32) (a : Int32) (b : Int32) (t : Int32) : Option Value → Mem → Prop := fun r N => r = some (.int (f_X6_act M op a b t).1) ∧ N = (f_X6_act M op a b t).2 ∧ Sf M N
set_option maxRecDepth 100000 in
set_option maxHeartbeats 4000000 in
theorem c_X6_act (G : Ctx) (l : Launch) (M : Mem) (op : Int32) (a : Int32) (b : Int32) (t : Int32) (q : Ok M) : CT G l 6 mX6_act [.ref 1, .int op, .int a, .int b, .int t] M 0 0 (p_X6_act M op a b t) := by
  refine CT.of (by decide) (Nat.le_of_ble_eq_true rfl) ?_
  intro X d hd hl hRm hnm F
  subst hl
  have E : f_X6_act M op a b t = f_X6_act M op a b t := rfl
  show V G X 8 0 0 (Qx G X 0 0 (p_X6_act M op a b t)) 0 [(0, .ref 1), (1, .int op), (2, .int a), (3, .int b), (4, .int t)] [] M
  refine V.seg F floX6 cjoX6 [.aload_n 0, .iload_n 2] (by decide +kernel) (pc2 := 2) (lv2 := [(0, .ref 1), (1, .int op), (2, .int a), (3, .int b), (4, .int t)]) (st2 := [.int a, .ref 1]) (M2 := M) rfl ⟨trivial, trivial, trivial⟩ ?_
  refine V.callV (as := [.int a]) (rest := []) F (by decide +kernel) lX6_65 bX6_factAt ⟨6, _, (q.o 1 6 rfl), rfl, rfl⟩ (c_X6_factAt G X.2.1 M a q) (rm_ok hRm hd (by decide) (by decide)) ⟨Nat.zero_le _, Nat.zero_le _⟩ (Nat.le_of_ble_eq_true rfl) (fun r_ N_ p_ => ?_)
  obtain ⟨rfl, hN_⟩ := p_
  rw [hN_]
  clear hN_
  rcases hq2 : (f_X6_factAt a) with _ | a2
  · replace E := E.trans (el_n hq2)
    refine V.seg F floX6 cjoX6 [.astore 5, .aload_n 0, .iload_n 3] (by decide +kernel) (pc2 := 9) (lv2 := [(5, .null), (0, .ref 1), (1, .int op), (2, .int a), (3, .int b), (4, .int t)]) (st2 := [.int b, .ref 1]) (M2 := M) rfl ⟨(by decide), trivial, trivial, trivial⟩ ?_
    refine V.callV (as := [.int b]) (rest := []) F (by decide +kernel) lX6_65 bX6_factAt ⟨6, _, (q.o 1 6 rfl), rfl, rfl⟩ (c_X6_factAt G X.2.1 M b q) (rm_ok hRm hd (by decide) (by decide)) ⟨Nat.zero_le _, Nat.zero_le _⟩ (Nat.le_of_ble_eq_true rfl) (fun r_ N_ p_ => ?_)
    obtain ⟨rfl, hN_⟩ := p_
    rw [hN_]
    clear hN_
    rcases hq9 : (f_X6_factAt b) with _ | a9
    · replace E := E.trans (el_n hq9)
      refine V.seg F floX6 cjoX6 [.astore 6, .aload_n 0, .iload 4] (by decide +kernel) (pc2 := 17) (lv2 := [(6, .null), (5, .null), (0, .ref 1), (1, .int op), (2, .int a), (3, .int b), (4, .int t)]) (st2 := [.int t, .ref 1]) (M2 := M) rfl ⟨(by decide), trivial, trivial, trivial⟩ ?_
      refine V.callV (as := [.int t]) (rest := []) F (by decide +kernel) lX6_65 bX6_factAt ⟨6, _, (q.o 1 6 rfl), rfl, rfl⟩ (c_X6_factAt G X.2.1 M t q) (rm_ok hRm hd (by decide) (by decide)) ⟨Nat.zero_le _, Nat.zero_le _⟩ (Nat.le_of_ble_eq_true rfl) (fun r_ N_ p_ => ?_)
      obtain ⟨rfl, hN_⟩ := p_
      rw [hN_]
      clear hN_
      rcases hq17 : (f_X6_factAt t) with _ | a17
      · replace E := E.trans (el_n hq17)
        refine V.seg F floX6 cjoX6 [.astore 7, .iload_n 1] (by decide +kernel) (pc2 := 23) (lv2 := [(7, .null), (6, .null), (5, .null), (0, .ref 1), (1, .int op), (2, .int a), (3, .int b), (4, .int t)]) (st2 := [.int op]) (M2 := M) rfl ⟨(by decide), trivial, trivial⟩ ?_
        have hJ47 : ∀ (M47 : Mem), (Sf M M47) → f_X6_act M op a b t = f_X6_act_47 M47 → V G X 8 0 0 (Qx G X 0 0 (p_X6_act M op a b t)) 47 [] [] M47 := by
          intro M47 s47 E
          refine V.seg F floX6 cjoX6 [.iconst (-1)] (by decide +kernel) (pc2 := 48) (lv2 := []) (st2 := [.int ((-1))]) (M2 := M47) rfl ⟨trivial, trivial⟩ ?_
          exact V.iret F (by decide +kernel) ⟨congrArg (fun z => some (Value.int z.1)) E.symm, congrArg Prod.snd E.symm, s47⟩
        refine V.if_lt (off := 24) F (by decide +kernel) (tgt := 47) (by decide) (fun h23 => ?_) (fun h23 => ?_)
        · replace E := E.trans (if_pos h23)
          refine V.pick [] rfl ?_
          exact hJ47 M Sf.rf E
        · replace E := E.trans (if_neg h23)
          refine V.seg F floX6 cjoX6 [.iload_n 1, .bipush 21] (by decide +kernel) (pc2 := 29) (lv2 := [(7, .null), (6, .null), (5, .null), (0, .ref 1), (1, .int op), (2, .int a), (3, .int b), (4, .int t)]) (st2 := [.int 21, .int op]) (M2 := M) rfl ⟨trivial, trivial, trivial⟩ ?_
          refine V.ic_gt (off := 18) F (by decide +kernel) (tgt := 47) (by decide) (fun h29 => ?_) (fun h29 => ?_)
          · replace E := E.trans (if_pos h29)
            refine V.pick [] rfl ?_
            exact hJ47 M Sf.rf E
          · replace E := E.trans (if_neg h29)
            refine V.seg F floX6 cjoX6 [.aload 5] (by decide +kernel) (pc2 := 34) (lv2 := [(7, .null), (6, .null), (5, .null), (0, .ref 1), (1, .int op), (2, .int a), (3, .int b), (4, .int t)]) (st2 := [.null]) (M2 := M) rfl ⟨trivial, trivial⟩ ?_
            refine V.nul_n (off := 13) F (by decide +kernel) (tgt := 47) (by decide) ?_
            refine V.pick [] rfl ?_
            exact hJ47 M Sf.rf E
      · replace E := E.trans (el_s hq17)
        refine V.seg F floX6 cjoX6 [.astore 7, .iload_n 1] (by decide +kernel) (pc2 := 23) (lv2 := [(7, .ref a17), (6, .null), (5, .null), (0, .ref 1), (1, .int op), (2, .int a), (3, .int b), (4, .int t)]) (st2 := [.int op]) (M2 := M) rfl ⟨(by decide), trivial, trivial⟩ ?_
        have hJ47 : ∀ (M47 : Mem), (Sf M M47) → f_X6_act M op a b t = f_X6_act_47y1 M47 → V G X 8 0 0 (Qx G X 0 0 (p_X6_act M op a b t)) 47 [] [] M47 := by
          intro M47 s47 E
          refine V.seg F floX6 cjoX6 [.iconst (-1)] (by decide +kernel) (pc2 := 48) (lv2 := []) (st2 := [.int ((-1))]) (M2 := M47) rfl ⟨trivial, trivial⟩ ?_
          exact V.iret F (by decide +kernel) ⟨congrArg (fun z => some (Value.int z.1)) E.symm, congrArg Prod.snd E.symm, s47⟩
        refine V.if_lt (off := 24) F (by decide +kernel) (tgt := 47) (by decide) (fun h23 => ?_) (fun h23 => ?_)
        · replace E := E.trans (if_pos h23)
          refine V.pick [] rfl ?_
          exact hJ47 M Sf.rf E
        · replace E := E.trans (if_neg h23)
          refine V.seg F floX6 cjoX6 [.iload_n 1, .bipush 21] (by decide +kernel) (pc2 := 29) (lv2 := [(7, .ref a17), (6, .null), (5, .null), (0, .ref 1), (1, .int op), (2, .int a), (3, .int b), (4, .int t)]) (st2 := [.int 21, .int op]) (M2 := M) rfl ⟨trivial, trivial, trivial⟩ ?_
          refine V.ic_gt (off := 18) F (by decide +kernel) (tgt := 47) (by decide) (fun h29 => ?_) (fun h29 => ?_)
          · replace E := E.trans (if_pos h29)
            refine V.pick [] rfl ?_
            exact hJ47 M Sf.rf E
          · replace E := E.trans (if_neg h29)
            refine V.seg F floX6 cjoX6 [.aload 5] (by decide +kernel) (pc2 := 34) (lv2 := [(7, .ref a17), (6, .null), (5, .null), (0, .ref 1), (1, .int op), (2, .int a), (3, .int b), (4, .int t)]) (st2 := [.null]) (M2 := M) rfl ⟨trivial, trivial⟩ ?_
            refine V.nul_n (off := 13) F (by decide +kernel) (tgt := 47) (by decide) ?_
            refine V.pick [] rfl ?_
            exact hJ47 M Sf.rf E
    · replace E := E.trans (el_s hq9)
      refine V.seg F floX6 cjoX6 [.astore 6, .aload_n 0, .iload 4] (by decide +kernel) (pc2 := 17) (lv2 := [(6, .ref a9), (5, .null), (0, .ref 1), (1, .int op), (2, .int a), (3, .int b), (4, .int t)]) (st2 := [.int t, .ref 1]) (M2 := M) rfl ⟨(by decide), trivial, trivial, trivial⟩ ?_
      refine V.callV (as := [.int t]) (rest := []) F (by decide +kernel) lX6_65 bX6_factAt ⟨6, _, (q.o 1 6 rfl), rfl, rfl⟩ (c_X6_factAt G X.2.1 M t q) (rm_ok hRm hd (by decide) (by decide)) ⟨Nat.zero_le _, Nat.zero_le _⟩ (Nat.le_of_ble_eq_true rfl) (fun r_ N_ p_ => ?_)
      obtain ⟨rfl, hN_⟩ := p_
      rw [hN_]
      clear hN_
      rcases hq17 : (f_X6_factAt t) with _ | a17
      · replace E := E.trans (el_n hq17)
        refine V.seg F floX6 cjoX6 [.astore 7, .iload_n 1] (by decide +kernel) (pc2 := 23) (lv2 := [(7, .null), (6, .ref a9), (5, .null), (0, .ref 1), (1, .int op), (2, .int a), (3, .int b), (4, .int t)]) (st2 := [.int op]) (M2 := M) rfl ⟨(by decide), trivial, trivial⟩ ?_
        have hJ47 : ∀ (M47 : Mem), (Sf M M47) → f_X6_act M op a b t = f_X6_act_47y2 M47 → V G X 8 0 0 (Qx G X 0 0 (p_X6_act M op a b t)) 47 [] [] M47 := by
          intro M47 s47 E
          refine V.seg F floX6 cjoX6 [.iconst (-1)] (by decide +kernel) (pc2 := 48) (lv2 := []) (st2 := [.int ((-1))]) (M2 := M47) rfl ⟨trivial, trivial⟩ ?_
          exact V.iret F (by decide +kernel) ⟨congrArg (fun z => some (Value.int z.1)) E.symm, congrArg Prod.snd E.symm, s47⟩
        refine V.if_lt (off := 24) F (by decide +kernel) (tgt := 47) (by decide) (fun h23 => ?_) (fun h23 => ?_)
        · replace E := E.trans (if_pos h23)
          refine V.pick [] rfl ?_
          exact hJ47 M Sf.rf E
        · replace E := E.trans (if_neg h23)
          refine V.seg F floX6 cjoX6 [.iload_n 1, .bipush 21] (by decide +kernel) (pc2 := 29) (lv2 := [(7, .null), (6, .ref a9), (5, .null), (0, .ref 1), (1, .int op), (2, .int a), (3, .int b), (4, .int t)]) (st2 := [.int 21, .int op]) (M2 := M) rfl ⟨trivial, trivial, trivial⟩ ?_
          refine V.ic_gt (off := 18) F (by decide +kernel) (tgt := 47) (by decide) (fun h29 => ?_) (fun h29 => ?_)
          · replace E := E.trans (if_pos h29)
            refine V.pick [] rfl ?_
            exact hJ47 M Sf.rf E
          · replace E := E.trans (if_neg h29)
            refine V.seg F floX6 cjoX6 [.aload 5] (by decide +kernel) (pc2 := 34) (lv2 := [(7, .null), (6, .ref a9), (5, .null), (0, .ref 1), (1, .int op), (2, .int a), (3, .int b), (4, .int t)]) (st2 := [.null]) (M2 := M) rfl ⟨trivial, trivial⟩ ?_
            refine V.nul_n (off := 13) F (by decide +kernel) (tgt := 47) (by decide) ?_
            refine V.pick [] rfl ?_
            exact hJ47 M Sf.rf E
      · replace E := E.trans (el_s hq17)
        refine V.seg F floX6 cjoX6 [.astore 7, .iload_n 1] (by decide +kernel) (pc2 := 23) (lv2 := [(7, .ref a17), (6, .ref a9), (5, .null), (0, .ref 1), (1, .int op), (2, .int a), (3, .int b), (4, .int t)]) (st2 := [.int op]) (M2 := M) rfl ⟨(by decide), trivial, trivial⟩ ?_
        have hJ47 : ∀ (M47 : Mem), (Sf M M47) → f_X6_act M op a b t = f_X6_act_47y3 M47 → V G X 8 0 0 (Qx G X 0 0 (p_X6_act M op a b t)) 47 [] [] M47 := by
          intro M47 s47 E
          refine V.seg F floX6 cjoX6 [.iconst (-1)] (by decide +kernel) (pc2 := 48) (lv2 := []) (st2 := [.int ((-1))]) (M2 := M47) rfl ⟨trivial, trivial⟩ ?_
          exact V.iret F (by decide +kernel) ⟨congrArg (fun z => some (Value.int z.1)) E.symm, congrArg Prod.snd E.symm, s47⟩
        refine V.if_lt (off := 24) F (by decide +kernel) (tgt := 47) (by decide) (fun h23 => ?_) (fun h23 => ?_)
        · replace E := E.trans (if_pos h23)
          refine V.pick [] rfl ?_
          exact hJ47 M Sf.rf E
        · replace E := E.trans (if_neg h23)
          refine V.seg F floX6 cjoX6 [.iload_n 1, .bipush 21] (by decide +kernel) (pc2 := 29) (lv2 := [(7, .ref a17), (6, .ref a9), (5, .null), (0, .ref 1), (1, .int op), (2, .int a), (3, .int b), (4, .int t)]) (st2 := [.int 21, .int op]) (M2 := M) rfl ⟨trivial, trivial, trivial⟩ ?_
          refine V.ic_gt (off := 18) F (by decide +kernel) (tgt := 47) (by decide) (fun h29 => ?_) (fun h29 => ?_)
          · replace E := E.trans (if_pos h29)
            refine V.pick [] rfl ?_
            exact hJ47 M Sf.rf E
          · replace E := E.trans (if_neg h29)
            refine V.seg F floX6 cjoX6 [.aload 5] (by decide +kernel) (pc2 := 34) (lv2 := [(7, .ref a17), (6, .ref a9), (5, .null), (0, .ref 1), (1, .int op), (2, .int a), (3, .int b), (4, .int t)]) (st2 := [.null]) (M2 := M) rfl ⟨trivial, trivial⟩ ?_
            refine V.nul_n (off := 13) F (by decide +kernel) (tgt := 47) (by decide) ?_
            refine V.pick [] rfl ?_
            exact hJ47 M Sf.rf E
  · replace E := E.trans (el_s hq2)
    refine V.seg F floX6 cjoX6 [.astore 5, .aload_n 0, .iload_n 3] (by decide +kernel) (pc2 := 9) (lv2 := [(5, .ref a2), (0, .ref 1), (1, .int op), (2, .int a), (3, .int b), (4, .int t)]) (st2 := [.int b, .ref 1]) (M2 := M) rfl ⟨(by decide), trivial, trivial, trivial⟩ ?_
    refine V.callV (as := [.int b]) (rest := []) F (by decide +kernel) lX6_65 bX6_factAt ⟨6, _, (q.o 1 6 rfl), rfl, rfl⟩ (c_X6_factAt G X.2.1 M b q) (rm_ok hRm hd (by decide) (by decide)) ⟨Nat.zero_le _, Nat.zero_le _⟩ (Nat.le_of_ble_eq_true rfl) (fun r_ N_ p_ => ?_)
    obtain ⟨rfl, hN_⟩ := p_
    rw [hN_]
    clear hN_
    rcases hq9 : (f_X6_factAt b) with _ | a9
    · replace E := E.trans (el_n hq9)
      refine V.seg F floX6 cjoX6 [.astore 6, .aload_n 0, .iload 4] (by decide +kernel) (pc2 := 17) (lv2 := [(6, .null), (5, .ref a2), (0, .ref 1), (1, .int op), (2, .int a), (3, .int b), (4, .int t)]) (st2 := [.int t, .ref 1]) (M2 := M) rfl ⟨(by decide), trivial, trivial, trivial⟩ ?_
      refine V.callV (as := [.int t]) (rest := []) F (by decide +kernel) lX6_65 bX6_factAt ⟨6, _, (q.o 1 6 rfl), rfl, rfl⟩ (c_X6_factAt G X.2.1 M t q) (rm_ok hRm hd (by decide) (by decide)) ⟨Nat.zero_le _, Nat.zero_le _⟩ (Nat.le_of_ble_eq_true rfl) (fun r_ N_ p_ => ?_)
      obtain ⟨rfl, hN_⟩ := p_
      rw [hN_]
      clear hN_
      rcases hq17 : (f_X6_factAt t) with _ | a17
      · replace E := E.trans (el_n hq17)
        refine V.seg F floX6 cjoX6 [.astore 7, .iload_n 1] (by decide +kernel) (pc2 := 23) (lv2 := [(7, .null), (6, .null), (5, .ref a2), (0, .ref 1), (1, .int op), (2, .int a), (3, .int b), (4, .int t)]) (st2 := [.int op]) (M2 := M) rfl ⟨(by decide), trivial, trivial⟩ ?_
        have hJ47 : ∀ (M47 : Mem), (Sf M M47) → f_X6_act M op a b t = f_X6_act_47y4 M47 → V G X 8 0 0 (Qx G X 0 0 (p_X6_act M op a b t)) 47 [] [] M47 := by
          intro M47 s47 E
          refine V.seg F floX6 cjoX6 [.iconst (-1)] (by decide +kernel) (pc2 := 48) (lv2 := []) (st2 := [.int ((-1))]) (M2 := M47) rfl ⟨trivial, trivial⟩ ?_
          exact V.iret F (by decide +kernel) ⟨congrArg (fun z => some (Value.int z.1)) E.symm, congrArg Prod.snd E.symm, s47⟩
        refine V.if_lt (off := 24) F (by decide +kernel) (tgt := 47) (by decide) (fun h23 => ?_) (fun h23 => ?_)
        · replace E := E.trans (if_pos h23)
          refine V.pick [] rfl ?_
          exact hJ47 M Sf.rf E
        · replace E := E.trans (if_neg h23)
          refine V.seg F floX6 cjoX6 [.iload_n 1, .bipush 21] (by decide +kernel) (pc2 := 29) (lv2 := [(7, .null), (6, .null), (5, .ref a2), (0, .ref 1), (1, .int op), (2, .int a), (3, .int b), (4, .int t)]) (st2 := [.int 21, .int op]) (M2 := M) rfl ⟨trivial, trivial, trivial⟩ ?_
          refine V.ic_gt (off := 18) F (by decide +kernel) (tgt := 47) (by decide) (fun h29 => ?_) (fun h29 => ?_)
          · replace E := E.trans (if_pos h29)
            refine V.pick [] rfl ?_
            exact hJ47 M Sf.rf E
          · replace E := E.trans (if_neg h29)
            refine V.seg F floX6 cjoX6 [.aload 5] (by decide +kernel) (pc2 := 34) (lv2 := [(7, .null), (6, .null), (5, .ref a2), (0, .ref 1), (1, .int op), (2, .int a), (3, .int b), (4, .int t)]) (st2 := [.ref a2]) (M2 := M) rfl ⟨trivial, trivial⟩ ?_
            refine V.nul_r (off := 13) F (by decide +kernel) ?_
            refine V.seg F floX6 cjoX6 [.aload 6] (by decide +kernel) (pc2 := 39) (lv2 := [(7, .null), (6, .null), (5, .ref a2), (0, .ref 1), (1, .int op), (2, .int a), (3, .int b), (4, .int t)]) (st2 := [.null]) (M2 := M) rfl ⟨trivial, trivial⟩ ?_
            refine V.nul_n (off := 8) F (by decide +kernel) (tgt := 47) (by decide) ?_
            refine V.pick [] rfl ?_
            exact hJ47 M Sf.rf E
      · replace E := E.trans (el_s hq17)
        refine V.seg F floX6 cjoX6 [.astore 7, .iload_n 1] (by decide +kernel) (pc2 := 23) (lv2 := [(7, .ref a17), (6, .null), (5, .ref a2), (0, .ref 1), (1, .int op), (2, .int a), (3, .int b), (4, .int t)]) (st2 := [.int op]) (M2 := M) rfl ⟨(by decide), trivial, trivial⟩ ?_
        have hJ47 : ∀ (M47 : Mem), (Sf M M47) → f_X6_act M op a b t = f_X6_act_47y5 M47 → V G X 8 0 0 (Qx G X 0 0 (p_X6_act M op a b t)) 47 [] [] M47 := by
          intro M47 s47 E
          refine V.seg F floX6 cjoX6 [.iconst (-1)] (by decide +kernel) (pc2 := 48) (lv2 := []) (st2 := [.int ((-1))]) (M2 := M47) rfl ⟨trivial, trivial⟩ ?_
          exact V.iret F (by decide +kernel) ⟨congrArg (fun z => some (Value.int z.1)) E.symm, congrArg Prod.snd E.symm, s47⟩
        refine V.if_lt (off := 24) F (by decide +kernel) (tgt := 47) (by decide) (fun h23 => ?_) (fun h23 => ?_)
        · replace E := E.trans (if_pos h23)
          refine V.pick [] rfl ?_
          exact hJ47 M Sf.rf E
        · replace E := E.trans (if_neg h23)
          refine V.seg F floX6 cjoX6 [.iload_n 1, .bipush 21] (by decide +kernel) (pc2 := 29) (lv2 := [(7, .ref a17), (6, .null), (5, .ref a2), (0, .ref 1), (1, .int op), (2, .int a), (3, .int b), (4, .int t)]) (st2 := [.int 21, .int op]) (M2 := M) rfl ⟨trivial, trivial, trivial⟩ ?_
          refine V.ic_gt (off := 18) F (by decide +kernel) (tgt := 47) (by decide) (fun h29 => ?_) (fun h29 => ?_)
          · replace E := E.trans (if_pos h29)
            refine V.pick [] rfl ?_
            exact hJ47 M Sf.rf E
          · replace E := E.trans (if_neg h29)
            refine V.seg F floX6 cjoX6 [.aload 5] (by decide +kernel) (pc2 := 34) (lv2 := [(7, .ref a17), (6, .null), (5, .ref a2), (0, .ref 1), (1, .int op), (2, .int a), (3, .int b), (4, .int t)]) (st2 := [.ref a2]) (M2 := M) rfl ⟨trivial, trivial⟩ ?_
            refine V.nul_r (off := 13) F (by decide +kernel) ?_
            refine V.seg F floX6 cjoX6 [.aload 6] (by decide +kernel) (pc2 := 39) (lv2 := [(7, .ref a17), (6, .null), (5, .ref a2), (0, .ref 1), (1, .int op), (2, .int a), (3, .int b), (4, .int t)]) (st2 := [.null]) (M2 := M) rfl ⟨trivial, trivial⟩ ?_
            refine V.nul_n (off := 8) F (by decide +kernel) (tgt := 47) (by decide) ?_
            refine V.pick [] rfl ?_
            exact hJ47 M Sf.rf E
    · replace E := E.trans (el_s hq9)
      refine V.seg F floX6 cjoX6 [.astore 6, .aload_n 0, .iload 4] (by decide +kernel) (pc2 := 17) (lv2 := [(6, .ref a9), (5, .ref a2), (0, .ref 1), (1, .int op), (2, .int a), (3, .int b), (4, .int t)]) (st2 := [.int t, .ref 1]) (M2 := M) rfl ⟨(by decide), trivial, trivial, trivial⟩ ?_
      refine V.callV (as := [.int t]) (rest := []) F (by decide +kernel) lX6_65 bX6_factAt ⟨6, _, (q.o 1 6 rfl), rfl, rfl⟩ (c_X6_factAt G X.2.1 M t q) (rm_ok hRm hd (by decide) (by decide)) ⟨Nat.zero_le _, Nat.zero_le _⟩ (Nat.le_of_ble_eq_true rfl) (fun r_ N_ p_ => ?_)
      obtain ⟨rfl, hN_⟩ := p_
      rw [hN_]
      clear hN_
      rcases hq17 : (f_X6_factAt t) with _ | a17
      · replace E := E.trans (el_n hq17)
        refine V.seg F floX6 cjoX6 [.astore 7, .iload_n 1] (by decide +kernel) (pc2 := 23) (lv2 := [(7, .null), (6, .ref a9), (5, .ref a2), (0, .ref 1), (1, .int op), (2, .int a), (3, .int b), (4, .int t)]) (st2 := [.int op]) (M2 := M) rfl ⟨(by decide), trivial, trivial⟩ ?_
        have hJ47 : ∀ (M47 : Mem), (Sf M M47) → f_X6_act M op a b t = f_X6_act_47y6 M47 → V G X 8 0 0 (Qx G X 0 0 (p_X6_act M op a b t)) 47 [] [] M47 := by
          intro M47 s47 E
          refine V.seg F floX6 cjoX6 [.iconst (-1)] (by decide +kernel) (pc2 := 48) (lv2 := []) (st2 := [.int ((-1))]) (M2 := M47) rfl ⟨trivial, trivial⟩ ?_
          exact V.iret F (by decide +kernel) ⟨congrArg (fun z => some (Value.int z.1)) E.symm, congrArg Prod.snd E.symm, s47⟩
        refine V.if_lt (off := 24) F (by decide +kernel) (tgt := 47) (by decide) (fun h23 => ?_) (fun h23 => ?_)
        · replace E := E.trans (if_pos h23)
          refine V.pick [] rfl ?_
          exact hJ47 M Sf.rf E
        · replace E := E.trans (if_neg h23)
          refine V.seg F floX6 cjoX6 [.iload_n 1, .bipush 21] (by decide +kernel) (pc2 := 29) (lv2 := [(7, .null), (6, .ref a9), (5, .ref a2), (0, .ref 1), (1, .int op), (2, .int a), (3, .int b), (4, .int t)]) (st2 := [.int 21, .int op]) (M2 := M) rfl ⟨trivial, trivial, trivial⟩ ?_
          refine V.ic_gt (off := 18) F (by decide +kernel) (tgt := 47) (by decide) (fun h29 => ?_) (fun h29 => ?_)
          · replace E := E.trans (if_pos h29)
            refine V.pick [] rfl ?_
            exact hJ47 M Sf.rf E
          · replace E := E.trans (if_neg h29)
            refine V.seg F floX6 cjoX6 [.aload 5] (by decide +kernel) (pc2 := 34) (lv2 := [(7, .null), (6, .ref a9), (5, .ref a2), (0, .ref 1), (1, .int op), (2, .int a), (3, .int b), (4, .int t)]) (st2 := [.ref a2]) (M2 := M) rfl ⟨trivial, trivial⟩ ?_
            refine V.nul_r (off := 13) F (by decide +kernel) ?_
            refine V.seg F floX6 cjoX6 [.aload 6] (by decide +kernel) (pc2 := 39) (lv2 := [(7, .null), (6, .ref a9), (5, .ref a2), (0, .ref 1), (1, .int op), (2, .int a), (3, .int b), (4, .int t)]) (st2 := [.ref a9]) (M2 := M) rfl ⟨trivial, trivial⟩ ?_
            refine V.nul_r (off := 8) F (by decide +kernel) ?_
            refine V.seg F floX6 cjoX6 [.aload 7] (by decide +kernel) (pc2 := 44) (lv2 := [(7, .null), (6, .ref a9), (5, .ref a2), (0, .ref 1), (1, .int op), (2, .int a), (3, .int b), (4, .int t)]) (st2 := [.null]) (M2 := M) rfl ⟨trivial, trivial⟩ ?_
            refine V.nonnul_n (off := 5) F (by decide +kernel) ?_
            refine V.pick [] rfl ?_
            exact hJ47 M Sf.rf E
      · replace E := E.trans (el_s hq17)
        refine V.seg F floX6 cjoX6 [.astore 7, .iload_n 1] (by decide +kernel) (pc2 := 23) (lv2 := [(7, .ref a17), (6, .ref a9), (5, .ref a2), (0, .ref 1), (1, .int op), (2, .int a), (3, .int b), (4, .int t)]) (st2 := [.int op]) (M2 := M) rfl ⟨(by decide), trivial, trivial⟩ ?_
        have hJ47 : ∀ (M47 : Mem), (Sf M M47) → f_X6_act M op a b t = f_X6_act_47y7 M47 → V G X 8 0 0 (Qx G X 0 0 (p_X6_act M op a b t)) 47 [] [] M47 := by
          intro M47 s47 E
          refine V.seg F floX6 cjoX6 [.iconst (-1)] (by decide +kernel) (pc2 := 48) (lv2 := []) (st2 := [.int ((-1))]) (M2 := M47) rfl ⟨trivial, trivial⟩ ?_
          exact V.iret F (by decide +kernel) ⟨congrArg (fun z => some (Value.int z.1)) E.symm, congrArg Prod.snd E.symm, s47⟩
        refine V.if_lt (off := 24) F (by decide +kernel) (tgt := 47) (by decide) (fun h23 => ?_) (fun h23 => ?_)
        · replace E := E.trans (if_pos h23)
          refine V.pick [] rfl ?_
          exact hJ47 M Sf.rf E
        · replace E := E.trans (if_neg h23)
          refine V.seg F floX6 cjoX6 [.iload_n 1, .bipush 21] (by decide +kernel) (pc2 := 29) (lv2 := [(7, .ref a17), (6, .ref a9), (5, .ref a2), (0, .ref 1), (1, .int op), (2, .int a), (3, .int b), (4, .int t)]) (st2 := [.int 21, .int op]) (M2 := M) rfl ⟨trivial, trivial, trivial⟩ ?_
          refine V.ic_gt (off := 18) F (by decide +kernel) (tgt := 47) (by decide) (fun h29 => ?_) (fun h29 => ?_)
          · replace E := E.trans (if_pos h29)
            refine V.pick [] rfl ?_
            exact hJ47 M Sf.rf E
          · replace E := E.trans (if_neg h29)
            refine V.seg F floX6 cjoX6 [.aload 5] (by decide +kernel) (pc2 := 34) (lv2 := [(7, .ref a17), (6, .ref a9), (5, .ref a2), (0, .ref 1), (1, .int op), (2, .int a), (3, .int b), (4, .int t)]) (st2 := [.ref a2]) (M2 := M) rfl ⟨trivial, trivial⟩ ?_
            refine V.nul_r (off := 13) F (by decide +kernel) ?_
            refine V.seg F floX6 cjoX6 [.aload 6] (by decide +kernel) (pc2 := 39) (lv2 := [(7, .ref a17), (6, .ref a9), (5, .ref a2), (0, .ref 1), (1, .int op), (2, .int a), (3, .int b), (4, .int t)]) (st2 := [.ref a9]) (M2 := M) rfl ⟨trivial, trivial⟩ ?_
            refine V.nul_r (off := 8) F (by decide +kernel) ?_
            refine V.seg F floX6 cjoX6 [.aload 7] (by decide +kernel) (pc2 := 44) (lv2 := [(7, .ref a17), (6, .ref a9), (5, .ref a2), (0, .ref 1), (1, .int op), (2, .int a), (3, .int b), (4, .int t)]) (st2 := [.ref a17]) (M2 := M) rfl ⟨trivial, trivial⟩ ?_
            refine V.nonnul_r (off := 5) F (by decide +kernel) (tgt := 49) (by decide) ?_
            refine V.seg F floX6 cjoX6 [.iload_n 1, .bipush 20] (by decide +kernel) (pc2 := 52) (lv2 := [(7, .ref a17), (6, .ref a9), (5, .ref a2), (0, .ref 1), (1, .int op), (2, .int a), (3, .int b), (4, .int t)]) (st2 := [.int 20, .int op]) (M2 := M) rfl ⟨trivial, trivial, trivial⟩ ?_
            have hJ105 : ∀ (M105 : Mem), (Sf M M105) → f_X6_act M op a b t = f_X6_act_105 a17 M105 → V G X 8 0 0 (Qx G X 0 0 (p_X6_act M op a b t)) 105 [(0, .ref 1), (7, .ref a17)] [] M105 := by
              intro M105 s105 E
              refine V.seg F floX6 cjoX6 [.aload 7, .aload_n 0, .getfield 62] (by decide +kernel) (pc2 := 111) (lv2 := [(0, .ref 1), (7, .ref a17)]) (st2 := [.ref 35, .ref a17]) (M2 := M105) rfl ⟨trivial, trivial, ((q.sm s105.1).f 1 6 9 rfl), trivial⟩ ?_
              refine V.callV (as := [.ref 35]) (rest := []) F (by decide +kernel) lX6_116 bX1_copy ⟨1, _, ((factAt_o q hq17).sm s105.1), rfl, rfl⟩ (c_X1_copy G X.2.1 M105 a17 35 ((factAt_o q hq17).sm s105.1) ((q.sm s105.1).o 35 1 rfl)) (rm_ok hRm hd (by decide) (by decide)) ⟨Nat.zero_le _, Nat.zero_le _⟩ (Nat.le_of_ble_eq_true rfl) (fun r_ N_ p_ => ?_)
              obtain ⟨rfl, rfl, t111⟩ := p_
              refine (?_ : ∀ (M114 : Mem), (Sf M M114) → f_X6_act M op a b t = f_X6_act_c114 a17 M114 → V G X 8 0 0 (Qx G X 0 0 (p_X6_act M op a b t)) 114 [(0, .ref 1), (7, .ref a17)] [] M114) _ (Sf.tr s105 t111) E
              intro M114 s114 E
              refine V.seg F floX6 cjoX6 [.aload 7] (by decide +kernel) (pc2 := 116) (lv2 := [(0, .ref 1), (7, .ref a17)]) (st2 := [.ref a17]) (M2 := M114) rfl ⟨trivial, trivial⟩ ?_
              refine V.callS (as := [.ref a17]) (rest := []) F (by decide +kernel) lX6_82 bX6_oneUnlessNone (c_X6_oneUnlessNone G X.2.1 M114 a17 ((factAt_o q hq17).sm s114.1)) (rm_ok hRm hd (by decide) (by decide)) ⟨Nat.zero_le _, Nat.zero_le _⟩ (Nat.le_of_ble_eq_true rfl) (fun r_ N_ p_ => ?_)
              obtain ⟨rfl, hN_⟩ := p_
              rw [hN_]
              clear hN_
              exact V.iret F (by decide +kernel) ⟨congrArg (fun z => some (Value.int z.1)) E.symm, congrArg Prod.snd E.symm, s114⟩
            refine V.ic_ne (off := 17) F (by decide +kernel) (tgt := 69) (by decide) (fun h52 => ?_) (fun h52 => ?_)
            · replace E := E.trans (if_neg h52)
              refine V.seg F floX6 cjoX6 [.iload_n 1, .bipush 21] (by decide +kernel) (pc2 := 72) (lv2 := [(7, .ref a17), (6, .ref a9), (5, .ref a2), (0, .ref 1), (1, .int op), (2, .int a), (3, .int b), (4, .int t)]) (st2 := [.int 21, .int op]) (M2 := M) rfl ⟨trivial, trivial, trivial⟩ ?_
              refine V.ic_ne (off := 17) F (by decide +kernel) (tgt := 89) (by decide) (fun h72 => ?_) (fun h72 => ?_)
              · replace E := E.trans (if_neg h72)
                refine V.seg F floX6 cjoX6 [.aload_n 0, .getfield 35, .iload_n 1, .aload 5, .aload 6, .aload_n 0, .getfield 62] (by decide +kernel) (pc2 := 102) (lv2 := [(7, .ref a17), (6, .ref a9), (5, .ref a2), (0, .ref 1), (1, .int op), (2, .int a), (3, .int b), (4, .int t)]) (st2 := [.ref 35, .ref a9, .ref a2, .int op, .ref 11]) (M2 := M) rfl ⟨trivial, (q.f 1 6 4 rfl), trivial, trivial, trivial, trivial, (q.f 1 6 9 rfl), trivial⟩ ?_
                refine V.callV (as := [.int op, .ref a2, .ref a9, .ref 35]) (rest := []) F (by decide +kernel) lX6_112 bX0_work ⟨0, _, (q.o 11 0 rfl), rfl, rfl⟩ (c_X0_work G X.2.1 M 11 op a2 a9 35 q (Or.inl rfl) (factAt_o q hq2) (factAt_o q hq9) (q.o 35 1 rfl)) (rm_ok hRm hd (by decide) (by decide)) ⟨Nat.zero_le _, Nat.zero_le _⟩ (Nat.le_of_ble_eq_true rfl) (fun r_ N_ p_ => ?_)
                obtain ⟨rfl, rfl, t102⟩ := p_
                refine (?_ : ∀ (M105 : Mem), (Sf M M105) → f_X6_act M op a b t = f_X6_act_c105 a17 M105 → V G X 8 0 0 (Qx G X 0 0 (p_X6_act M op a b t)) 105 [(7, .ref a17), (6, .ref a9), (5, .ref a2), (0, .ref 1), (1, .int op), (2, .int a), (3, .int b), (4, .int t)] [] M105) _ t102 E
                intro M105 s105 E
                refine V.pick [3, 0] rfl ?_
                exact hJ105 M105 s105 E
              · replace E := E.trans (if_pos h72)
                refine V.seg F floX6 cjoX6 [.aload_n 0, .getfield 62, .aload 5, .aload 6] (by decide +kernel) (pc2 := 83) (lv2 := [(7, .ref a17), (6, .ref a9), (5, .ref a2), (0, .ref 1), (1, .int op), (2, .int a), (3, .int b), (4, .int t)]) (st2 := [.ref a9, .ref a2, .ref 35]) (M2 := M) rfl ⟨trivial, (q.f 1 6 9 rfl), trivial, trivial, trivial⟩ ?_
                refine V.callV (as := [.ref a2, .ref a9]) (rest := []) F (by decide +kernel) lX6_109 bX1_becomeMeet ⟨1, _, (q.o 35 1 rfl), rfl, rfl⟩ (c_X1_becomeMeet G X.2.1 M 35 a2 a9 (q.o 35 1 rfl) (factAt_o q hq2) (factAt_o q hq9)) (rm_ok hRm hd (by decide) (by decide)) ⟨Nat.zero_le _, Nat.zero_le _⟩ (Nat.le_of_ble_eq_true rfl) (fun r_ N_ p_ => ?_)
                obtain ⟨rfl, rfl, t83⟩ := p_
                refine (?_ : ∀ (M86 : Mem), (Sf M M86) → f_X6_act M op a b t = f_X6_act_c86 a17 M86 → V G X 8 0 0 (Qx G X 0 0 (p_X6_act M op a b t)) 86 [(7, .ref a17), (6, .ref a9), (5, .ref a2), (0, .ref 1), (1, .int op), (2, .int a), (3, .int b), (4, .int t)] [] M86) _ t83 E
                intro M86 s86 E
                refine V.seg F floX6 cjoX6 [.goto 19] (by decide +kernel) (pc2 := 105) (lv2 := [(7, .ref a17), (6, .ref a9), (5, .ref a2), (0, .ref 1), (1, .int op), (2, .int a), (3, .int b), (4, .int t)]) (st2 := []) (M2 := M86) rfl ⟨(by decide), trivial⟩ ?_
                refine V.pick [3, 0] rfl ?_
                exact hJ105 M86 s86 E
            · replace E := E.trans (if_pos h52)
              refine V.seg F floX6 cjoX6 [.aload_n 0, .getfield 62, .aload 5, .aload 6] (by decide +kernel) (pc2 := 63) (lv2 := [(7, .ref a17), (6, .ref a9), (5, .ref a2), (0, .ref 1), (1, .int op), (2, .int a), (3, .int b), (4, .int t)]) (st2 := [.ref a9, .ref a2, .ref 35]) (M2 := M) rfl ⟨trivial, (q.f 1 6 9 rfl), trivial, trivial, trivial⟩ ?_
              refine V.callV (as := [.ref a2, .ref a9]) (rest := []) F (by decide +kernel) lX6_105 bX1_becomeJoin ⟨1, _, (q.o 35 1 rfl), rfl, rfl⟩ (c_X1_becomeJoin G X.2.1 M 35 a2 a9 (q.o 35 1 rfl) (factAt_o q hq2) (factAt_o q hq9)) (rm_ok hRm hd (by decide) (by decide)) ⟨Nat.zero_le _, Nat.zero_le _⟩ (Nat.le_of_ble_eq_true rfl) (fun r_ N_ p_ => ?_)
              obtain ⟨rfl, rfl, t63⟩ := p_
              refine (?_ : ∀ (M66 : Mem), (Sf M M66) → f_X6_act M op a b t = f_X6_act_c66 a17 M66 → V G X 8 0 0 (Qx G X 0 0 (p_X6_act M op a b t)) 66 [(7, .ref a17), (6, .ref a9), (5, .ref a2), (0, .ref 1), (1, .int op), (2, .int a), (3, .int b), (4, .int t)] [] M66) _ t63 E
              intro M66 s66 E
              refine V.seg F floX6 cjoX6 [.goto 39] (by decide +kernel) (pc2 := 105) (lv2 := [(7, .ref a17), (6, .ref a9), (5, .ref a2), (0, .ref 1), (1, .int op), (2, .int a), (3, .int b), (4, .int t)]) (st2 := []) (M2 := M66) rfl ⟨(by decide), trivial⟩ ?_
              refine V.pick [3, 0] rfl ?_
              exact hJ105 M66 s66 E
def f_X6_told_98  (w0_98 : Int64) : Int64 := w0_98
def f_X6_told (M : Mem) (f : Int32) (w : Int32) : Int64 := (f_X6_factAt f).elim (0) (fun a2 => if w = 0 then mL M a2 1 else if w = 1 then mL M a2 2 else if w = 2 then mL M a2 3 else if w = 3 then mL M a2 4 else if w = 4 then mL M a2 5 else if w = 5 then mL M a2 6 else if w = 6 then if (mI M a2 0) = 0 then f_X6_told_98 0 else f_X6_told_98 1 else 0)
abbrev p_X6_told (M : Mem) (f : Int32) (w : Int32) : Option Value → Mem → Prop := fun r N => r = some (.long (f_X6_told M f w)) ∧ N = M
set_option maxRecDepth 100000 in
set_option maxHeartbeats 4000000 in
theorem c_X6_told (G : Ctx) (l : Launch) (M : Mem) (f : Int32) (w : Int32) (q : Ok M) : CT G l 1 mX6_told [.ref 1, .int f, .int w] M 0 0 (p_X6_told M f w) := by
  refine CT.of (by decide) (Nat.le_of_ble_eq_true rfl) ?_
  intro X d hd hl hRm hnm F
  subst hl
  have E : f_X6_told M f w = f_X6_told M f w := rfl
  show V G X 4 0 0 (Qx G X 0 0 (p_X6_told M f w)) 0 [(0, .ref 1), (1, .int f), (2, .int w)] [] M
  refine V.seg F floX6 cjoX6 [.aload_n 0, .iload_n 1] (by decide +kernel) (pc2 := 2) (lv2 := [(0, .ref 1), (1, .int f), (2, .int w)]) (st2 := [.int f, .ref 1]) (M2 := M) rfl ⟨trivial, trivial, trivial⟩ ?_
  refine V.callV (as := [.int f]) (rest := []) F (by decide +kernel) lX6_65 bX6_factAt ⟨6, _, (q.o 1 6 rfl), rfl, rfl⟩ (c_X6_factAt G X.2.1 M f q) (rm_ok hRm hd (by decide) (by decide)) ⟨Nat.zero_le _, Nat.zero_le _⟩ (Nat.le_of_ble_eq_true rfl) (fun r_ N_ p_ => ?_)
  obtain ⟨rfl, hN_⟩ := p_
  rw [hN_]
  clear hN_
  rcases hq2 : (f_X6_factAt f) with _ | a2
  · replace E := E.trans (el_n hq2)
    refine V.seg F floX6 cjoX6 [.astore_n 3, .aload_n 3] (by decide +kernel) (pc2 := 7) (lv2 := [(3, .null), (0, .ref 1), (1, .int f), (2, .int w)]) (st2 := [.null]) (M2 := M) rfl ⟨(by decide), trivial, trivial⟩ ?_
    refine V.nonnul_n (off := 5) F (by decide +kernel) ?_
    refine V.seg F floX6 cjoX6 [.lconst 0] (by decide +kernel) (pc2 := 11) (lv2 := [(3, .null), (0, .ref 1), (1, .int f), (2, .int w)]) (st2 := [.long 0]) (M2 := M) rfl ⟨trivial, trivial⟩ ?_
    exact V.lret F (by decide +kernel) ⟨congrArg (fun z => some (Value.long z)) E.symm, rfl⟩
  · replace E := E.trans (el_s hq2)
    refine V.seg F floX6 cjoX6 [.astore_n 3, .aload_n 3] (by decide +kernel) (pc2 := 7) (lv2 := [(3, .ref a2), (0, .ref 1), (1, .int f), (2, .int w)]) (st2 := [.ref a2]) (M2 := M) rfl ⟨(by decide), trivial, trivial⟩ ?_
    refine V.nonnul_r (off := 5) F (by decide +kernel) (tgt := 12) (by decide) ?_
    refine V.seg F floX6 cjoX6 [.iload_n 2] (by decide +kernel) (pc2 := 13) (lv2 := [(3, .ref a2), (0, .ref 1), (1, .int f), (2, .int w)]) (st2 := [.int w]) (M2 := M) rfl ⟨trivial, trivial⟩ ?_
    by_cases h13_0 : w = 0
    · replace E := E.trans (if_pos h13_0)
      refine V.swo (dflt := 86) (lo := 0) (hi := 6) (offs := #[43, 48, 53, 58, 63, 68, 73]) (len := 43) (off := 43) (tgt := 56) F (by decide +kernel) (by rw [h13_0]; rfl) rfl (by decide) ?_
      refine V.seg F floX6 cjoX6 [.aload_n 3, .getfield 72] (by decide +kernel) (pc2 := 60) (lv2 := [(3, .ref a2), (0, .ref 1), (1, .int f), (2, .int w)]) (st2 := [.long (mL M a2 1)]) (M2 := M) rfl ⟨trivial, (factAt_o q hq2), trivial⟩ ?_
      exact V.lret F (by decide +kernel) ⟨congrArg (fun z => some (Value.long z)) E.symm, rfl⟩
    · replace E := E.trans (if_neg h13_0)
      by_cases h13_1 : w = 1
      · replace E := E.trans (if_pos h13_1)
        refine V.swo (dflt := 86) (lo := 0) (hi := 6) (offs := #[43, 48, 53, 58, 63, 68, 73]) (len := 43) (off := 48) (tgt := 61) F (by decide +kernel) (by rw [h13_1]; rfl) rfl (by decide) ?_
        refine V.seg F floX6 cjoX6 [.aload_n 3, .getfield 76] (by decide +kernel) (pc2 := 65) (lv2 := [(3, .ref a2), (0, .ref 1), (1, .int f), (2, .int w)]) (st2 := [.long (mL M a2 2)]) (M2 := M) rfl ⟨trivial, (factAt_o q hq2), trivial⟩ ?_
        exact V.lret F (by decide +kernel) ⟨congrArg (fun z => some (Value.long z)) E.symm, rfl⟩
      · replace E := E.trans (if_neg h13_1)
        by_cases h13_2 : w = 2
        · replace E := E.trans (if_pos h13_2)
          refine V.swo (dflt := 86) (lo := 0) (hi := 6) (offs := #[43, 48, 53, 58, 63, 68, 73]) (len := 43) (off := 53) (tgt := 66) F (by decide +kernel) (by rw [h13_2]; rfl) rfl (by decide) ?_
          refine V.seg F floX6 cjoX6 [.aload_n 3, .getfield 86] (by decide +kernel) (pc2 := 70) (lv2 := [(3, .ref a2), (0, .ref 1), (1, .int f), (2, .int w)]) (st2 := [.long (mL M a2 3)]) (M2 := M) rfl ⟨trivial, (factAt_o q hq2), trivial⟩ ?_
          exact V.lret F (by decide +kernel) ⟨congrArg (fun z => some (Value.long z)) E.symm, rfl⟩
        · replace E := E.trans (if_neg h13_2)
          by_cases h13_3 : w = 3
          · replace E := E.trans (if_pos h13_3)
            refine V.swo (dflt := 86) (lo := 0) (hi := 6) (offs := #[43, 48, 53, 58, 63, 68, 73]) (len := 43) (off := 58) (tgt := 71) F (by decide +kernel) (by rw [h13_3]; rfl) rfl (by decide) ?_
            refine V.seg F floX6 cjoX6 [.aload_n 3, .getfield 89] (by decide +kernel) (pc2 := 75) (lv2 := [(3, .ref a2), (0, .ref 1), (1, .int f), (2, .int w)]) (st2 := [.long (mL M a2 4)]) (M2 := M) rfl ⟨trivial, (factAt_o q hq2), trivial⟩ ?_
            exact V.lret F (by decide +kernel) ⟨congrArg (fun z => some (Value.long z)) E.symm, rfl⟩
          · replace E := E.trans (if_neg h13_3)
            by_cases h13_4 : w = 4
            · replace E := E.trans (if_pos h13_4)
              refine V.swo (dflt := 86) (lo := 0) (hi := 6) (offs := #[43, 48, 53, 58, 63, 68, 73]) (len := 43) (off := 63) (tgt := 76) F (by decide +kernel) (by rw [h13_4]; rfl) rfl (by decide) ?_
              refine V.seg F floX6 cjoX6 [.aload_n 3, .getfield 95] (by decide +kernel) (pc2 := 80) (lv2 := [(3, .ref a2), (0, .ref 1), (1, .int f), (2, .int w)]) (st2 := [.long (mL M a2 5)]) (M2 := M) rfl ⟨trivial, (factAt_o q hq2), trivial⟩ ?_
              exact V.lret F (by decide +kernel) ⟨congrArg (fun z => some (Value.long z)) E.symm, rfl⟩
            · replace E := E.trans (if_neg h13_4)
              by_cases h13_5 : w = 5
              · replace E := E.trans (if_pos h13_5)
                refine V.swo (dflt := 86) (lo := 0) (hi := 6) (offs := #[43, 48, 53, 58, 63, 68, 73]) (len := 43) (off := 68) (tgt := 81) F (by decide +kernel) (by rw [h13_5]; rfl) rfl (by decide) ?_
                refine V.seg F floX6 cjoX6 [.aload_n 3, .getfield 102] (by decide +kernel) (pc2 := 85) (lv2 := [(3, .ref a2), (0, .ref 1), (1, .int f), (2, .int w)]) (st2 := [.long (mL M a2 6)]) (M2 := M) rfl ⟨trivial, (factAt_o q hq2), trivial⟩ ?_
                exact V.lret F (by decide +kernel) ⟨congrArg (fun z => some (Value.long z)) E.symm, rfl⟩
              · replace E := E.trans (if_neg h13_5)
                by_cases h13_6 : w = 6
                · replace E := E.trans (if_pos h13_6)
                  refine V.swo (dflt := 86) (lo := 0) (hi := 6) (offs := #[43, 48, 53, 58, 63, 68, 73]) (len := 43) (off := 73) (tgt := 86) F (by decide +kernel) (by rw [h13_6]; rfl) rfl (by decide) ?_
                  refine V.seg F floX6 cjoX6 [.aload_n 3, .getfield 120] (by decide +kernel) (pc2 := 90) (lv2 := [(3, .ref a2), (0, .ref 1), (1, .int f), (2, .int w)]) (st2 := [.int (mI M a2 0)]) (M2 := M) rfl ⟨trivial, (factAt_o q hq2), trivial⟩ ?_
                  have hJ98 : ∀ (w0_98 : Int64), f_X6_told M f w = f_X6_told_98 w0_98 → V G X 4 0 0 (Qx G X 0 0 (p_X6_told M f w)) 98 [] [.long w0_98] M := by
                    intro w0_98 E
                    exact V.lret F (by decide +kernel) ⟨congrArg (fun z => some (Value.long z)) E.symm, rfl⟩
                  refine V.if_eq (off := 7) F (by decide +kernel) (tgt := 97) (by decide) (fun h90 => ?_) (fun h90 => ?_)
                  · replace E := E.trans (if_pos h90)
                    refine V.seg F floX6 cjoX6 [.lconst 0] (by decide +kernel) (pc2 := 98) (lv2 := [(3, .ref a2), (0, .ref 1), (1, .int f), (2, .int w)]) (st2 := [.long 0]) (M2 := M) rfl ⟨trivial, trivial⟩ ?_
                    refine V.pick [] rfl ?_
                    exact hJ98 0  E
                  · replace E := E.trans (if_neg h90)
                    refine V.seg F floX6 cjoX6 [.lconst 1, .goto 4] (by decide +kernel) (pc2 := 98) (lv2 := [(3, .ref a2), (0, .ref 1), (1, .int f), (2, .int w)]) (st2 := [.long 1]) (M2 := M) rfl ⟨trivial, (by decide), trivial⟩ ?_
                    refine V.pick [] rfl ?_
                    exact hJ98 1  E
                · replace E := E.trans (if_neg h13_6)
                  refine V.swo (dflt := 86) (lo := 0) (hi := 6) (offs := #[43, 48, 53, 58, 63, 68, 73]) (len := 43) (off := 86) (tgt := 99) F (by decide +kernel) (sw_dflt 7 (by decide) (h := fun k_ hk_ e_ => match k_, hk_, e_ with | 0, _, e_ => absurd ((e_.trans (by decide))) h13_0 | 1, _, e_ => absurd ((e_.trans (by decide))) h13_1 | 2, _, e_ => absurd ((e_.trans (by decide))) h13_2 | 3, _, e_ => absurd ((e_.trans (by decide))) h13_3 | 4, _, e_ => absurd ((e_.trans (by decide))) h13_4 | 5, _, e_ => absurd ((e_.trans (by decide))) h13_5 | 6, _, e_ => absurd ((e_.trans (by decide))) h13_6 | k_ + 7, hk_, _ => absurd hk_ (by omega))) rfl (by decide) ?_
                  refine V.seg F floX6 cjoX6 [.lconst 0] (by decide +kernel) (pc2 := 100) (lv2 := [(3, .ref a2), (0, .ref 1), (1, .int f), (2, .int w)]) (st2 := [.long 0]) (M2 := M) rfl ⟨trivial, trivial⟩ ?_
                  exact V.lret F (by decide +kernel) ⟨congrArg (fun z => some (Value.long z)) E.symm, rfl⟩
def f_X6_isOf_26  (w0_26 : Int32) : Int32 := w0_26
def f_X6_isOf_25   : Int32 := f_X6_isOf_26 0
def f_X6_isOf_26y1  (w0_26 : Int32) : Int32 := w0_26
def f_X6_isOf_25y2   : Int32 := f_X6_isOf_26y1 0
def f_X6_isOf (M : Mem) (f : Int32) (v : Int64) : Int32 := (f_X6_factAt f).elim (f_X6_isOf_25 ) (fun a2 => if (f_X1_holds M a2 v) = 0 then f_X6_isOf_25y2  else f_X6_isOf_26y1 1)
abbrev p_X6_isOf (M : Mem) (f : Int32) (v : Int64) : Option Value → Mem → Prop := fun r N => r = some (.int (f_X6_isOf M f v)) ∧ N = M ∧ ((f_X6_isOf M f v) = 0 ∨ (f_X6_isOf M f v) = 1)
set_option maxRecDepth 100000 in
set_option maxHeartbeats 4000000 in
theorem c_X6_isOf (G : Ctx) (l : Launch) (M : Mem) (f : Int32) (v : Int64) (q : Ok M) : CT G l 2 mX6_isOf [.ref 1, .int f, .long v] M 0 0 (p_X6_isOf M f v) := by
  refine CT.of (by decide) (Nat.le_of_ble_eq_true rfl) ?_
  intro X d hd hl hRm hnm F
  subst hl
  have E : f_X6_isOf M f v = f_X6_isOf M f v := rfl
  show V G X 5 0 0 (Qx G X 0 0 (p_X6_isOf M f v)) 0 [(0, .ref 1), (1, .int f), (2, .long v)] [] M
  refine V.seg F floX6 cjoX6 [.aload_n 0, .iload_n 1] (by decide +kernel) (pc2 := 2) (lv2 := [(0, .ref 1), (1, .int f), (2, .long v)]) (st2 := [.int f, .ref 1]) (M2 := M) rfl ⟨trivial, trivial, trivial⟩ ?_
  refine V.callV (as := [.int f]) (rest := []) F (by decide +kernel) lX6_65 bX6_factAt ⟨6, _, (q.o 1 6 rfl), rfl, rfl⟩ (c_X6_factAt G X.2.1 M f q) (rm_ok hRm hd (by decide) (by decide)) ⟨Nat.zero_le _, Nat.zero_le _⟩ (Nat.le_of_ble_eq_true rfl) (fun r_ N_ p_ => ?_)
  obtain ⟨rfl, hN_⟩ := p_
  rw [hN_]
  clear hN_
  rcases hq2 : (f_X6_factAt f) with _ | a2
  · replace E := E.trans (el_n hq2)
    refine V.seg F floX6 cjoX6 [.astore 4, .aload 4] (by decide +kernel) (pc2 := 9) (lv2 := [(4, .null), (0, .ref 1), (1, .int f), (2, .long v)]) (st2 := [.null]) (M2 := M) rfl ⟨(by decide), trivial, trivial⟩ ?_
    have hJ26 : ∀ (w0_26 : Int32), (w0_26 = 0 ∨ w0_26 = 1) → f_X6_isOf M f v = f_X6_isOf_26 w0_26 → V G X 5 0 0 (Qx G X 0 0 (p_X6_isOf M f v)) 26 [] [.int w0_26] M := by
      intro w0_26 zw0_26 E
      exact V.zret F (zw0_26) (by decide +kernel) ⟨congrArg (fun z => some (Value.int z)) E.symm, rfl, by rw [E]; exact zw0_26⟩
    have hJ25 : f_X6_isOf M f v = f_X6_isOf_25 → V G X 5 0 0 (Qx G X 0 0 (p_X6_isOf M f v)) 25 [] [] M := by
      intro E
      refine V.seg F floX6 cjoX6 [.iconst 0] (by decide +kernel) (pc2 := 26) (lv2 := []) (st2 := [.int 0]) (M2 := M) rfl ⟨trivial, trivial⟩ ?_
      refine V.pick [] rfl ?_
      exact hJ26 0 (Or.inl rfl) E
    refine V.nul_n (off := 16) F (by decide +kernel) (tgt := 25) (by decide) ?_
    refine V.pick [] rfl ?_
    exact hJ25   E
  · replace E := E.trans (el_s hq2)
    refine V.seg F floX6 cjoX6 [.astore 4, .aload 4] (by decide +kernel) (pc2 := 9) (lv2 := [(4, .ref a2), (0, .ref 1), (1, .int f), (2, .long v)]) (st2 := [.ref a2]) (M2 := M) rfl ⟨(by decide), trivial, trivial⟩ ?_
    have hJ26 : ∀ (w0_26 : Int32), (w0_26 = 0 ∨ w0_26 = 1) → f_X6_isOf M f v = f_X6_isOf_26y1 w0_26 → V G X 5 0 0 (Qx G X 0 0 (p_X6_isOf M f v)) 26 [] [.int w0_26] M := by
      intro w0_26 zw0_26 E
      exact V.zret F (zw0_26) (by decide +kernel) ⟨congrArg (fun z => some (Value.int z)) E.symm, rfl, by rw [E]; exact zw0_26⟩
    have hJ25 : f_X6_isOf M f v = f_X6_isOf_25y2 → V G X 5 0 0 (Qx G X 0 0 (p_X6_isOf M f v)) 25 [] [] M := by
      intro E
      refine V.seg F floX6 cjoX6 [.iconst 0] (by decide +kernel) (pc2 := 26) (lv2 := []) (st2 := [.int 0]) (M2 := M) rfl ⟨trivial, trivial⟩ ?_
      refine V.pick [] rfl ?_
      exact hJ26 0 (Or.inl rfl) E
    refine V.nul_r (off := 16) F (by decide +kernel) ?_
    refine V.seg F floX6 cjoX6 [.aload 4, .lload_n 2] (by decide +kernel) (pc2 := 15) (lv2 := [(4, .ref a2), (0, .ref 1), (1, .int f), (2, .long v)]) (st2 := [.long v, .ref a2]) (M2 := M) rfl ⟨trivial, trivial, trivial⟩ ?_
    refine V.callV (as := [.long v]) (rest := []) F (by decide +kernel) lX6_124 bX1_holds ⟨1, _, (factAt_o q hq2), rfl, rfl⟩ (c_X1_holds G X.2.1 M a2 v (factAt_o q hq2)) (rm_ok hRm hd (by decide) (by decide)) ⟨Nat.zero_le _, Nat.zero_le _⟩ (Nat.le_of_ble_eq_true rfl) (fun r_ N_ p_ => ?_)
    obtain ⟨rfl, hN_, z15⟩ := p_
    rw [hN_]
    clear hN_
    refine V.if_eq (off := 7) F (by decide +kernel) (tgt := 25) (by decide) (fun h18 => ?_) (fun h18 => ?_)
    · replace E := E.trans (if_pos h18)
      refine V.pick [] rfl ?_
      exact hJ25   E
    · replace E := E.trans (if_neg h18)
      refine V.seg F floX6 cjoX6 [.iconst 1, .goto 4] (by decide +kernel) (pc2 := 26) (lv2 := [(4, .ref a2), (0, .ref 1), (1, .int f), (2, .long v)]) (st2 := [.int 1]) (M2 := M) rfl ⟨trivial, (by decide), trivial⟩ ?_
      refine V.pick [] rfl ?_
      exact hJ26 1 (Or.inr rfl) E
