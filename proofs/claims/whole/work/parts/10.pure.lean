theorem V.pick {G : Ctx} {X : Xt} {nL cells slots : Nat} {Q : State → Prop} {pc : Nat} {lv lv' : List (Nat × Value)} {st : List Value} {M : Mem} (ks : List Nat) (h : ks.filterMap (fun i => lv[i]?) = lv') (k : V G X nL cells slots Q pc lv' st M) : V G X nL cells slots Q pc lv st M := by
  intro H locs ls hl hR hS
  refine k H locs ls ⟨hl.1, hl.2.1, fun q hq => ?_⟩ hR hS
  obtain ⟨q', hq', rfl⟩ := List.mem_map.mp hq
  subst h
  obtain ⟨i, -, hi⟩ := List.mem_filterMap.mp hq'
  exact hl.2.2 _ (List.mem_map.mpr ⟨q', List.mem_of_getElem? hi, rfl⟩)
/-- nothing was made, no reference set -/
def Sm (M N : Mem) : Prop := N.1 = M.1 ∧ N.2.1 = M.2.1
theorem Sm.rf {M : Mem} : Sm M M := ⟨rfl, rfl⟩
theorem Sm.tr {M N O : Mem} (h : Sm M N) (h2 : Sm N O) : Sm M O := ⟨h2.1.trans h.1, h2.2.trans h.2⟩
/-- and no memory but that of Facts has changed -/
def Sf (M N : Mem) : Prop := Sm M N ∧ ∀ a k, (SH a).1 ≠ 2 → mI N a k = mI M a k ∧ mL N a k = mL M a k
theorem Sf.rf {M : Mem} : Sf M M := ⟨Sm.rf, fun _ _ _ => ⟨rfl, rfl⟩⟩
theorem Sf.tr {M N O : Mem} (h : Sf M N) (h2 : Sf N O) : Sf M O := ⟨h.1.tr h2.1, fun a k ha => ⟨(h2.2 a k ha).1.trans (h.2 a k ha).1, (h2.2 a k ha).2.trans (h.2 a k ha).2⟩⟩
theorem Sf.pI {M N : Mem} {a k : Nat} {v : Int32} (h : Sf M N) (ha : (SH a).1 = 2) : Sf M (uI N a k v) := ⟨h.1, fun b j hb => ⟨by rw [mI_uI_ne (fun e => hb (by rw [e]; exact ha))]; exact (h.2 b j hb).1, (h.2 b j hb).2⟩⟩
theorem Sf.pL {M N : Mem} {a k : Nat} {v : Int64} (h : Sf M N) (ha : (SH a).1 = 2) : Sf M (uL N a k v) := ⟨h.1, fun b j hb => ⟨(h.2 b j hb).1, by rw [mL_uL_ne (fun e => hb (by rw [e]; exact ha))]; exact (h.2 b j hb).2⟩⟩
theorem isO.sm {M N : Mem} {a c : Nat} (h : isO M a c) (s : Sm M N) : isO N a c := ⟨h.1, h.2.1, by show a ≤ N.1; rw [s.1]; exact h.2.2⟩
def jmax (a b : Int64) : Int64 := if b < a then a else b
def jmin (a b : Int64) : Int64 := if b < a then b else a
def jabs (a : Int64) : Int64 := if 0 < a then a else -a
def imin (a b : Int32) : Int32 := if b < a then b else a
theorem V.mmaxL {G : Ctx} {X : Xt} {own : String} {cc : ByteArray} {nL : Nat} {ret : Option FieldType} {cells slots : Nat} {Q : State → Prop} {pc x : Nat} {lv : List (Nat × Value)} {st : List Value} {M : Mem} {a b : Int64} (F : Fx G X own cc nL ret) (hd : decode cc pc = .ok (.invokestatic x, 3)) (hk : lkS own x mJ9_max_f86c9) (hRm : RmOK X.2.2.2.1 0 4) (hcs : cells ≤ X.2.2.2.1.cells ∧ slots ≤ X.2.2.2.1.slots) (hw : (st.map fun v => v.category).sum ≤ 11)
    (k : V G X nL cells slots Q (pc + 3) lv (.long (jmax a b) :: st) M) : V G X nL cells slots Q pc lv (.long b :: .long a :: st) M := by
  intro H locs ls hl hR hS
  obtain ⟨p, l, e, R, s, m, args, below, meth, c0⟩ := X
  obtain ⟨hx, hb, hml, hown, hts, hK, hr, hlocks, hZ⟩ := F
  have h9 : 22 + 4 + 50 * 0 ≤ R.locals := hRm.2
  have hq : ((st.map (cv G)).map fun v => v.category).sum ≤ 11 := by rw [List.map_map]; simp only [Function.comp_def, cv_cat]; exact hw
  exact va_mmax_long hx hb (hml.trans hl.1.symm) hown (hts (.methodLink own x Lib.MathLoose.max_long.x) hk.1) (hts (.static Lib.MathLoose.max_long.x) hk.2) (hts (.initialized "java/lang/Math") bJ9_max_f86c9.2.1) (hts (.code Lib.MathLoose.max_long.x Lib.MathLoose.max_long.code 4 (some .long)) bJ9_max_f86c9.1) (by have := hRm.1; omega) (by show _ ≤ R.locals; omega) hcs.1 hcs.2 hd (k H locs ls hl hR hS)
theorem V.mminL {G : Ctx} {X : Xt} {own : String} {cc : ByteArray} {nL : Nat} {ret : Option FieldType} {cells slots : Nat} {Q : State → Prop} {pc x : Nat} {lv : List (Nat × Value)} {st : List Value} {M : Mem} {a b : Int64} (F : Fx G X own cc nL ret) (hd : decode cc pc = .ok (.invokestatic x, 3)) (hk : lkS own x mJ9_min_f86c9) (hRm : RmOK X.2.2.2.1 0 4) (hcs : cells ≤ X.2.2.2.1.cells ∧ slots ≤ X.2.2.2.1.slots) (hw : (st.map fun v => v.category).sum ≤ 11)
    (k : V G X nL cells slots Q (pc + 3) lv (.long (jmin a b) :: st) M) : V G X nL cells slots Q pc lv (.long b :: .long a :: st) M := by
  intro H locs ls hl hR hS
  obtain ⟨p, l, e, R, s, m, args, below, meth, c0⟩ := X
  obtain ⟨hx, hb, hml, hown, hts, hK, hr, hlocks, hZ⟩ := F
  have h9 : 22 + 4 + 50 * 0 ≤ R.locals := hRm.2
  have hq : ((st.map (cv G)).map fun v => v.category).sum ≤ 11 := by rw [List.map_map]; simp only [Function.comp_def, cv_cat]; exact hw
  exact va_mmin_long hx hb (hml.trans hl.1.symm) hown (hts (.methodLink own x Lib.MathLoose.min_long.x) hk.1) (hts (.static Lib.MathLoose.min_long.x) hk.2) (hts (.initialized "java/lang/Math") bJ9_min_f86c9.2.1) (hts (.code Lib.MathLoose.min_long.x Lib.MathLoose.min_long.code 4 (some .long)) bJ9_min_f86c9.1) (by have := hRm.1; omega) (by show _ ≤ R.locals; omega) hcs.1 hcs.2 hd (k H locs ls hl hR hS)
theorem V.mminI {G : Ctx} {X : Xt} {own : String} {cc : ByteArray} {nL : Nat} {ret : Option FieldType} {cells slots : Nat} {Q : State → Prop} {pc x : Nat} {lv : List (Nat × Value)} {st : List Value} {M : Mem} {a b : Int32} (F : Fx G X own cc nL ret) (hd : decode cc pc = .ok (.invokestatic x, 3)) (hk : lkS own x mJ9_min_7cf53) (hRm : RmOK X.2.2.2.1 0 4) (hcs : cells ≤ X.2.2.2.1.cells ∧ slots ≤ X.2.2.2.1.slots) (hw : (st.map fun v => v.category).sum ≤ 11)
    (k : V G X nL cells slots Q (pc + 3) lv (.int (imin a b) :: st) M) : V G X nL cells slots Q pc lv (.int b :: .int a :: st) M := by
  intro H locs ls hl hR hS
  obtain ⟨p, l, e, R, s, m, args, below, meth, c0⟩ := X
  obtain ⟨hx, hb, hml, hown, hts, hK, hr, hlocks, hZ⟩ := F
  have h9 : 22 + 4 + 50 * 0 ≤ R.locals := hRm.2
  have hq : ((st.map (cv G)).map fun v => v.category).sum ≤ 11 := by rw [List.map_map]; simp only [Function.comp_def, cv_cat]; exact hw
  exact va_mmin hx hb (hml.trans hl.1.symm) hown (hts (.methodLink own x Lib.Math.min.name) hk.1) (hts (.static Lib.Math.min.name) hk.2) (hts (.initialized "java/lang/Math") bJ9_min_7cf53.2.1) (hts (.code Lib.Math.min.name Lib.Math.min.code 2 (some .int)) bJ9_min_7cf53.1) (by have := hRm.1; omega) (by show _ ≤ R.locals; omega) hcs.1 hcs.2 hd (k H locs ls hl hR hS)
theorem V.mabsL {G : Ctx} {X : Xt} {own : String} {cc : ByteArray} {nL : Nat} {ret : Option FieldType} {cells slots : Nat} {Q : State → Prop} {pc x : Nat} {lv : List (Nat × Value)} {st : List Value} {M : Mem} {a : Int64} (F : Fx G X own cc nL ret) (hd : decode cc pc = .ok (.invokestatic x, 3)) (hk : lkS own x mJ9_abs_067f4) (hRm : RmOK X.2.2.2.1 0 4) (hcs : cells ≤ X.2.2.2.1.cells ∧ slots ≤ X.2.2.2.1.slots) (hw : (st.map fun v => v.category).sum ≤ 11)
    (k : V G X nL cells slots Q (pc + 3) lv (.long (jabs a) :: st) M) : V G X nL cells slots Q pc lv (.long a :: st) M := by
  intro H locs ls hl hR hS
  obtain ⟨p, l, e, R, s, m, args, below, meth, c0⟩ := X
  obtain ⟨hx, hb, hml, hown, hts, hK, hr, hlocks, hZ⟩ := F
  have h9 : 22 + 4 + 50 * 0 ≤ R.locals := hRm.2
  have hq : ((st.map (cv G)).map fun v => v.category).sum ≤ 11 := by rw [List.map_map]; simp only [Function.comp_def, cv_cat]; exact hw
  exact va_mabs_long hx hb (hml.trans hl.1.symm) hown (hts (.methodLink own x Lib.MathLoose.abs_long.x) hk.1) (hts (.static Lib.MathLoose.abs_long.x) hk.2) (hts (.initialized "java/lang/Math") bJ9_abs_067f4.2.1) (hts (.code Lib.MathLoose.abs_long.x Lib.MathLoose.abs_long.code 2 (some .long)) bJ9_abs_067f4.1) (by have := hRm.1; omega) (by show _ ≤ R.locals; omega) hcs.1 hcs.2 hd (k H locs ls hl hR hS)
theorem cnt_lt {j n : Nat} {N : Int32} (h : ¬ N ≤ nI j) (hN : N = nI n) (hj : j < 2 ^ 31) (hn : n < 2 ^ 31) : j < n := by
  subst hN
  exact Nat.not_le.mp (fun q => h ((nI_leI hn hj).mpr q))
theorem dn_1 {j : Nat} (h : 0 < j) : nI j - 1 + (-1) = nI (j - 1) - 1 := by
  obtain ⟨i, rfl⟩ : ∃ i, j = i + 1 := ⟨j - 1, by omega⟩
  have e1 : nI (i + 1) - 1 = nI i := nI_pred i
  have e2 : i + 1 - 1 = i := Nat.add_sub_cancel i 1
  rw [e2, e1]
  exact (Int32.sub_eq_add_neg _ _).symm
theorem dn_pos {j : Nat} (h : ¬ nI j - 1 < 0) (hj : j < 2 ^ 31) : 0 < j := by
  rcases Nat.eq_zero_or_pos j with e | e
  · subst e; exact absurd (by decide) h
  · exact e
def swOff (dflt lo hi : Int) (offs : Array Int) (x : Int32) : Int := if x.toInt < lo ∨ hi < x.toInt then dflt else offs.getD (x.toInt - lo).toNat dflt
theorem V.swo {G : Ctx} {X : Xt} {own : String} {cc : ByteArray} {nL : Nat} {ret : Option FieldType} {cells slots : Nat} {Q : State → Prop} {pc tgt : Nat} {lv : List (Nat × Value)} {st : List Value} {M : Mem} {off : Int} {dflt lo hi : Int} {offs : Array Int} {len : Nat} {x : Int32} (F : Fx G X own cc nL ret) (hd : decode cc pc = .ok (.tableswitch dflt lo hi offs, len)) (ho : swOff dflt lo hi offs x = off) (hsz : offs.size = (hi - lo + 1).toNat) (ht : (pc : Int) + off = (tgt : Int)) (k : V G X nL cells slots Q tgt lv st M) : V G X nL cells slots Q pc lv (.int x :: st) M := by
  unfold swOff at ho
  by_cases h : x.toInt < lo ∨ hi < x.toInt
  · rw [if_pos h] at ho
    subst ho
    exact V.sw_out F hd h ht k
  · rw [if_neg h] at ho
    have h1 : ¬ x.toInt < lo := fun q => h (Or.inl q)
    have h2 : ¬ hi < x.toInt := fun q => h (Or.inr q)
    have hlt : (x.toInt - lo).toNat < offs.size := by rw [hsz]; omega
    refine V.sw_in F hd h1 h2 (off := off) ?_ ht k
    rw [← ho, Array.getElem?_eq_getElem hlt, Array.getD_eq_getD_getElem?, Array.getElem?_eq_getElem hlt]
    rfl
theorem sw_dflt {dflt lo hi : Int} {offs : Array Int} {x : Int32} (n : Nat) (hn : (hi - lo + 1).toNat = n) (hs : -2147483648 ≤ lo := by decide) (h : ∀ k : Nat, k < n → x = Int32.ofInt (lo + (k : Int)) → offs.getD k dflt = dflt) : swOff dflt lo hi offs x = dflt := by
  unfold swOff
  by_cases q : x.toInt < lo ∨ hi < x.toInt
  · rw [if_pos q]
  · rw [if_neg q]
    refine h _ (by omega) ?_
    have e : lo + (((x.toInt - lo).toNat : Nat) : Int) = x.toInt := by omega
    rw [e, Int32.ofInt_toInt]
def f_J13_bitCount_95d88_c41  (x41 : Int64) : Int32 := (Int64.toInt32 ((x41 + (jushr x41 16)) + (jushr (x41 + (jushr x41 16)) 32))) &&& 127
def f_J13_bitCount_95d88_c24  (x24 : Int64) : Int32 := f_J13_bitCount_95d88_c41 (((x24 + (jushr x24 4)) &&& 1085102592571150095) + (jushr ((x24 + (jushr x24 4)) &&& 1085102592571150095) 8))
def f_J13_bitCount_95d88 (a : Int64) : Int32 := f_J13_bitCount_95d88_c24 (((a - ((jushr a 1) &&& 6148914691236517205)) &&& 3689348814741910323) + ((jushr (a - ((jushr a 1) &&& 6148914691236517205)) 2) &&& 3689348814741910323))
abbrev p_J13_bitCount_95d88 (M : Mem) (a : Int64) : Option Value → Mem → Prop := fun r N => r = some (.int (f_J13_bitCount_95d88 a)) ∧ N = M
set_option maxRecDepth 100000 in
set_option maxHeartbeats 4000000 in
theorem c_J13_bitCount_95d88 (G : Ctx) (l : Launch) (M : Mem) (a : Int64)  : CT G l 0 mJ13_bitCount_95d88 [.long a] M 0 0 (p_J13_bitCount_95d88 M a) := by
  refine CT.of (by decide) (Nat.le_of_ble_eq_true rfl) ?_
  intro X d hd hl hRm hnm F
  subst hl
  have E : f_J13_bitCount_95d88 a = f_J13_bitCount_95d88 a := rfl
  show V G X 2 0 0 (Qx G X 0 0 (p_J13_bitCount_95d88 M a)) 0 [(0, .long a)] [] M
  refine V.seg F floJ13 cjoJ13 [.lload_n 0, .lload_n 0, .iconst 1, .lushr, .ldc2_w 314, .land, .lsub, .lstore_n 0, .lload_n 0, .ldc2_w 316, .land, .lload_n 0, .iconst 2, .lushr, .ldc2_w 316, .land, .ladd, .lstore_n 0] (by decide +kernel) (pc2 := 24) (lv2 := [(0, .long (((a - ((jushr a 1) &&& 6148914691236517205)) &&& 3689348814741910323) + ((jushr (a - ((jushr a 1) &&& 6148914691236517205)) 2) &&& 3689348814741910323)))]) (st2 := []) (M2 := M) rfl ⟨trivial, trivial, trivial, trivial, trivial, trivial, trivial, (by decide), trivial, trivial, trivial, trivial, trivial, trivial, trivial, trivial, trivial, (by decide), trivial⟩ ?_
  refine (?_ : ∀ (x24 : Int64), f_J13_bitCount_95d88 a = f_J13_bitCount_95d88_c24 x24 → V G X 2 0 0 (Qx G X 0 0 (p_J13_bitCount_95d88 M a)) 24 [(0, .long x24)] [] M) _  E
  intro x24 E
  refine V.seg F floJ13 cjoJ13 [.lload_n 0, .lload_n 0, .iconst 4, .lushr, .ladd, .ldc2_w 318, .land, .lstore_n 0, .lload_n 0, .lload_n 0, .bipush 8, .lushr, .ladd, .lstore_n 0] (by decide +kernel) (pc2 := 41) (lv2 := [(0, .long (((x24 + (jushr x24 4)) &&& 1085102592571150095) + (jushr ((x24 + (jushr x24 4)) &&& 1085102592571150095) 8)))]) (st2 := []) (M2 := M) rfl ⟨trivial, trivial, trivial, trivial, trivial, trivial, trivial, (by decide), trivial, trivial, trivial, trivial, trivial, (by decide), trivial⟩ ?_
  refine (?_ : ∀ (x41 : Int64), f_J13_bitCount_95d88 a = f_J13_bitCount_95d88_c41 x41 → V G X 2 0 0 (Qx G X 0 0 (p_J13_bitCount_95d88 M a)) 41 [(0, .long x41)] [] M) _  E
  intro x41 E
  refine V.seg F floJ13 cjoJ13 [.lload_n 0, .lload_n 0, .bipush 16, .lushr, .ladd, .lstore_n 0, .lload_n 0, .lload_n 0, .bipush 32, .lushr, .ladd, .lstore_n 0, .lload_n 0, .l2i, .bipush 127, .iand] (by decide +kernel) (pc2 := 60) (lv2 := [(0, .long ((x41 + (jushr x41 16)) + (jushr (x41 + (jushr x41 16)) 32)))]) (st2 := [.int ((Int64.toInt32 ((x41 + (jushr x41 16)) + (jushr (x41 + (jushr x41 16)) 32))) &&& 127)]) (M2 := M) rfl ⟨trivial, trivial, trivial, trivial, trivial, (by decide), trivial, trivial, trivial, trivial, trivial, (by decide), trivial, trivial, trivial, trivial, trivial⟩ ?_
  exact V.iret F (by decide +kernel) ⟨congrArg (fun z => some (Value.int z)) E.symm, rfl⟩
theorem ne0_gt1 {m : Int64} (h : 1 < m) : ¬ m = 0 := fun e => absurd h (by rw [e]; decide)
def f_X6_restBy_29  (w0_29 : Int64) : Int64 := w0_29
def f_X6_restBy (v : Int64) (m : Int64) : Int64 := if 1 < m then if 0 ≤ (jrem v m) then f_X6_restBy_29 (jrem v m) else f_X6_restBy_29 ((jrem v m) + m) else 0
abbrev p_X6_restBy (M : Mem) (v : Int64) (m : Int64) : Option Value → Mem → Prop := fun r N => r = some (.long (f_X6_restBy v m)) ∧ N = M
set_option maxRecDepth 100000 in
set_option maxHeartbeats 4000000 in
theorem c_X6_restBy (G : Ctx) (l : Launch) (M : Mem) (v : Int64) (m : Int64)  : CT G l 0 mX6_restBy [.long v, .long m] M 0 0 (p_X6_restBy M v m) := by
  refine CT.of (by decide) (Nat.le_of_ble_eq_true rfl) ?_
  intro X d hd hl hRm hnm F
  subst hl
  have E : f_X6_restBy v m = f_X6_restBy v m := rfl
  show V G X 6 0 0 (Qx G X 0 0 (p_X6_restBy M v m)) 0 [(0, .long v), (2, .long m)] [] M
  refine V.seg F floX6 cjoX6 [.lload_n 2, .lconst 1, .lcmp] (by decide +kernel) (pc2 := 3) (lv2 := [(0, .long v), (2, .long m)]) (st2 := [.int (lg_cmp m 1)]) (M2 := M) rfl ⟨trivial, trivial, trivial, trivial⟩ ?_
  refine V.lc_gt (off := 5) F (by decide +kernel) (tgt := 8) (by decide) (fun h3 => ?_) (fun h3 => ?_)
  · replace E := E.trans (if_pos h3)
    refine V.seg F floX6 cjoX6 [.lload_n 0, .lload_n 2, .lrem, .lstore 4, .lload 4, .lconst 0, .lcmp] (by decide +kernel) (pc2 := 17) (lv2 := [(4, .long (jrem v m)), (0, .long v), (2, .long m)]) (st2 := [.int (lg_cmp (jrem v m) 0)]) (M2 := M) rfl ⟨trivial, trivial, (ne0_gt1 h3), (by decide), trivial, trivial, trivial, trivial⟩ ?_
    have hJ29 : ∀ (w0_29 : Int64), f_X6_restBy v m = f_X6_restBy_29 w0_29 → V G X 6 0 0 (Qx G X 0 0 (p_X6_restBy M v m)) 29 [] [.long w0_29] M := by
      intro w0_29 E
      exact V.lret F (by decide +kernel) ⟨congrArg (fun z => some (Value.long z)) E.symm, rfl⟩
    refine V.lc_ge (off := 10) F (by decide +kernel) (tgt := 27) (by decide) (fun h17 => ?_) (fun h17 => ?_)
    · replace E := E.trans (if_pos h17)
      refine V.seg F floX6 cjoX6 [.lload 4] (by decide +kernel) (pc2 := 29) (lv2 := [(4, .long (jrem v m)), (0, .long v), (2, .long m)]) (st2 := [.long (jrem v m)]) (M2 := M) rfl ⟨trivial, trivial⟩ ?_
      refine V.pick [] rfl ?_
      exact hJ29 (jrem v m)  E
    · replace E := E.trans (if_neg h17)
      refine V.seg F floX6 cjoX6 [.lload 4, .lload_n 2, .ladd, .goto 5] (by decide +kernel) (pc2 := 29) (lv2 := [(4, .long (jrem v m)), (0, .long v), (2, .long m)]) (st2 := [.long ((jrem v m) + m)]) (M2 := M) rfl ⟨trivial, trivial, trivial, (by decide), trivial⟩ ?_
      refine V.pick [] rfl ?_
      exact hJ29 ((jrem v m) + m)  E
  · replace E := E.trans (if_neg h3)
    refine V.seg F floX6 cjoX6 [.lconst 0] (by decide +kernel) (pc2 := 7) (lv2 := [(0, .long v), (2, .long m)]) (st2 := [.long 0]) (M2 := M) rfl ⟨trivial, trivial⟩ ?_
    exact V.lret F (by decide +kernel) ⟨congrArg (fun z => some (Value.long z)) E.symm, rfl⟩
def f_X6_commonDivisor_45 (y4_9 : Int64)  : Int64 := y4_9
def f_X6_commonDivisor_9  : Nat → Int64 → Int64 → Nat → Int64
  | 0, _, _, _ => 0
  | n_ + 1, y4_9, y6_9, j9 => if 200 ≤ (nI j9) then f_X6_commonDivisor_45 y4_9 else if y6_9 = 0 then f_X6_commonDivisor_45 y4_9 else (f_X6_commonDivisor_9 n_) y6_9 (jrem y4_9 y6_9) (j9 + 1)
def f_X6_commonDivisor (a : Int64) (b : Int64) : Int64 := f_X6_commonDivisor_9  201 a b 0
abbrev p_X6_commonDivisor (M : Mem) (a : Int64) (b : Int64) : Option Value → Mem → Prop := fun r N => r = some (.long (f_X6_commonDivisor a b)) ∧ N = M
set_option maxRecDepth 100000 in
set_option maxHeartbeats 4000000 in
theorem c_X6_commonDivisor (G : Ctx) (l : Launch) (M : Mem) (a : Int64) (b : Int64)  : CT G l 0 mX6_commonDivisor [.long a, .long b] M 0 0 (p_X6_commonDivisor M a b) := by
  refine CT.of (by decide) (Nat.le_of_ble_eq_true rfl) ?_
  intro X d hd hl hRm hnm F
  subst hl
  have E : f_X6_commonDivisor a b = f_X6_commonDivisor a b := rfl
  show V G X 11 0 0 (Qx G X 0 0 (p_X6_commonDivisor M a b)) 0 [(0, .long a), (2, .long b)] [] M
  refine V.seg F floX6 cjoX6 [.lload_n 0, .lstore 4, .lload_n 2, .lstore 6, .iconst 0] (by decide +kernel) (pc2 := 7) (lv2 := [(6, .long b), (4, .long a), (0, .long a), (2, .long b)]) (st2 := [.int 0]) (M2 := M) rfl ⟨trivial, (by decide), trivial, (by decide), trivial, trivial⟩ ?_
  refine V.seg F floX6 cjoX6 [.istore 8] (by decide +kernel) (pc2 := 9) (lv2 := [(8, .int 0), (6, .long b), (4, .long a), (0, .long a), (2, .long b)]) (st2 := []) (M2 := M) rfl ⟨(by decide), trivial⟩ ?_
  have hJ9 : ∀ (n_ : Nat) (y4_9 : Int64) (y6_9 : Int64) (j9 : Nat), (j9 ≤ 200) → (200 - j9 < n_) → f_X6_commonDivisor a b = f_X6_commonDivisor_9 n_ y4_9 y6_9 j9 → V G X 11 0 0 (Qx G X 0 0 (p_X6_commonDivisor M a b)) 9 [(4, .long y4_9), (6, .long y6_9), (8, .int (nI j9))] [] M := by
    intro n_
    induction n_ with
    | zero => intro y4_9 y6_9 j9 b9 m9 E; omega
    | succ n_ ih_9 =>
      intro y4_9 y6_9 j9 b9 m9 E
      rw [f_X6_commonDivisor_9] at E
      refine V.seg F floX6 cjoX6 [.iload 8, .sipush 200] (by decide +kernel) (pc2 := 14) (lv2 := [(4, .long y4_9), (6, .long y6_9), (8, .int (nI j9))]) (st2 := [.int 200, .int (nI j9)]) (M2 := M) rfl ⟨trivial, trivial, trivial⟩ ?_
      have hJ45 : f_X6_commonDivisor a b = f_X6_commonDivisor_45 y4_9 → V G X 11 0 0 (Qx G X 0 0 (p_X6_commonDivisor M a b)) 45 [(4, .long y4_9)] [] M := by
        intro E
        refine V.seg F floX6 cjoX6 [.lload 4] (by decide +kernel) (pc2 := 47) (lv2 := [(4, .long y4_9)]) (st2 := [.long y4_9]) (M2 := M) rfl ⟨trivial, trivial⟩ ?_
        exact V.lret F (by decide +kernel) ⟨congrArg (fun z => some (Value.long z)) E.symm, rfl⟩
      refine V.ic_ge (off := 31) F (by decide +kernel) (tgt := 45) (by decide) (fun h14 => ?_) (fun h14 => ?_)
      · replace E := E.trans (if_pos h14)
        refine V.pick [0] rfl ?_
        exact hJ45   E
      · replace E := E.trans (if_neg h14)
        refine V.seg F floX6 cjoX6 [.lload 6, .lconst 0, .lcmp] (by decide +kernel) (pc2 := 21) (lv2 := [(4, .long y4_9), (6, .long y6_9), (8, .int (nI j9))]) (st2 := [.int (lg_cmp y6_9 0)]) (M2 := M) rfl ⟨trivial, trivial, trivial, trivial⟩ ?_
        refine V.lc_eq (off := 24) F (by decide +kernel) (tgt := 45) (by decide) (fun h21 => ?_) (fun h21 => ?_)
        · replace E := E.trans (if_pos h21)
          refine V.pick [0] rfl ?_
          exact hJ45   E
        · replace E := E.trans (if_neg h21)
          refine V.seg F floX6 cjoX6 [.lload 4, .lload 6, .lrem, .lstore 9, .lload 6, .lstore 4, .lload 9, .lstore 6, .iinc 8 1, .goto (-33)] (by decide +kernel) (pc2 := 9) (lv2 := [(8, .int ((nI j9) + 1)), (6, .long (jrem y4_9 y6_9)), (4, .long y6_9), (9, .long (jrem y4_9 y6_9))]) (st2 := []) (M2 := M) rfl ⟨trivial, trivial, h21, (by decide), trivial, (by decide), trivial, (by decide), (by decide), (by decide), trivial⟩ ?_
          refine V.pick [2, 1, 0] rfl ?_
          rw [nI_1]
          exact ih_9 y6_9 (jrem y4_9 y6_9) (j9 + 1) (by have hlt_ := cnt_lt (n := 200) h14 rfl (by omega) (by decide); omega) (by have hlt_ := cnt_lt (n := 200) h14 rfl (by omega) (by decide); omega) E
  refine V.pick [2, 1, 0] rfl ?_
  exact hJ9 _ a b 0 (by omega) (by omega) E
def f_X6_withoutTwos_36 (y2_5 : Int64)  : Int64 := y2_5
def f_X6_withoutTwos_5  : Nat → Int64 → Nat → Int64
  | 0, _, _ => 0
  | n_ + 1, y2_5, j5 => if 64 ≤ (nI j5) then f_X6_withoutTwos_36 y2_5 else if y2_5 = 0 then f_X6_withoutTwos_36 y2_5 else if (y2_5 &&& 1) = 0 then (f_X6_withoutTwos_5 n_) (jushr y2_5 1) (j5 + 1) else f_X6_withoutTwos_36 y2_5
def f_X6_withoutTwos (a : Int64) : Int64 := f_X6_withoutTwos_5  65 a 0
abbrev p_X6_withoutTwos (M : Mem) (a : Int64) : Option Value → Mem → Prop := fun r N => r = some (.long (f_X6_withoutTwos a)) ∧ N = M
set_option maxRecDepth 100000 in
set_option maxHeartbeats 4000000 in
theorem c_X6_withoutTwos (G : Ctx) (l : Launch) (M : Mem) (a : Int64)  : CT G l 0 mX6_withoutTwos [.long a] M 0 0 (p_X6_withoutTwos M a) := by
  refine CT.of (by decide) (Nat.le_of_ble_eq_true rfl) ?_
  intro X d hd hl hRm hnm F
  subst hl
  have E : f_X6_withoutTwos a = f_X6_withoutTwos a := rfl
  show V G X 5 0 0 (Qx G X 0 0 (p_X6_withoutTwos M a)) 0 [(0, .long a)] [] M
  refine V.seg F floX6 cjoX6 [.lload_n 0, .lstore_n 2, .iconst 0] (by decide +kernel) (pc2 := 3) (lv2 := [(2, .long a), (0, .long a)]) (st2 := [.int 0]) (M2 := M) rfl ⟨trivial, (by decide), trivial, trivial⟩ ?_
  refine V.seg F floX6 cjoX6 [.istore 4] (by decide +kernel) (pc2 := 5) (lv2 := [(4, .int 0), (2, .long a), (0, .long a)]) (st2 := []) (M2 := M) rfl ⟨(by decide), trivial⟩ ?_
  have hJ5 : ∀ (n_ : Nat) (y2_5 : Int64) (j5 : Nat), (j5 ≤ 64) → (64 - j5 < n_) → f_X6_withoutTwos a = f_X6_withoutTwos_5 n_ y2_5 j5 → V G X 5 0 0 (Qx G X 0 0 (p_X6_withoutTwos M a)) 5 [(2, .long y2_5), (4, .int (nI j5))] [] M := by
    intro n_
    induction n_ with
    | zero => intro y2_5 j5 b5 m5 E; omega
    | succ n_ ih_5 =>
      intro y2_5 j5 b5 m5 E
      rw [f_X6_withoutTwos_5] at E
      refine V.seg F floX6 cjoX6 [.iload 4, .bipush 64] (by decide +kernel) (pc2 := 9) (lv2 := [(2, .long y2_5), (4, .int (nI j5))]) (st2 := [.int 64, .int (nI j5)]) (M2 := M) rfl ⟨trivial, trivial, trivial⟩ ?_
      have hJ36 : f_X6_withoutTwos a = f_X6_withoutTwos_36 y2_5 → V G X 5 0 0 (Qx G X 0 0 (p_X6_withoutTwos M a)) 36 [(2, .long y2_5)] [] M := by
        intro E
        refine V.seg F floX6 cjoX6 [.lload_n 2] (by decide +kernel) (pc2 := 37) (lv2 := [(2, .long y2_5)]) (st2 := [.long y2_5]) (M2 := M) rfl ⟨trivial, trivial⟩ ?_
        exact V.lret F (by decide +kernel) ⟨congrArg (fun z => some (Value.long z)) E.symm, rfl⟩
      refine V.ic_ge (off := 27) F (by decide +kernel) (tgt := 36) (by decide) (fun h9 => ?_) (fun h9 => ?_)
      · replace E := E.trans (if_pos h9)
        refine V.pick [0] rfl ?_
        exact hJ36   E
      · replace E := E.trans (if_neg h9)
        refine V.seg F floX6 cjoX6 [.lload_n 2, .lconst 0, .lcmp] (by decide +kernel) (pc2 := 15) (lv2 := [(2, .long y2_5), (4, .int (nI j5))]) (st2 := [.int (lg_cmp y2_5 0)]) (M2 := M) rfl ⟨trivial, trivial, trivial, trivial⟩ ?_
        refine V.lc_eq (off := 21) F (by decide +kernel) (tgt := 36) (by decide) (fun h15 => ?_) (fun h15 => ?_)
        · replace E := E.trans (if_pos h15)
          refine V.pick [0] rfl ?_
          exact hJ36   E
        · replace E := E.trans (if_neg h15)
          refine V.seg F floX6 cjoX6 [.lload_n 2, .lconst 1, .land, .lconst 0, .lcmp] (by decide +kernel) (pc2 := 23) (lv2 := [(2, .long y2_5), (4, .int (nI j5))]) (st2 := [.int (lg_cmp (y2_5 &&& 1) 0)]) (M2 := M) rfl ⟨trivial, trivial, trivial, trivial, trivial, trivial⟩ ?_
          refine V.lc_ne (off := 13) F (by decide +kernel) (tgt := 36) (by decide) (fun h23 => ?_) (fun h23 => ?_)
          · replace E := E.trans (if_neg h23)
            refine V.pick [0] rfl ?_
            exact hJ36   E
          · replace E := E.trans (if_pos h23)
            refine V.seg F floX6 cjoX6 [.lload_n 2, .iconst 1, .lushr, .lstore_n 2, .iinc 4 1, .goto (-28)] (by decide +kernel) (pc2 := 5) (lv2 := [(4, .int ((nI j5) + 1)), (2, .long (jushr y2_5 1))]) (st2 := []) (M2 := M) rfl ⟨trivial, trivial, trivial, (by decide), (by decide), (by decide), trivial⟩ ?_
            refine V.pick [1, 0] rfl ?_
            rw [nI_1]
            exact ih_5 (jushr y2_5 1) (j5 + 1) (by have hlt_ := cnt_lt (n := 64) h9 rfl (by omega) (by decide); omega) (by have hlt_ := cnt_lt (n := 64) h9 rfl (by omega) (by decide); omega) E
  refine V.pick [1, 0] rfl ?_
  exact hJ5 _ a 0 (by omega) (by omega) E
def f_X6_oddPart_24  (w0_24 : Int64) : Int64 := w0_24
def f_X6_oddPart_19   : Int64 := f_X6_oddPart_24 1
def f_X6_oddPart (a : Int64) : Int64 := if (f_X6_withoutTwos a) ≤ 0 then f_X6_oddPart_19  else if (f_X6_withoutTwos a) ≤ 2147483647 then f_X6_oddPart_24 (f_X6_withoutTwos a) else f_X6_oddPart_19 
abbrev p_X6_oddPart (M : Mem) (a : Int64) : Option Value → Mem → Prop := fun r N => r = some (.long (f_X6_oddPart a)) ∧ N = M
set_option maxRecDepth 100000 in
set_option maxHeartbeats 4000000 in
theorem c_X6_oddPart (G : Ctx) (l : Launch) (M : Mem) (a : Int64)  : CT G l 1 mX6_oddPart [.long a] M 0 0 (p_X6_oddPart M a) := by
  refine CT.of (by decide) (Nat.le_of_ble_eq_true rfl) ?_
  intro X d hd hl hRm hnm F
  subst hl
  have E : f_X6_oddPart a = f_X6_oddPart a := rfl
  show V G X 4 0 0 (Qx G X 0 0 (p_X6_oddPart M a)) 0 [(0, .long a)] [] M
  refine V.seg F floX6 cjoX6 [.lload_n 0] (by decide +kernel) (pc2 := 1) (lv2 := [(0, .long a)]) (st2 := [.long a]) (M2 := M) rfl ⟨trivial, trivial⟩ ?_
  refine V.callS (as := [.long a]) (rest := []) F (by decide +kernel) lX6_219 bX6_withoutTwos (c_X6_withoutTwos G X.2.1 M a) (rm_ok hRm hd (by decide) (by decide)) ⟨Nat.zero_le _, Nat.zero_le _⟩ (Nat.le_of_ble_eq_true rfl) (fun r_ N_ p_ => ?_)
  obtain ⟨rfl, hN_⟩ := p_
  rw [hN_]
  clear hN_
  refine V.seg F floX6 cjoX6 [.lstore_n 2, .lload_n 2, .lconst 0, .lcmp] (by decide +kernel) (pc2 := 8) (lv2 := [(2, .long (f_X6_withoutTwos a)), (0, .long a)]) (st2 := [.int (lg_cmp (f_X6_withoutTwos a) 0)]) (M2 := M) rfl ⟨(by decide), trivial, trivial, trivial, trivial⟩ ?_
  have hJ24 : ∀ (w0_24 : Int64), f_X6_oddPart a = f_X6_oddPart_24 w0_24 → V G X 4 0 0 (Qx G X 0 0 (p_X6_oddPart M a)) 24 [] [.long w0_24] M := by
    intro w0_24 E
    exact V.lret F (by decide +kernel) ⟨congrArg (fun z => some (Value.long z)) E.symm, rfl⟩
  have hJ19 : f_X6_oddPart a = f_X6_oddPart_19 → V G X 4 0 0 (Qx G X 0 0 (p_X6_oddPart M a)) 19 [] [] M := by
    intro E
    refine V.seg F floX6 cjoX6 [.lconst 1, .goto 4] (by decide +kernel) (pc2 := 24) (lv2 := []) (st2 := [.long 1]) (M2 := M) rfl ⟨trivial, (by decide), trivial⟩ ?_
    refine V.pick [] rfl ?_
    exact hJ24 1  E
  refine V.lc_le (off := 11) F (by decide +kernel) (tgt := 19) (by decide) (fun h8 => ?_) (fun h8 => ?_)
  · replace E := E.trans (if_pos h8)
    refine V.pick [] rfl ?_
    exact hJ19   E
  · replace E := E.trans (if_neg h8)
    refine V.seg F floX6 cjoX6 [.lload_n 2, .ldc2_w 223, .lcmp] (by decide +kernel) (pc2 := 16) (lv2 := [(2, .long (f_X6_withoutTwos a)), (0, .long a)]) (st2 := [.int (lg_cmp (f_X6_withoutTwos a) 2147483647)]) (M2 := M) rfl ⟨trivial, trivial, trivial, trivial⟩ ?_
    refine V.lc_le (off := 7) F (by decide +kernel) (tgt := 23) (by decide) (fun h16 => ?_) (fun h16 => ?_)
    · replace E := E.trans (if_pos h16)
      refine V.seg F floX6 cjoX6 [.lload_n 2] (by decide +kernel) (pc2 := 24) (lv2 := [(2, .long (f_X6_withoutTwos a)), (0, .long a)]) (st2 := [.long (f_X6_withoutTwos a)]) (M2 := M) rfl ⟨trivial, trivial⟩ ?_
      refine V.pick [] rfl ?_
      exact hJ24 (f_X6_withoutTwos a)  E
    · replace E := E.trans (if_neg h16)
      refine V.pick [] rfl ?_
      exact hJ19   E
def f_X6_leastWithBits_150 (a : Int64) (b : Int64) (c : Int64) (y14_150 : Int64) : Int64 := ((((a ^^^ ((-9223372036854775808))) &&& ((y14_150 - 1) ^^^ ((-1)))) ||| y14_150) ||| ((c ^^^ (b &&& ((-9223372036854775808)))) &&& (y14_150 - 1))) ^^^ ((-9223372036854775808))
def f_X6_leastWithBits_c131 (a : Int64) (b : Int64) (c : Int64) (x131 : Int64) : Int64 := if (x131 &&& (-x131)) = 0 then (-9223372036854775808) else f_X6_leastWithBits_150 a b c (x131 &&& (-x131))
def f_X6_leastWithBits_c91 (a : Int64) (b : Int64) (c : Int64) (x91 : Int64) : Int64 := if ((c ^^^ (b &&& ((-9223372036854775808)))) &&& (x91 ^^^ (jushr x91 1))) = 0 then f_X6_leastWithBits_c131 a b c ((((a ^^^ ((-9223372036854775808))) ^^^ ((-1))) &&& (b ^^^ ((-1)))) &&& (x91 ^^^ ((-1)))) else f_X6_leastWithBits_150 a b c (x91 ^^^ (jushr x91 1))
def f_X6_leastWithBits_c71 (a : Int64) (b : Int64) (c : Int64) (x71 : Int64) : Int64 := f_X6_leastWithBits_c91 a b c ((x71 ||| (jushr x71 16)) ||| (jushr (x71 ||| (jushr x71 16)) 32))
def f_X6_leastWithBits_c52 (a : Int64) (b : Int64) (c : Int64) (x52 : Int64) : Int64 := f_X6_leastWithBits_c71 a b c ((x52 ||| (jushr x52 4)) ||| (jushr (x52 ||| (jushr x52 4)) 8))
def f_X6_leastWithBits (a : Int64) (b : Int64) (c : Int64) : Int64 := if ((a ^^^ c) &&& b) = 0 then a else f_X6_leastWithBits_c52 a b c ((((a ^^^ c) &&& b) ||| (jushr ((a ^^^ c) &&& b) 1)) ||| (jushr (((a ^^^ c) &&& b) ||| (jushr ((a ^^^ c) &&& b) 1)) 2))
abbrev p_X6_leastWithBits (M : Mem) (a : Int64) (b : Int64) (c : Int64) : Option Value → Mem → Prop := fun r N => r = some (.long (f_X6_leastWithBits a b c)) ∧ N = M
set_option maxRecDepth 100000 in
set_option maxHeartbeats 4000000 in
theorem c_X6_leastWithBits (G : Ctx) (l : Launch) (M : Mem) (a : Int64) (b : Int64) (c : Int64)  : CT G l 0 mX6_leastWithBits [.long a, .long b, .long c] M 0 0 (p_X6_leastWithBits M a b c) := by
  refine CT.of (by decide) (Nat.le_of_ble_eq_true rfl) ?_
  intro X d hd hl hRm hnm F
  subst hl
  have E : f_X6_leastWithBits a b c = f_X6_leastWithBits a b c := rfl
  show V G X 18 0 0 (Qx G X 0 0 (p_X6_leastWithBits M a b c)) 0 [(0, .long a), (2, .long b), (4, .long c)] [] M
  refine V.seg F floX6 cjoX6 [.lload_n 0, .lload 4, .lxor, .lload_n 2, .land, .lstore 6, .lload 6, .lconst 0, .lcmp] (by decide +kernel) (pc2 := 12) (lv2 := [(6, .long ((a ^^^ c) &&& b)), (0, .long a), (2, .long b), (4, .long c)]) (st2 := [.int (lg_cmp ((a ^^^ c) &&& b) 0)]) (M2 := M) rfl ⟨trivial, trivial, trivial, trivial, trivial, (by decide), trivial, trivial, trivial, trivial⟩ ?_
  refine V.lc_ne (off := 5) F (by decide +kernel) (tgt := 17) (by decide) (fun h12 => ?_) (fun h12 => ?_)
  · replace E := E.trans (if_neg h12)
    refine V.seg F floX6 cjoX6 [.lload_n 0, .ldc2_w 225, .lxor, .lstore 8, .lload 4, .lload_n 2, .ldc2_w 225, .land, .lxor, .lstore 10, .lload 6, .lload 6, .iconst 1, .lushr, .lor, .lstore 12, .lload 12, .lload 12, .iconst 2, .lushr, .lor, .lstore 12] (by decide +kernel) (pc2 := 52) (lv2 := [(12, .long ((((a ^^^ c) &&& b) ||| (jushr ((a ^^^ c) &&& b) 1)) ||| (jushr (((a ^^^ c) &&& b) ||| (jushr ((a ^^^ c) &&& b) 1)) 2))), (10, .long (c ^^^ (b &&& ((-9223372036854775808))))), (8, .long (a ^^^ ((-9223372036854775808)))), (6, .long ((a ^^^ c) &&& b)), (0, .long a), (2, .long b), (4, .long c)]) (st2 := []) (M2 := M) rfl ⟨trivial, trivial, trivial, (by decide), trivial, trivial, trivial, trivial, trivial, (by decide), trivial, trivial, trivial, trivial, trivial, (by decide), trivial, trivial, trivial, trivial, trivial, (by decide), trivial⟩ ?_
    refine (?_ : ∀ (x52 : Int64), f_X6_leastWithBits a b c = f_X6_leastWithBits_c52 a b c x52 → V G X 18 0 0 (Qx G X 0 0 (p_X6_leastWithBits M a b c)) 52 [(12, .long x52), (10, .long (c ^^^ (b &&& ((-9223372036854775808))))), (8, .long (a ^^^ ((-9223372036854775808)))), (6, .long ((a ^^^ c) &&& b)), (0, .long a), (2, .long b), (4, .long c)] [] M) _  E
    intro x52 E
    refine V.seg F floX6 cjoX6 [.lload 12, .lload 12, .iconst 4, .lushr, .lor, .lstore 12, .lload 12, .lload 12, .bipush 8, .lushr, .lor, .lstore 12] (by decide +kernel) (pc2 := 71) (lv2 := [(12, .long ((x52 ||| (jushr x52 4)) ||| (jushr (x52 ||| (jushr x52 4)) 8))), (10, .long (c ^^^ (b &&& ((-9223372036854775808))))), (8, .long (a ^^^ ((-9223372036854775808)))), (6, .long ((a ^^^ c) &&& b)), (0, .long a), (2, .long b), (4, .long c)]) (st2 := []) (M2 := M) rfl ⟨trivial, trivial, trivial, trivial, trivial, (by decide), trivial, trivial, trivial, trivial, trivial, (by decide), trivial⟩ ?_
    refine (?_ : ∀ (x71 : Int64), f_X6_leastWithBits a b c = f_X6_leastWithBits_c71 a b c x71 → V G X 18 0 0 (Qx G X 0 0 (p_X6_leastWithBits M a b c)) 71 [(12, .long x71), (10, .long (c ^^^ (b &&& ((-9223372036854775808))))), (8, .long (a ^^^ ((-9223372036854775808)))), (6, .long ((a ^^^ c) &&& b)), (0, .long a), (2, .long b), (4, .long c)] [] M) _  E
    intro x71 E
    refine V.seg F floX6 cjoX6 [.lload 12, .lload 12, .bipush 16, .lushr, .lor, .lstore 12, .lload 12, .lload 12, .bipush 32, .lushr, .lor, .lstore 12] (by decide +kernel) (pc2 := 91) (lv2 := [(12, .long ((x71 ||| (jushr x71 16)) ||| (jushr (x71 ||| (jushr x71 16)) 32))), (10, .long (c ^^^ (b &&& ((-9223372036854775808))))), (8, .long (a ^^^ ((-9223372036854775808)))), (6, .long ((a ^^^ c) &&& b)), (0, .long a), (2, .long b), (4, .long c)]) (st2 := []) (M2 := M) rfl ⟨trivial, trivial, trivial, trivial, trivial, (by decide), trivial, trivial, trivial, trivial, trivial, (by decide), trivial⟩ ?_
    refine (?_ : ∀ (x91 : Int64), f_X6_leastWithBits a b c = f_X6_leastWithBits_c91 a b c x91 → V G X 18 0 0 (Qx G X 0 0 (p_X6_leastWithBits M a b c)) 91 [(12, .long x91), (10, .long (c ^^^ (b &&& ((-9223372036854775808))))), (8, .long (a ^^^ ((-9223372036854775808)))), (6, .long ((a ^^^ c) &&& b)), (0, .long a), (2, .long b), (4, .long c)] [] M) _  E
    intro x91 E
    refine V.seg F floX6 cjoX6 [.lload 12, .lload 12, .iconst 1, .lushr, .lxor, .lstore 14, .lload 10, .lload 14, .land, .lconst 0, .lcmp] (by decide +kernel) (pc2 := 107) (lv2 := [(14, .long (x91 ^^^ (jushr x91 1))), (12, .long x91), (10, .long (c ^^^ (b &&& ((-9223372036854775808))))), (8, .long (a ^^^ ((-9223372036854775808)))), (6, .long ((a ^^^ c) &&& b)), (0, .long a), (2, .long b), (4, .long c)]) (st2 := [.int (lg_cmp ((c ^^^ (b &&& ((-9223372036854775808)))) &&& (x91 ^^^ (jushr x91 1))) 0)]) (M2 := M) rfl ⟨trivial, trivial, trivial, trivial, trivial, (by decide), trivial, trivial, trivial, trivial, trivial, trivial⟩ ?_
    have hJ150 : ∀ (y14_150 : Int64), f_X6_leastWithBits a b c = f_X6_leastWithBits_150 a b c y14_150 → V G X 18 0 0 (Qx G X 0 0 (p_X6_leastWithBits M a b c)) 150 [(8, .long (a ^^^ ((-9223372036854775808)))), (10, .long (c ^^^ (b &&& ((-9223372036854775808))))), (14, .long y14_150)] [] M := by
      intro y14_150 E
      refine V.seg F floX6 cjoX6 [.lload 14, .lconst 1, .lsub, .lstore 16, .lload 8, .lload 16, .ldc2_w 227, .lxor, .land, .lload 14, .lor, .lload 10, .lload 16, .land, .lor, .ldc2_w 225, .lxor] (by decide +kernel) (pc2 := 178) (lv2 := [(16, .long (y14_150 - 1)), (8, .long (a ^^^ ((-9223372036854775808)))), (10, .long (c ^^^ (b &&& ((-9223372036854775808))))), (14, .long y14_150)]) (st2 := [.long (((((a ^^^ ((-9223372036854775808))) &&& ((y14_150 - 1) ^^^ ((-1)))) ||| y14_150) ||| ((c ^^^ (b &&& ((-9223372036854775808)))) &&& (y14_150 - 1))) ^^^ ((-9223372036854775808)))]) (M2 := M) rfl ⟨trivial, trivial, trivial, (by decide), trivial, trivial, trivial, trivial, trivial, trivial, trivial, trivial, trivial, trivial, trivial, trivial, trivial, trivial⟩ ?_
      exact V.lret F (by decide +kernel) ⟨congrArg (fun z => some (Value.long z)) E.symm, rfl⟩
    refine V.lc_ne (off := 43) F (by decide +kernel) (tgt := 150) (by decide) (fun h107 => ?_) (fun h107 => ?_)
    · replace E := E.trans (if_neg h107)
      refine V.pick [3, 2, 0] rfl ?_
      exact hJ150 (x91 ^^^ (jushr x91 1))  E
    · replace E := E.trans (if_pos h107)
      refine V.seg F floX6 cjoX6 [.lload 8, .ldc2_w 227, .lxor, .lload_n 2, .ldc2_w 227, .lxor, .land, .lload 12, .ldc2_w 227, .lxor, .land, .lstore 16] (by decide +kernel) (pc2 := 131) (lv2 := [(16, .long ((((a ^^^ ((-9223372036854775808))) ^^^ ((-1))) &&& (b ^^^ ((-1)))) &&& (x91 ^^^ ((-1))))), (14, .long (x91 ^^^ (jushr x91 1))), (12, .long x91), (10, .long (c ^^^ (b &&& ((-9223372036854775808))))), (8, .long (a ^^^ ((-9223372036854775808)))), (6, .long ((a ^^^ c) &&& b)), (0, .long a), (2, .long b), (4, .long c)]) (st2 := []) (M2 := M) rfl ⟨trivial, trivial, trivial, trivial, trivial, trivial, trivial, trivial, trivial, trivial, trivial, (by decide), trivial⟩ ?_
      refine (?_ : ∀ (x131 : Int64), f_X6_leastWithBits a b c = f_X6_leastWithBits_c131 a b c x131 → V G X 18 0 0 (Qx G X 0 0 (p_X6_leastWithBits M a b c)) 131 [(16, .long x131), (14, .long (x91 ^^^ (jushr x91 1))), (12, .long x91), (10, .long (c ^^^ (b &&& ((-9223372036854775808))))), (8, .long (a ^^^ ((-9223372036854775808)))), (6, .long ((a ^^^ c) &&& b)), (0, .long a), (2, .long b), (4, .long c)] [] M) _  E
      intro x131 E
      refine V.seg F floX6 cjoX6 [.lload 16, .lload 16, .lneg, .land, .lstore 14, .lload 14, .lconst 0, .lcmp] (by decide +kernel) (pc2 := 143) (lv2 := [(14, .long (x131 &&& (-x131))), (16, .long x131), (12, .long x91), (10, .long (c ^^^ (b &&& ((-9223372036854775808))))), (8, .long (a ^^^ ((-9223372036854775808)))), (6, .long ((a ^^^ c) &&& b)), (0, .long a), (2, .long b), (4, .long c)]) (st2 := [.int (lg_cmp (x131 &&& (-x131)) 0)]) (M2 := M) rfl ⟨trivial, trivial, trivial, trivial, (by decide), trivial, trivial, trivial, trivial⟩ ?_
      refine V.lc_ne (off := 7) F (by decide +kernel) (tgt := 150) (by decide) (fun h143 => ?_) (fun h143 => ?_)
      · replace E := E.trans (if_neg h143)
        refine V.pick [4, 3, 0] rfl ?_
        exact hJ150 (x131 &&& (-x131))  E
      · replace E := E.trans (if_pos h143)
        refine V.seg F floX6 cjoX6 [.ldc2_w 225] (by decide +kernel) (pc2 := 149) (lv2 := [(14, .long (x131 &&& (-x131))), (16, .long x131), (12, .long x91), (10, .long (c ^^^ (b &&& ((-9223372036854775808))))), (8, .long (a ^^^ ((-9223372036854775808)))), (6, .long ((a ^^^ c) &&& b)), (0, .long a), (2, .long b), (4, .long c)]) (st2 := [.long ((-9223372036854775808))]) (M2 := M) rfl ⟨trivial, trivial⟩ ?_
        exact V.lret F (by decide +kernel) ⟨congrArg (fun z => some (Value.long z)) E.symm, rfl⟩
  · replace E := E.trans (if_pos h12)
    refine V.seg F floX6 cjoX6 [.lload_n 0] (by decide +kernel) (pc2 := 16) (lv2 := [(6, .long ((a ^^^ c) &&& b)), (0, .long a), (2, .long b), (4, .long c)]) (st2 := [.long a]) (M2 := M) rfl ⟨trivial, trivial⟩ ?_
    exact V.lret F (by decide +kernel) ⟨congrArg (fun z => some (Value.long z)) E.symm, rfl⟩
def f_X6_productWraps_12   : Int32 := 0
def f_X6_productWraps_45  (w0_45 : Int32) : Int32 := w0_45
def f_X6_productWraps_40   : Int32 := f_X6_productWraps_45 1
def f_X6_productWraps_30 (a : Int64) (b : Int64)  : Int32 := if ((a * b) / b) = a then f_X6_productWraps_45 0 else f_X6_productWraps_40 
def f_X6_productWraps (a : Int64) (b : Int64) : Int32 := if a = 0 then f_X6_productWraps_12  else if b = 0 then f_X6_productWraps_12  else if a = ((-9223372036854775808)) then if b = ((-1)) then f_X6_productWraps_40  else f_X6_productWraps_30 a b else f_X6_productWraps_30 a b
abbrev p_X6_productWraps (M : Mem) (a : Int64) (b : Int64) : Option Value → Mem → Prop := fun r N => r = some (.int (f_X6_productWraps a b)) ∧ N = M ∧ ((f_X6_productWraps a b) = 0 ∨ (f_X6_productWraps a b) = 1)
set_option maxRecDepth 100000 in
set_option maxHeartbeats 4000000 in
theorem c_X6_productWraps (G : Ctx) (l : Launch) (M : Mem) (a : Int64) (b : Int64)  : CT G l 0 mX6_productWraps [.long a, .long b] M 0 0 (p_X6_productWraps M a b) := by
  refine CT.of (by decide) (Nat.le_of_ble_eq_true rfl) ?_
  intro X d hd hl hRm hnm F
  subst hl
  have E : f_X6_productWraps a b = f_X6_productWraps a b := rfl
  show V G X 4 0 0 (Qx G X 0 0 (p_X6_productWraps M a b)) 0 [(0, .long a), (2, .long b)] [] M
  refine V.seg F floX6 cjoX6 [.lload_n 0, .lconst 0, .lcmp] (by decide +kernel) (pc2 := 3) (lv2 := [(0, .long a), (2, .long b)]) (st2 := [.int (lg_cmp a 0)]) (M2 := M) rfl ⟨trivial, trivial, trivial, trivial⟩ ?_
  have hJ12 : f_X6_productWraps a b = f_X6_productWraps_12 → V G X 4 0 0 (Qx G X 0 0 (p_X6_productWraps M a b)) 12 [] [] M := by
    intro E
    refine V.seg F floX6 cjoX6 [.iconst 0] (by decide +kernel) (pc2 := 13) (lv2 := []) (st2 := [.int 0]) (M2 := M) rfl ⟨trivial, trivial⟩ ?_
    exact V.zret F (Or.inl rfl) (by decide +kernel) ⟨congrArg (fun z => some (Value.int z)) E.symm, rfl, by rw [E]; exact Or.inl rfl⟩
  refine V.lc_eq (off := 9) F (by decide +kernel) (tgt := 12) (by decide) (fun h3 => ?_) (fun h3 => ?_)
  · replace E := E.trans (if_pos h3)
    refine V.pick [] rfl ?_
    exact hJ12   E
  · replace E := E.trans (if_neg h3)
    refine V.seg F floX6 cjoX6 [.lload_n 2, .lconst 0, .lcmp] (by decide +kernel) (pc2 := 9) (lv2 := [(0, .long a), (2, .long b)]) (st2 := [.int (lg_cmp b 0)]) (M2 := M) rfl ⟨trivial, trivial, trivial, trivial⟩ ?_
    refine V.lc_ne (off := 5) F (by decide +kernel) (tgt := 14) (by decide) (fun h9 => ?_) (fun h9 => ?_)
    · replace E := E.trans (if_neg h9)
      refine V.seg F floX6 cjoX6 [.lload_n 0, .ldc2_w 225, .lcmp] (by decide +kernel) (pc2 := 19) (lv2 := [(0, .long a), (2, .long b)]) (st2 := [.int (lg_cmp a ((-9223372036854775808)))]) (M2 := M) rfl ⟨trivial, trivial, trivial, trivial⟩ ?_
      have hJ45 : ∀ (w0_45 : Int32), (w0_45 = 0 ∨ w0_45 = 1) → f_X6_productWraps a b = f_X6_productWraps_45 w0_45 → V G X 4 0 0 (Qx G X 0 0 (p_X6_productWraps M a b)) 45 [] [.int w0_45] M := by
        intro w0_45 zw0_45 E
        exact V.zret F (zw0_45) (by decide +kernel) ⟨congrArg (fun z => some (Value.int z)) E.symm, rfl, by rw [E]; exact zw0_45⟩
      have hJ40 : f_X6_productWraps a b = f_X6_productWraps_40 → V G X 4 0 0 (Qx G X 0 0 (p_X6_productWraps M a b)) 40 [] [] M := by
        intro E
        refine V.seg F floX6 cjoX6 [.iconst 1, .goto 4] (by decide +kernel) (pc2 := 45) (lv2 := []) (st2 := [.int 1]) (M2 := M) rfl ⟨trivial, (by decide), trivial⟩ ?_
        refine V.pick [] rfl ?_
        exact hJ45 1 (Or.inr rfl) E
      have hJ30 : f_X6_productWraps a b = f_X6_productWraps_30 a b → V G X 4 0 0 (Qx G X 0 0 (p_X6_productWraps M a b)) 30 [(0, .long a), (2, .long b)] [] M := by
        intro E
        refine V.seg F floX6 cjoX6 [.lload_n 0, .lload_n 2, .lmul, .lload_n 2, .ldiv, .lload_n 0, .lcmp] (by decide +kernel) (pc2 := 37) (lv2 := [(0, .long a), (2, .long b)]) (st2 := [.int (lg_cmp ((a * b) / b) a)]) (M2 := M) rfl ⟨trivial, trivial, trivial, trivial, (by assumption), trivial, trivial, trivial⟩ ?_
        refine V.lc_eq (off := 7) F (by decide +kernel) (tgt := 44) (by decide) (fun h37 => ?_) (fun h37 => ?_)
        · replace E := E.trans (if_pos h37)
          refine V.seg F floX6 cjoX6 [.iconst 0] (by decide +kernel) (pc2 := 45) (lv2 := [(0, .long a), (2, .long b)]) (st2 := [.int 0]) (M2 := M) rfl ⟨trivial, trivial⟩ ?_
          refine V.pick [] rfl ?_
          exact hJ45 0 (Or.inl rfl) E
        · replace E := E.trans (if_neg h37)
          refine V.pick [] rfl ?_
          exact hJ40   E
      refine V.lc_ne (off := 11) F (by decide +kernel) (tgt := 30) (by decide) (fun h19 => ?_) (fun h19 => ?_)
      · replace E := E.trans (if_neg h19)
        refine V.pick [0, 1] rfl ?_
        exact hJ30   E
      · replace E := E.trans (if_pos h19)
        refine V.seg F floX6 cjoX6 [.lload_n 2, .ldc2_w 227, .lcmp] (by decide +kernel) (pc2 := 27) (lv2 := [(0, .long a), (2, .long b)]) (st2 := [.int (lg_cmp b ((-1)))]) (M2 := M) rfl ⟨trivial, trivial, trivial, trivial⟩ ?_
        refine V.lc_eq (off := 13) F (by decide +kernel) (tgt := 40) (by decide) (fun h27 => ?_) (fun h27 => ?_)
        · replace E := E.trans (if_pos h27)
          refine V.pick [] rfl ?_
          exact hJ40   E
        · replace E := E.trans (if_neg h27)
          refine V.pick [0, 1] rfl ?_
          exact hJ30   E
    · replace E := E.trans (if_pos h9)
      refine V.pick [] rfl ?_
      exact hJ12   E
def f_X6_sumWraps_21  (w0_21 : Int32) : Int32 := w0_21
def f_X6_sumWraps (a : Int64) (b : Int64) : Int32 := if 0 ≤ ((a ^^^ (a + b)) &&& (b ^^^ (a + b))) then f_X6_sumWraps_21 0 else f_X6_sumWraps_21 1
abbrev p_X6_sumWraps (M : Mem) (a : Int64) (b : Int64) : Option Value → Mem → Prop := fun r N => r = some (.int (f_X6_sumWraps a b)) ∧ N = M ∧ ((f_X6_sumWraps a b) = 0 ∨ (f_X6_sumWraps a b) = 1)
set_option maxRecDepth 100000 in
set_option maxHeartbeats 4000000 in
theorem c_X6_sumWraps (G : Ctx) (l : Launch) (M : Mem) (a : Int64) (b : Int64)  : CT G l 0 mX6_sumWraps [.long a, .long b] M 0 0 (p_X6_sumWraps M a b) := by
  refine CT.of (by decide) (Nat.le_of_ble_eq_true rfl) ?_
  intro X d hd hl hRm hnm F
  subst hl
  have E : f_X6_sumWraps a b = f_X6_sumWraps a b := rfl
  show V G X 4 0 0 (Qx G X 0 0 (p_X6_sumWraps M a b)) 0 [(0, .long a), (2, .long b)] [] M
  refine V.seg F floX6 cjoX6 [.lload_n 0, .lload_n 0, .lload_n 2, .ladd, .lxor, .lload_n 2, .lload_n 0, .lload_n 2, .ladd, .lxor, .land, .lconst 0, .lcmp] (by decide +kernel) (pc2 := 13) (lv2 := [(0, .long a), (2, .long b)]) (st2 := [.int (lg_cmp ((a ^^^ (a + b)) &&& (b ^^^ (a + b))) 0)]) (M2 := M) rfl ⟨trivial, trivial, trivial, trivial, trivial, trivial, trivial, trivial, trivial, trivial, trivial, trivial, trivial, trivial⟩ ?_
  have hJ21 : ∀ (w0_21 : Int32), (w0_21 = 0 ∨ w0_21 = 1) → f_X6_sumWraps a b = f_X6_sumWraps_21 w0_21 → V G X 4 0 0 (Qx G X 0 0 (p_X6_sumWraps M a b)) 21 [] [.int w0_21] M := by
    intro w0_21 zw0_21 E
    exact V.zret F (zw0_21) (by decide +kernel) ⟨congrArg (fun z => some (Value.int z)) E.symm, rfl, by rw [E]; exact zw0_21⟩
  refine V.lc_ge (off := 7) F (by decide +kernel) (tgt := 20) (by decide) (fun h13 => ?_) (fun h13 => ?_)
  · replace E := E.trans (if_pos h13)
    refine V.seg F floX6 cjoX6 [.iconst 0] (by decide +kernel) (pc2 := 21) (lv2 := [(0, .long a), (2, .long b)]) (st2 := [.int 0]) (M2 := M) rfl ⟨trivial, trivial⟩ ?_
    refine V.pick [] rfl ?_
    exact hJ21 0 (Or.inl rfl) E
  · replace E := E.trans (if_neg h13)
    refine V.seg F floX6 cjoX6 [.iconst 1, .goto 4] (by decide +kernel) (pc2 := 21) (lv2 := [(0, .long a), (2, .long b)]) (st2 := [.int 1]) (M2 := M) rfl ⟨trivial, (by decide), trivial⟩ ?_
    refine V.pick [] rfl ?_
    exact hJ21 1 (Or.inr rfl) E
def f_X6_differenceWraps_19  (w0_19 : Int32) : Int32 := w0_19
def f_X6_differenceWraps (a : Int64) (b : Int64) : Int32 := if 0 ≤ ((a ^^^ b) &&& (a ^^^ (a - b))) then f_X6_differenceWraps_19 0 else f_X6_differenceWraps_19 1
abbrev p_X6_differenceWraps (M : Mem) (a : Int64) (b : Int64) : Option Value → Mem → Prop := fun r N => r = some (.int (f_X6_differenceWraps a b)) ∧ N = M ∧ ((f_X6_differenceWraps a b) = 0 ∨ (f_X6_differenceWraps a b) = 1)
set_option maxRecDepth 100000 in
set_option maxHeartbeats 4000000 in
theorem c_X6_differenceWraps (G : Ctx) (l : Launch) (M : Mem) (a : Int64) (b : Int64)  : CT G l 0 mX6_differenceWraps [.long a, .long b] M 0 0 (p_X6_differenceWraps M a b) := by
  refine CT.of (by decide) (Nat.le_of_ble_eq_true rfl) ?_
  intro X d hd hl hRm hnm F
  subst hl
  have E : f_X6_differenceWraps a b = f_X6_differenceWraps a b := rfl
  show V G X 4 0 0 (Qx G X 0 0 (p_X6_differenceWraps M a b)) 0 [(0, .long a), (2, .long b)] [] M
  refine V.seg F floX6 cjoX6 [.lload_n 0, .lload_n 2, .lxor, .lload_n 0, .lload_n 0, .lload_n 2, .lsub, .lxor, .land, .lconst 0, .lcmp] (by decide +kernel) (pc2 := 11) (lv2 := [(0, .long a), (2, .long b)]) (st2 := [.int (lg_cmp ((a ^^^ b) &&& (a ^^^ (a - b))) 0)]) (M2 := M) rfl ⟨trivial, trivial, trivial, trivial, trivial, trivial, trivial, trivial, trivial, trivial, trivial, trivial⟩ ?_
  have hJ19 : ∀ (w0_19 : Int32), (w0_19 = 0 ∨ w0_19 = 1) → f_X6_differenceWraps a b = f_X6_differenceWraps_19 w0_19 → V G X 4 0 0 (Qx G X 0 0 (p_X6_differenceWraps M a b)) 19 [] [.int w0_19] M := by
    intro w0_19 zw0_19 E
    exact V.zret F (zw0_19) (by decide +kernel) ⟨congrArg (fun z => some (Value.int z)) E.symm, rfl, by rw [E]; exact zw0_19⟩
  refine V.lc_ge (off := 7) F (by decide +kernel) (tgt := 18) (by decide) (fun h11 => ?_) (fun h11 => ?_)
  · replace E := E.trans (if_pos h11)
    refine V.seg F floX6 cjoX6 [.iconst 0] (by decide +kernel) (pc2 := 19) (lv2 := [(0, .long a), (2, .long b)]) (st2 := [.int 0]) (M2 := M) rfl ⟨trivial, trivial⟩ ?_
    refine V.pick [] rfl ?_
    exact hJ19 0 (Or.inl rfl) E
  · replace E := E.trans (if_neg h11)
    refine V.seg F floX6 cjoX6 [.iconst 1, .goto 4] (by decide +kernel) (pc2 := 19) (lv2 := [(0, .long a), (2, .long b)]) (st2 := [.int 1]) (M2 := M) rfl ⟨trivial, (by decide), trivial⟩ ?_
    refine V.pick [] rfl ?_
    exact hJ19 1 (Or.inr rfl) E
