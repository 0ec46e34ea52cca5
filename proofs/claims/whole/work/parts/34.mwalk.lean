/-- what the reference's line leaves: it stopped, or not; where it stands -/
def lnP (r : Int32 × Mem) : Prop := (r.1 = 0 → mI r.2 52 24 = 2) ∧ vp_in (mI r.2 52 25) 34
theorem lnP_165 {N : Mem} (h : vp_in (mI N 52 25) 34) : lnP (f_X7_line_165 N) := ⟨fun _ => mI_uI, vin_of (mI_uI_nk (by decide)) h⟩
theorem lnP_350 {N : Mem} {w : Int32} (h : vp_in w 34) : lnP (f_X7_line_350 w N) := ⟨fun q => absurd q (show ¬ (1 : Int32) = 0 by decide), vin_of mI_uI h⟩
theorem lnP_308 {M N : Mem} {m w : Int32} (i_r : vp_in (mI M 52 25) 32) (cL : cn (mI M 60 (ix m)) 32) (hL : LnOK (mI M 61 (ix ((32 * m) + (mI M 52 25)))) (mI M 62 (ix ((32 * m) + (mI M 52 25)))) (mI M 63 (ix ((32 * m) + (mI M 52 25))))) (h1 : mI N 52 25 = mI M 52 25) (h2 : mI N 60 (ix m) = mI M 60 (ix m)) : lnP (f_X7_line_308 m M w N) := by
  unfold f_X7_line_308
  split
  · rename_i h
    exact lnP_350 (hL.2.2.2.2.2 h)
  · split
    · exact lnP_350 (vin_of h2 (cn34 cL))
    · split
      · exact lnP_350 (by rw [h1]; exact ln1 i_r)
      · exact lnP_350 (by rw [h1]; exact ln2 i_r)
theorem lnP_172 {M : Mem} {m w : Int32} (i_r : vp_in (mI M 52 25) 32) (cL : cn (mI M 60 (ix m)) 32) (hL : LnOK (mI M 61 (ix ((32 * m) + (mI M 52 25)))) (mI M 62 (ix ((32 * m) + (mI M 52 25)))) (mI M 63 (ix ((32 * m) + (mI M 52 25))))) : lnP (f_X7_line_172 m M w M) := by
  unfold f_X7_line_172
  split
  · split
    · split
      · exact lnP_308 i_r cL hL rfl rfl
      · split
        · exact lnP_308 i_r cL hL rfl rfl
        · split
          · exact lnP_308 i_r cL hL rfl rfl
          · exact lnP_308 i_r cL hL rfl rfl
    · exact lnP_308 i_r cL hL rfl rfl
  · exact lnP_308 i_r cL hL rfl rfl
theorem vin34 {M : Mem} (i_r : vp_in (mI M 52 25) 32) : vp_in (mI M 52 25) 34 := by
  obtain ⟨a, ha, e⟩ := vp_in_of i_r (by decide)
  rw [e]
  exact vp_in_nI (by omega) (by decide)
theorem lnP_135 {M : Mem} {m w : Int32} (i_r : vp_in (mI M 52 25) 32) (cL : cn (mI M 60 (ix m)) 32) (hL : LnOK (mI M 61 (ix ((32 * m) + (mI M 52 25)))) (mI M 62 (ix ((32 * m) + (mI M 52 25)))) (mI M 63 (ix ((32 * m) + (mI M 52 25))))) : lnP (f_X7_line_135 m M w M) := by
  unfold f_X7_line_135
  split
  · split
    · exact lnP_165 (vin34 i_r)
    · exact lnP_172 i_r cL hL
  · exact lnP_172 i_r cL hL
theorem lnP_109 {M : Mem} {m w : Int32} (i_r : vp_in (mI M 52 25) 32) (cL : cn (mI M 60 (ix m)) 32) (hL : LnOK (mI M 61 (ix ((32 * m) + (mI M 52 25)))) (mI M 62 (ix ((32 * m) + (mI M 52 25)))) (mI M 63 (ix ((32 * m) + (mI M 52 25))))) : lnP (f_X7_line_109 m M w M) := by
  unfold f_X7_line_109 f_X7_line_123
  split
  · split
    · exact lnP_165 (vin34 i_r)
    · exact lnP_135 i_r cL hL
  · split
    · split
      · exact lnP_165 (vin34 i_r)
      · exact lnP_135 i_r cL hL
    · exact lnP_135 i_r cL hL
theorem lnP_81 {M : Mem} {m : Int32} (i_r : vp_in (mI M 52 25) 32) (cL : cn (mI M 60 (ix m)) 32) (hL : LnOK (mI M 61 (ix ((32 * m) + (mI M 52 25)))) (mI M 62 (ix ((32 * m) + (mI M 52 25)))) (mI M 63 (ix ((32 * m) + (mI M 52 25))))) : lnP (f_X7_line_81 m M M) := by
  unfold f_X7_line_81 f_X7_line_104 f_X7_line_108
  split
  · split
    · exact lnP_109 i_r cL hL
    · exact lnP_109 i_r cL hL
  · exact lnP_109 i_r cL hL
theorem lnP_57 {M : Mem} {m : Int32} (i_r : vp_in (mI M 52 25) 32) (cL : cn (mI M 60 (ix m)) 32) (hL : LnOK (mI M 61 (ix ((32 * m) + (mI M 52 25)))) (mI M 62 (ix ((32 * m) + (mI M 52 25)))) (mI M 63 (ix ((32 * m) + (mI M 52 25))))) : lnP (f_X7_line_57 m M M) := by
  unfold f_X7_line_57 f_X7_line_104
  split
  · split
    · exact lnP_109 i_r cL hL
    · exact lnP_81 i_r cL hL
  · exact lnP_81 i_r cL hL
theorem lnP_line {M : Mem} {m : Int32} (i_r : vp_in (mI M 52 25) 32) (cL : cn (mI M 60 (ix m)) 32) (hL : LnOK (mI M 61 (ix ((32 * m) + (mI M 52 25)))) (mI M 62 (ix ((32 * m) + (mI M 52 25)))) (mI M 63 (ix ((32 * m) + (mI M 52 25))))) : lnP (f_X7_line M m) := by
  unfold f_X7_line f_X7_line_104
  split
  · split
    · exact lnP_109 i_r cL hL
    · exact lnP_57 i_r cL hL
  · exact lnP_57 i_r cL hL
theorem r32 {l x : Int32} (h : vp_in l 34) (c : cn x 32) (g : l < x) : vp_in l 32 := ln32 h c (Int32.not_le.mpr g)
theorem lnAtM {M N : Mem} {m r : Int32} {L : Nat} (s : SK wr M N) (hLn : ∀ l : Nat, l < L → LnOK (mI M 61 (ix ((32 * m) + (nI l)))) (mI M 62 (ix ((32 * m) + (nI l)))) (mI M 63 (ix ((32 * m) + (nI l))))) (hv : vp_in r 34) (e : mI N 52 25 = r) (lt : ix r < L) : LnOK (mI N 61 (ix ((32 * m) + (mI N 52 25)))) (mI N 62 (ix ((32 * m) + (mI N 52 25)))) (mI N 63 (ix ((32 * m) + (mI N 52 25)))) := by
  rw [e, (s.2.2 61 _ rfl).1, (s.2.2 62 _ rfl).1, (s.2.2 63 _ rfl).1]
  have h := hLn (ix r) lt
  rw [← ixv hv (by decide)] at h
  exact h
theorem in1000 {k : Int32} (h : ¬ f_X7_in (Int32.toInt64 k) 0 1000 = 0) : cn k 1000 := by
  have h1 := in_iff.mp h
  rw [Int64.le_iff_toInt_le, Int64.le_iff_toInt_le, Int32.toInt_toInt64] at h1
  have e0 : (0 : Int64).toInt = 0 := rfl
  have e3 : (1000 : Int64).toInt = 1000 := rfl
  rw [e0, e3] at h1
  have h2 : vp_in k 1001 := by
    rw [vp_in_iff]
    omega
  have h3 : ix k < 1001 := vin_lt h2
  exact ⟨ixv h2 (by decide), by omega⟩
theorem cn_s2 {y k : Int32} (c : cn y (ix k)) (hk : k = nI (ix k)) (hb : ix k < 2 ^ 31 - 1) (h : ¬ y = k) : cn (y + 1) (ix k) ∧ ix (y + 1) = ix y + 1 := by
  refine cn_s c hk hb (fun q => h ?_)
  have h1 := c.2
  rw [c.1, hk] at q
  have h2 := (nI_leI (by omega) (by omega)).mp q
  rw [c.1, hk]
  congr 1
  omega
theorem cnW1 {y k : Int32} {P : Prop} (c : cn y (ix k)) (hk : cn k 1000) (h : ¬ y = k) : cn (y + 1) (ix k) ∧ (P → ix (y + 1) = ix y + 1) := by
  have hb := hk.2
  have h1 := cn_s2 c hk.1 (by omega) h
  exact ⟨h1.1, fun _ => h1.2⟩
theorem cn_z {y : Int32} {N : Nat} (c : cn y N) : cn (y + 0) N := by rw [Int32.add_zero]; exact c
def f_X7_walk_20  (M20 : Mem) : Int32 × Mem := ((-1), M20)
def f_X7_walk_206 (y4_134 : Int32) (R134_ : Int32 → Mem → (Int32 × Mem)) (w0_206 : Int32) (M206 : Mem) : Int32 × Mem := R134_ (y4_134 + w0_206) M206
def f_X7_walk_c198 (y4_134 : Int32) (R134_ : Int32 → Mem → (Int32 × Mem)) (x198 : Int32) (M198 : Mem) : Int32 × Mem := if x198 = 0 then f_X7_walk_206 y4_134 R134_ 0 M198 else f_X7_walk_206 y4_134 R134_ 1 M198
def f_X7_walk_c191 (m : Int32) (y4_134 : Int32) (R134_ : Int32 → Mem → (Int32 × Mem)) (M191 : Mem) : Int32 × Mem := f_X7_walk_c198 y4_134 R134_ ((f_X7_line M191 m).1) ((f_X7_line M191 m).2)
def f_X7_walk_134 (m : Int32) (k : Int32) : Nat → Int32 → Mem → (Int32 × Mem)
  | 0, _, M134 => (0, M134)
  | n134_ + 1, y4_134, M134 => if (mI M134 52 24) = 0 then if (mI M134 52 25) < (mI M134 60 (ix m)) then if y4_134 = k then (f_X7_walk_134 m k n134_) y4_134 (uI M134 52 24 3) else f_X7_walk_c191 m y4_134 (f_X7_walk_134 m k n134_) (f_X7_check M134 m) else (f_X7_walk_134 m k n134_) y4_134 (uI (uI M134 52 24 1) 52 25 (mI (uI M134 52 24 1) 60 (ix m))) else (y4_134, M134)
def f_X7_walk_89 (m : Int32) (k : Int32) : Nat → Nat → Mem → (Int32 × Mem)
  | 0, _, M89 => (0, M89)
  | n89_ + 1, j89, M89 => if 8 ≤ (nI j89) then f_X7_walk_134 m k (ix k + 2) 0 (uI (uI (uI M89 52 26 ((-1))) 52 24 0) 52 25 0) else (f_X7_walk_89 m k n89_) (j89 + 1) (uL M89 73 (ix (nI j89)) (mL M89 72 (ix (nI j89))))
def f_X7_walk_72 (j32 : Nat) (R32_ : Int32 → Nat → Mem → (Int32 × Mem)) (w0_72 : Int32) (M72 : Mem) : Int32 × Mem := R32_ w0_72 (j32 + 1) M72
def f_X7_walk_71 (j32 : Nat) (R32_ : Int32 → Nat → Mem → (Int32 × Mem)) (M71 : Mem) : Int32 × Mem := f_X7_walk_72 j32 R32_ 0 M71
def f_X7_walk_32 (m : Int32) (k : Int32) : Nat → Int32 → Nat → Mem → (Int32 × Mem)
  | 0, _, _, M32 => (0, M32)
  | n_ + 1, y3_32, j32, M32 => if 8 ≤ (nI j32) then if y3_32 = 0 then ((-3), M32) else f_X7_walk_89 m k 9 0 M32 else if y3_32 = 0 then f_X7_walk_71 j32 (f_X7_walk_32 m k n_) M32 else if (f_X7_isIn M32 ((64 + (8 * m)) + (nI j32)) (mL M32 72 (ix (nI j32)))) = 0 then f_X7_walk_71 j32 (f_X7_walk_32 m k n_) M32 else f_X7_walk_72 j32 (f_X7_walk_32 m k n_) 1 M32
def f_X7_walk (M : Mem) (m : Int32) (k : Int32) : Int32 × Mem := if (f_X7_isMethod M m) = 0 then f_X7_walk_20 M else if (f_X7_in (Int32.toInt64 k) 0 1000) = 0 then f_X7_walk_20 M else f_X7_walk_32 m k 9 (mI M 66 (ix m)) 0 M
abbrev p_X7_walk (M : Mem) (m : Int32) (k : Int32) : Option Value → Mem → Prop := fun r N => r = some (.int (f_X7_walk M m k).1) ∧ N = (f_X7_walk M m k).2 ∧ SK wr M N
set_option maxRecDepth 100000 in
set_option maxHeartbeats 4000000 in
theorem c_X7_walk (G : Ctx) (l : Launch) (M : Mem) (m : Int32) (k : Int32) (q : Ok M) (gb : Gb M) (cM : cn (mI M 52 9) 6) (hLs : ∀ m, m < 6 → cn (mI M 60 m) 32) (hT : ∀ t, t < 4 → cn (mI M 64 t) 16) (hLn : ∀ l : Nat, l < ix (mI M 60 (ix m)) → LnOK (mI M 61 (ix ((32 * m) + (nI l)))) (mI M 62 (ix ((32 * m) + (nI l)))) (mI M 63 (ix ((32 * m) + (nI l))))) : CT G l 3 mX7_walk [.ref 52, .int m, .int k] M 0 0 (p_X7_walk M m k) := by
  refine CT.of (by decide) (Nat.le_of_ble_eq_true rfl) ?_
  intro X d hd hl hRm hnm F
  subst hl
  have E : f_X7_walk M m k = f_X7_walk M m k := rfl
  show V G X 5 0 0 (Qx G X 0 0 (p_X7_walk M m k)) 0 [(0, .ref 52), (1, .int m), (2, .int k)] [] M
  refine V.seg F floX7 cjoX7 [.aload_n 0, .iload_n 1] (by decide +kernel) (pc2 := 2) (lv2 := [(0, .ref 52), (1, .int m), (2, .int k)]) (st2 := [.int m, .ref 52]) (M2 := M) rfl ⟨trivial, trivial, trivial⟩ ?_
  refine V.callV (as := [.int m]) (rest := []) F (by decide +kernel) lX7_267 bX7_isMethod ⟨7, _, (q.o 52 7 rfl), rfl, rfl⟩ (c_X7_isMethod G X.2.1 M m q gb) (rm_ok hRm hd (by decide) (by decide)) ⟨Nat.zero_le _, Nat.zero_le _⟩ (Nat.le_of_ble_eq_true rfl) (fun r_ N_ p_ => ?_)
  obtain ⟨rfl, hN_, z2⟩ := p_
  rw [hN_]
  clear hN_
  have hJ20 : ∀ (M20 : Mem), (SK wr M M20) → f_X7_walk M m k = f_X7_walk_20 M20 → V G X 5 0 0 (Qx G X 0 0 (p_X7_walk M m k)) 20 [] [] M20 := by
    intro M20 s20 E
    refine V.seg F floX7 cjoX7 [.iconst (-1)] (by decide +kernel) (pc2 := 21) (lv2 := []) (st2 := [.int ((-1))]) (M2 := M20) rfl ⟨trivial, trivial⟩ ?_
    exact V.iret F (by decide +kernel) ⟨congrArg (fun z => some (Value.int z.1)) E.symm, congrArg Prod.snd E.symm, s20⟩
  refine V.if_eq (off := 15) F (by decide +kernel) (tgt := 20) (by decide) (fun h5 => ?_) (fun h5 => ?_)
  · replace E := E.trans (if_pos h5)
    refine V.pick [] rfl ?_
    exact hJ20 M (SK.rf (w := wr) gb) E
  · replace E := E.trans (if_neg h5)
    refine V.seg F floX7 cjoX7 [.iload_n 2, .i2l, .lconst 0, .ldc2_w 322] (by decide +kernel) (pc2 := 14) (lv2 := [(0, .ref 52), (1, .int m), (2, .int k)]) (st2 := [.long 1000, .long 0, .long (Int32.toInt64 k)]) (M2 := M) rfl ⟨trivial, trivial, trivial, trivial, trivial⟩ ?_
    refine V.callS (as := [.long (Int32.toInt64 k), .long 0, .long 1000]) (rest := []) F (by decide +kernel) lX7_89 bX7_in (c_X7_in G X.2.1 M (Int32.toInt64 k) 0 1000) (rm_ok hRm hd (by decide) (by decide)) ⟨Nat.zero_le _, Nat.zero_le _⟩ (Nat.le_of_ble_eq_true rfl) (fun r_ N_ p_ => ?_)
    obtain ⟨rfl, hN_, z14⟩ := p_
    rw [hN_]
    clear hN_
    refine V.if_ne (off := 5) F (by decide +kernel) (tgt := 22) (by decide) (fun h17 => ?_) (fun h17 => ?_)
    · replace E := E.trans (if_neg h17)
      refine V.seg F floX7 cjoX7 [.aload_n 0, .getfield 51, .iload_n 1, .baload, .istore_n 3, .iconst 0] (by decide +kernel) (pc2 := 30) (lv2 := [(3, .int (mI M 66 (ix m))), (0, .ref 52), (1, .int m), (2, .int k)]) (st2 := [.int 0]) (M2 := M) rfl ⟨trivial, (q.f 52 7 16 rfl), trivial, (q.a 66 21 6 rfl (isMethod_in cM h5)), (by decide), trivial, trivial⟩ ?_
      refine V.seg F floX7 cjoX7 [.istore 4] (by decide +kernel) (pc2 := 32) (lv2 := [(4, .int 0), (3, .int (mI M 66 (ix m))), (0, .ref 52), (1, .int m), (2, .int k)]) (st2 := []) (M2 := M) rfl ⟨(by decide), trivial⟩ ?_
      have hJ32 : ∀ (n_ : Nat) (y3_32 : Int32) (j32 : Nat) (M32 : Mem), (SK wr M M32) → (j32 ≤ 8) → (8 - j32 < n_) → f_X7_walk M m k = f_X7_walk_32 m k n_ y3_32 j32 M32 → V G X 5 0 0 (Qx G X 0 0 (p_X7_walk M m k)) 32 [(0, .ref 52), (1, .int m), (2, .int k), (3, .int y3_32), (4, .int (nI j32))] [] M32 := by
        intro n_
        induction n_ with
        | zero => intro y3_32 j32 M32 s32 b32 m32 E; omega
        | succ n_ ih_32 =>
          intro y3_32 j32 M32 s32 b32 m32 E
          rw [f_X7_walk_32] at E
          refine V.seg F floX7 cjoX7 [.iload 4, .bipush 8] (by decide +kernel) (pc2 := 36) (lv2 := [(0, .ref 52), (1, .int m), (2, .int k), (3, .int y3_32), (4, .int (nI j32))]) (st2 := [.int 8, .int (nI j32)]) (M2 := M32) rfl ⟨trivial, trivial, trivial⟩ ?_
          refine V.ic_ge (off := 43) F (by decide +kernel) (tgt := 79) (by decide) (fun h36 => ?_) (fun h36 => ?_)
          · replace E := E.trans (if_pos h36)
            refine V.seg F floX7 cjoX7 [.iload_n 3] (by decide +kernel) (pc2 := 80) (lv2 := [(0, .ref 52), (1, .int m), (2, .int k), (3, .int y3_32), (4, .int (nI j32))]) (st2 := [.int y3_32]) (M2 := M32) rfl ⟨trivial, trivial⟩ ?_
            refine V.if_ne (off := 6) F (by decide +kernel) (tgt := 86) (by decide) (fun h80 => ?_) (fun h80 => ?_)
            · replace E := E.trans (if_neg h80)
              refine V.seg F floX7 cjoX7 [.iconst 0] (by decide +kernel) (pc2 := 87) (lv2 := [(0, .ref 52), (1, .int m), (2, .int k), (3, .int y3_32), (4, .int (nI j32))]) (st2 := [.int 0]) (M2 := M32) rfl ⟨trivial, trivial⟩ ?_
              refine V.seg F floX7 cjoX7 [.istore 4] (by decide +kernel) (pc2 := 89) (lv2 := [(4, .int 0), (0, .ref 52), (1, .int m), (2, .int k), (3, .int y3_32)]) (st2 := []) (M2 := M32) rfl ⟨(by decide), trivial⟩ ?_
              have hJ89 : ∀ (n89_ : Nat) (j89 : Nat) (M89 : Mem), (SK wr M M89) → (j89 ≤ 8) → (8 - j89 < n89_) → f_X7_walk M m k = f_X7_walk_89 m k n89_ j89 M89 → V G X 5 0 0 (Qx G X 0 0 (p_X7_walk M m k)) 89 [(0, .ref 52), (1, .int m), (2, .int k), (4, .int (nI j89))] [] M89 := by
                intro n89_
                induction n89_ with
                | zero => intro j89 M89 s89 b89 m89 E; omega
                | succ n89_ ih_89 =>
                  intro j89 M89 s89 b89 m89 E
                  rw [f_X7_walk_89] at E
                  refine V.seg F floX7 cjoX7 [.iload 4, .bipush 8] (by decide +kernel) (pc2 := 93) (lv2 := [(0, .ref 52), (1, .int m), (2, .int k), (4, .int (nI j89))]) (st2 := [.int 8, .int (nI j89)]) (M2 := M89) rfl ⟨trivial, trivial, trivial⟩ ?_
                  refine V.ic_ge (off := 23) F (by decide +kernel) (tgt := 116) (by decide) (fun h93 => ?_) (fun h93 => ?_)
                  · replace E := E.trans (if_pos h93)
                    refine V.seg F floX7 cjoX7 [.aload_n 0, .iconst (-1), .putfield 75, .aload_n 0, .iconst 0, .putfield 324, .aload_n 0, .iconst 0, .putfield 327, .iconst 0] (by decide +kernel) (pc2 := 132) (lv2 := [(0, .ref 52), (1, .int m), (2, .int k), (4, .int (nI j89))]) (st2 := [.int 0]) (M2 := uI (uI (uI M89 52 26 ((-1))) 52 24 0) 52 25 0) rfl ⟨trivial, trivial, ((q.sm s89.1).o 52 7 rfl), trivial, trivial, ((q.sm (SK.pI s89 rfl).1).o 52 7 rfl), trivial, trivial, ((q.sm (SK.pI (SK.pI s89 rfl) rfl).1).o 52 7 rfl), trivial, trivial⟩ ?_
                    refine V.seg F floX7 cjoX7 [.istore 4] (by decide +kernel) (pc2 := 134) (lv2 := [(4, .int 0), (0, .ref 52), (1, .int m), (2, .int k)]) (st2 := []) (M2 := uI (uI (uI M89 52 26 ((-1))) 52 24 0) 52 25 0) rfl ⟨(by decide), trivial⟩ ?_
                    have hJ134 : ∀ (n134_ : Nat) (y4_134 : Int32) (M134 : Mem), (SK wr M M134) → (vp_in (mI M134 52 25) 34) → (cn y4_134 (ix k)) → ((if mI M134 52 24 = 0 then ix k - ix y4_134 + 1 else 0) < n134_) → f_X7_walk M m k = f_X7_walk_134 m k n134_ y4_134 M134 → V G X 5 0 0 (Qx G X 0 0 (p_X7_walk M m k)) 134 [(0, .ref 52), (1, .int m), (2, .int k), (4, .int y4_134)] [] M134 := by
                      intro n134_
                      induction n134_ with
                      | zero => intro y4_134 M134 s134 r134 c134 m134 E; omega
                      | succ n134_ ih_134 =>
                        intro y4_134 M134 s134 r134 c134 m134 E
                        rw [f_X7_walk_134] at E
                        refine V.seg F floX7 cjoX7 [.aload_n 0, .getfield 324] (by decide +kernel) (pc2 := 138) (lv2 := [(0, .ref 52), (1, .int m), (2, .int k), (4, .int y4_134)]) (st2 := [.int (mI M134 52 24)]) (M2 := M134) rfl ⟨trivial, ((q.sm s134.1).o 52 7 rfl), trivial⟩ ?_
                        refine V.if_ne (off := 74) F (by decide +kernel) (tgt := 212) (by decide) (fun h138 => ?_) (fun h138 => ?_)
                        · replace E := E.trans (if_neg h138)
                          refine V.seg F floX7 cjoX7 [.iload 4] (by decide +kernel) (pc2 := 214) (lv2 := [(0, .ref 52), (1, .int m), (2, .int k), (4, .int y4_134)]) (st2 := [.int y4_134]) (M2 := M134) rfl ⟨trivial, trivial⟩ ?_
                          exact V.iret F (by decide +kernel) ⟨congrArg (fun z => some (Value.int z.1)) E.symm, congrArg Prod.snd E.symm, s134⟩
                        · replace E := E.trans (if_pos h138)
                          refine V.seg F floX7 cjoX7 [.aload_n 0, .getfield 327, .aload_n 0, .getfield 32, .iload_n 1, .iaload] (by decide +kernel) (pc2 := 151) (lv2 := [(0, .ref 52), (1, .int m), (2, .int k), (4, .int y4_134)]) (st2 := [.int (mI M134 60 (ix m)), .int (mI M134 52 25)]) (M2 := M134) rfl ⟨trivial, ((q.sm s134.1).o 52 7 rfl), trivial, ((q.sm s134.1).f 52 7 10 rfl), trivial, ((q.sm s134.1).a 60 20 6 rfl (isMethod_in cM h5)), trivial⟩ ?_
                          refine V.ic_lt (off := 21) F (by decide +kernel) (tgt := 172) (by decide) (fun h151 => ?_) (fun h151 => ?_)
                          · replace E := E.trans (if_pos h151)
                            refine V.seg F floX7 cjoX7 [.iload 4, .iload_n 2] (by decide +kernel) (pc2 := 175) (lv2 := [(0, .ref 52), (1, .int m), (2, .int k), (4, .int y4_134)]) (st2 := [.int k, .int y4_134]) (M2 := M134) rfl ⟨trivial, trivial, trivial⟩ ?_
                            refine V.ic_ne (off := 11) F (by decide +kernel) (tgt := 186) (by decide) (fun h175 => ?_) (fun h175 => ?_)
                            · replace E := E.trans (if_neg h175)
                              refine V.seg F floX7 cjoX7 [.aload_n 0, .iload_n 1] (by decide +kernel) (pc2 := 188) (lv2 := [(0, .ref 52), (1, .int m), (2, .int k), (4, .int y4_134)]) (st2 := [.int m, .ref 52]) (M2 := M134) rfl ⟨trivial, trivial, trivial⟩ ?_
                              refine V.callV (as := [.int m]) (rest := []) F (by decide +kernel) lX7_330 bX7_check ⟨7, _, ((q.sm s134.1).o 52 7 rfl), rfl, rfl⟩ (c_X7_check G X.2.1 M134 m (q.sm s134.1) s134.2.1 (isMethod_in cM h5) (r32 r134 (cn.of (s134.2.2 60 _ rfl).1 (hLs (ix m) (vin_lt (isMethod_in cM h5)))) h151)) (rm_ok hRm hd (by decide) (by decide)) ⟨Nat.zero_le _, Nat.zero_le _⟩ (Nat.le_of_ble_eq_true rfl) (fun r_ N_ p_ => ?_)
                              obtain ⟨rfl, rfl, t188⟩ := p_
                              refine (?_ : ∀ (M191 : Mem), (SK wr M M191) → (mI M191 52 25 = mI M134 52 25) → f_X7_walk M m k = f_X7_walk_c191 m y4_134 (f_X7_walk_134 m k n134_) M191 → V G X 5 0 0 (Qx G X 0 0 (p_X7_walk M m k)) 191 [(0, .ref 52), (1, .int m), (2, .int k), (4, .int y4_134)] [] M191) _ (SK.tr s134 (t188.mono sub_wc_wr)) (t188.2.2 52 25 rfl).1 E
                              intro M191 s191 e191 E
                              refine V.seg F floX7 cjoX7 [.iload 4, .aload_n 0, .iload_n 1] (by decide +kernel) (pc2 := 195) (lv2 := [(0, .ref 52), (1, .int m), (2, .int k), (4, .int y4_134)]) (st2 := [.int m, .ref 52, .int y4_134]) (M2 := M191) rfl ⟨trivial, trivial, trivial, trivial⟩ ?_
                              refine V.callV (as := [.int m]) (rest := [.int y4_134]) F (by decide +kernel) lX7_333 bX7_line ⟨7, _, ((q.sm s191.1).o 52 7 rfl), rfl, rfl⟩ (c_X7_line G X.2.1 M191 m (q.sm s191.1) s191.2.1 (isMethod_in cM h5) (vin_of e191 (r32 r134 (cn.of (s134.2.2 60 _ rfl).1 (hLs (ix m) (vin_lt (isMethod_in cM h5)))) h151)) (fun t ht => cn.of (s191.2.2 64 _ rfl).1 (hT t ht)) (lnAtM s191 hLn r134 e191 (by have e_ := (s134.2.2 60 (ix m) rfl).1; have h_ := ixlt (cn.of (s134.2.2 60 _ rfl).1 (hLs (ix m) (vin_lt (isMethod_in cM h5)))) r134 (Int32.not_le.mpr h151) (by decide) (by decide); rw [e_] at h_; exact h_))) (rm_ok hRm hd (by decide) (by decide)) ⟨Nat.zero_le _, Nat.zero_le _⟩ (Nat.le_of_ble_eq_true rfl) (fun r_ N_ p_ => ?_)
                              obtain ⟨rfl, rfl, t195, z195⟩ := p_
                              refine (?_ : ∀ (x198 : Int32) (M198 : Mem), (x198 = 0 ∨ x198 = 1) → SK wr M M198 → (lnP (x198, M198)) → f_X7_walk M m k = f_X7_walk_c198 y4_134 (f_X7_walk_134 m k n134_) x198 M198 → V G X 5 0 0 (Qx G X 0 0 (p_X7_walk M m k)) 198 [(0, .ref 52), (1, .int m), (2, .int k), (4, .int y4_134)] [.int x198, .int y4_134] M198) _ _ z195 (SK.tr s191 t195) (lnP_line (vin_of e191 (r32 r134 (cn.of (s134.2.2 60 _ rfl).1 (hLs (ix m) (vin_lt (isMethod_in cM h5)))) h151)) (cn.of (s191.2.2 60 _ rfl).1 (hLs (ix m) (vin_lt (isMethod_in cM h5)))) (lnAtM s191 hLn r134 e191 (by have e_ := (s134.2.2 60 (ix m) rfl).1; have h_ := ixlt (cn.of (s134.2.2 60 _ rfl).1 (hLs (ix m) (vin_lt (isMethod_in cM h5)))) r134 (Int32.not_le.mpr h151) (by decide) (by decide); rw [e_] at h_; exact h_))) E
                              intro x198 M198 z198 s198 g198 E
                              have hJ206 : ∀ (w0_206 : Int32) (M206 : Mem), (SK wr M M206) → (cn (y4_134 + w0_206) (ix k) ∧ (mI M206 52 24 = 0 → ix (y4_134 + w0_206) = ix y4_134 + 1)) → (vp_in (mI M206 52 25) 34) → f_X7_walk M m k = f_X7_walk_206 y4_134 (f_X7_walk_134 m k n134_) w0_206 M206 → V G X 5 0 0 (Qx G X 0 0 (p_X7_walk M m k)) 206 [(0, .ref 52), (1, .int m), (2, .int k)] [.int w0_206, .int y4_134] M206 := by
                                intro w0_206 M206 s206 c206 r206 E
                                refine V.seg F floX7 cjoX7 [.iadd, .istore 4, .goto (-75)] (by decide +kernel) (pc2 := 134) (lv2 := [(4, .int (y4_134 + w0_206)), (0, .ref 52), (1, .int m), (2, .int k)]) (st2 := []) (M2 := M206) rfl ⟨trivial, (by decide), (by decide), trivial⟩ ?_
                                refine V.pick [1, 2, 3, 0] rfl ?_
                                exact ih_134 (y4_134 + w0_206) M206 s206 (by first | exact vin_of mI_uI (vin_of (mI_uI_ne (by decide)) (cn34 (cn.of (s134.2.2 60 _ rfl).1 (hLs (ix m) (vin_lt (isMethod_in cM h5)))))) | exact vin_of (mI_uI_nk (by decide)) r134 | exact r206) (by first | exact c134 | exact c206.1) (by first | exact wm1 m134 h138 c206.1.2 c206.2 | exact wm1 m134 h138 c134.2 (fun h => absurd ((mI_uI.symm.trans h)) (by decide)) | exact wm1 m134 h138 c134.2 (fun h => absurd ((mI_uI.symm.trans ((mI_uI_nk (by decide)).symm.trans h))) (by decide))) E
                              refine V.if_eq (off := 7) F (by decide +kernel) (tgt := 205) (by decide) (fun h198 => ?_) (fun h198 => ?_)
                              · replace E := E.trans (if_pos h198)
                                refine V.seg F floX7 cjoX7 [.iconst 0] (by decide +kernel) (pc2 := 206) (lv2 := [(0, .ref 52), (1, .int m), (2, .int k), (4, .int y4_134)]) (st2 := [.int 0, .int y4_134]) (M2 := M198) rfl ⟨trivial, trivial⟩ ?_
                                refine V.pick [0, 1, 2] rfl ?_
                                exact hJ206 0 M198 s198 (by first | exact cnW1 c134 (in1000 h17) h175 | exact ⟨cn_z c134, fun h => absurd ((g198.1 h198).symm.trans h) (by decide)⟩) (by exact g198.2) E
                              · replace E := E.trans (if_neg h198)
                                refine V.seg F floX7 cjoX7 [.iconst 1, .goto 4] (by decide +kernel) (pc2 := 206) (lv2 := [(0, .ref 52), (1, .int m), (2, .int k), (4, .int y4_134)]) (st2 := [.int 1, .int y4_134]) (M2 := M198) rfl ⟨trivial, (by decide), trivial⟩ ?_
                                refine V.pick [0, 1, 2] rfl ?_
                                exact hJ206 1 M198 s198 (by first | exact cnW1 c134 (in1000 h17) h175 | exact ⟨cn_z c134, fun h => absurd ((g198.1 h198).symm.trans h) (by decide)⟩) (by exact g198.2) E
                            · replace E := E.trans (if_pos h175)
                              refine V.seg F floX7 cjoX7 [.aload_n 0, .iconst 3, .putfield 324, .goto (-49)] (by decide +kernel) (pc2 := 134) (lv2 := [(0, .ref 52), (1, .int m), (2, .int k), (4, .int y4_134)]) (st2 := []) (M2 := uI M134 52 24 3) rfl ⟨trivial, trivial, ((q.sm s134.1).o 52 7 rfl), (by decide), trivial⟩ ?_
                              refine V.pick [0, 1, 2, 3] rfl ?_
                              exact ih_134 y4_134 (uI M134 52 24 3) (SK.pI s134 rfl) (by first | exact vin_of mI_uI (vin_of (mI_uI_ne (by decide)) (cn34 (cn.of (s134.2.2 60 _ rfl).1 (hLs (ix m) (vin_lt (isMethod_in cM h5)))))) | exact vin_of (mI_uI_nk (by decide)) r134 | exact r206) (by first | exact c134 | exact c206.1) (by first | exact wm1 m134 h138 c206.1.2 c206.2 | exact wm1 m134 h138 c134.2 (fun h => absurd ((mI_uI.symm.trans h)) (by decide)) | exact wm1 m134 h138 c134.2 (fun h => absurd ((mI_uI.symm.trans ((mI_uI_nk (by decide)).symm.trans h))) (by decide))) E
                          · replace E := E.trans (if_neg h151)
                            refine V.seg F floX7 cjoX7 [.aload_n 0, .iconst 1, .putfield 324, .aload_n 0, .aload_n 0, .getfield 32, .iload_n 1, .iaload, .putfield 327, .goto (-35)] (by decide +kernel) (pc2 := 134) (lv2 := [(0, .ref 52), (1, .int m), (2, .int k), (4, .int y4_134)]) (st2 := []) (M2 := uI (uI M134 52 24 1) 52 25 (mI (uI M134 52 24 1) 60 (ix m))) rfl ⟨trivial, trivial, ((q.sm s134.1).o 52 7 rfl), trivial, trivial, ((q.sm (SK.pI s134 rfl).1).f 52 7 10 rfl), trivial, ((q.sm (SK.pI s134 rfl).1).a 60 20 6 rfl (isMethod_in cM h5)), ((q.sm (SK.pI s134 rfl).1).o 52 7 rfl), (by decide), trivial⟩ ?_
                            refine V.pick [0, 1, 2, 3] rfl ?_
                            exact ih_134 y4_134 (uI (uI M134 52 24 1) 52 25 (mI (uI M134 52 24 1) 60 (ix m))) (SK.pI (SK.pI s134 rfl) rfl) (by first | exact vin_of mI_uI (vin_of (mI_uI_ne (by decide)) (cn34 (cn.of (s134.2.2 60 _ rfl).1 (hLs (ix m) (vin_lt (isMethod_in cM h5)))))) | exact vin_of (mI_uI_nk (by decide)) r134 | exact r206) (by first | exact c134 | exact c206.1) (by first | exact wm1 m134 h138 c206.1.2 c206.2 | exact wm1 m134 h138 c134.2 (fun h => absurd ((mI_uI.symm.trans h)) (by decide)) | exact wm1 m134 h138 c134.2 (fun h => absurd ((mI_uI.symm.trans ((mI_uI_nk (by decide)).symm.trans h))) (by decide))) E
                    refine V.pick [1, 2, 3, 0] rfl ?_
                    exact hJ134 _ 0 (uI (uI (uI M89 52 26 ((-1))) 52 24 0) 52 25 0) (SK.pI (SK.pI (SK.pI s89 rfl) rfl) rfl) (by exact vin_of mI_uI (vinc (by decide))) (by exact cn0) (by split <;> omega) E
                  · replace E := E.trans (if_neg h93)
                    refine V.seg F floX7 cjoX7 [.aload_n 0, .getfield 72, .iload 4, .aload_n 0, .getfield 69, .iload 4, .laload, .lastore, .iinc 4 1, .goto (-24)] (by decide +kernel) (pc2 := 89) (lv2 := [(4, .int ((nI j89) + 1)), (0, .ref 52), (1, .int m), (2, .int k)]) (st2 := []) (M2 := uL M89 73 (ix (nI j89)) (mL M89 72 (ix (nI j89)))) rfl ⟨trivial, ((q.sm s89.1).f 52 7 23 rfl), trivial, trivial, ((q.sm s89.1).f 52 7 22 rfl), trivial, ((q.sm s89.1).a 72 22 8 rfl (vnj (cnt_lt (n := 8) h93 rfl (by omega) (by decide)) (by decide) (by decide))), ((q.sm s89.1).a 73 22 8 rfl (vnj (cnt_lt (n := 8) h93 rfl (by omega) (by decide)) (by decide) (by decide))), (by decide), (by decide), trivial⟩ ?_
                    refine V.pick [1, 2, 3, 0] rfl ?_
                    rw [nI_1]
                    exact ih_89 (j89 + 1) (uL M89 73 (ix (nI j89)) (mL M89 72 (ix (nI j89)))) (SK.pL s89 rfl (by decide)) (by have hlt_ := cnt_lt (n := 8) h93 rfl (by omega) (by decide); omega) (by have hlt_ := cnt_lt (n := 8) h93 rfl (by omega) (by decide); omega) E
              refine V.pick [1, 2, 3, 0] rfl ?_
              exact hJ89 _ 0 M32 s32 (by omega) (by omega) E
            · replace E := E.trans (if_pos h80)
              refine V.seg F floX7 cjoX7 [.bipush (-3)] (by decide +kernel) (pc2 := 85) (lv2 := [(0, .ref 52), (1, .int m), (2, .int k), (3, .int y3_32), (4, .int (nI j32))]) (st2 := [.int ((-3))]) (M2 := M32) rfl ⟨trivial, trivial⟩ ?_
              exact V.iret F (by decide +kernel) ⟨congrArg (fun z => some (Value.int z.1)) E.symm, congrArg Prod.snd E.symm, s32⟩
          · replace E := E.trans (if_neg h36)
            refine V.seg F floX7 cjoX7 [.iload_n 3] (by decide +kernel) (pc2 := 40) (lv2 := [(0, .ref 52), (1, .int m), (2, .int k), (3, .int y3_32), (4, .int (nI j32))]) (st2 := [.int y3_32]) (M2 := M32) rfl ⟨trivial, trivial⟩ ?_
            have hJ72 : ∀ (w0_72 : Int32) (M72 : Mem), (SK wr M M72) → f_X7_walk M m k = f_X7_walk_72 j32 (f_X7_walk_32 m k n_) w0_72 M72 → V G X 5 0 0 (Qx G X 0 0 (p_X7_walk M m k)) 72 [(0, .ref 52), (1, .int m), (2, .int k), (4, .int (nI j32))] [.int w0_72] M72 := by
              intro w0_72 M72 s72 E
              refine V.seg F floX7 cjoX7 [.istore_n 3, .iinc 4 1, .goto (-44)] (by decide +kernel) (pc2 := 32) (lv2 := [(4, .int ((nI j32) + 1)), (3, .int w0_72), (0, .ref 52), (1, .int m), (2, .int k)]) (st2 := []) (M2 := M72) rfl ⟨(by decide), (by decide), (by decide), trivial⟩ ?_
              refine V.pick [2, 3, 4, 1, 0] rfl ?_
              rw [nI_1]
              exact ih_32 w0_72 (j32 + 1) M72 s72 (by have hlt_ := cnt_lt (n := 8) h36 rfl (by omega) (by decide); omega) (by have hlt_ := cnt_lt (n := 8) h36 rfl (by omega) (by decide); omega) E
            have hJ71 : ∀ (M71 : Mem), (SK wr M M71) → f_X7_walk M m k = f_X7_walk_71 j32 (f_X7_walk_32 m k n_) M71 → V G X 5 0 0 (Qx G X 0 0 (p_X7_walk M m k)) 71 [(0, .ref 52), (1, .int m), (2, .int k), (4, .int (nI j32))] [] M71 := by
              intro M71 s71 E
              refine V.seg F floX7 cjoX7 [.iconst 0] (by decide +kernel) (pc2 := 72) (lv2 := [(0, .ref 52), (1, .int m), (2, .int k), (4, .int (nI j32))]) (st2 := [.int 0]) (M2 := M71) rfl ⟨trivial, trivial⟩ ?_
              refine V.pick [0, 1, 2, 3] rfl ?_
              exact hJ72 0 M71 s71 E
            refine V.if_eq (off := 31) F (by decide +kernel) (tgt := 71) (by decide) (fun h40 => ?_) (fun h40 => ?_)
            · replace E := E.trans (if_pos h40)
              refine V.pick [0, 1, 2, 4] rfl ?_
              exact hJ71 M32 s32 E
            · replace E := E.trans (if_neg h40)
              refine V.seg F floX7 cjoX7 [.aload_n 0, .bipush 64, .bipush 8, .iload_n 1, .imul, .iadd, .iload 4, .iadd, .aload_n 0, .getfield 69, .iload 4, .laload] (by decide +kernel) (pc2 := 61) (lv2 := [(0, .ref 52), (1, .int m), (2, .int k), (3, .int y3_32), (4, .int (nI j32))]) (st2 := [.long (mL M32 72 (ix (nI j32))), .int ((64 + (8 * m)) + (nI j32)), .ref 52]) (M2 := M32) rfl ⟨trivial, trivial, trivial, trivial, trivial, trivial, trivial, trivial, trivial, ((q.sm s32.1).f 52 7 22 rfl), trivial, ((q.sm s32.1).a 72 22 8 rfl (vnj (cnt_lt (n := 8) h36 rfl (by omega) (by decide)) (by decide) (by decide))), trivial⟩ ?_
              refine V.callV (as := [.int ((64 + (8 * m)) + (nI j32)), .long (mL M32 72 (ix (nI j32)))]) (rest := []) F (by decide +kernel) lX7_251 bX7_isIn ⟨7, _, ((q.sm s32.1).o 52 7 rfl), rfl, rfl⟩ (c_X7_isIn G X.2.1 M32 ((64 + (8 * m)) + (nI j32)) (mL M32 72 (ix (nI j32))) (q.sm s32.1) s32.2.1 (gv_in (isMethod_in cM h5) (vnj (cnt_lt (n := 8) h36 rfl (by omega) (by decide)) (by decide) (by decide)))) (rm_ok hRm hd (by decide) (by decide)) ⟨Nat.zero_le _, Nat.zero_le _⟩ (Nat.le_of_ble_eq_true rfl) (fun r_ N_ p_ => ?_)
              obtain ⟨rfl, hN_, z61⟩ := p_
              rw [hN_]
              clear hN_
              refine V.if_eq (off := 7) F (by decide +kernel) (tgt := 71) (by decide) (fun h64 => ?_) (fun h64 => ?_)
              · replace E := E.trans (if_pos h64)
                refine V.pick [0, 1, 2, 4] rfl ?_
                exact hJ71 M32 s32 E
              · replace E := E.trans (if_neg h64)
                refine V.seg F floX7 cjoX7 [.iconst 1, .goto 4] (by decide +kernel) (pc2 := 72) (lv2 := [(0, .ref 52), (1, .int m), (2, .int k), (3, .int y3_32), (4, .int (nI j32))]) (st2 := [.int 1]) (M2 := M32) rfl ⟨trivial, (by decide), trivial⟩ ?_
                refine V.pick [0, 1, 2, 4] rfl ?_
                exact hJ72 1 M32 s32 E
      refine V.pick [2, 3, 4, 1, 0] rfl ?_
      exact hJ32 _ (mI M 66 (ix m)) 0 M (SK.rf (w := wr) gb) (by omega) (by omega) E
    · replace E := E.trans (if_pos h17)
      refine V.pick [] rfl ?_
      exact hJ20 M (SK.rf (w := wr) gb) E
