theorem gv_in {m p : Int32} (hm : vp_in m 6) (hp : vp_in p 8) : vp_in (64 + 8 * m + p) 1648 := by
  obtain ⟨a, ha, rfl⟩ := vp_in_of hm (by decide)
  obtain ⟨c, hc, rfl⟩ := vp_in_of hp (by decide)
  exact vpn (k := 64 + 8 * a + c) (addN (addN (rfl : (64 : Int32) = nI 64) (mulN (rfl : (8 : Int32) = nI 8) rfl)) rfl) (by omega) (by decide)
theorem rl0 {m : Int32} (hm : vp_in m 6) : vp_in (32 * m) 192 := by
  obtain ⟨a, ha, rfl⟩ := vp_in_of hm (by decide)
  exact vpn (k := 32 * a) (mulN (rfl : (32 : Int32) = nI 32) rfl) (by omega) (by decide)
theorem LnOK.of {a b c a' b' c' : Int32} (h1 : a = a') (h2 : b = b') (h3 : c = c') (h : LnOK a' b' c') : LnOK a b c := by rw [h1, h2, h3]; exact h
def f_X7_isMethod (M : Mem) (m : Int32) : Int32 := f_X7_in (Int32.toInt64 m) 0 ((Int32.toInt64 (mI M 52 9)) - 1)
abbrev p_X7_isMethod (M : Mem) (m : Int32) : Option Value → Mem → Prop := fun r N => r = some (.int (f_X7_isMethod M m)) ∧ N = M ∧ ((f_X7_isMethod M m) = 0 ∨ (f_X7_isMethod M m) = 1)
set_option maxRecDepth 100000 in
set_option maxHeartbeats 4000000 in
theorem c_X7_isMethod (G : Ctx) (l : Launch) (M : Mem) (m : Int32) (q : Ok M) (gb : Gb M) : CT G l 1 mX7_isMethod [.ref 52, .int m] M 0 0 (p_X7_isMethod M m) := by
  refine CT.of (by decide) (Nat.le_of_ble_eq_true rfl) ?_
  intro X d hd hl hRm hnm F
  subst hl
  have E : f_X7_isMethod M m = f_X7_isMethod M m := rfl
  show V G X 2 0 0 (Qx G X 0 0 (p_X7_isMethod M m)) 0 [(0, .ref 52), (1, .int m)] [] M
  refine V.seg F floX7 cjoX7 [.iload_n 1, .i2l, .lconst 0, .aload_n 0, .getfield 255, .i2l, .lconst 1, .lsub] (by decide +kernel) (pc2 := 10) (lv2 := [(0, .ref 52), (1, .int m)]) (st2 := [.long ((Int32.toInt64 (mI M 52 9)) - 1), .long 0, .long (Int32.toInt64 m)]) (M2 := M) rfl ⟨trivial, trivial, trivial, trivial, (q.o 52 7 rfl), trivial, trivial, trivial, trivial⟩ ?_
  refine V.callS (as := [.long (Int32.toInt64 m), .long 0, .long ((Int32.toInt64 (mI M 52 9)) - 1)]) (rest := []) F (by decide +kernel) lX7_89 bX7_in (c_X7_in G X.2.1 M (Int32.toInt64 m) 0 ((Int32.toInt64 (mI M 52 9)) - 1)) (rm_ok hRm hd (by decide) (by decide)) ⟨Nat.zero_le _, Nat.zero_le _⟩ (Nat.le_of_ble_eq_true rfl) (fun r_ N_ p_ => ?_)
  obtain ⟨rfl, hN_, z10⟩ := p_
  rw [hN_]
  clear hN_
  exact V.zret F (z10) (by decide +kernel) ⟨congrArg (fun z => some (Value.int z)) E.symm, rfl, by rw [E]; exact z10⟩
theorem isMethod_in {M : Mem} {m : Int32} (c : cn (mI M 52 9) 6) (h : ¬ f_X7_isMethod M m = 0) : vp_in m 6 := by
  have h1 := in_iff.mp h
  rw [Int64.le_iff_toInt_le, Int64.le_iff_toInt_le, Int32.toInt_toInt64] at h1
  rw [vp_in_iff]
  have e0 : (0 : Int64).toInt = 0 := rfl
  have e1 : ((mI M 52 9).toInt64 - 1).toInt = (mI M 52 9).toInt - 1 := lg_i2l_sub (mI M 52 9) 1
  have e2 : (mI M 52 9).toInt = (ix (mI M 52 9) : Int) := by
    have h9 : ix (mI M 52 9) < 2 ^ 31 := Nat.lt_of_le_of_lt c.2 (by decide)
    have h8 := nI_toInt h9
    rw [← c.1] at h8
    exact h8
  have h7 := c.2
  rw [e0, e1, e2] at h1
  omega
def f_X7_find_291 (j166 : Nat) (M291 : Mem) : Int32 × Mem := (nI j166, M291)
def f_X7_find_c279 (j259 : Nat) (R259_ : Nat → Mem → (Int32 × Mem)) (M279 : Mem) : Int32 × Mem := R259_ (j259 + 1) M279
def f_X7_find_259 (m : Int32) (j237 : Nat) (R237_ : Nat → Mem → (Int32 × Mem)) : Nat → Nat → Mem → (Int32 × Mem)
  | 0, _, M259 => (0, M259)
  | n259_ + 1, j259, M259 => if 8 ≤ (nI j259) then R237_ (j237 + 1) M259 else f_X7_find_c279 j259 (f_X7_find_259 m j237 R237_ n259_) (f_X7_all M259 (f_X7_cell m (nI j237) (nI j259)))
def f_X7_find_237 (m : Int32) (M : Mem) (j166 : Nat) : Nat → Nat → Mem → (Int32 × Mem)
  | 0, _, M237 => (0, M237)
  | n237_ + 1, j237, M237 => if (mI M 60 (ix m)) ≤ (nI j237) then f_X7_find_291 j166 M237 else f_X7_find_259 m j237 (f_X7_find_237 m M j166 n237_) 9 0 (uI M237 67 (ix ((32 * m) + (nI j237))) 1)
def f_X7_find_226 (m : Int32) (M : Mem) (j166 : Nat) (M226 : Mem) : Int32 × Mem := if (f_X7_some M226 (mI M 60 (ix m))) = 0 then f_X7_find_291 j166 M226 else f_X7_find_237 m M j166 (ix (mI M 60 (ix m)) + 1) 0 M226
def f_X7_find_217 (j186 : Nat) (R186_ : Nat → Mem → (Int32 × Mem)) (M217 : Mem) : Int32 × Mem := R186_ (j186 + 1) M217
def f_X7_find_c217 (j186 : Nat) (R186_ : Nat → Mem → (Int32 × Mem)) (M217 : Mem) : Int32 × Mem := f_X7_find_217 j186 R186_ M217
def f_X7_find_186 (m : Int32) (M : Mem) (j166 : Nat) (R166_ : Nat → Mem → (Int32 × Mem)) : Nat → Nat → Mem → (Int32 × Mem)
  | 0, _, M186 => (0, M186)
  | n186_ + 1, j186, M186 => if (mI M 60 (ix m)) ≤ (nI j186) then R166_ (j166 + 1) M186 else if (mI M186 69 (ix (nI j186))) = 0 then f_X7_find_217 j186 (f_X7_find_186 m M j166 R166_ n186_) M186 else f_X7_find_c217 j186 (f_X7_find_186 m M j166 R166_ n186_) (f_X7_work (uI M186 69 (ix (nI j186)) 0) m (nI j186))
def f_X7_find_166 (m : Int32) (M : Mem) : Nat → Nat → Mem → (Int32 × Mem)
  | 0, _, M166 => (0, M166)
  | n166_ + 1, j166, M166 => if 30 ≤ (nI j166) then f_X7_find_226 m M j166 M166 else if (f_X7_some M166 (mI M 60 (ix m))) = 0 then f_X7_find_226 m M j166 M166 else f_X7_find_186 m M j166 (f_X7_find_166 m M n166_) (ix (mI M 60 (ix m)) + 1) 0 M166
def f_X7_find_163 (m : Int32) (M : Mem) (w0_163 : Int32) (M163 : Mem) : Int32 × Mem := f_X7_find_166 m M 31 0 (uI M163 69 (ix 0) w0_163)
def f_X7_find_148 (m : Int32) (M : Mem) (w0_148 : Int32) (M148 : Mem) : Int32 × Mem := if (mI M 60 (ix m)) ≤ 0 then f_X7_find_163 m M 0 (uI M148 67 (ix (32 * m)) w0_148) else f_X7_find_163 m M 1 (uI M148 67 (ix (32 * m)) w0_148)
def f_X7_find_131 (m : Int32) (M : Mem) (M131 : Mem) : Int32 × Mem := if (mI M 60 (ix m)) ≤ 0 then f_X7_find_148 m M 0 M131 else f_X7_find_148 m M 1 M131
def f_X7_find_c125 (j95 : Nat) (R95_ : Nat → Mem → (Int32 × Mem)) (M125 : Mem) : Int32 × Mem := R95_ (j95 + 1) M125
def f_X7_find_95 (m : Int32) (M : Mem) : Nat → Nat → Mem → (Int32 × Mem)
  | 0, _, M95 => (0, M95)
  | n95_ + 1, j95, M95 => if 8 ≤ (nI j95) then f_X7_find_131 m M M95 else if (mI M 60 (ix m)) ≤ 0 then f_X7_find_131 m M M95 else f_X7_find_c125 j95 (f_X7_find_95 m M n95_) (f_X7_copy M95 (f_X7_cell m 0 (nI j95)) ((64 + (8 * m)) + (nI j95)))
def f_X7_find_66 (m : Int32) (M : Mem) : Nat → Nat → Mem → (Int32 × Mem)
  | 0, _, M66 => (0, M66)
  | n66_ + 1, j66, M66 => if 256 ≤ (nI j66) then f_X7_find_95 m M 9 0 M66 else (f_X7_find_66 m M n66_) (j66 + 1) (uI (uI M66 70 (ix (nI j66)) 0) 71 (ix (nI j66)) 0)
def f_X7_find_33 (m : Int32) (M : Mem) : Nat → Nat → Mem → (Int32 × Mem)
  | 0, _, M33 => (0, M33)
  | n_ + 1, j33, M33 => if 32 ≤ (nI j33) then f_X7_find_66 m M 257 0 M33 else (f_X7_find_33 m M n_) (j33 + 1) (uI (uI M33 69 (ix (nI j33)) 0) 67 (ix ((32 * m) + (nI j33))) 0)
def f_X7_find (M : Mem) (m : Int32) : Int32 × Mem := if (f_X7_isMethod M m) = 0 then ((-1), M) else f_X7_find_33 m M 33 0 (uI (uI M 66 (ix m) 1) 68 (ix m) 0)
abbrev p_X7_find (M : Mem) (m : Int32) : Option Value → Mem → Prop := fun r N => r = some (.int (f_X7_find M m).1) ∧ N = (f_X7_find M m).2 ∧ SK wh M N
set_option maxRecDepth 100000 in
set_option maxHeartbeats 4000000 in
theorem c_X7_find (G : Ctx) (l : Launch) (M : Mem) (m : Int32) (q : Ok M) (gb : Gb M) (cM : cn (mI M 52 9) 6) (hLs : ∀ m, m < 6 → cn (mI M 60 m) 32) (hT : ∀ t, t < 4 → cn (mI M 64 t) 16) (hLn : ∀ l : Nat, l < ix (mI M 60 (ix m)) → LnOK (mI M 61 (ix ((32 * m) + (nI l)))) (mI M 62 (ix ((32 * m) + (nI l)))) (mI M 63 (ix ((32 * m) + (nI l))))) : CT G l 8 mX7_find [.ref 52, .int m] M 0 0 (p_X7_find M m) := by
  refine CT.of (by decide) (Nat.le_of_ble_eq_true rfl) ?_
  intro X d hd hl hRm hnm F
  subst hl
  have E : f_X7_find M m = f_X7_find M m := rfl
  show V G X 6 0 0 (Qx G X 0 0 (p_X7_find M m)) 0 [(0, .ref 52), (1, .int m)] [] M
  refine V.seg F floX7 cjoX7 [.aload_n 0, .iload_n 1] (by decide +kernel) (pc2 := 2) (lv2 := [(0, .ref 52), (1, .int m)]) (st2 := [.int m, .ref 52]) (M2 := M) rfl ⟨trivial, trivial, trivial⟩ ?_
  refine V.callV (as := [.int m]) (rest := []) F (by decide +kernel) lX7_267 bX7_isMethod ⟨7, _, (q.o 52 7 rfl), rfl, rfl⟩ (c_X7_isMethod G X.2.1 M m q gb) (rm_ok hRm hd (by decide) (by decide)) ⟨Nat.zero_le _, Nat.zero_le _⟩ (Nat.le_of_ble_eq_true rfl) (fun r_ N_ p_ => ?_)
  obtain ⟨rfl, hN_, z2⟩ := p_
  rw [hN_]
  clear hN_
  refine V.if_ne (off := 5) F (by decide +kernel) (tgt := 10) (by decide) (fun h5 => ?_) (fun h5 => ?_)
  · replace E := E.trans (if_neg h5)
    refine V.seg F floX7 cjoX7 [.aload_n 0, .getfield 32, .iload_n 1, .iaload, .istore_n 2, .aload_n 0, .getfield 51, .iload_n 1, .iconst 1, .bastore, .aload_n 0, .getfield 57, .iload_n 1, .iconst 0, .iastore, .iconst 0] (by decide +kernel) (pc2 := 32) (lv2 := [(2, .int (mI M 60 (ix m))), (0, .ref 52), (1, .int m)]) (st2 := [.int 0]) (M2 := uI (uI M 66 (ix m) 1) 68 (ix m) 0) rfl ⟨trivial, (q.f 52 7 10 rfl), trivial, (q.a 60 20 6 rfl (isMethod_in cM h5)), (by decide), trivial, (q.f 52 7 16 rfl), trivial, trivial, ⟨(q.a 66 21 6 rfl (isMethod_in cM h5)), Or.inr rfl⟩, trivial, ((q.sm (SK.pI (SK.rf (w := wh) gb) rfl).1).f 52 7 18 rfl), trivial, trivial, ((q.sm (SK.pI (SK.rf (w := wh) gb) rfl).1).a 68 20 6 rfl (isMethod_in cM h5)), trivial, trivial⟩ ?_
    refine V.seg F floX7 cjoX7 [.istore_n 3] (by decide +kernel) (pc2 := 33) (lv2 := [(3, .int 0), (2, .int (mI M 60 (ix m))), (0, .ref 52), (1, .int m)]) (st2 := []) (M2 := uI (uI M 66 (ix m) 1) 68 (ix m) 0) rfl ⟨(by decide), trivial⟩ ?_
    have hJ33 : ∀ (n_ : Nat) (j33 : Nat) (M33 : Mem), (SK wh M M33) → (j33 ≤ 32) → (32 - j33 < n_) → f_X7_find M m = f_X7_find_33 m M n_ j33 M33 → V G X 6 0 0 (Qx G X 0 0 (p_X7_find M m)) 33 [(0, .ref 52), (1, .int m), (2, .int (mI M 60 (ix m))), (3, .int (nI j33))] [] M33 := by
      intro n_
      induction n_ with
      | zero => intro j33 M33 s33 b33 m33 E; omega
      | succ n_ ih_33 =>
        intro j33 M33 s33 b33 m33 E
        rw [f_X7_find_33] at E
        refine V.seg F floX7 cjoX7 [.iload_n 3, .bipush 32] (by decide +kernel) (pc2 := 36) (lv2 := [(0, .ref 52), (1, .int m), (2, .int (mI M 60 (ix m))), (3, .int (nI j33))]) (st2 := [.int 32, .int (nI j33)]) (M2 := M33) rfl ⟨trivial, trivial, trivial⟩ ?_
        refine V.ic_ge (off := 28) F (by decide +kernel) (tgt := 64) (by decide) (fun h36 => ?_) (fun h36 => ?_)
        · replace E := E.trans (if_pos h36)
          refine V.seg F floX7 cjoX7 [.iconst 0] (by decide +kernel) (pc2 := 65) (lv2 := [(0, .ref 52), (1, .int m), (2, .int (mI M 60 (ix m))), (3, .int (nI j33))]) (st2 := [.int 0]) (M2 := M33) rfl ⟨trivial, trivial⟩ ?_
          refine V.seg F floX7 cjoX7 [.istore_n 3] (by decide +kernel) (pc2 := 66) (lv2 := [(3, .int 0), (0, .ref 52), (1, .int m), (2, .int (mI M 60 (ix m)))]) (st2 := []) (M2 := M33) rfl ⟨(by decide), trivial⟩ ?_
          have hJ66 : ∀ (n66_ : Nat) (j66 : Nat) (M66 : Mem), (SK wh M M66) → (j66 ≤ 256) → (256 - j66 < n66_) → f_X7_find M m = f_X7_find_66 m M n66_ j66 M66 → V G X 6 0 0 (Qx G X 0 0 (p_X7_find M m)) 66 [(0, .ref 52), (1, .int m), (2, .int (mI M 60 (ix m))), (3, .int (nI j66))] [] M66 := by
            intro n66_
            induction n66_ with
            | zero => intro j66 M66 s66 b66 m66 E; omega
            | succ n66_ ih_66 =>
              intro j66 M66 s66 b66 m66 E
              rw [f_X7_find_66] at E
              refine V.seg F floX7 cjoX7 [.iload_n 3, .sipush 256] (by decide +kernel) (pc2 := 70) (lv2 := [(0, .ref 52), (1, .int m), (2, .int (mI M 60 (ix m))), (3, .int (nI j66))]) (st2 := [.int 256, .int (nI j66)]) (M2 := M66) rfl ⟨trivial, trivial, trivial⟩ ?_
              refine V.ic_ge (off := 23) F (by decide +kernel) (tgt := 93) (by decide) (fun h70 => ?_) (fun h70 => ?_)
              · replace E := E.trans (if_pos h70)
                refine V.seg F floX7 cjoX7 [.iconst 0] (by decide +kernel) (pc2 := 94) (lv2 := [(0, .ref 52), (1, .int m), (2, .int (mI M 60 (ix m))), (3, .int (nI j66))]) (st2 := [.int 0]) (M2 := M66) rfl ⟨trivial, trivial⟩ ?_
                refine V.seg F floX7 cjoX7 [.istore_n 3] (by decide +kernel) (pc2 := 95) (lv2 := [(3, .int 0), (0, .ref 52), (1, .int m), (2, .int (mI M 60 (ix m)))]) (st2 := []) (M2 := M66) rfl ⟨(by decide), trivial⟩ ?_
                have hJ95 : ∀ (n95_ : Nat) (j95 : Nat) (M95 : Mem), (SK wh M M95) → (j95 ≤ 8) → (8 - j95 < n95_) → f_X7_find M m = f_X7_find_95 m M n95_ j95 M95 → V G X 6 0 0 (Qx G X 0 0 (p_X7_find M m)) 95 [(0, .ref 52), (1, .int m), (2, .int (mI M 60 (ix m))), (3, .int (nI j95))] [] M95 := by
                  intro n95_
                  induction n95_ with
                  | zero => intro j95 M95 s95 b95 m95 E; omega
                  | succ n95_ ih_95 =>
                    intro j95 M95 s95 b95 m95 E
                    rw [f_X7_find_95] at E
                    refine V.seg F floX7 cjoX7 [.iload_n 3, .bipush 8] (by decide +kernel) (pc2 := 98) (lv2 := [(0, .ref 52), (1, .int m), (2, .int (mI M 60 (ix m))), (3, .int (nI j95))]) (st2 := [.int 8, .int (nI j95)]) (M2 := M95) rfl ⟨trivial, trivial, trivial⟩ ?_
                    have hJ131 : ∀ (M131 : Mem), (SK wh M M131) → f_X7_find M m = f_X7_find_131 m M M131 → V G X 6 0 0 (Qx G X 0 0 (p_X7_find M m)) 131 [(0, .ref 52), (1, .int m), (2, .int (mI M 60 (ix m)))] [] M131 := by
                      intro M131 s131 E
                      refine V.seg F floX7 cjoX7 [.aload_n 0, .getfield 54, .bipush 32, .iload_n 1, .imul, .iload_n 2] (by decide +kernel) (pc2 := 140) (lv2 := [(0, .ref 52), (1, .int m), (2, .int (mI M 60 (ix m)))]) (st2 := [.int (mI M 60 (ix m)), .int (32 * m), .ref 67]) (M2 := M131) rfl ⟨trivial, ((q.sm s131.1).f 52 7 17 rfl), trivial, trivial, trivial, trivial, trivial⟩ ?_
                      have hJ148 : ∀ (w0_148 : Int32) (M148 : Mem), (SK wh M M148) → (w0_148 = 0 ∨ w0_148 = 1) → f_X7_find M m = f_X7_find_148 m M w0_148 M148 → V G X 6 0 0 (Qx G X 0 0 (p_X7_find M m)) 148 [(0, .ref 52), (1, .int m), (2, .int (mI M 60 (ix m)))] [.int w0_148, .int (32 * m), .ref 67] M148 := by
                        intro w0_148 M148 s148 zw0_148 E
                        refine V.seg F floX7 cjoX7 [.bastore, .aload_n 0, .getfield 60, .iconst 0, .iload_n 2] (by decide +kernel) (pc2 := 155) (lv2 := [(0, .ref 52), (1, .int m), (2, .int (mI M 60 (ix m)))]) (st2 := [.int (mI M 60 (ix m)), .int 0, .ref 69]) (M2 := uI M148 67 (ix (32 * m)) w0_148) rfl ⟨⟨((q.sm s148.1).a 67 21 192 rfl (rl0 (isMethod_in cM h5))), zw0_148⟩, trivial, ((q.sm (SK.pI s148 rfl).1).f 52 7 19 rfl), trivial, trivial, trivial⟩ ?_
                        have hJ163 : ∀ (w0_163 : Int32) (M163 : Mem), (SK wh M M163) → (w0_163 = 0 ∨ w0_163 = 1) → f_X7_find M m = f_X7_find_163 m M w0_163 M163 → V G X 6 0 0 (Qx G X 0 0 (p_X7_find M m)) 163 [(0, .ref 52), (1, .int m), (2, .int (mI M 60 (ix m)))] [.int w0_163, .int 0, .ref 69] M163 := by
                          intro w0_163 M163 s163 zw0_163 E
                          refine V.seg F floX7 cjoX7 [.bastore, .iconst 0] (by decide +kernel) (pc2 := 165) (lv2 := [(0, .ref 52), (1, .int m), (2, .int (mI M 60 (ix m)))]) (st2 := [.int 0]) (M2 := uI M163 69 (ix 0) w0_163) rfl ⟨⟨((q.sm s163.1).a 69 21 32 rfl (vinc (by decide))), zw0_163⟩, trivial, trivial⟩ ?_
                          refine V.seg F floX7 cjoX7 [.istore_n 3] (by decide +kernel) (pc2 := 166) (lv2 := [(3, .int 0), (0, .ref 52), (1, .int m), (2, .int (mI M 60 (ix m)))]) (st2 := []) (M2 := uI M163 69 (ix 0) w0_163) rfl ⟨(by decide), trivial⟩ ?_
                          have hJ166 : ∀ (n166_ : Nat) (j166 : Nat) (M166 : Mem), (SK wh M M166) → (j166 ≤ 30) → (30 - j166 < n166_) → f_X7_find M m = f_X7_find_166 m M n166_ j166 M166 → V G X 6 0 0 (Qx G X 0 0 (p_X7_find M m)) 166 [(0, .ref 52), (1, .int m), (2, .int (mI M 60 (ix m))), (3, .int (nI j166))] [] M166 := by
                            intro n166_
                            induction n166_ with
                            | zero => intro j166 M166 s166 b166 m166 E; omega
                            | succ n166_ ih_166 =>
                              intro j166 M166 s166 b166 m166 E
                              rw [f_X7_find_166] at E
                              refine V.seg F floX7 cjoX7 [.iload_n 3, .bipush 30] (by decide +kernel) (pc2 := 169) (lv2 := [(0, .ref 52), (1, .int m), (2, .int (mI M 60 (ix m))), (3, .int (nI j166))]) (st2 := [.int 30, .int (nI j166)]) (M2 := M166) rfl ⟨trivial, trivial, trivial⟩ ?_
                              have hJ226 : ∀ (M226 : Mem), (SK wh M M226) → f_X7_find M m = f_X7_find_226 m M j166 M226 → V G X 6 0 0 (Qx G X 0 0 (p_X7_find M m)) 226 [(0, .ref 52), (1, .int m), (2, .int (mI M 60 (ix m))), (3, .int (nI j166))] [] M226 := by
                                intro M226 s226 E
                                refine V.seg F floX7 cjoX7 [.aload_n 0, .iload_n 2] (by decide +kernel) (pc2 := 228) (lv2 := [(0, .ref 52), (1, .int m), (2, .int (mI M 60 (ix m))), (3, .int (nI j166))]) (st2 := [.int (mI M 60 (ix m)), .ref 52]) (M2 := M226) rfl ⟨trivial, trivial, trivial⟩ ?_
                                refine V.callV (as := [.int (mI M 60 (ix m))]) (rest := []) F (by decide +kernel) lX7_280 bX7_some ⟨7, _, ((q.sm s226.1).o 52 7 rfl), rfl, rfl⟩ (c_X7_some G X.2.1 M226 (mI M 60 (ix m)) (q.sm s226.1) s226.2.1 (hLs (ix m) (vin_lt (isMethod_in cM h5)))) (rm_ok hRm hd (by decide) (by decide)) ⟨Nat.zero_le _, Nat.zero_le _⟩ (Nat.le_of_ble_eq_true rfl) (fun r_ N_ p_ => ?_)
                                obtain ⟨rfl, hN_, z228⟩ := p_
                                rw [hN_]
                                clear hN_
                                have hJ291 : ∀ (M291 : Mem), (SK wh M M291) → f_X7_find M m = f_X7_find_291 j166 M291 → V G X 6 0 0 (Qx G X 0 0 (p_X7_find M m)) 291 [(3, .int (nI j166))] [] M291 := by
                                  intro M291 s291 E
                                  refine V.seg F floX7 cjoX7 [.iload_n 3] (by decide +kernel) (pc2 := 292) (lv2 := [(3, .int (nI j166))]) (st2 := [.int (nI j166)]) (M2 := M291) rfl ⟨trivial, trivial⟩ ?_
                                  exact V.iret F (by decide +kernel) ⟨congrArg (fun z => some (Value.int z.1)) E.symm, congrArg Prod.snd E.symm, s291⟩
                                refine V.if_eq (off := 60) F (by decide +kernel) (tgt := 291) (by decide) (fun h231 => ?_) (fun h231 => ?_)
                                · replace E := E.trans (if_pos h231)
                                  refine V.pick [3] rfl ?_
                                  exact hJ291 M226 s226 E
                                · replace E := E.trans (if_neg h231)
                                  refine V.seg F floX7 cjoX7 [.iconst 0] (by decide +kernel) (pc2 := 235) (lv2 := [(0, .ref 52), (1, .int m), (2, .int (mI M 60 (ix m))), (3, .int (nI j166))]) (st2 := [.int 0]) (M2 := M226) rfl ⟨trivial, trivial⟩ ?_
                                  refine V.seg F floX7 cjoX7 [.istore 4] (by decide +kernel) (pc2 := 237) (lv2 := [(4, .int 0), (0, .ref 52), (1, .int m), (2, .int (mI M 60 (ix m))), (3, .int (nI j166))]) (st2 := []) (M2 := M226) rfl ⟨(by decide), trivial⟩ ?_
                                  have hJ237 : ∀ (n237_ : Nat) (j237 : Nat) (M237 : Mem), (SK wh M M237) → (j237 ≤ ix (mI M 60 (ix m))) → (ix (mI M 60 (ix m)) - j237 < n237_) → f_X7_find M m = f_X7_find_237 m M j166 n237_ j237 M237 → V G X 6 0 0 (Qx G X 0 0 (p_X7_find M m)) 237 [(0, .ref 52), (1, .int m), (2, .int (mI M 60 (ix m))), (3, .int (nI j166)), (4, .int (nI j237))] [] M237 := by
                                    intro n237_
                                    induction n237_ with
                                    | zero => intro j237 M237 s237 b237 m237 E; omega
                                    | succ n237_ ih_237 =>
                                      intro j237 M237 s237 b237 m237 E
                                      rw [f_X7_find_237] at E
                                      refine V.seg F floX7 cjoX7 [.iload 4, .iload_n 2] (by decide +kernel) (pc2 := 240) (lv2 := [(0, .ref 52), (1, .int m), (2, .int (mI M 60 (ix m))), (3, .int (nI j166)), (4, .int (nI j237))]) (st2 := [.int (mI M 60 (ix m)), .int (nI j237)]) (M2 := M237) rfl ⟨trivial, trivial, trivial⟩ ?_
                                      refine V.ic_ge (off := 51) F (by decide +kernel) (tgt := 291) (by decide) (fun h240 => ?_) (fun h240 => ?_)
                                      · replace E := E.trans (if_pos h240)
                                        refine V.pick [3] rfl ?_
                                        exact hJ291 M237 s237 E
                                      · replace E := E.trans (if_neg h240)
                                        refine V.seg F floX7 cjoX7 [.aload_n 0, .getfield 54, .bipush 32, .iload_n 1, .imul, .iload 4, .iadd, .iconst 1, .bastore, .iconst 0] (by decide +kernel) (pc2 := 257) (lv2 := [(0, .ref 52), (1, .int m), (2, .int (mI M 60 (ix m))), (3, .int (nI j166)), (4, .int (nI j237))]) (st2 := [.int 0]) (M2 := uI M237 67 (ix ((32 * m) + (nI j237))) 1) rfl ⟨trivial, ((q.sm s237.1).f 52 7 17 rfl), trivial, trivial, trivial, trivial, trivial, trivial, ⟨((q.sm s237.1).a 67 21 192 rfl (rl_in (isMethod_in cM h5) (vp_in_nI (by have le_ := (hLs (ix m) (vin_lt (isMethod_in cM h5))).2; have hlt_ := cnt_lt (n := ix (mI M 60 (ix m))) h240 (hLs (ix m) (vin_lt (isMethod_in cM h5))).1 (by omega) (by omega); omega) (by decide)))), Or.inr rfl⟩, trivial, trivial⟩ ?_
                                        refine V.seg F floX7 cjoX7 [.istore 5] (by decide +kernel) (pc2 := 259) (lv2 := [(5, .int 0), (0, .ref 52), (1, .int m), (2, .int (mI M 60 (ix m))), (3, .int (nI j166)), (4, .int (nI j237))]) (st2 := []) (M2 := uI M237 67 (ix ((32 * m) + (nI j237))) 1) rfl ⟨(by decide), trivial⟩ ?_
                                        have hJ259 : ∀ (n259_ : Nat) (j259 : Nat) (M259 : Mem), (SK wh M M259) → (j259 ≤ 8) → (8 - j259 < n259_) → f_X7_find M m = f_X7_find_259 m j237 (f_X7_find_237 m M j166 n237_) n259_ j259 M259 → V G X 6 0 0 (Qx G X 0 0 (p_X7_find M m)) 259 [(0, .ref 52), (1, .int m), (2, .int (mI M 60 (ix m))), (3, .int (nI j166)), (4, .int (nI j237)), (5, .int (nI j259))] [] M259 := by
                                          intro n259_
                                          induction n259_ with
                                          | zero => intro j259 M259 s259 b259 m259 E; omega
                                          | succ n259_ ih_259 =>
                                            intro j259 M259 s259 b259 m259 E
                                            rw [f_X7_find_259] at E
                                            refine V.seg F floX7 cjoX7 [.iload 5, .bipush 8] (by decide +kernel) (pc2 := 263) (lv2 := [(0, .ref 52), (1, .int m), (2, .int (mI M 60 (ix m))), (3, .int (nI j166)), (4, .int (nI j237)), (5, .int (nI j259))]) (st2 := [.int 8, .int (nI j259)]) (M2 := M259) rfl ⟨trivial, trivial, trivial⟩ ?_
                                            refine V.ic_ge (off := 22) F (by decide +kernel) (tgt := 285) (by decide) (fun h263 => ?_) (fun h263 => ?_)
                                            · replace E := E.trans (if_pos h263)
                                              refine V.seg F floX7 cjoX7 [.iinc 4 1, .goto (-51)] (by decide +kernel) (pc2 := 237) (lv2 := [(4, .int ((nI j237) + 1)), (0, .ref 52), (1, .int m), (2, .int (mI M 60 (ix m))), (3, .int (nI j166)), (5, .int (nI j259))]) (st2 := []) (M2 := M259) rfl ⟨(by decide), (by decide), trivial⟩ ?_
                                              refine V.pick [1, 2, 3, 4, 0] rfl ?_
                                              rw [nI_1]
                                              exact ih_237 (j237 + 1) M259 s259 (by have le_ := (hLs (ix m) (vin_lt (isMethod_in cM h5))).2; have hlt_ := cnt_lt (n := ix (mI M 60 (ix m))) h240 (hLs (ix m) (vin_lt (isMethod_in cM h5))).1 (by omega) (by omega); omega) (by have le_ := (hLs (ix m) (vin_lt (isMethod_in cM h5))).2; have hlt_ := cnt_lt (n := ix (mI M 60 (ix m))) h240 (hLs (ix m) (vin_lt (isMethod_in cM h5))).1 (by omega) (by omega); omega) E
                                            · replace E := E.trans (if_neg h263)
                                              refine V.seg F floX7 cjoX7 [.aload_n 0, .aload_n 0, .iload_n 1, .iload 4, .iload 5] (by decide +kernel) (pc2 := 273) (lv2 := [(0, .ref 52), (1, .int m), (2, .int (mI M 60 (ix m))), (3, .int (nI j166)), (4, .int (nI j237)), (5, .int (nI j259))]) (st2 := [.int (nI j259), .int (nI j237), .int m, .ref 52, .ref 52]) (M2 := M259) rfl ⟨trivial, trivial, trivial, trivial, trivial, trivial⟩ ?_
                                              refine V.callV (as := [.int m, .int (nI j237), .int (nI j259)]) (rest := [.ref 52]) F (by decide +kernel) lX7_276 bX7_cell ⟨7, _, ((q.sm s259.1).o 52 7 rfl), rfl, rfl⟩ (c_X7_cell G X.2.1 M259 m (nI j237) (nI j259) (q.sm s259.1) s259.2.1) (rm_ok hRm hd (by decide) (by decide)) ⟨Nat.zero_le _, Nat.zero_le _⟩ (Nat.le_of_ble_eq_true rfl) (fun r_ N_ p_ => ?_)
                                              obtain ⟨rfl, hN_⟩ := p_
                                              rw [hN_]
                                              clear hN_
                                              refine V.callV (as := [.int (f_X7_cell m (nI j237) (nI j259))]) (rest := []) F (by decide +kernel) lX7_79 bX7_all ⟨7, _, ((q.sm s259.1).o 52 7 rfl), rfl, rfl⟩ (c_X7_all G X.2.1 M259 (f_X7_cell m (nI j237) (nI j259)) (q.sm s259.1) s259.2.1 (cell_in (isMethod_in cM h5) (vp_in_nI (by have le_ := (hLs (ix m) (vin_lt (isMethod_in cM h5))).2; have hlt_ := cnt_lt (n := ix (mI M 60 (ix m))) h240 (hLs (ix m) (vin_lt (isMethod_in cM h5))).1 (by omega) (by omega); omega) (by decide)) (vnj (cnt_lt (n := 8) h263 rfl (by omega) (by decide)) (by decide) (by decide)))) (rm_ok hRm hd (by decide) (by decide)) ⟨Nat.zero_le _, Nat.zero_le _⟩ (Nat.le_of_ble_eq_true rfl) (fun r_ N_ p_ => ?_)
                                              obtain ⟨rfl, rfl, t276⟩ := p_
                                              refine (?_ : ∀ (M279 : Mem), (SK wh M M279) → f_X7_find M m = f_X7_find_c279 j259 (f_X7_find_259 m j237 (f_X7_find_237 m M j166 n237_) n259_) M279 → V G X 6 0 0 (Qx G X 0 0 (p_X7_find M m)) 279 [(0, .ref 52), (1, .int m), (2, .int (mI M 60 (ix m))), (3, .int (nI j166)), (4, .int (nI j237)), (5, .int (nI j259))] [] M279) _ (SK.tr s259 (t276.mono sub_wg_wh)) E
                                              intro M279 s279 E
                                              refine V.seg F floX7 cjoX7 [.iinc 5 1, .goto (-23)] (by decide +kernel) (pc2 := 259) (lv2 := [(5, .int ((nI j259) + 1)), (0, .ref 52), (1, .int m), (2, .int (mI M 60 (ix m))), (3, .int (nI j166)), (4, .int (nI j237))]) (st2 := []) (M2 := M279) rfl ⟨(by decide), (by decide), trivial⟩ ?_
                                              refine V.pick [1, 2, 3, 4, 5, 0] rfl ?_
                                              rw [nI_1]
                                              exact ih_259 (j259 + 1) M279 s279 (by have hlt_ := cnt_lt (n := 8) h263 rfl (by omega) (by decide); omega) (by have hlt_ := cnt_lt (n := 8) h263 rfl (by omega) (by decide); omega) E
                                        refine V.pick [1, 2, 3, 4, 5, 0] rfl ?_
                                        exact hJ259 _ 0 (uI M237 67 (ix ((32 * m) + (nI j237))) 1) (SK.pI s237 rfl) (by omega) (by omega) E
                                  refine V.pick [1, 2, 3, 4, 0] rfl ?_
                                  exact hJ237 _ 0 M226 s226 (by omega) (by omega) E
                              refine V.ic_ge (off := 57) F (by decide +kernel) (tgt := 226) (by decide) (fun h169 => ?_) (fun h169 => ?_)
                              · replace E := E.trans (if_pos h169)
                                refine V.pick [0, 1, 2, 3] rfl ?_
                                exact hJ226 M166 s166 E
                              · replace E := E.trans (if_neg h169)
                                refine V.seg F floX7 cjoX7 [.aload_n 0, .iload_n 2] (by decide +kernel) (pc2 := 174) (lv2 := [(0, .ref 52), (1, .int m), (2, .int (mI M 60 (ix m))), (3, .int (nI j166))]) (st2 := [.int (mI M 60 (ix m)), .ref 52]) (M2 := M166) rfl ⟨trivial, trivial, trivial⟩ ?_
                                refine V.callV (as := [.int (mI M 60 (ix m))]) (rest := []) F (by decide +kernel) lX7_280 bX7_some ⟨7, _, ((q.sm s166.1).o 52 7 rfl), rfl, rfl⟩ (c_X7_some G X.2.1 M166 (mI M 60 (ix m)) (q.sm s166.1) s166.2.1 (hLs (ix m) (vin_lt (isMethod_in cM h5)))) (rm_ok hRm hd (by decide) (by decide)) ⟨Nat.zero_le _, Nat.zero_le _⟩ (Nat.le_of_ble_eq_true rfl) (fun r_ N_ p_ => ?_)
                                obtain ⟨rfl, hN_, z174⟩ := p_
                                rw [hN_]
                                clear hN_
                                refine V.if_eq (off := 49) F (by decide +kernel) (tgt := 226) (by decide) (fun h177 => ?_) (fun h177 => ?_)
                                · replace E := E.trans (if_pos h177)
                                  refine V.pick [0, 1, 2, 3] rfl ?_
                                  exact hJ226 M166 s166 E
                                · replace E := E.trans (if_neg h177)
                                  refine V.seg F floX7 cjoX7 [.iinc 3 1, .iconst 0] (by decide +kernel) (pc2 := 184) (lv2 := [(3, .int ((nI j166) + 1)), (0, .ref 52), (1, .int m), (2, .int (mI M 60 (ix m)))]) (st2 := [.int 0]) (M2 := M166) rfl ⟨(by decide), trivial, trivial⟩ ?_
                                  refine V.seg F floX7 cjoX7 [.istore 4] (by decide +kernel) (pc2 := 186) (lv2 := [(4, .int 0), (3, .int ((nI j166) + 1)), (0, .ref 52), (1, .int m), (2, .int (mI M 60 (ix m)))]) (st2 := []) (M2 := M166) rfl ⟨(by decide), trivial⟩ ?_
                                  have hJ186 : ∀ (n186_ : Nat) (j186 : Nat) (M186 : Mem), (SK wh M M186) → (j186 ≤ ix (mI M 60 (ix m))) → (ix (mI M 60 (ix m)) - j186 < n186_) → f_X7_find M m = f_X7_find_186 m M j166 (f_X7_find_166 m M n166_) n186_ j186 M186 → V G X 6 0 0 (Qx G X 0 0 (p_X7_find M m)) 186 [(0, .ref 52), (1, .int m), (2, .int (mI M 60 (ix m))), (3, .int ((nI j166) + 1)), (4, .int (nI j186))] [] M186 := by
                                    intro n186_
                                    induction n186_ with
                                    | zero => intro j186 M186 s186 b186 m186 E; omega
                                    | succ n186_ ih_186 =>
                                      intro j186 M186 s186 b186 m186 E
                                      rw [f_X7_find_186] at E
                                      refine V.seg F floX7 cjoX7 [.iload 4, .iload_n 2] (by decide +kernel) (pc2 := 189) (lv2 := [(0, .ref 52), (1, .int m), (2, .int (mI M 60 (ix m))), (3, .int ((nI j166) + 1)), (4, .int (nI j186))]) (st2 := [.int (mI M 60 (ix m)), .int (nI j186)]) (M2 := M186) rfl ⟨trivial, trivial, trivial⟩ ?_
                                      refine V.ic_ge (off := 34) F (by decide +kernel) (tgt := 223) (by decide) (fun h189 => ?_) (fun h189 => ?_)
                                      · replace E := E.trans (if_pos h189)
                                        refine V.seg F floX7 cjoX7 [.goto (-57)] (by decide +kernel) (pc2 := 166) (lv2 := [(0, .ref 52), (1, .int m), (2, .int (mI M 60 (ix m))), (3, .int ((nI j166) + 1)), (4, .int (nI j186))]) (st2 := []) (M2 := M186) rfl ⟨(by decide), trivial⟩ ?_
                                        refine V.pick [0, 1, 2, 3] rfl ?_
                                        rw [nI_1]
                                        exact ih_166 (j166 + 1) M186 s186 (by have hlt_ := cnt_lt (n := 30) h169 rfl (by omega) (by decide); omega) (by have hlt_ := cnt_lt (n := 30) h169 rfl (by omega) (by decide); omega) E
                                      · replace E := E.trans (if_neg h189)
                                        refine V.seg F floX7 cjoX7 [.aload_n 0, .getfield 60, .iload 4, .baload] (by decide +kernel) (pc2 := 199) (lv2 := [(0, .ref 52), (1, .int m), (2, .int (mI M 60 (ix m))), (3, .int ((nI j166) + 1)), (4, .int (nI j186))]) (st2 := [.int (mI M186 69 (ix (nI j186)))]) (M2 := M186) rfl ⟨trivial, ((q.sm s186.1).f 52 7 19 rfl), trivial, ((q.sm s186.1).a 69 21 32 rfl (vp_in_nI (by have le_ := (hLs (ix m) (vin_lt (isMethod_in cM h5))).2; have hlt_ := cnt_lt (n := ix (mI M 60 (ix m))) h189 (hLs (ix m) (vin_lt (isMethod_in cM h5))).1 (by omega) (by omega); omega) (by decide))), trivial⟩ ?_
                                        have hJ217 : ∀ (M217 : Mem), (SK wh M M217) → f_X7_find M m = f_X7_find_217 j186 (f_X7_find_186 m M j166 (f_X7_find_166 m M n166_) n186_) M217 → V G X 6 0 0 (Qx G X 0 0 (p_X7_find M m)) 217 [(0, .ref 52), (1, .int m), (2, .int (mI M 60 (ix m))), (3, .int ((nI j166) + 1)), (4, .int (nI j186))] [] M217 := by
                                          intro M217 s217 E
                                          refine V.seg F floX7 cjoX7 [.iinc 4 1, .goto (-34)] (by decide +kernel) (pc2 := 186) (lv2 := [(4, .int ((nI j186) + 1)), (0, .ref 52), (1, .int m), (2, .int (mI M 60 (ix m))), (3, .int ((nI j166) + 1))]) (st2 := []) (M2 := M217) rfl ⟨(by decide), (by decide), trivial⟩ ?_
                                          refine V.pick [1, 2, 3, 4, 0] rfl ?_
                                          rw [nI_1]
                                          exact ih_186 (j186 + 1) M217 s217 (by have le_ := (hLs (ix m) (vin_lt (isMethod_in cM h5))).2; have hlt_ := cnt_lt (n := ix (mI M 60 (ix m))) h189 (hLs (ix m) (vin_lt (isMethod_in cM h5))).1 (by omega) (by omega); omega) (by have le_ := (hLs (ix m) (vin_lt (isMethod_in cM h5))).2; have hlt_ := cnt_lt (n := ix (mI M 60 (ix m))) h189 (hLs (ix m) (vin_lt (isMethod_in cM h5))).1 (by omega) (by omega); omega) E
                                        refine V.if_eq (off := 18) F (by decide +kernel) (tgt := 217) (by decide) (fun h199 => ?_) (fun h199 => ?_)
                                        · replace E := E.trans (if_pos h199)
                                          refine V.pick [0, 1, 2, 3, 4] rfl ?_
                                          exact hJ217 M186 s186 E
                                        · replace E := E.trans (if_neg h199)
                                          refine V.seg F floX7 cjoX7 [.aload_n 0, .getfield 60, .iload 4, .iconst 0, .bastore, .aload_n 0, .iload_n 1, .iload 4] (by decide +kernel) (pc2 := 214) (lv2 := [(0, .ref 52), (1, .int m), (2, .int (mI M 60 (ix m))), (3, .int ((nI j166) + 1)), (4, .int (nI j186))]) (st2 := [.int (nI j186), .int m, .ref 52]) (M2 := uI M186 69 (ix (nI j186)) 0) rfl ⟨trivial, ((q.sm s186.1).f 52 7 19 rfl), trivial, trivial, ⟨((q.sm s186.1).a 69 21 32 rfl (vp_in_nI (by have le_ := (hLs (ix m) (vin_lt (isMethod_in cM h5))).2; have hlt_ := cnt_lt (n := ix (mI M 60 (ix m))) h189 (hLs (ix m) (vin_lt (isMethod_in cM h5))).1 (by omega) (by omega); omega) (by decide))), Or.inl rfl⟩, trivial, trivial, trivial, trivial⟩ ?_
                                          refine V.callV (as := [.int m, .int (nI j186)]) (rest := []) F (by decide +kernel) lX7_283 bX7_work ⟨7, _, ((q.sm (SK.pI s186 rfl).1).o 52 7 rfl), rfl, rfl⟩ (c_X7_work G X.2.1 (uI M186 69 (ix (nI j186)) 0) m (nI j186) (q.sm (SK.pI s186 rfl).1) (SK.pI s186 rfl).2.1 (isMethod_in cM h5) (vp_in_nI (by have le_ := (hLs (ix m) (vin_lt (isMethod_in cM h5))).2; have hlt_ := cnt_lt (n := ix (mI M 60 (ix m))) h189 (hLs (ix m) (vin_lt (isMethod_in cM h5))).1 (by omega) (by omega); omega) (by decide)) (cn.of ((SK.pI s186 rfl).2.2 60 _ rfl).1 (hLs (ix m) (vin_lt (isMethod_in cM h5)))) (fun t ht => cn.of ((SK.pI s186 rfl).2.2 64 _ rfl).1 (hT t ht)) (LnOK.of ((SK.pI s186 rfl).2.2 61 _ rfl).1 ((SK.pI s186 rfl).2.2 62 _ rfl).1 ((SK.pI s186 rfl).2.2 63 _ rfl).1 (hLn _ (by have le_ := (hLs (ix m) (vin_lt (isMethod_in cM h5))).2; exact cnt_lt h189 (hLs (ix m) (vin_lt (isMethod_in cM h5))).1 (by omega) (by omega))))) (rm_ok hRm hd (by decide) (by decide)) ⟨Nat.zero_le _, Nat.zero_le _⟩ (Nat.le_of_ble_eq_true rfl) (fun r_ N_ p_ => ?_)
                                          obtain ⟨rfl, rfl, t214⟩ := p_
                                          refine (?_ : ∀ (M217 : Mem), (SK wh M M217) → f_X7_find M m = f_X7_find_c217 j186 (f_X7_find_186 m M j166 (f_X7_find_166 m M n166_) n186_) M217 → V G X 6 0 0 (Qx G X 0 0 (p_X7_find M m)) 217 [(0, .ref 52), (1, .int m), (2, .int (mI M 60 (ix m))), (3, .int ((nI j166) + 1)), (4, .int (nI j186))] [] M217) _ (SK.tr (SK.pI s186 rfl) t214) E
                                          intro M217 s217 E
                                          refine V.pick [0, 1, 2, 3, 4] rfl ?_
                                          exact hJ217 M217 s217 E
                                  refine V.pick [2, 3, 4, 1, 0] rfl ?_
                                  exact hJ186 _ 0 M166 s166 (by omega) (by omega) E
                          refine V.pick [1, 2, 3, 0] rfl ?_
                          exact hJ166 _ 0 (uI M163 69 (ix 0) w0_163) (SK.pI s163 rfl) (by omega) (by omega) E
                        refine V.if_le (off := 7) F (by decide +kernel) (tgt := 162) (by decide) (fun h155 => ?_) (fun h155 => ?_)
                        · replace E := E.trans (if_pos h155)
                          refine V.seg F floX7 cjoX7 [.iconst 0] (by decide +kernel) (pc2 := 163) (lv2 := [(0, .ref 52), (1, .int m), (2, .int (mI M 60 (ix m)))]) (st2 := [.int 0, .int 0, .ref 69]) (M2 := uI M148 67 (ix (32 * m)) w0_148) rfl ⟨trivial, trivial⟩ ?_
                          refine V.pick [0, 1, 2] rfl ?_
                          exact hJ163 0 (uI M148 67 (ix (32 * m)) w0_148) (SK.pI s148 rfl) (Or.inl rfl) E
                        · replace E := E.trans (if_neg h155)
                          refine V.seg F floX7 cjoX7 [.iconst 1, .goto 4] (by decide +kernel) (pc2 := 163) (lv2 := [(0, .ref 52), (1, .int m), (2, .int (mI M 60 (ix m)))]) (st2 := [.int 1, .int 0, .ref 69]) (M2 := uI M148 67 (ix (32 * m)) w0_148) rfl ⟨trivial, (by decide), trivial⟩ ?_
                          refine V.pick [0, 1, 2] rfl ?_
                          exact hJ163 1 (uI M148 67 (ix (32 * m)) w0_148) (SK.pI s148 rfl) (Or.inr rfl) E
                      refine V.if_le (off := 7) F (by decide +kernel) (tgt := 147) (by decide) (fun h140 => ?_) (fun h140 => ?_)
                      · replace E := E.trans (if_pos h140)
                        refine V.seg F floX7 cjoX7 [.iconst 0] (by decide +kernel) (pc2 := 148) (lv2 := [(0, .ref 52), (1, .int m), (2, .int (mI M 60 (ix m)))]) (st2 := [.int 0, .int (32 * m), .ref 67]) (M2 := M131) rfl ⟨trivial, trivial⟩ ?_
                        refine V.pick [0, 1, 2] rfl ?_
                        exact hJ148 0 M131 s131 (Or.inl rfl) E
                      · replace E := E.trans (if_neg h140)
                        refine V.seg F floX7 cjoX7 [.iconst 1, .goto 4] (by decide +kernel) (pc2 := 148) (lv2 := [(0, .ref 52), (1, .int m), (2, .int (mI M 60 (ix m)))]) (st2 := [.int 1, .int (32 * m), .ref 67]) (M2 := M131) rfl ⟨trivial, (by decide), trivial⟩ ?_
                        refine V.pick [0, 1, 2] rfl ?_
                        exact hJ148 1 M131 s131 (Or.inr rfl) E
                    refine V.ic_ge (off := 33) F (by decide +kernel) (tgt := 131) (by decide) (fun h98 => ?_) (fun h98 => ?_)
                    · replace E := E.trans (if_pos h98)
                      refine V.pick [0, 1, 2] rfl ?_
                      exact hJ131 M95 s95 E
                    · replace E := E.trans (if_neg h98)
                      refine V.seg F floX7 cjoX7 [.iload_n 2] (by decide +kernel) (pc2 := 102) (lv2 := [(0, .ref 52), (1, .int m), (2, .int (mI M 60 (ix m))), (3, .int (nI j95))]) (st2 := [.int (mI M 60 (ix m))]) (M2 := M95) rfl ⟨trivial, trivial⟩ ?_
                      refine V.if_le (off := 29) F (by decide +kernel) (tgt := 131) (by decide) (fun h102 => ?_) (fun h102 => ?_)
                      · replace E := E.trans (if_pos h102)
                        refine V.pick [0, 1, 2] rfl ?_
                        exact hJ131 M95 s95 E
                      · replace E := E.trans (if_neg h102)
                        refine V.seg F floX7 cjoX7 [.aload_n 0, .aload_n 0, .iload_n 1, .iconst 0, .iload_n 3] (by decide +kernel) (pc2 := 110) (lv2 := [(0, .ref 52), (1, .int m), (2, .int (mI M 60 (ix m))), (3, .int (nI j95))]) (st2 := [.int (nI j95), .int 0, .int m, .ref 52, .ref 52]) (M2 := M95) rfl ⟨trivial, trivial, trivial, trivial, trivial, trivial⟩ ?_
                        refine V.callV (as := [.int m, .int 0, .int (nI j95)]) (rest := [.ref 52]) F (by decide +kernel) lX7_276 bX7_cell ⟨7, _, ((q.sm s95.1).o 52 7 rfl), rfl, rfl⟩ (c_X7_cell G X.2.1 M95 m 0 (nI j95) (q.sm s95.1) s95.2.1) (rm_ok hRm hd (by decide) (by decide)) ⟨Nat.zero_le _, Nat.zero_le _⟩ (Nat.le_of_ble_eq_true rfl) (fun r_ N_ p_ => ?_)
                        obtain ⟨rfl, hN_⟩ := p_
                        rw [hN_]
                        clear hN_
                        refine V.seg F floX7 cjoX7 [.bipush 64, .bipush 8, .iload_n 1, .imul, .iadd, .iload_n 3, .iadd] (by decide +kernel) (pc2 := 122) (lv2 := [(0, .ref 52), (1, .int m), (2, .int (mI M 60 (ix m))), (3, .int (nI j95))]) (st2 := [.int ((64 + (8 * m)) + (nI j95)), .int (f_X7_cell m 0 (nI j95)), .ref 52]) (M2 := M95) rfl ⟨trivial, trivial, trivial, trivial, trivial, trivial, trivial, trivial⟩ ?_
                        refine V.callV (as := [.int (f_X7_cell m 0 (nI j95)), .int ((64 + (8 * m)) + (nI j95))]) (rest := []) F (by decide +kernel) lX7_133 bX7_copy ⟨7, _, ((q.sm s95.1).o 52 7 rfl), rfl, rfl⟩ (c_X7_copy G X.2.1 M95 (f_X7_cell m 0 (nI j95)) ((64 + (8 * m)) + (nI j95)) (q.sm s95.1) s95.2.1 (cell_in (isMethod_in cM h5) (vinc (by decide)) (vnj (cnt_lt (n := 8) h98 rfl (by omega) (by decide)) (by decide) (by decide))) (gv_in (isMethod_in cM h5) (vnj (cnt_lt (n := 8) h98 rfl (by omega) (by decide)) (by decide) (by decide)))) (rm_ok hRm hd (by decide) (by decide)) ⟨Nat.zero_le _, Nat.zero_le _⟩ (Nat.le_of_ble_eq_true rfl) (fun r_ N_ p_ => ?_)
                        obtain ⟨rfl, rfl, t122⟩ := p_
                        refine (?_ : ∀ (M125 : Mem), (SK wh M M125) → f_X7_find M m = f_X7_find_c125 j95 (f_X7_find_95 m M n95_) M125 → V G X 6 0 0 (Qx G X 0 0 (p_X7_find M m)) 125 [(0, .ref 52), (1, .int m), (2, .int (mI M 60 (ix m))), (3, .int (nI j95))] [] M125) _ (SK.tr s95 (t122.mono sub_wg_wh)) E
                        intro M125 s125 E
                        refine V.seg F floX7 cjoX7 [.iinc 3 1, .goto (-33)] (by decide +kernel) (pc2 := 95) (lv2 := [(3, .int ((nI j95) + 1)), (0, .ref 52), (1, .int m), (2, .int (mI M 60 (ix m)))]) (st2 := []) (M2 := M125) rfl ⟨(by decide), (by decide), trivial⟩ ?_
                        refine V.pick [1, 2, 3, 0] rfl ?_
                        rw [nI_1]
                        exact ih_95 (j95 + 1) M125 s125 (by have hlt_ := cnt_lt (n := 8) h98 rfl (by omega) (by decide); omega) (by have hlt_ := cnt_lt (n := 8) h98 rfl (by omega) (by decide); omega) E
                refine V.pick [1, 2, 3, 0] rfl ?_
                exact hJ95 _ 0 M66 s66 (by omega) (by omega) E
              · replace E := E.trans (if_neg h70)
                refine V.seg F floX7 cjoX7 [.aload_n 0, .getfield 63, .iload_n 3, .iconst 0, .iastore, .aload_n 0, .getfield 66, .iload_n 3, .iconst 0, .iastore, .iinc 3 1, .goto (-24)] (by decide +kernel) (pc2 := 66) (lv2 := [(3, .int ((nI j66) + 1)), (0, .ref 52), (1, .int m), (2, .int (mI M 60 (ix m)))]) (st2 := []) (M2 := uI (uI M66 70 (ix (nI j66)) 0) 71 (ix (nI j66)) 0) rfl ⟨trivial, ((q.sm s66.1).f 52 7 20 rfl), trivial, trivial, ((q.sm s66.1).a 70 20 256 rfl (vnj (cnt_lt (n := 256) h70 rfl (by omega) (by decide)) (by decide) (by decide))), trivial, ((q.sm (SK.pI s66 rfl).1).f 52 7 21 rfl), trivial, trivial, ((q.sm (SK.pI s66 rfl).1).a 71 20 256 rfl (vnj (cnt_lt (n := 256) h70 rfl (by omega) (by decide)) (by decide) (by decide))), (by decide), (by decide), trivial⟩ ?_
                refine V.pick [1, 2, 3, 0] rfl ?_
                rw [nI_1]
                exact ih_66 (j66 + 1) (uI (uI M66 70 (ix (nI j66)) 0) 71 (ix (nI j66)) 0) (SK.pI (SK.pI s66 rfl) rfl) (by have hlt_ := cnt_lt (n := 256) h70 rfl (by omega) (by decide); omega) (by have hlt_ := cnt_lt (n := 256) h70 rfl (by omega) (by decide); omega) E
          refine V.pick [1, 2, 3, 0] rfl ?_
          exact hJ66 _ 0 M33 s33 (by omega) (by omega) E
        · replace E := E.trans (if_neg h36)
          refine V.seg F floX7 cjoX7 [.aload_n 0, .getfield 60, .iload_n 3, .iconst 0, .bastore, .aload_n 0, .getfield 54, .bipush 32, .iload_n 1, .imul, .iload_n 3, .iadd, .iconst 0, .bastore, .iinc 3 1, .goto (-28)] (by decide +kernel) (pc2 := 33) (lv2 := [(3, .int ((nI j33) + 1)), (0, .ref 52), (1, .int m), (2, .int (mI M 60 (ix m)))]) (st2 := []) (M2 := uI (uI M33 69 (ix (nI j33)) 0) 67 (ix ((32 * m) + (nI j33))) 0) rfl ⟨trivial, ((q.sm s33.1).f 52 7 19 rfl), trivial, trivial, ⟨((q.sm s33.1).a 69 21 32 rfl (vnj (cnt_lt (n := 32) h36 rfl (by omega) (by decide)) (by decide) (by decide))), Or.inl rfl⟩, trivial, ((q.sm (SK.pI s33 rfl).1).f 52 7 17 rfl), trivial, trivial, trivial, trivial, trivial, trivial, ⟨((q.sm (SK.pI s33 rfl).1).a 67 21 192 rfl (rl_in (isMethod_in cM h5) (vnj (cnt_lt (n := 32) h36 rfl (by omega) (by decide)) (by decide) (by decide)))), Or.inl rfl⟩, (by decide), (by decide), trivial⟩ ?_
          refine V.pick [1, 2, 3, 0] rfl ?_
          rw [nI_1]
          exact ih_33 (j33 + 1) (uI (uI M33 69 (ix (nI j33)) 0) 67 (ix ((32 * m) + (nI j33))) 0) (SK.pI (SK.pI s33 rfl) rfl) (by have hlt_ := cnt_lt (n := 32) h36 rfl (by omega) (by decide); omega) (by have hlt_ := cnt_lt (n := 32) h36 rfl (by omega) (by decide); omega) E
    refine V.pick [2, 3, 1, 0] rfl ?_
    exact hJ33 _ 0 (uI (uI M 66 (ix m) 1) 68 (ix m) 0) (SK.pI (SK.pI (SK.rf (w := wh) gb) rfl) rfl) (by omega) (by omega) E
  · replace E := E.trans (if_pos h5)
    refine V.seg F floX7 cjoX7 [.iconst (-1)] (by decide +kernel) (pc2 := 9) (lv2 := [(0, .ref 52), (1, .int m)]) (st2 := [.int ((-1))]) (M2 := M) rfl ⟨trivial, trivial⟩ ?_
    exact V.iret F (by decide +kernel) ⟨congrArg (fun z => some (Value.int z.1)) E.symm, congrArg Prod.snd E.symm, (SK.rf (w := wh) gb)⟩
