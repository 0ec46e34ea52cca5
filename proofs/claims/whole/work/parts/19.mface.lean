def f_X7_isFact (f : Int32) : Int32 := f_X7_in (Int32.toInt64 f) 0 15
abbrev p_X7_isFact (M : Mem) (f : Int32) : Option Value → Mem → Prop := fun r N => r = some (.int (f_X7_isFact f)) ∧ N = M ∧ ((f_X7_isFact f) = 0 ∨ (f_X7_isFact f) = 1)
set_option maxRecDepth 100000 in
set_option maxHeartbeats 4000000 in
theorem c_X7_isFact (G : Ctx) (l : Launch) (M : Mem) (f : Int32)  : CT G l 1 mX7_isFact [.int f] M 0 0 (p_X7_isFact M f) := by
  refine CT.of (by decide) (Nat.le_of_ble_eq_true rfl) ?_
  intro X d hd hl hRm hnm F
  subst hl
  have E : f_X7_isFact f = f_X7_isFact f := rfl
  show V G X 1 0 0 (Qx G X 0 0 (p_X7_isFact M f)) 0 [(0, .int f)] [] M
  refine V.seg F floX7 cjoX7 [.iload_n 0, .i2l, .lconst 0, .ldc2_w 235] (by decide +kernel) (pc2 := 6) (lv2 := [(0, .int f)]) (st2 := [.long 15, .long 0, .long (Int32.toInt64 f)]) (M2 := M) rfl ⟨trivial, trivial, trivial, trivial, trivial⟩ ?_
  refine V.callS (as := [.long (Int32.toInt64 f), .long 0, .long 15]) (rest := []) F (by decide +kernel) lX7_89 bX7_in (c_X7_in G X.2.1 M (Int32.toInt64 f) 0 15) (rm_ok hRm hd (by decide) (by decide)) ⟨Nat.zero_le _, Nat.zero_le _⟩ (Nat.le_of_ble_eq_true rfl) (fun r_ N_ p_ => ?_)
  obtain ⟨rfl, hN_, z6⟩ := p_
  rw [hN_]
  clear hN_
  exact V.zret F (z6) (by decide +kernel) ⟨congrArg (fun z => some (Value.int z)) E.symm, rfl, by rw [E]; exact z6⟩
def f_X7_isPlace (p : Int32) : Int32 := f_X7_in (Int32.toInt64 p) 0 7
abbrev p_X7_isPlace (M : Mem) (p : Int32) : Option Value → Mem → Prop := fun r N => r = some (.int (f_X7_isPlace p)) ∧ N = M ∧ ((f_X7_isPlace p) = 0 ∨ (f_X7_isPlace p) = 1)
set_option maxRecDepth 100000 in
set_option maxHeartbeats 4000000 in
theorem c_X7_isPlace (G : Ctx) (l : Launch) (M : Mem) (p : Int32)  : CT G l 1 mX7_isPlace [.int p] M 0 0 (p_X7_isPlace M p) := by
  refine CT.of (by decide) (Nat.le_of_ble_eq_true rfl) ?_
  intro X d hd hl hRm hnm F
  subst hl
  have E : f_X7_isPlace p = f_X7_isPlace p := rfl
  show V G X 1 0 0 (Qx G X 0 0 (p_X7_isPlace M p)) 0 [(0, .int p)] [] M
  refine V.seg F floX7 cjoX7 [.iload_n 0, .i2l, .lconst 0, .ldc2_w 258] (by decide +kernel) (pc2 := 6) (lv2 := [(0, .int p)]) (st2 := [.long 7, .long 0, .long (Int32.toInt64 p)]) (M2 := M) rfl ⟨trivial, trivial, trivial, trivial, trivial⟩ ?_
  refine V.callS (as := [.long (Int32.toInt64 p), .long 0, .long 7]) (rest := []) F (by decide +kernel) lX7_89 bX7_in (c_X7_in G X.2.1 M (Int32.toInt64 p) 0 7) (rm_ok hRm hd (by decide) (by decide)) ⟨Nat.zero_le _, Nat.zero_le _⟩ (Nat.le_of_ble_eq_true rfl) (fun r_ N_ p_ => ?_)
  obtain ⟨rfl, hN_, z6⟩ := p_
  rw [hN_]
  clear hN_
  exact V.zret F (z6) (by decide +kernel) ⟨congrArg (fun z => some (Value.int z)) E.symm, rfl, by rw [E]; exact z6⟩
theorem nlt_le {a b : Int64} (h : ¬ a < b) : b ≤ a := by
  by_cases q : b ≤ a
  · exact q
  · exact absurd (Int64.not_le.mp q) h
theorem in_iff {v a b : Int64} : ¬ f_X7_in v a b = 0 ↔ a ≤ v ∧ v ≤ b := by
  constructor
  · intro h
    have h1 : ¬ v < a := fun q => h (if_pos q)
    exact ⟨nlt_le h1, nlt_le (fun q => h ((if_neg h1).trans (if_pos q)))⟩
  · intro h1 h
    have h2 : ¬ v < a := fun q => Int64.not_le.mpr q h1.1
    have h3 : ¬ b < v := fun q => Int64.not_le.mpr q h1.2
    have e : f_X7_in v a b = 1 := (if_neg h2).trans (if_neg h3)
    rw [e] at h
    exact absurd h (by decide)
theorem isFact_in {f : Int32} (h : ¬ f_X7_isFact f = 0) : vp_in f 16 := by
  have h1 := in_iff.mp h
  rw [Int64.le_iff_toInt_le, Int64.le_iff_toInt_le, Int32.toInt_toInt64] at h1
  rw [vp_in_iff]
  have e0 : (0 : Int64).toInt = 0 := rfl
  have e15 : (15 : Int64).toInt = 15 := rfl
  rw [e0, e15] at h1
  omega
theorem isPlace_in {f : Int32} (h : ¬ f_X7_isPlace f = 0) : vp_in f 8 := by
  have h1 := in_iff.mp h
  rw [Int64.le_iff_toInt_le, Int64.le_iff_toInt_le, Int32.toInt_toInt64] at h1
  rw [vp_in_iff]
  have e0 : (0 : Int64).toInt = 0 := rfl
  have e7 : (7 : Int64).toInt = 7 := rfl
  rw [e0, e7] at h1
  omega
theorem vin_w {i : Int32} {n m : Nat} (h : vp_in i n) (hm : n ≤ m) : vp_in i m := fun q => h (q.imp id (fun z => Nat.le_trans hm z))
theorem i2l_ne {m : Int32} (h : ¬ m < 1) : ¬ m.toInt64 = 0 := by
  intro e
  have h1 : m.toInt64.toInt = (0 : Int64).toInt := by rw [e]
  rw [Int32.toInt_toInt64] at h1
  apply h
  rw [Int32.lt_iff_toInt_lt, h1]
  decide
def f_X7_fact_50  (w0_50 : Int32) (M50 : Mem) : Int32 × Mem := (w0_50, M50)
def f_X7_fact_c36 (f : Int32) (M36 : Mem) : Int32 × Mem := if (mI M36 53 (ix f)) = 0 then f_X7_fact_50 1 M36 else f_X7_fact_50 0 M36
def f_X7_fact_31 (f : Int32) (M31 : Mem) : Int32 × Mem := f_X7_fact_c36 f (f_X7_sharpen M31 f)
def f_X7_fact_c31 (f : Int32) (M31 : Mem) : Int32 × Mem := f_X7_fact_31 f M31
def f_X7_fact_c19 (f : Int32) (pl : Int64) (ph : Int64) (M19 : Mem) : Int32 × Mem := if pl ≤ ph then f_X7_fact_31 f M19 else f_X7_fact_c31 f (f_X7_nothing M19 f)
def f_X7_fact (M : Mem) (f : Int32) (pl : Int64) (ph : Int64) : Int32 × Mem := if (f_X7_isFact f) = 0 then ((-1), M) else f_X7_fact_c19 f pl ph (f_X7_put M f pl ph 0 0)
abbrev p_X7_fact (M : Mem) (f : Int32) (pl : Int64) (ph : Int64) : Option Value → Mem → Prop := fun r N => r = some (.int (f_X7_fact M f pl ph).1) ∧ N = (f_X7_fact M f pl ph).2 ∧ SK wg M N
set_option maxRecDepth 100000 in
set_option maxHeartbeats 4000000 in
theorem c_X7_fact (G : Ctx) (l : Launch) (M : Mem) (f : Int32) (pl : Int64) (ph : Int64) (q : Ok M) (gb : Gb M) : CT G l 4 mX7_fact [.ref 52, .int f, .long pl, .long ph] M 0 0 (p_X7_fact M f pl ph) := by
  refine CT.of (by decide) (Nat.le_of_ble_eq_true rfl) ?_
  intro X d hd hl hRm hnm F
  subst hl
  have E : f_X7_fact M f pl ph = f_X7_fact M f pl ph := rfl
  show V G X 6 0 0 (Qx G X 0 0 (p_X7_fact M f pl ph)) 0 [(0, .ref 52), (1, .int f), (2, .long pl), (4, .long ph)] [] M
  refine V.seg F floX7 cjoX7 [.iload_n 1] (by decide +kernel) (pc2 := 1) (lv2 := [(0, .ref 52), (1, .int f), (2, .long pl), (4, .long ph)]) (st2 := [.int f]) (M2 := M) rfl ⟨trivial, trivial⟩ ?_
  refine V.callS (as := [.int f]) (rest := []) F (by decide +kernel) lX7_237 bX7_isFact (c_X7_isFact G X.2.1 M f) (rm_ok hRm hd (by decide) (by decide)) ⟨Nat.zero_le _, Nat.zero_le _⟩ (Nat.le_of_ble_eq_true rfl) (fun r_ N_ p_ => ?_)
  obtain ⟨rfl, hN_, z1⟩ := p_
  rw [hN_]
  clear hN_
  refine V.if_ne (off := 5) F (by decide +kernel) (tgt := 9) (by decide) (fun h4 => ?_) (fun h4 => ?_)
  · replace E := E.trans (if_neg h4)
    refine V.seg F floX7 cjoX7 [.aload_n 0, .iload_n 1, .lload_n 2, .lload 4, .lconst 0, .lconst 0] (by decide +kernel) (pc2 := 16) (lv2 := [(0, .ref 52), (1, .int f), (2, .long pl), (4, .long ph)]) (st2 := [.long 0, .long 0, .long ph, .long pl, .int f, .ref 52]) (M2 := M) rfl ⟨trivial, trivial, trivial, trivial, trivial, trivial, trivial⟩ ?_
    refine V.callV (as := [.int f, .long pl, .long ph, .long 0, .long 0]) (rest := []) F (by decide +kernel) lX7_157 bX7_put ⟨7, _, (q.o 52 7 rfl), rfl, rfl⟩ (c_X7_put G X.2.1 M f pl ph 0 0 q gb (vin_w (isFact_in h4) (by decide))) (rm_ok hRm hd (by decide) (by decide)) ⟨Nat.zero_le _, Nat.zero_le _⟩ (Nat.le_of_ble_eq_true rfl) (fun r_ N_ p_ => ?_)
    obtain ⟨rfl, rfl, t16⟩ := p_
    refine (?_ : ∀ (M19 : Mem), (SK wg M M19) → f_X7_fact M f pl ph = f_X7_fact_c19 f pl ph M19 → V G X 6 0 0 (Qx G X 0 0 (p_X7_fact M f pl ph)) 19 [(0, .ref 52), (1, .int f), (2, .long pl), (4, .long ph)] [] M19) _ t16 E
    intro M19 s19 E
    refine V.seg F floX7 cjoX7 [.lload_n 2, .lload 4, .lcmp] (by decide +kernel) (pc2 := 23) (lv2 := [(0, .ref 52), (1, .int f), (2, .long pl), (4, .long ph)]) (st2 := [.int (lg_cmp pl ph)]) (M2 := M19) rfl ⟨trivial, trivial, trivial, trivial⟩ ?_
    have hJ31 : ∀ (M31 : Mem), (SK wg M M31) → f_X7_fact M f pl ph = f_X7_fact_31 f M31 → V G X 6 0 0 (Qx G X 0 0 (p_X7_fact M f pl ph)) 31 [(0, .ref 52), (1, .int f)] [] M31 := by
      intro M31 s31 E
      refine V.seg F floX7 cjoX7 [.aload_n 0, .iload_n 1] (by decide +kernel) (pc2 := 33) (lv2 := [(0, .ref 52), (1, .int f)]) (st2 := [.int f, .ref 52]) (M2 := M31) rfl ⟨trivial, trivial, trivial⟩ ?_
      refine V.callV (as := [.int f]) (rest := []) F (by decide +kernel) lX7_165 bX7_sharpen ⟨7, _, ((q.sm s31.1).o 52 7 rfl), rfl, rfl⟩ (c_X7_sharpen G X.2.1 M31 f (q.sm s31.1) s31.2.1 (vin_w (isFact_in h4) (by decide))) (rm_ok hRm hd (by decide) (by decide)) ⟨Nat.zero_le _, Nat.zero_le _⟩ (Nat.le_of_ble_eq_true rfl) (fun r_ N_ p_ => ?_)
      obtain ⟨rfl, rfl, t33⟩ := p_
      refine (?_ : ∀ (M36 : Mem), (SK wg M M36) → f_X7_fact M f pl ph = f_X7_fact_c36 f M36 → V G X 6 0 0 (Qx G X 0 0 (p_X7_fact M f pl ph)) 36 [(0, .ref 52), (1, .int f)] [] M36) _ (SK.tr s31 t33) E
      intro M36 s36 E
      refine V.seg F floX7 cjoX7 [.aload_n 0, .getfield 9, .iload_n 1, .baload] (by decide +kernel) (pc2 := 42) (lv2 := [(0, .ref 52), (1, .int f)]) (st2 := [.int (mI M36 53 (ix f))]) (M2 := M36) rfl ⟨trivial, ((q.sm s36.1).f 52 7 0 rfl), trivial, ((q.sm s36.1).a 53 21 1648 rfl (vin_w (isFact_in h4) (by decide))), trivial⟩ ?_
      have hJ50 : ∀ (w0_50 : Int32) (M50 : Mem), (SK wg M M50) → f_X7_fact M f pl ph = f_X7_fact_50 w0_50 M50 → V G X 6 0 0 (Qx G X 0 0 (p_X7_fact M f pl ph)) 50 [] [.int w0_50] M50 := by
        intro w0_50 M50 s50 E
        exact V.iret F (by decide +kernel) ⟨congrArg (fun z => some (Value.int z.1)) E.symm, congrArg Prod.snd E.symm, s50⟩
      refine V.if_eq (off := 7) F (by decide +kernel) (tgt := 49) (by decide) (fun h42 => ?_) (fun h42 => ?_)
      · replace E := E.trans (if_pos h42)
        refine V.seg F floX7 cjoX7 [.iconst 1] (by decide +kernel) (pc2 := 50) (lv2 := [(0, .ref 52), (1, .int f)]) (st2 := [.int 1]) (M2 := M36) rfl ⟨trivial, trivial⟩ ?_
        refine V.pick [] rfl ?_
        exact hJ50 1 M36 s36 E
      · replace E := E.trans (if_neg h42)
        refine V.seg F floX7 cjoX7 [.iconst 0, .goto 4] (by decide +kernel) (pc2 := 50) (lv2 := [(0, .ref 52), (1, .int f)]) (st2 := [.int 0]) (M2 := M36) rfl ⟨trivial, (by decide), trivial⟩ ?_
        refine V.pick [] rfl ?_
        exact hJ50 0 M36 s36 E
    refine V.lc_le (off := 8) F (by decide +kernel) (tgt := 31) (by decide) (fun h23 => ?_) (fun h23 => ?_)
    · replace E := E.trans (if_pos h23)
      refine V.pick [0, 1] rfl ?_
      exact hJ31 M19 s19 E
    · replace E := E.trans (if_neg h23)
      refine V.seg F floX7 cjoX7 [.aload_n 0, .iload_n 1] (by decide +kernel) (pc2 := 28) (lv2 := [(0, .ref 52), (1, .int f), (2, .long pl), (4, .long ph)]) (st2 := [.int f, .ref 52]) (M2 := M19) rfl ⟨trivial, trivial, trivial⟩ ?_
      refine V.callV (as := [.int f]) (rest := []) F (by decide +kernel) lX7_115 bX7_nothing ⟨7, _, ((q.sm s19.1).o 52 7 rfl), rfl, rfl⟩ (c_X7_nothing G X.2.1 M19 f (q.sm s19.1) s19.2.1 (vin_w (isFact_in h4) (by decide))) (rm_ok hRm hd (by decide) (by decide)) ⟨Nat.zero_le _, Nat.zero_le _⟩ (Nat.le_of_ble_eq_true rfl) (fun r_ N_ p_ => ?_)
      obtain ⟨rfl, rfl, t28⟩ := p_
      refine (?_ : ∀ (M31 : Mem), (SK wg M M31) → f_X7_fact M f pl ph = f_X7_fact_c31 f M31 → V G X 6 0 0 (Qx G X 0 0 (p_X7_fact M f pl ph)) 31 [(0, .ref 52), (1, .int f), (2, .long pl), (4, .long ph)] [] M31) _ (SK.tr s19 t28) E
      intro M31 s31 E
      refine V.pick [0, 1] rfl ?_
      exact hJ31 M31 s31 E
  · replace E := E.trans (if_pos h4)
    refine V.seg F floX7 cjoX7 [.iconst (-1)] (by decide +kernel) (pc2 := 8) (lv2 := [(0, .ref 52), (1, .int f), (2, .long pl), (4, .long ph)]) (st2 := [.int ((-1))]) (M2 := M) rfl ⟨trivial, trivial⟩ ?_
    exact V.iret F (by decide +kernel) ⟨congrArg (fun z => some (Value.int z.1)) E.symm, congrArg Prod.snd E.symm, (SK.rf (w := wg) gb)⟩
def f_X7_bits_54  (w0_54 : Int32) (M54 : Mem) : Int32 × Mem := (w0_54, M54)
def f_X7_bits_c40 (f : Int32) (M40 : Mem) : Int32 × Mem := if (mI M40 53 (ix f)) = 0 then f_X7_bits_54 1 M40 else f_X7_bits_54 0 M40
def f_X7_bits_c32 (f : Int32) (M32 : Mem) : Int32 × Mem := f_X7_bits_c40 f (f_X7_meet M32 f 17 f)
def f_X7_bits_c26 (f : Int32) (M26 : Mem) : Int32 × Mem := f_X7_bits_c32 f (f_X7_sharpen M26 17)
def f_X7_bits (M : Mem) (f : Int32) (k : Int64) (v : Int64) : Int32 × Mem := if (f_X7_isFact f) = 0 then ((-1), M) else f_X7_bits_c26 f (f_X7_put M 17 ((-9223372036854775808)) 9223372036854775807 k (v &&& k))
abbrev p_X7_bits (M : Mem) (f : Int32) (k : Int64) (v : Int64) : Option Value → Mem → Prop := fun r N => r = some (.int (f_X7_bits M f k v).1) ∧ N = (f_X7_bits M f k v).2 ∧ SK wg M N
set_option maxRecDepth 100000 in
set_option maxHeartbeats 4000000 in
theorem c_X7_bits (G : Ctx) (l : Launch) (M : Mem) (f : Int32) (k : Int64) (v : Int64) (q : Ok M) (gb : Gb M) : CT G l 5 mX7_bits [.ref 52, .int f, .long k, .long v] M 0 0 (p_X7_bits M f k v) := by
  refine CT.of (by decide) (Nat.le_of_ble_eq_true rfl) ?_
  intro X d hd hl hRm hnm F
  subst hl
  have E : f_X7_bits M f k v = f_X7_bits M f k v := rfl
  show V G X 6 0 0 (Qx G X 0 0 (p_X7_bits M f k v)) 0 [(0, .ref 52), (1, .int f), (2, .long k), (4, .long v)] [] M
  refine V.seg F floX7 cjoX7 [.iload_n 1] (by decide +kernel) (pc2 := 1) (lv2 := [(0, .ref 52), (1, .int f), (2, .long k), (4, .long v)]) (st2 := [.int f]) (M2 := M) rfl ⟨trivial, trivial⟩ ?_
  refine V.callS (as := [.int f]) (rest := []) F (by decide +kernel) lX7_237 bX7_isFact (c_X7_isFact G X.2.1 M f) (rm_ok hRm hd (by decide) (by decide)) ⟨Nat.zero_le _, Nat.zero_le _⟩ (Nat.le_of_ble_eq_true rfl) (fun r_ N_ p_ => ?_)
  obtain ⟨rfl, hN_, z1⟩ := p_
  rw [hN_]
  clear hN_
  refine V.if_ne (off := 5) F (by decide +kernel) (tgt := 9) (by decide) (fun h4 => ?_) (fun h4 => ?_)
  · replace E := E.trans (if_neg h4)
    refine V.seg F floX7 cjoX7 [.aload_n 0, .bipush 17, .ldc2_w 83, .ldc2_w 85, .lload_n 2, .lload 4, .lload_n 2, .land] (by decide +kernel) (pc2 := 23) (lv2 := [(0, .ref 52), (1, .int f), (2, .long k), (4, .long v)]) (st2 := [.long (v &&& k), .long k, .long 9223372036854775807, .long ((-9223372036854775808)), .int 17, .ref 52]) (M2 := M) rfl ⟨trivial, trivial, trivial, trivial, trivial, trivial, trivial, trivial, trivial⟩ ?_
    refine V.callV (as := [.int 17, .long ((-9223372036854775808)), .long 9223372036854775807, .long k, .long (v &&& k)]) (rest := []) F (by decide +kernel) lX7_157 bX7_put ⟨7, _, (q.o 52 7 rfl), rfl, rfl⟩ (c_X7_put G X.2.1 M 17 ((-9223372036854775808)) 9223372036854775807 k (v &&& k) q gb (vinc (by decide))) (rm_ok hRm hd (by decide) (by decide)) ⟨Nat.zero_le _, Nat.zero_le _⟩ (Nat.le_of_ble_eq_true rfl) (fun r_ N_ p_ => ?_)
    obtain ⟨rfl, rfl, t23⟩ := p_
    refine (?_ : ∀ (M26 : Mem), (SK wg M M26) → f_X7_bits M f k v = f_X7_bits_c26 f M26 → V G X 6 0 0 (Qx G X 0 0 (p_X7_bits M f k v)) 26 [(0, .ref 52), (1, .int f), (2, .long k), (4, .long v)] [] M26) _ t23 E
    intro M26 s26 E
    refine V.seg F floX7 cjoX7 [.aload_n 0, .bipush 17] (by decide +kernel) (pc2 := 29) (lv2 := [(0, .ref 52), (1, .int f), (2, .long k), (4, .long v)]) (st2 := [.int 17, .ref 52]) (M2 := M26) rfl ⟨trivial, trivial, trivial⟩ ?_
    refine V.callV (as := [.int 17]) (rest := []) F (by decide +kernel) lX7_165 bX7_sharpen ⟨7, _, ((q.sm s26.1).o 52 7 rfl), rfl, rfl⟩ (c_X7_sharpen G X.2.1 M26 17 (q.sm s26.1) s26.2.1 (vinc (by decide))) (rm_ok hRm hd (by decide) (by decide)) ⟨Nat.zero_le _, Nat.zero_le _⟩ (Nat.le_of_ble_eq_true rfl) (fun r_ N_ p_ => ?_)
    obtain ⟨rfl, rfl, t29⟩ := p_
    refine (?_ : ∀ (M32 : Mem), (SK wg M M32) → f_X7_bits M f k v = f_X7_bits_c32 f M32 → V G X 6 0 0 (Qx G X 0 0 (p_X7_bits M f k v)) 32 [(0, .ref 52), (1, .int f), (2, .long k), (4, .long v)] [] M32) _ (SK.tr s26 t29) E
    intro M32 s32 E
    refine V.seg F floX7 cjoX7 [.aload_n 0, .iload_n 1, .bipush 17, .iload_n 1] (by decide +kernel) (pc2 := 37) (lv2 := [(0, .ref 52), (1, .int f), (2, .long k), (4, .long v)]) (st2 := [.int f, .int 17, .int f, .ref 52]) (M2 := M32) rfl ⟨trivial, trivial, trivial, trivial, trivial⟩ ?_
    refine V.callV (as := [.int f, .int 17, .int f]) (rest := []) F (by decide +kernel) lX7_240 bX7_meet ⟨7, _, ((q.sm s32.1).o 52 7 rfl), rfl, rfl⟩ (c_X7_meet G X.2.1 M32 f 17 f (q.sm s32.1) s32.2.1 (vin_w (isFact_in h4) (by decide)) (vinc (by decide)) (vin_w (isFact_in h4) (by decide))) (rm_ok hRm hd (by decide) (by decide)) ⟨Nat.zero_le _, Nat.zero_le _⟩ (Nat.le_of_ble_eq_true rfl) (fun r_ N_ p_ => ?_)
    obtain ⟨rfl, rfl, t37⟩ := p_
    refine (?_ : ∀ (M40 : Mem), (SK wg M M40) → f_X7_bits M f k v = f_X7_bits_c40 f M40 → V G X 6 0 0 (Qx G X 0 0 (p_X7_bits M f k v)) 40 [(0, .ref 52), (1, .int f), (2, .long k), (4, .long v)] [] M40) _ (SK.tr s32 t37) E
    intro M40 s40 E
    refine V.seg F floX7 cjoX7 [.aload_n 0, .getfield 9, .iload_n 1, .baload] (by decide +kernel) (pc2 := 46) (lv2 := [(0, .ref 52), (1, .int f), (2, .long k), (4, .long v)]) (st2 := [.int (mI M40 53 (ix f))]) (M2 := M40) rfl ⟨trivial, ((q.sm s40.1).f 52 7 0 rfl), trivial, ((q.sm s40.1).a 53 21 1648 rfl (vin_w (isFact_in h4) (by decide))), trivial⟩ ?_
    have hJ54 : ∀ (w0_54 : Int32) (M54 : Mem), (SK wg M M54) → f_X7_bits M f k v = f_X7_bits_54 w0_54 M54 → V G X 6 0 0 (Qx G X 0 0 (p_X7_bits M f k v)) 54 [] [.int w0_54] M54 := by
      intro w0_54 M54 s54 E
      exact V.iret F (by decide +kernel) ⟨congrArg (fun z => some (Value.int z.1)) E.symm, congrArg Prod.snd E.symm, s54⟩
    refine V.if_eq (off := 7) F (by decide +kernel) (tgt := 53) (by decide) (fun h46 => ?_) (fun h46 => ?_)
    · replace E := E.trans (if_pos h46)
      refine V.seg F floX7 cjoX7 [.iconst 1] (by decide +kernel) (pc2 := 54) (lv2 := [(0, .ref 52), (1, .int f), (2, .long k), (4, .long v)]) (st2 := [.int 1]) (M2 := M40) rfl ⟨trivial, trivial⟩ ?_
      refine V.pick [] rfl ?_
      exact hJ54 1 M40 s40 E
    · replace E := E.trans (if_neg h46)
      refine V.seg F floX7 cjoX7 [.iconst 0, .goto 4] (by decide +kernel) (pc2 := 54) (lv2 := [(0, .ref 52), (1, .int f), (2, .long k), (4, .long v)]) (st2 := [.int 0]) (M2 := M40) rfl ⟨trivial, (by decide), trivial⟩ ?_
      refine V.pick [] rfl ?_
      exact hJ54 0 M40 s40 E
  · replace E := E.trans (if_pos h4)
    refine V.seg F floX7 cjoX7 [.iconst (-1)] (by decide +kernel) (pc2 := 8) (lv2 := [(0, .ref 52), (1, .int f), (2, .long k), (4, .long v)]) (st2 := [.int ((-1))]) (M2 := M) rfl ⟨trivial, trivial⟩ ?_
    exact V.iret F (by decide +kernel) ⟨congrArg (fun z => some (Value.int z.1)) E.symm, congrArg Prod.snd E.symm, (SK.rf (w := wg) gb)⟩
def f_X7_rest_18  (M18 : Mem) : Int32 × Mem := ((-1), M18)
def f_X7_rest_63  (w0_63 : Int32) (M63 : Mem) : Int32 × Mem := (w0_63, M63)
def f_X7_rest_c49 (f : Int32) (M49 : Mem) : Int32 × Mem := if (mI M49 53 (ix f)) = 0 then f_X7_rest_63 1 M49 else f_X7_rest_63 0 M49
def f_X7_rest_c41 (f : Int32) (M41 : Mem) : Int32 × Mem := f_X7_rest_c49 f (f_X7_meet M41 f 17 f)
def f_X7_rest_c35 (f : Int32) (M35 : Mem) : Int32 × Mem := f_X7_rest_c41 f (f_X7_sharpen M35 17)
def f_X7_rest_c26 (f : Int32) (m : Int32) (pr : Int64) (M26 : Mem) : Int32 × Mem := f_X7_rest_c35 f (f_X7_setRest M26 17 (Int32.toInt64 m) pr)
def f_X7_rest (M : Mem) (f : Int32) (m : Int32) (pr : Int64) : Int32 × Mem := if (f_X7_isFact f) = 0 then f_X7_rest_18 M else if m < 1 then f_X7_rest_18 M else if (irem m 2) = 0 then f_X7_rest_18 M else f_X7_rest_c26 f m pr (f_X7_all M 17)
abbrev p_X7_rest (M : Mem) (f : Int32) (m : Int32) (pr : Int64) : Option Value → Mem → Prop := fun r N => r = some (.int (f_X7_rest M f m pr).1) ∧ N = (f_X7_rest M f m pr).2 ∧ SK wg M N
set_option maxRecDepth 100000 in
set_option maxHeartbeats 4000000 in
theorem c_X7_rest (G : Ctx) (l : Launch) (M : Mem) (f : Int32) (m : Int32) (pr : Int64) (q : Ok M) (gb : Gb M) : CT G l 5 mX7_rest [.ref 52, .int f, .int m, .long pr] M 0 0 (p_X7_rest M f m pr) := by
  refine CT.of (by decide) (Nat.le_of_ble_eq_true rfl) ?_
  intro X d hd hl hRm hnm F
  subst hl
  have E : f_X7_rest M f m pr = f_X7_rest M f m pr := rfl
  show V G X 5 0 0 (Qx G X 0 0 (p_X7_rest M f m pr)) 0 [(0, .ref 52), (1, .int f), (2, .int m), (3, .long pr)] [] M
  refine V.seg F floX7 cjoX7 [.iload_n 1] (by decide +kernel) (pc2 := 1) (lv2 := [(0, .ref 52), (1, .int f), (2, .int m), (3, .long pr)]) (st2 := [.int f]) (M2 := M) rfl ⟨trivial, trivial⟩ ?_
  refine V.callS (as := [.int f]) (rest := []) F (by decide +kernel) lX7_237 bX7_isFact (c_X7_isFact G X.2.1 M f) (rm_ok hRm hd (by decide) (by decide)) ⟨Nat.zero_le _, Nat.zero_le _⟩ (Nat.le_of_ble_eq_true rfl) (fun r_ N_ p_ => ?_)
  obtain ⟨rfl, hN_, z1⟩ := p_
  rw [hN_]
  clear hN_
  have hJ18 : ∀ (M18 : Mem), (SK wg M M18) → f_X7_rest M f m pr = f_X7_rest_18 M18 → V G X 5 0 0 (Qx G X 0 0 (p_X7_rest M f m pr)) 18 [] [] M18 := by
    intro M18 s18 E
    refine V.seg F floX7 cjoX7 [.iconst (-1)] (by decide +kernel) (pc2 := 19) (lv2 := []) (st2 := [.int ((-1))]) (M2 := M18) rfl ⟨trivial, trivial⟩ ?_
    exact V.iret F (by decide +kernel) ⟨congrArg (fun z => some (Value.int z.1)) E.symm, congrArg Prod.snd E.symm, s18⟩
  refine V.if_eq (off := 14) F (by decide +kernel) (tgt := 18) (by decide) (fun h4 => ?_) (fun h4 => ?_)
  · replace E := E.trans (if_pos h4)
    refine V.pick [] rfl ?_
    exact hJ18 M (SK.rf (w := wg) gb) E
  · replace E := E.trans (if_neg h4)
    refine V.seg F floX7 cjoX7 [.iload_n 2, .iconst 1] (by decide +kernel) (pc2 := 9) (lv2 := [(0, .ref 52), (1, .int f), (2, .int m), (3, .long pr)]) (st2 := [.int 1, .int m]) (M2 := M) rfl ⟨trivial, trivial, trivial⟩ ?_
    refine V.ic_lt (off := 9) F (by decide +kernel) (tgt := 18) (by decide) (fun h9 => ?_) (fun h9 => ?_)
    · replace E := E.trans (if_pos h9)
      refine V.pick [] rfl ?_
      exact hJ18 M (SK.rf (w := wg) gb) E
    · replace E := E.trans (if_neg h9)
      refine V.seg F floX7 cjoX7 [.iload_n 2, .iconst 2, .irem] (by decide +kernel) (pc2 := 15) (lv2 := [(0, .ref 52), (1, .int f), (2, .int m), (3, .long pr)]) (st2 := [.int (irem m 2)]) (M2 := M) rfl ⟨trivial, trivial, (by decide), trivial⟩ ?_
      refine V.if_ne (off := 5) F (by decide +kernel) (tgt := 20) (by decide) (fun h15 => ?_) (fun h15 => ?_)
      · replace E := E.trans (if_neg h15)
        refine V.seg F floX7 cjoX7 [.aload_n 0, .bipush 17] (by decide +kernel) (pc2 := 23) (lv2 := [(0, .ref 52), (1, .int f), (2, .int m), (3, .long pr)]) (st2 := [.int 17, .ref 52]) (M2 := M) rfl ⟨trivial, trivial, trivial⟩ ?_
        refine V.callV (as := [.int 17]) (rest := []) F (by decide +kernel) lX7_79 bX7_all ⟨7, _, (q.o 52 7 rfl), rfl, rfl⟩ (c_X7_all G X.2.1 M 17 q gb (vinc (by decide))) (rm_ok hRm hd (by decide) (by decide)) ⟨Nat.zero_le _, Nat.zero_le _⟩ (Nat.le_of_ble_eq_true rfl) (fun r_ N_ p_ => ?_)
        obtain ⟨rfl, rfl, t23⟩ := p_
        refine (?_ : ∀ (M26 : Mem), (SK wg M M26) → f_X7_rest M f m pr = f_X7_rest_c26 f m pr M26 → V G X 5 0 0 (Qx G X 0 0 (p_X7_rest M f m pr)) 26 [(0, .ref 52), (1, .int f), (2, .int m), (3, .long pr)] [] M26) _ t23 E
        intro M26 s26 E
        refine V.seg F floX7 cjoX7 [.aload_n 0, .bipush 17, .iload_n 2, .i2l, .lload_n 3] (by decide +kernel) (pc2 := 32) (lv2 := [(0, .ref 52), (1, .int f), (2, .int m), (3, .long pr)]) (st2 := [.long pr, .long (Int32.toInt64 m), .int 17, .ref 52]) (M2 := M26) rfl ⟨trivial, trivial, trivial, trivial, trivial, trivial⟩ ?_
        refine V.callV (as := [.int 17, .long (Int32.toInt64 m), .long pr]) (rest := []) F (by decide +kernel) lX7_161 bX7_setRest ⟨7, _, ((q.sm s26.1).o 52 7 rfl), rfl, rfl⟩ (c_X7_setRest G X.2.1 M26 17 (Int32.toInt64 m) pr (q.sm s26.1) s26.2.1 (vinc (by decide)) (i2l_ne h9)) (rm_ok hRm hd (by decide) (by decide)) ⟨Nat.zero_le _, Nat.zero_le _⟩ (Nat.le_of_ble_eq_true rfl) (fun r_ N_ p_ => ?_)
        obtain ⟨rfl, rfl, t32⟩ := p_
        refine (?_ : ∀ (M35 : Mem), (SK wg M M35) → f_X7_rest M f m pr = f_X7_rest_c35 f M35 → V G X 5 0 0 (Qx G X 0 0 (p_X7_rest M f m pr)) 35 [(0, .ref 52), (1, .int f), (2, .int m), (3, .long pr)] [] M35) _ (SK.tr s26 t32) E
        intro M35 s35 E
        refine V.seg F floX7 cjoX7 [.aload_n 0, .bipush 17] (by decide +kernel) (pc2 := 38) (lv2 := [(0, .ref 52), (1, .int f), (2, .int m), (3, .long pr)]) (st2 := [.int 17, .ref 52]) (M2 := M35) rfl ⟨trivial, trivial, trivial⟩ ?_
        refine V.callV (as := [.int 17]) (rest := []) F (by decide +kernel) lX7_165 bX7_sharpen ⟨7, _, ((q.sm s35.1).o 52 7 rfl), rfl, rfl⟩ (c_X7_sharpen G X.2.1 M35 17 (q.sm s35.1) s35.2.1 (vinc (by decide))) (rm_ok hRm hd (by decide) (by decide)) ⟨Nat.zero_le _, Nat.zero_le _⟩ (Nat.le_of_ble_eq_true rfl) (fun r_ N_ p_ => ?_)
        obtain ⟨rfl, rfl, t38⟩ := p_
        refine (?_ : ∀ (M41 : Mem), (SK wg M M41) → f_X7_rest M f m pr = f_X7_rest_c41 f M41 → V G X 5 0 0 (Qx G X 0 0 (p_X7_rest M f m pr)) 41 [(0, .ref 52), (1, .int f), (2, .int m), (3, .long pr)] [] M41) _ (SK.tr s35 t38) E
        intro M41 s41 E
        refine V.seg F floX7 cjoX7 [.aload_n 0, .iload_n 1, .bipush 17, .iload_n 1] (by decide +kernel) (pc2 := 46) (lv2 := [(0, .ref 52), (1, .int f), (2, .int m), (3, .long pr)]) (st2 := [.int f, .int 17, .int f, .ref 52]) (M2 := M41) rfl ⟨trivial, trivial, trivial, trivial, trivial⟩ ?_
        refine V.callV (as := [.int f, .int 17, .int f]) (rest := []) F (by decide +kernel) lX7_240 bX7_meet ⟨7, _, ((q.sm s41.1).o 52 7 rfl), rfl, rfl⟩ (c_X7_meet G X.2.1 M41 f 17 f (q.sm s41.1) s41.2.1 (vin_w (isFact_in h4) (by decide)) (vinc (by decide)) (vin_w (isFact_in h4) (by decide))) (rm_ok hRm hd (by decide) (by decide)) ⟨Nat.zero_le _, Nat.zero_le _⟩ (Nat.le_of_ble_eq_true rfl) (fun r_ N_ p_ => ?_)
        obtain ⟨rfl, rfl, t46⟩ := p_
        refine (?_ : ∀ (M49 : Mem), (SK wg M M49) → f_X7_rest M f m pr = f_X7_rest_c49 f M49 → V G X 5 0 0 (Qx G X 0 0 (p_X7_rest M f m pr)) 49 [(0, .ref 52), (1, .int f), (2, .int m), (3, .long pr)] [] M49) _ (SK.tr s41 t46) E
        intro M49 s49 E
        refine V.seg F floX7 cjoX7 [.aload_n 0, .getfield 9, .iload_n 1, .baload] (by decide +kernel) (pc2 := 55) (lv2 := [(0, .ref 52), (1, .int f), (2, .int m), (3, .long pr)]) (st2 := [.int (mI M49 53 (ix f))]) (M2 := M49) rfl ⟨trivial, ((q.sm s49.1).f 52 7 0 rfl), trivial, ((q.sm s49.1).a 53 21 1648 rfl (vin_w (isFact_in h4) (by decide))), trivial⟩ ?_
        have hJ63 : ∀ (w0_63 : Int32) (M63 : Mem), (SK wg M M63) → f_X7_rest M f m pr = f_X7_rest_63 w0_63 M63 → V G X 5 0 0 (Qx G X 0 0 (p_X7_rest M f m pr)) 63 [] [.int w0_63] M63 := by
          intro w0_63 M63 s63 E
          exact V.iret F (by decide +kernel) ⟨congrArg (fun z => some (Value.int z.1)) E.symm, congrArg Prod.snd E.symm, s63⟩
        refine V.if_eq (off := 7) F (by decide +kernel) (tgt := 62) (by decide) (fun h55 => ?_) (fun h55 => ?_)
        · replace E := E.trans (if_pos h55)
          refine V.seg F floX7 cjoX7 [.iconst 1] (by decide +kernel) (pc2 := 63) (lv2 := [(0, .ref 52), (1, .int f), (2, .int m), (3, .long pr)]) (st2 := [.int 1]) (M2 := M49) rfl ⟨trivial, trivial⟩ ?_
          refine V.pick [] rfl ?_
          exact hJ63 1 M49 s49 E
        · replace E := E.trans (if_neg h55)
          refine V.seg F floX7 cjoX7 [.iconst 0, .goto 4] (by decide +kernel) (pc2 := 63) (lv2 := [(0, .ref 52), (1, .int f), (2, .int m), (3, .long pr)]) (st2 := [.int 0]) (M2 := M49) rfl ⟨trivial, (by decide), trivial⟩ ?_
          refine V.pick [] rfl ?_
          exact hJ63 0 M49 s49 E
      · replace E := E.trans (if_pos h15)
        refine V.pick [] rfl ?_
        exact hJ18 M (SK.rf (w := wg) gb) E
def f_X7_act_34  (M34 : Mem) : Int32 × Mem := ((-1), M34)
def f_X7_act_102  (w0_102 : Int32) (M102 : Mem) : Int32 × Mem := (w0_102, M102)
def f_X7_act_c87 (t : Int32) (M87 : Mem) : Int32 × Mem := if (mI M87 53 (ix t)) = 0 then f_X7_act_102 1 M87 else f_X7_act_102 0 M87
def f_X7_act_79 (t : Int32) (M79 : Mem) : Int32 × Mem := f_X7_act_c87 t (f_X7_copy M79 t 26)
def f_X7_act_c79 (t : Int32) (M79 : Mem) : Int32 × Mem := f_X7_act_79 t M79
def f_X7_act_c67 (t : Int32) (M67 : Mem) : Int32 × Mem := f_X7_act_79 t M67
def f_X7_act_c50 (t : Int32) (M50 : Mem) : Int32 × Mem := f_X7_act_79 t M50
def f_X7_act (M : Mem) (op : Int32) (a : Int32) (b : Int32) (t : Int32) : Int32 × Mem := if (f_X7_in (Int32.toInt64 op) 0 21) = 0 then f_X7_act_34 M else if (f_X7_isFact a) = 0 then f_X7_act_34 M else if (f_X7_isFact b) = 0 then f_X7_act_34 M else if (f_X7_isFact t) = 0 then f_X7_act_34 M else if op = 20 then f_X7_act_c50 t (f_X7_join M a b 26) else if op = 21 then f_X7_act_c67 t (f_X7_meet M a b 26) else f_X7_act_c79 t (f_X7_does M op a b 26)
abbrev p_X7_act (M : Mem) (op : Int32) (a : Int32) (b : Int32) (t : Int32) : Option Value → Mem → Prop := fun r N => r = some (.int (f_X7_act M op a b t).1) ∧ N = (f_X7_act M op a b t).2 ∧ SK wg M N
set_option maxRecDepth 100000 in
set_option maxHeartbeats 4000000 in
theorem c_X7_act (G : Ctx) (l : Launch) (M : Mem) (op : Int32) (a : Int32) (b : Int32) (t : Int32) (q : Ok M) (gb : Gb M) : CT G l 7 mX7_act [.ref 52, .int op, .int a, .int b, .int t] M 0 0 (p_X7_act M op a b t) := by
  refine CT.of (by decide) (Nat.le_of_ble_eq_true rfl) ?_
  intro X d hd hl hRm hnm F
  subst hl
  have E : f_X7_act M op a b t = f_X7_act M op a b t := rfl
  show V G X 5 0 0 (Qx G X 0 0 (p_X7_act M op a b t)) 0 [(0, .ref 52), (1, .int op), (2, .int a), (3, .int b), (4, .int t)] [] M
  refine V.seg F floX7 cjoX7 [.iload_n 1, .i2l, .lconst 0, .ldc2_w 243] (by decide +kernel) (pc2 := 6) (lv2 := [(0, .ref 52), (1, .int op), (2, .int a), (3, .int b), (4, .int t)]) (st2 := [.long 21, .long 0, .long (Int32.toInt64 op)]) (M2 := M) rfl ⟨trivial, trivial, trivial, trivial, trivial⟩ ?_
  refine V.callS (as := [.long (Int32.toInt64 op), .long 0, .long 21]) (rest := []) F (by decide +kernel) lX7_89 bX7_in (c_X7_in G X.2.1 M (Int32.toInt64 op) 0 21) (rm_ok hRm hd (by decide) (by decide)) ⟨Nat.zero_le _, Nat.zero_le _⟩ (Nat.le_of_ble_eq_true rfl) (fun r_ N_ p_ => ?_)
  obtain ⟨rfl, hN_, z6⟩ := p_
  rw [hN_]
  clear hN_
  have hJ34 : ∀ (M34 : Mem), (SK wg M M34) → f_X7_act M op a b t = f_X7_act_34 M34 → V G X 5 0 0 (Qx G X 0 0 (p_X7_act M op a b t)) 34 [] [] M34 := by
    intro M34 s34 E
    refine V.seg F floX7 cjoX7 [.iconst (-1)] (by decide +kernel) (pc2 := 35) (lv2 := []) (st2 := [.int ((-1))]) (M2 := M34) rfl ⟨trivial, trivial⟩ ?_
    exact V.iret F (by decide +kernel) ⟨congrArg (fun z => some (Value.int z.1)) E.symm, congrArg Prod.snd E.symm, s34⟩
  refine V.if_eq (off := 25) F (by decide +kernel) (tgt := 34) (by decide) (fun h9 => ?_) (fun h9 => ?_)
  · replace E := E.trans (if_pos h9)
    refine V.pick [] rfl ?_
    exact hJ34 M (SK.rf (w := wg) gb) E
  · replace E := E.trans (if_neg h9)
    refine V.seg F floX7 cjoX7 [.iload_n 2] (by decide +kernel) (pc2 := 13) (lv2 := [(0, .ref 52), (1, .int op), (2, .int a), (3, .int b), (4, .int t)]) (st2 := [.int a]) (M2 := M) rfl ⟨trivial, trivial⟩ ?_
    refine V.callS (as := [.int a]) (rest := []) F (by decide +kernel) lX7_237 bX7_isFact (c_X7_isFact G X.2.1 M a) (rm_ok hRm hd (by decide) (by decide)) ⟨Nat.zero_le _, Nat.zero_le _⟩ (Nat.le_of_ble_eq_true rfl) (fun r_ N_ p_ => ?_)
    obtain ⟨rfl, hN_, z13⟩ := p_
    rw [hN_]
    clear hN_
    refine V.if_eq (off := 18) F (by decide +kernel) (tgt := 34) (by decide) (fun h16 => ?_) (fun h16 => ?_)
    · replace E := E.trans (if_pos h16)
      refine V.pick [] rfl ?_
      exact hJ34 M (SK.rf (w := wg) gb) E
    · replace E := E.trans (if_neg h16)
      refine V.seg F floX7 cjoX7 [.iload_n 3] (by decide +kernel) (pc2 := 20) (lv2 := [(0, .ref 52), (1, .int op), (2, .int a), (3, .int b), (4, .int t)]) (st2 := [.int b]) (M2 := M) rfl ⟨trivial, trivial⟩ ?_
      refine V.callS (as := [.int b]) (rest := []) F (by decide +kernel) lX7_237 bX7_isFact (c_X7_isFact G X.2.1 M b) (rm_ok hRm hd (by decide) (by decide)) ⟨Nat.zero_le _, Nat.zero_le _⟩ (Nat.le_of_ble_eq_true rfl) (fun r_ N_ p_ => ?_)
      obtain ⟨rfl, hN_, z20⟩ := p_
      rw [hN_]
      clear hN_
      refine V.if_eq (off := 11) F (by decide +kernel) (tgt := 34) (by decide) (fun h23 => ?_) (fun h23 => ?_)
      · replace E := E.trans (if_pos h23)
        refine V.pick [] rfl ?_
        exact hJ34 M (SK.rf (w := wg) gb) E
      · replace E := E.trans (if_neg h23)
        refine V.seg F floX7 cjoX7 [.iload 4] (by decide +kernel) (pc2 := 28) (lv2 := [(0, .ref 52), (1, .int op), (2, .int a), (3, .int b), (4, .int t)]) (st2 := [.int t]) (M2 := M) rfl ⟨trivial, trivial⟩ ?_
        refine V.callS (as := [.int t]) (rest := []) F (by decide +kernel) lX7_237 bX7_isFact (c_X7_isFact G X.2.1 M t) (rm_ok hRm hd (by decide) (by decide)) ⟨Nat.zero_le _, Nat.zero_le _⟩ (Nat.le_of_ble_eq_true rfl) (fun r_ N_ p_ => ?_)
        obtain ⟨rfl, hN_, z28⟩ := p_
        rw [hN_]
        clear hN_
        refine V.if_ne (off := 5) F (by decide +kernel) (tgt := 36) (by decide) (fun h31 => ?_) (fun h31 => ?_)
        · replace E := E.trans (if_neg h31)
          refine V.seg F floX7 cjoX7 [.iload_n 1, .bipush 20] (by decide +kernel) (pc2 := 39) (lv2 := [(0, .ref 52), (1, .int op), (2, .int a), (3, .int b), (4, .int t)]) (st2 := [.int 20, .int op]) (M2 := M) rfl ⟨trivial, trivial, trivial⟩ ?_
          have hJ79 : ∀ (M79 : Mem), (SK wg M M79) → f_X7_act M op a b t = f_X7_act_79 t M79 → V G X 5 0 0 (Qx G X 0 0 (p_X7_act M op a b t)) 79 [(0, .ref 52), (4, .int t)] [] M79 := by
            intro M79 s79 E
            refine V.seg F floX7 cjoX7 [.aload_n 0, .iload 4, .bipush 26] (by decide +kernel) (pc2 := 84) (lv2 := [(0, .ref 52), (4, .int t)]) (st2 := [.int 26, .int t, .ref 52]) (M2 := M79) rfl ⟨trivial, trivial, trivial, trivial⟩ ?_
            refine V.callV (as := [.int t, .int 26]) (rest := []) F (by decide +kernel) lX7_133 bX7_copy ⟨7, _, ((q.sm s79.1).o 52 7 rfl), rfl, rfl⟩ (c_X7_copy G X.2.1 M79 t 26 (q.sm s79.1) s79.2.1 (vin_w (isFact_in h31) (by decide)) (vinc (by decide))) (rm_ok hRm hd (by decide) (by decide)) ⟨Nat.zero_le _, Nat.zero_le _⟩ (Nat.le_of_ble_eq_true rfl) (fun r_ N_ p_ => ?_)
            obtain ⟨rfl, rfl, t84⟩ := p_
            refine (?_ : ∀ (M87 : Mem), (SK wg M M87) → f_X7_act M op a b t = f_X7_act_c87 t M87 → V G X 5 0 0 (Qx G X 0 0 (p_X7_act M op a b t)) 87 [(0, .ref 52), (4, .int t)] [] M87) _ (SK.tr s79 t84) E
            intro M87 s87 E
            refine V.seg F floX7 cjoX7 [.aload_n 0, .getfield 9, .iload 4, .baload] (by decide +kernel) (pc2 := 94) (lv2 := [(0, .ref 52), (4, .int t)]) (st2 := [.int (mI M87 53 (ix t))]) (M2 := M87) rfl ⟨trivial, ((q.sm s87.1).f 52 7 0 rfl), trivial, ((q.sm s87.1).a 53 21 1648 rfl (vin_w (isFact_in h31) (by decide))), trivial⟩ ?_
            have hJ102 : ∀ (w0_102 : Int32) (M102 : Mem), (SK wg M M102) → f_X7_act M op a b t = f_X7_act_102 w0_102 M102 → V G X 5 0 0 (Qx G X 0 0 (p_X7_act M op a b t)) 102 [] [.int w0_102] M102 := by
              intro w0_102 M102 s102 E
              exact V.iret F (by decide +kernel) ⟨congrArg (fun z => some (Value.int z.1)) E.symm, congrArg Prod.snd E.symm, s102⟩
            refine V.if_eq (off := 7) F (by decide +kernel) (tgt := 101) (by decide) (fun h94 => ?_) (fun h94 => ?_)
            · replace E := E.trans (if_pos h94)
              refine V.seg F floX7 cjoX7 [.iconst 1] (by decide +kernel) (pc2 := 102) (lv2 := [(0, .ref 52), (4, .int t)]) (st2 := [.int 1]) (M2 := M87) rfl ⟨trivial, trivial⟩ ?_
              refine V.pick [] rfl ?_
              exact hJ102 1 M87 s87 E
            · replace E := E.trans (if_neg h94)
              refine V.seg F floX7 cjoX7 [.iconst 0, .goto 4] (by decide +kernel) (pc2 := 102) (lv2 := [(0, .ref 52), (4, .int t)]) (st2 := [.int 0]) (M2 := M87) rfl ⟨trivial, (by decide), trivial⟩ ?_
              refine V.pick [] rfl ?_
              exact hJ102 0 M87 s87 E
          refine V.ic_ne (off := 14) F (by decide +kernel) (tgt := 53) (by decide) (fun h39 => ?_) (fun h39 => ?_)
          · replace E := E.trans (if_neg h39)
            refine V.seg F floX7 cjoX7 [.iload_n 1, .bipush 21] (by decide +kernel) (pc2 := 56) (lv2 := [(0, .ref 52), (1, .int op), (2, .int a), (3, .int b), (4, .int t)]) (st2 := [.int 21, .int op]) (M2 := M) rfl ⟨trivial, trivial, trivial⟩ ?_
            refine V.ic_ne (off := 14) F (by decide +kernel) (tgt := 70) (by decide) (fun h56 => ?_) (fun h56 => ?_)
            · replace E := E.trans (if_neg h56)
              refine V.seg F floX7 cjoX7 [.aload_n 0, .iload_n 1, .iload_n 2, .iload_n 3, .bipush 26] (by decide +kernel) (pc2 := 76) (lv2 := [(0, .ref 52), (1, .int op), (2, .int a), (3, .int b), (4, .int t)]) (st2 := [.int 26, .int b, .int a, .int op, .ref 52]) (M2 := M) rfl ⟨trivial, trivial, trivial, trivial, trivial, trivial⟩ ?_
              refine V.callV (as := [.int op, .int a, .int b, .int 26]) (rest := []) F (by decide +kernel) lX7_245 bX7_does ⟨7, _, (q.o 52 7 rfl), rfl, rfl⟩ (c_X7_does G X.2.1 M op a b 26 q gb (vin_w (isFact_in h16) (by decide)) (vin_w (isFact_in h23) (by decide)) (vinc (by decide))) (rm_ok hRm hd (by decide) (by decide)) ⟨Nat.zero_le _, Nat.zero_le _⟩ (Nat.le_of_ble_eq_true rfl) (fun r_ N_ p_ => ?_)
              obtain ⟨rfl, rfl, t76⟩ := p_
              refine (?_ : ∀ (M79 : Mem), (SK wg M M79) → f_X7_act M op a b t = f_X7_act_c79 t M79 → V G X 5 0 0 (Qx G X 0 0 (p_X7_act M op a b t)) 79 [(0, .ref 52), (1, .int op), (2, .int a), (3, .int b), (4, .int t)] [] M79) _ t76 E
              intro M79 s79 E
              refine V.pick [0, 4] rfl ?_
              exact hJ79 M79 s79 E
            · replace E := E.trans (if_pos h56)
              refine V.seg F floX7 cjoX7 [.aload_n 0, .iload_n 2, .iload_n 3, .bipush 26] (by decide +kernel) (pc2 := 64) (lv2 := [(0, .ref 52), (1, .int op), (2, .int a), (3, .int b), (4, .int t)]) (st2 := [.int 26, .int b, .int a, .ref 52]) (M2 := M) rfl ⟨trivial, trivial, trivial, trivial, trivial⟩ ?_
              refine V.callV (as := [.int a, .int b, .int 26]) (rest := []) F (by decide +kernel) lX7_240 bX7_meet ⟨7, _, (q.o 52 7 rfl), rfl, rfl⟩ (c_X7_meet G X.2.1 M a b 26 q gb (vin_w (isFact_in h16) (by decide)) (vin_w (isFact_in h23) (by decide)) (vinc (by decide))) (rm_ok hRm hd (by decide) (by decide)) ⟨Nat.zero_le _, Nat.zero_le _⟩ (Nat.le_of_ble_eq_true rfl) (fun r_ N_ p_ => ?_)
              obtain ⟨rfl, rfl, t64⟩ := p_
              refine (?_ : ∀ (M67 : Mem), (SK wg M M67) → f_X7_act M op a b t = f_X7_act_c67 t M67 → V G X 5 0 0 (Qx G X 0 0 (p_X7_act M op a b t)) 67 [(0, .ref 52), (1, .int op), (2, .int a), (3, .int b), (4, .int t)] [] M67) _ t64 E
              intro M67 s67 E
              refine V.seg F floX7 cjoX7 [.goto 12] (by decide +kernel) (pc2 := 79) (lv2 := [(0, .ref 52), (1, .int op), (2, .int a), (3, .int b), (4, .int t)]) (st2 := []) (M2 := M67) rfl ⟨(by decide), trivial⟩ ?_
              refine V.pick [0, 4] rfl ?_
              exact hJ79 M67 s67 E
          · replace E := E.trans (if_pos h39)
            refine V.seg F floX7 cjoX7 [.aload_n 0, .iload_n 2, .iload_n 3, .bipush 26] (by decide +kernel) (pc2 := 47) (lv2 := [(0, .ref 52), (1, .int op), (2, .int a), (3, .int b), (4, .int t)]) (st2 := [.int 26, .int b, .int a, .ref 52]) (M2 := M) rfl ⟨trivial, trivial, trivial, trivial, trivial⟩ ?_
            refine V.callV (as := [.int a, .int b, .int 26]) (rest := []) F (by decide +kernel) lX7_229 bX7_join ⟨7, _, (q.o 52 7 rfl), rfl, rfl⟩ (c_X7_join G X.2.1 M a b 26 q gb (vin_w (isFact_in h16) (by decide)) (vin_w (isFact_in h23) (by decide)) (vinc (by decide))) (rm_ok hRm hd (by decide) (by decide)) ⟨Nat.zero_le _, Nat.zero_le _⟩ (Nat.le_of_ble_eq_true rfl) (fun r_ N_ p_ => ?_)
            obtain ⟨rfl, rfl, t47⟩ := p_
            refine (?_ : ∀ (M50 : Mem), (SK wg M M50) → f_X7_act M op a b t = f_X7_act_c50 t M50 → V G X 5 0 0 (Qx G X 0 0 (p_X7_act M op a b t)) 50 [(0, .ref 52), (1, .int op), (2, .int a), (3, .int b), (4, .int t)] [] M50) _ t47 E
            intro M50 s50 E
            refine V.seg F floX7 cjoX7 [.goto 29] (by decide +kernel) (pc2 := 79) (lv2 := [(0, .ref 52), (1, .int op), (2, .int a), (3, .int b), (4, .int t)]) (st2 := []) (M2 := M50) rfl ⟨(by decide), trivial⟩ ?_
            refine V.pick [0, 4] rfl ?_
            exact hJ79 M50 s50 E
        · replace E := E.trans (if_pos h31)
          refine V.pick [] rfl ?_
          exact hJ34 M (SK.rf (w := wg) gb) E
def f_X7_told_19   : Int64 := 0
def f_X7_told_56  (w0_56 : Int64) : Int64 := w0_56
def f_X7_told_55   : Int64 := f_X7_told_56 0
def f_X7_told_36 (f : Int32) (w : Int32) (M : Mem)  : Int64 := if w = 6 then if (mI M 53 (ix f)) = 0 then f_X7_told_55  else f_X7_told_56 1 else f_X7_told_55 
def f_X7_told_132  (w0_132 : Int64) : Int64 := w0_132
def f_X7_told (M : Mem) (f : Int32) (w : Int32) : Int64 := if (f_X7_isFact f) = 0 then f_X7_told_19  else if (f_X7_in (Int32.toInt64 w) 0 6) = 0 then f_X7_told_19  else if w = 6 then f_X7_told_36 f w M else if (mI M 53 (ix f)) = 0 then if w = 0 then f_X7_told_132 (mL M 54 (ix f)) else if w = 1 then f_X7_told_132 (mL M 55 (ix f)) else if w = 2 then f_X7_told_132 (mL M 56 (ix f)) else if w = 3 then f_X7_told_132 (mL M 57 (ix f)) else if w = 4 then f_X7_told_132 (mL M 58 (ix f)) else f_X7_told_132 (mL M 59 (ix f)) else f_X7_told_36 f w M
abbrev p_X7_told (M : Mem) (f : Int32) (w : Int32) : Option Value → Mem → Prop := fun r N => r = some (.long (f_X7_told M f w)) ∧ N = M
set_option maxRecDepth 100000 in
set_option maxHeartbeats 4000000 in
theorem c_X7_told (G : Ctx) (l : Launch) (M : Mem) (f : Int32) (w : Int32) (q : Ok M) (gb : Gb M) : CT G l 2 mX7_told [.ref 52, .int f, .int w] M 0 0 (p_X7_told M f w) := by
  refine CT.of (by decide) (Nat.le_of_ble_eq_true rfl) ?_
  intro X d hd hl hRm hnm F
  subst hl
  have E : f_X7_told M f w = f_X7_told M f w := rfl
  show V G X 3 0 0 (Qx G X 0 0 (p_X7_told M f w)) 0 [(0, .ref 52), (1, .int f), (2, .int w)] [] M
  refine V.seg F floX7 cjoX7 [.iload_n 1] (by decide +kernel) (pc2 := 1) (lv2 := [(0, .ref 52), (1, .int f), (2, .int w)]) (st2 := [.int f]) (M2 := M) rfl ⟨trivial, trivial⟩ ?_
  refine V.callS (as := [.int f]) (rest := []) F (by decide +kernel) lX7_237 bX7_isFact (c_X7_isFact G X.2.1 M f) (rm_ok hRm hd (by decide) (by decide)) ⟨Nat.zero_le _, Nat.zero_le _⟩ (Nat.le_of_ble_eq_true rfl) (fun r_ N_ p_ => ?_)
  obtain ⟨rfl, hN_, z1⟩ := p_
  rw [hN_]
  clear hN_
  have hJ19 : f_X7_told M f w = f_X7_told_19 → V G X 3 0 0 (Qx G X 0 0 (p_X7_told M f w)) 19 [] [] M := by
    intro E
    refine V.seg F floX7 cjoX7 [.lconst 0] (by decide +kernel) (pc2 := 20) (lv2 := []) (st2 := [.long 0]) (M2 := M) rfl ⟨trivial, trivial⟩ ?_
    exact V.lret F (by decide +kernel) ⟨congrArg (fun z => some (Value.long z)) E.symm, rfl⟩
  refine V.if_eq (off := 15) F (by decide +kernel) (tgt := 19) (by decide) (fun h4 => ?_) (fun h4 => ?_)
  · replace E := E.trans (if_pos h4)
    refine V.pick [] rfl ?_
    exact hJ19   E
  · replace E := E.trans (if_neg h4)
    refine V.seg F floX7 cjoX7 [.iload_n 2, .i2l, .lconst 0, .ldc2_w 249] (by decide +kernel) (pc2 := 13) (lv2 := [(0, .ref 52), (1, .int f), (2, .int w)]) (st2 := [.long 6, .long 0, .long (Int32.toInt64 w)]) (M2 := M) rfl ⟨trivial, trivial, trivial, trivial, trivial⟩ ?_
    refine V.callS (as := [.long (Int32.toInt64 w), .long 0, .long 6]) (rest := []) F (by decide +kernel) lX7_89 bX7_in (c_X7_in G X.2.1 M (Int32.toInt64 w) 0 6) (rm_ok hRm hd (by decide) (by decide)) ⟨Nat.zero_le _, Nat.zero_le _⟩ (Nat.le_of_ble_eq_true rfl) (fun r_ N_ p_ => ?_)
    obtain ⟨rfl, hN_, z13⟩ := p_
    rw [hN_]
    clear hN_
    refine V.if_ne (off := 5) F (by decide +kernel) (tgt := 21) (by decide) (fun h16 => ?_) (fun h16 => ?_)
    · replace E := E.trans (if_neg h16)
      refine V.seg F floX7 cjoX7 [.iload_n 2, .bipush 6] (by decide +kernel) (pc2 := 24) (lv2 := [(0, .ref 52), (1, .int f), (2, .int w)]) (st2 := [.int 6, .int w]) (M2 := M) rfl ⟨trivial, trivial, trivial⟩ ?_
      have hJ36 : f_X7_told M f w = f_X7_told_36 f w M → V G X 3 0 0 (Qx G X 0 0 (p_X7_told M f w)) 36 [(0, .ref 52), (1, .int f), (2, .int w)] [] M := by
        intro E
        refine V.seg F floX7 cjoX7 [.iload_n 2, .bipush 6] (by decide +kernel) (pc2 := 39) (lv2 := [(0, .ref 52), (1, .int f), (2, .int w)]) (st2 := [.int 6, .int w]) (M2 := M) rfl ⟨trivial, trivial, trivial⟩ ?_
        have hJ56 : ∀ (w0_56 : Int64), f_X7_told M f w = f_X7_told_56 w0_56 → V G X 3 0 0 (Qx G X 0 0 (p_X7_told M f w)) 56 [] [.long w0_56] M := by
          intro w0_56 E
          exact V.lret F (by decide +kernel) ⟨congrArg (fun z => some (Value.long z)) E.symm, rfl⟩
        have hJ55 : f_X7_told M f w = f_X7_told_55 → V G X 3 0 0 (Qx G X 0 0 (p_X7_told M f w)) 55 [] [] M := by
          intro E
          refine V.seg F floX7 cjoX7 [.lconst 0] (by decide +kernel) (pc2 := 56) (lv2 := []) (st2 := [.long 0]) (M2 := M) rfl ⟨trivial, trivial⟩ ?_
          refine V.pick [] rfl ?_
          exact hJ56 0  E
        refine V.ic_ne (off := 16) F (by decide +kernel) (tgt := 55) (by decide) (fun h39 => ?_) (fun h39 => ?_)
        · replace E := E.trans (if_neg h39)
          refine V.pick [] rfl ?_
          exact hJ55   E
        · replace E := E.trans (if_pos h39)
          refine V.seg F floX7 cjoX7 [.aload_n 0, .getfield 9, .iload_n 1, .baload] (by decide +kernel) (pc2 := 48) (lv2 := [(0, .ref 52), (1, .int f), (2, .int w)]) (st2 := [.int (mI M 53 (ix f))]) (M2 := M) rfl ⟨trivial, (q.f 52 7 0 rfl), trivial, (q.a 53 21 1648 rfl (vin_w (isFact_in h4) (by decide))), trivial⟩ ?_
          refine V.if_eq (off := 7) F (by decide +kernel) (tgt := 55) (by decide) (fun h48 => ?_) (fun h48 => ?_)
          · replace E := E.trans (if_pos h48)
            refine V.pick [] rfl ?_
            exact hJ55   E
          · replace E := E.trans (if_neg h48)
            refine V.seg F floX7 cjoX7 [.lconst 1, .goto 4] (by decide +kernel) (pc2 := 56) (lv2 := [(0, .ref 52), (1, .int f), (2, .int w)]) (st2 := [.long 1]) (M2 := M) rfl ⟨trivial, (by decide), trivial⟩ ?_
            refine V.pick [] rfl ?_
            exact hJ56 1  E
      refine V.ic_eq (off := 12) F (by decide +kernel) (tgt := 36) (by decide) (fun h24 => ?_) (fun h24 => ?_)
      · replace E := E.trans (if_pos h24)
        refine V.pick [0, 1, 2] rfl ?_
        exact hJ36   E
      · replace E := E.trans (if_neg h24)
        refine V.seg F floX7 cjoX7 [.aload_n 0, .getfield 9, .iload_n 1, .baload] (by decide +kernel) (pc2 := 33) (lv2 := [(0, .ref 52), (1, .int f), (2, .int w)]) (st2 := [.int (mI M 53 (ix f))]) (M2 := M) rfl ⟨trivial, (q.f 52 7 0 rfl), trivial, (q.a 53 21 1648 rfl (vin_w (isFact_in h4) (by decide))), trivial⟩ ?_
        refine V.if_eq (off := 24) F (by decide +kernel) (tgt := 57) (by decide) (fun h33 => ?_) (fun h33 => ?_)
        · replace E := E.trans (if_pos h33)
          refine V.seg F floX7 cjoX7 [.iload_n 2] (by decide +kernel) (pc2 := 58) (lv2 := [(0, .ref 52), (1, .int f), (2, .int w)]) (st2 := [.int w]) (M2 := M) rfl ⟨trivial, trivial⟩ ?_
          have hJ132 : ∀ (w0_132 : Int64), f_X7_told M f w = f_X7_told_132 w0_132 → V G X 3 0 0 (Qx G X 0 0 (p_X7_told M f w)) 132 [] [.long w0_132] M := by
            intro w0_132 E
            exact V.lret F (by decide +kernel) ⟨congrArg (fun z => some (Value.long z)) E.symm, rfl⟩
          refine V.if_ne (off := 12) F (by decide +kernel) (tgt := 70) (by decide) (fun h58 => ?_) (fun h58 => ?_)
          · replace E := E.trans (if_neg h58)
            refine V.seg F floX7 cjoX7 [.iload_n 2, .iconst 1] (by decide +kernel) (pc2 := 72) (lv2 := [(0, .ref 52), (1, .int f), (2, .int w)]) (st2 := [.int 1, .int w]) (M2 := M) rfl ⟨trivial, trivial, trivial⟩ ?_
            refine V.ic_ne (off := 12) F (by decide +kernel) (tgt := 84) (by decide) (fun h72 => ?_) (fun h72 => ?_)
            · replace E := E.trans (if_neg h72)
              refine V.seg F floX7 cjoX7 [.iload_n 2, .iconst 2] (by decide +kernel) (pc2 := 86) (lv2 := [(0, .ref 52), (1, .int f), (2, .int w)]) (st2 := [.int 2, .int w]) (M2 := M) rfl ⟨trivial, trivial, trivial⟩ ?_
              refine V.ic_ne (off := 12) F (by decide +kernel) (tgt := 98) (by decide) (fun h86 => ?_) (fun h86 => ?_)
              · replace E := E.trans (if_neg h86)
                refine V.seg F floX7 cjoX7 [.iload_n 2, .iconst 3] (by decide +kernel) (pc2 := 100) (lv2 := [(0, .ref 52), (1, .int f), (2, .int w)]) (st2 := [.int 3, .int w]) (M2 := M) rfl ⟨trivial, trivial, trivial⟩ ?_
                refine V.ic_ne (off := 12) F (by decide +kernel) (tgt := 112) (by decide) (fun h100 => ?_) (fun h100 => ?_)
                · replace E := E.trans (if_neg h100)
                  refine V.seg F floX7 cjoX7 [.iload_n 2, .iconst 4] (by decide +kernel) (pc2 := 114) (lv2 := [(0, .ref 52), (1, .int f), (2, .int w)]) (st2 := [.int 4, .int w]) (M2 := M) rfl ⟨trivial, trivial, trivial⟩ ?_
                  refine V.ic_ne (off := 12) F (by decide +kernel) (tgt := 126) (by decide) (fun h114 => ?_) (fun h114 => ?_)
                  · replace E := E.trans (if_neg h114)
                    refine V.seg F floX7 cjoX7 [.aload_n 0, .getfield 29, .iload_n 1, .laload] (by decide +kernel) (pc2 := 132) (lv2 := [(0, .ref 52), (1, .int f), (2, .int w)]) (st2 := [.long (mL M 59 (ix f))]) (M2 := M) rfl ⟨trivial, (q.f 52 7 6 rfl), trivial, (q.a 59 22 1648 rfl (vin_w (isFact_in h4) (by decide))), trivial⟩ ?_
                    refine V.pick [] rfl ?_
                    exact hJ132 (mL M 59 (ix f))  E
                  · replace E := E.trans (if_pos h114)
                    refine V.seg F floX7 cjoX7 [.aload_n 0, .getfield 26, .iload_n 1, .laload, .goto 9] (by decide +kernel) (pc2 := 132) (lv2 := [(0, .ref 52), (1, .int f), (2, .int w)]) (st2 := [.long (mL M 58 (ix f))]) (M2 := M) rfl ⟨trivial, (q.f 52 7 5 rfl), trivial, (q.a 58 22 1648 rfl (vin_w (isFact_in h4) (by decide))), (by decide), trivial⟩ ?_
                    refine V.pick [] rfl ?_
                    exact hJ132 (mL M 58 (ix f))  E
                · replace E := E.trans (if_pos h100)
                  refine V.seg F floX7 cjoX7 [.aload_n 0, .getfield 23, .iload_n 1, .laload, .goto 23] (by decide +kernel) (pc2 := 132) (lv2 := [(0, .ref 52), (1, .int f), (2, .int w)]) (st2 := [.long (mL M 57 (ix f))]) (M2 := M) rfl ⟨trivial, (q.f 52 7 4 rfl), trivial, (q.a 57 22 1648 rfl (vin_w (isFact_in h4) (by decide))), (by decide), trivial⟩ ?_
                  refine V.pick [] rfl ?_
                  exact hJ132 (mL M 57 (ix f))  E
              · replace E := E.trans (if_pos h86)
                refine V.seg F floX7 cjoX7 [.aload_n 0, .getfield 20, .iload_n 1, .laload, .goto 37] (by decide +kernel) (pc2 := 132) (lv2 := [(0, .ref 52), (1, .int f), (2, .int w)]) (st2 := [.long (mL M 56 (ix f))]) (M2 := M) rfl ⟨trivial, (q.f 52 7 3 rfl), trivial, (q.a 56 22 1648 rfl (vin_w (isFact_in h4) (by decide))), (by decide), trivial⟩ ?_
                refine V.pick [] rfl ?_
                exact hJ132 (mL M 56 (ix f))  E
            · replace E := E.trans (if_pos h72)
              refine V.seg F floX7 cjoX7 [.aload_n 0, .getfield 17, .iload_n 1, .laload, .goto 51] (by decide +kernel) (pc2 := 132) (lv2 := [(0, .ref 52), (1, .int f), (2, .int w)]) (st2 := [.long (mL M 55 (ix f))]) (M2 := M) rfl ⟨trivial, (q.f 52 7 2 rfl), trivial, (q.a 55 22 1648 rfl (vin_w (isFact_in h4) (by decide))), (by decide), trivial⟩ ?_
              refine V.pick [] rfl ?_
              exact hJ132 (mL M 55 (ix f))  E
          · replace E := E.trans (if_pos h58)
            refine V.seg F floX7 cjoX7 [.aload_n 0, .getfield 13, .iload_n 1, .laload, .goto 65] (by decide +kernel) (pc2 := 132) (lv2 := [(0, .ref 52), (1, .int f), (2, .int w)]) (st2 := [.long (mL M 54 (ix f))]) (M2 := M) rfl ⟨trivial, (q.f 52 7 1 rfl), trivial, (q.a 54 22 1648 rfl (vin_w (isFact_in h4) (by decide))), (by decide), trivial⟩ ?_
            refine V.pick [] rfl ?_
            exact hJ132 (mL M 54 (ix f))  E
        · replace E := E.trans (if_neg h33)
          refine V.pick [0, 1, 2] rfl ?_
          exact hJ36   E
    · replace E := E.trans (if_pos h16)
      refine V.pick [] rfl ?_
      exact hJ19   E
def f_X7_isOf_21  (w0_21 : Int32) : Int32 := w0_21
def f_X7_isOf_20   : Int32 := f_X7_isOf_21 0
def f_X7_isOf (M : Mem) (f : Int32) (v : Int64) : Int32 := if (f_X7_isFact f) = 0 then f_X7_isOf_20  else if (f_X7_isIn M f v) = 0 then f_X7_isOf_20  else f_X7_isOf_21 1
abbrev p_X7_isOf (M : Mem) (f : Int32) (v : Int64) : Option Value → Mem → Prop := fun r N => r = some (.int (f_X7_isOf M f v)) ∧ N = M ∧ ((f_X7_isOf M f v) = 0 ∨ (f_X7_isOf M f v) = 1)
set_option maxRecDepth 100000 in
set_option maxHeartbeats 4000000 in
theorem c_X7_isOf (G : Ctx) (l : Launch) (M : Mem) (f : Int32) (v : Int64) (q : Ok M) (gb : Gb M) : CT G l 2 mX7_isOf [.ref 52, .int f, .long v] M 0 0 (p_X7_isOf M f v) := by
  refine CT.of (by decide) (Nat.le_of_ble_eq_true rfl) ?_
  intro X d hd hl hRm hnm F
  subst hl
  have E : f_X7_isOf M f v = f_X7_isOf M f v := rfl
  show V G X 4 0 0 (Qx G X 0 0 (p_X7_isOf M f v)) 0 [(0, .ref 52), (1, .int f), (2, .long v)] [] M
  refine V.seg F floX7 cjoX7 [.iload_n 1] (by decide +kernel) (pc2 := 1) (lv2 := [(0, .ref 52), (1, .int f), (2, .long v)]) (st2 := [.int f]) (M2 := M) rfl ⟨trivial, trivial⟩ ?_
  refine V.callS (as := [.int f]) (rest := []) F (by decide +kernel) lX7_237 bX7_isFact (c_X7_isFact G X.2.1 M f) (rm_ok hRm hd (by decide) (by decide)) ⟨Nat.zero_le _, Nat.zero_le _⟩ (Nat.le_of_ble_eq_true rfl) (fun r_ N_ p_ => ?_)
  obtain ⟨rfl, hN_, z1⟩ := p_
  rw [hN_]
  clear hN_
  have hJ21 : ∀ (w0_21 : Int32), (w0_21 = 0 ∨ w0_21 = 1) → f_X7_isOf M f v = f_X7_isOf_21 w0_21 → V G X 4 0 0 (Qx G X 0 0 (p_X7_isOf M f v)) 21 [] [.int w0_21] M := by
    intro w0_21 zw0_21 E
    exact V.zret F (zw0_21) (by decide +kernel) ⟨congrArg (fun z => some (Value.int z)) E.symm, rfl, by rw [E]; exact zw0_21⟩
  have hJ20 : f_X7_isOf M f v = f_X7_isOf_20 → V G X 4 0 0 (Qx G X 0 0 (p_X7_isOf M f v)) 20 [] [] M := by
    intro E
    refine V.seg F floX7 cjoX7 [.iconst 0] (by decide +kernel) (pc2 := 21) (lv2 := []) (st2 := [.int 0]) (M2 := M) rfl ⟨trivial, trivial⟩ ?_
    refine V.pick [] rfl ?_
    exact hJ21 0 (Or.inl rfl) E
  refine V.if_eq (off := 16) F (by decide +kernel) (tgt := 20) (by decide) (fun h4 => ?_) (fun h4 => ?_)
  · replace E := E.trans (if_pos h4)
    refine V.pick [] rfl ?_
    exact hJ20   E
  · replace E := E.trans (if_neg h4)
    refine V.seg F floX7 cjoX7 [.aload_n 0, .iload_n 1, .lload_n 2] (by decide +kernel) (pc2 := 10) (lv2 := [(0, .ref 52), (1, .int f), (2, .long v)]) (st2 := [.long v, .int f, .ref 52]) (M2 := M) rfl ⟨trivial, trivial, trivial, trivial⟩ ?_
    refine V.callV (as := [.int f, .long v]) (rest := []) F (by decide +kernel) lX7_251 bX7_isIn ⟨7, _, (q.o 52 7 rfl), rfl, rfl⟩ (c_X7_isIn G X.2.1 M f v q gb (vin_w (isFact_in h4) (by decide))) (rm_ok hRm hd (by decide) (by decide)) ⟨Nat.zero_le _, Nat.zero_le _⟩ (Nat.le_of_ble_eq_true rfl) (fun r_ N_ p_ => ?_)
    obtain ⟨rfl, hN_, z10⟩ := p_
    rw [hN_]
    clear hN_
    refine V.if_eq (off := 7) F (by decide +kernel) (tgt := 20) (by decide) (fun h13 => ?_) (fun h13 => ?_)
    · replace E := E.trans (if_pos h13)
      refine V.pick [] rfl ?_
      exact hJ20   E
    · replace E := E.trans (if_neg h13)
      refine V.seg F floX7 cjoX7 [.iconst 1, .goto 4] (by decide +kernel) (pc2 := 21) (lv2 := [(0, .ref 52), (1, .int f), (2, .long v)]) (st2 := [.int 1]) (M2 := M) rfl ⟨trivial, (by decide), trivial⟩ ?_
      refine V.pick [] rfl ?_
      exact hJ21 1 (Or.inr rfl) E
def f_X7_ran_36  (w0_36 : Int32) : Int32 := w0_36
def f_X7_ran (M : Mem) (w : Int32) : Int32 := if w = 0 then f_X7_ran_36 (mI M 52 24) else if w = 1 then f_X7_ran_36 (mI M 52 25) else if w = 2 then f_X7_ran_36 (mI M 52 26) else f_X7_ran_36 ((-1))
abbrev p_X7_ran (M : Mem) (w : Int32) : Option Value → Mem → Prop := fun r N => r = some (.int (f_X7_ran M w)) ∧ N = M
set_option maxRecDepth 100000 in
set_option maxHeartbeats 4000000 in
theorem c_X7_ran (G : Ctx) (l : Launch) (M : Mem) (w : Int32) (q : Ok M) (gb : Gb M) : CT G l 0 mX7_ran [.ref 52, .int w] M 0 0 (p_X7_ran M w) := by
  refine CT.of (by decide) (Nat.le_of_ble_eq_true rfl) ?_
  intro X d hd hl hRm hnm F
  subst hl
  have E : f_X7_ran M w = f_X7_ran M w := rfl
  show V G X 2 0 0 (Qx G X 0 0 (p_X7_ran M w)) 0 [(0, .ref 52), (1, .int w)] [] M
  refine V.seg F floX7 cjoX7 [.iload_n 1] (by decide +kernel) (pc2 := 1) (lv2 := [(0, .ref 52), (1, .int w)]) (st2 := [.int w]) (M2 := M) rfl ⟨trivial, trivial⟩ ?_
  have hJ36 : ∀ (w0_36 : Int32), f_X7_ran M w = f_X7_ran_36 w0_36 → V G X 2 0 0 (Qx G X 0 0 (p_X7_ran M w)) 36 [] [.int w0_36] M := by
    intro w0_36 E
    exact V.iret F (by decide +kernel) ⟨congrArg (fun z => some (Value.int z)) E.symm, rfl⟩
  refine V.if_ne (off := 10) F (by decide +kernel) (tgt := 11) (by decide) (fun h1 => ?_) (fun h1 => ?_)
  · replace E := E.trans (if_neg h1)
    refine V.seg F floX7 cjoX7 [.iload_n 1, .iconst 1] (by decide +kernel) (pc2 := 13) (lv2 := [(0, .ref 52), (1, .int w)]) (st2 := [.int 1, .int w]) (M2 := M) rfl ⟨trivial, trivial, trivial⟩ ?_
    refine V.ic_ne (off := 10) F (by decide +kernel) (tgt := 23) (by decide) (fun h13 => ?_) (fun h13 => ?_)
    · replace E := E.trans (if_neg h13)
      refine V.seg F floX7 cjoX7 [.iload_n 1, .iconst 2] (by decide +kernel) (pc2 := 25) (lv2 := [(0, .ref 52), (1, .int w)]) (st2 := [.int 2, .int w]) (M2 := M) rfl ⟨trivial, trivial, trivial⟩ ?_
      refine V.ic_ne (off := 10) F (by decide +kernel) (tgt := 35) (by decide) (fun h25 => ?_) (fun h25 => ?_)
      · replace E := E.trans (if_neg h25)
        refine V.seg F floX7 cjoX7 [.iconst (-1)] (by decide +kernel) (pc2 := 36) (lv2 := [(0, .ref 52), (1, .int w)]) (st2 := [.int ((-1))]) (M2 := M) rfl ⟨trivial, trivial⟩ ?_
        refine V.pick [] rfl ?_
        exact hJ36 ((-1))  E
      · replace E := E.trans (if_pos h25)
        refine V.seg F floX7 cjoX7 [.aload_n 0, .getfield 75, .goto 4] (by decide +kernel) (pc2 := 36) (lv2 := [(0, .ref 52), (1, .int w)]) (st2 := [.int (mI M 52 26)]) (M2 := M) rfl ⟨trivial, (q.o 52 7 rfl), (by decide), trivial⟩ ?_
        refine V.pick [] rfl ?_
        exact hJ36 (mI M 52 26)  E
    · replace E := E.trans (if_pos h13)
      refine V.seg F floX7 cjoX7 [.aload_n 0, .getfield 327, .goto 16] (by decide +kernel) (pc2 := 36) (lv2 := [(0, .ref 52), (1, .int w)]) (st2 := [.int (mI M 52 25)]) (M2 := M) rfl ⟨trivial, (q.o 52 7 rfl), (by decide), trivial⟩ ?_
      refine V.pick [] rfl ?_
      exact hJ36 (mI M 52 25)  E
  · replace E := E.trans (if_pos h1)
    refine V.seg F floX7 cjoX7 [.aload_n 0, .getfield 324, .goto 28] (by decide +kernel) (pc2 := 36) (lv2 := [(0, .ref 52), (1, .int w)]) (st2 := [.int (mI M 52 24)]) (M2 := M) rfl ⟨trivial, (q.o 52 7 rfl), (by decide), trivial⟩ ?_
    refine V.pick [] rfl ?_
    exact hJ36 (mI M 52 24)  E
def f_X7_now_17  (w0_17 : Int64) : Int64 := w0_17
def f_X7_now (M : Mem) (p : Int32) : Int64 := if (f_X7_isPlace p) = 0 then f_X7_now_17 0 else f_X7_now_17 (mL M 73 (ix p))
abbrev p_X7_now (M : Mem) (p : Int32) : Option Value → Mem → Prop := fun r N => r = some (.long (f_X7_now M p)) ∧ N = M
set_option maxRecDepth 100000 in
set_option maxHeartbeats 4000000 in
theorem c_X7_now (G : Ctx) (l : Launch) (M : Mem) (p : Int32) (q : Ok M) (gb : Gb M) : CT G l 2 mX7_now [.ref 52, .int p] M 0 0 (p_X7_now M p) := by
  refine CT.of (by decide) (Nat.le_of_ble_eq_true rfl) ?_
  intro X d hd hl hRm hnm F
  subst hl
  have E : f_X7_now M p = f_X7_now M p := rfl
  show V G X 2 0 0 (Qx G X 0 0 (p_X7_now M p)) 0 [(0, .ref 52), (1, .int p)] [] M
  refine V.seg F floX7 cjoX7 [.iload_n 1] (by decide +kernel) (pc2 := 1) (lv2 := [(0, .ref 52), (1, .int p)]) (st2 := [.int p]) (M2 := M) rfl ⟨trivial, trivial⟩ ?_
  refine V.callS (as := [.int p]) (rest := []) F (by decide +kernel) lX7_264 bX7_isPlace (c_X7_isPlace G X.2.1 M p) (rm_ok hRm hd (by decide) (by decide)) ⟨Nat.zero_le _, Nat.zero_le _⟩ (Nat.le_of_ble_eq_true rfl) (fun r_ N_ p_ => ?_)
  obtain ⟨rfl, hN_, z1⟩ := p_
  rw [hN_]
  clear hN_
  have hJ17 : ∀ (w0_17 : Int64), f_X7_now M p = f_X7_now_17 w0_17 → V G X 2 0 0 (Qx G X 0 0 (p_X7_now M p)) 17 [] [.long w0_17] M := by
    intro w0_17 E
    exact V.lret F (by decide +kernel) ⟨congrArg (fun z => some (Value.long z)) E.symm, rfl⟩
  refine V.if_eq (off := 12) F (by decide +kernel) (tgt := 16) (by decide) (fun h4 => ?_) (fun h4 => ?_)
  · replace E := E.trans (if_pos h4)
    refine V.seg F floX7 cjoX7 [.lconst 0] (by decide +kernel) (pc2 := 17) (lv2 := [(0, .ref 52), (1, .int p)]) (st2 := [.long 0]) (M2 := M) rfl ⟨trivial, trivial⟩ ?_
    refine V.pick [] rfl ?_
    exact hJ17 0  E
  · replace E := E.trans (if_neg h4)
    refine V.seg F floX7 cjoX7 [.aload_n 0, .getfield 72, .iload_n 1, .laload, .goto 4] (by decide +kernel) (pc2 := 17) (lv2 := [(0, .ref 52), (1, .int p)]) (st2 := [.long (mL M 73 (ix p))]) (M2 := M) rfl ⟨trivial, (q.f 52 7 23 rfl), trivial, (q.a 73 22 8 rfl (isPlace_in h4)), (by decide), trivial⟩ ?_
    refine V.pick [] rfl ?_
    exact hJ17 (mL M 73 (ix p))  E
