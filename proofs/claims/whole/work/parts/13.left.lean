theorem uN_sub (x y : Int64) : uN (x - y) = (18446744073709551616 - uN y + uN x) % 18446744073709551616 := by
  show (x.toUInt64 - y.toUInt64).toNat = _
  exact UInt64.toNat_sub _ _
theorem uN_neg {r : Int64} : 0 ≤ r ↔ uN r < 9223372036854775808 := by
  rw [Int64.le_iff_toInt_le, uN_int r]
  have h := uN_lt r
  have h0 : (0 : Int64).toInt = 0 := rfl
  rw [h0]
  split <;> omega
theorem uN_ltx (x y : Int64) : (x ^^^ (-9223372036854775808)) < (y ^^^ (-9223372036854775808)) ↔ uN x < uN y := by
  have h := uN_le y x
  rw [← Int64.not_le, h]
  omega
theorem uN_and1 (x : Int64) : uN (x &&& 1) = uN x % 2 := by
  show (x.toUInt64 &&& (1 : Int64).toUInt64).toNat = _
  rw [UInt64.toNat_and]
  exact Nat.and_one_is_mod _
theorem uN_js (x : Int64) {k : Nat} (hk : k < 64) : uN (jushr x (nI k)) = uN x / 2 ^ k := uN_sk x hk
theorem left_loop (a b : Int64) (hb : 0 < uN b) : ∀ (n : Nat) (r : Int64) (j : Nat), j ≤ 64 → j < n → uN r = (uN a / 2 ^ j) % uN b → uN (f_X7_left_7 a b n r j) = uN a % uN b := by
  intro n
  induction n with
  | zero => intro r j _ h; omega
  | succ n ih =>
    intro r j hj hn hr
    rw [f_X7_left_7]
    rcases Nat.eq_zero_or_pos j with e | e
    · subst e
      rw [if_pos (by decide), hr]
      simp
    · obtain ⟨i, rfl⟩ : ∃ i, j = i + 1 := ⟨j - 1, by omega⟩
      have e1 : nI (i + 1) - 1 = nI i := nI_pred i
      have hneg : ¬ nI i < 0 := nI_pos (by omega)
      have hx : uN ((jushr a (nI i)) &&& 1) = uN a / 2 ^ i % 2 := by rw [uN_and1, uN_js a (by omega)]
      have hx2 : uN ((jushr a (nI i)) &&& 1) < 2 := by rw [hx]; omega
      have h2 : uN ((jshl r 1) ||| ((jushr a (nI i)) &&& 1)) = (2 * uN r) % 18446744073709551616 + uN ((jushr a (nI i)) &&& 1) := uN_or hx2
      have hq : uN a / 2 ^ i = 2 * (uN a / 2 ^ (i + 1)) + uN a / 2 ^ i % 2 := by
        rw [Nat.pow_succ, ← Nat.div_div_eq_div_mul]; omega
      have hrb : uN r < uN b := by rw [hr]; exact Nat.mod_lt _ hb
      have hbl := uN_lt b
      have hm : (uN a / 2 ^ i) % uN b = (2 * uN r + uN a / 2 ^ i % 2) % uN b := by
        conv => lhs; rw [hq]
        rw [hr, Nat.add_mod (2 * (uN a / 2 ^ (i + 1) % uN b)), Nat.mul_mod_mod, ← Nat.add_mod]
      generalize hbit : uN a / 2 ^ i % 2 = t at hx hm
      have ht : t < 2 := by omega
      rw [hx] at h2
      have key : ∀ r' : Int64, uN r' = (2 * uN r + t) % uN b → uN (f_X7_left_7 a b n r' i) = uN a % uN b := fun r' h' => ih r' i (by omega) (by omega) (by rw [h', hm])
      have hsub : ∀ z : Int64, (uN z = 2 * uN r + t - 18446744073709551616 ∧ 18446744073709551616 ≤ 2 * uN r + t ∨ uN z = 2 * uN r + t ∧ uN b ≤ 2 * uN r + t) → uN (z - b) = (2 * uN r + t) % uN b := by
        intro z hz
        have hm2 : (2 * uN r + t) % uN b = 2 * uN r + t - uN b := by
          rw [Nat.mod_eq_sub_mod (by omega), Nat.mod_eq_of_lt (by omega)]
        rw [uN_sub, hm2]
        rcases hz with ⟨z1, z2⟩ | ⟨z1, z2⟩ <;> rw [z1] <;> omega
      rw [e1, if_neg hneg]
      by_cases h0 : 0 ≤ r
      · rw [if_pos h0]
        have h63 := uN_neg.mp h0
        have h2' : uN ((jshl r 1) ||| ((jushr a (nI i)) &&& 1)) = 2 * uN r + t := by rw [h2]; omega
        rw [f_X7_left_24, if_pos rfl, e1]
        split
        · rename_i hlt
          rw [uN_ltx, h2'] at hlt
          rw [f_X7_left_65]
          exact key _ (by rw [h2', Nat.mod_eq_of_lt hlt])
        · rename_i hlt
          rw [uN_ltx, h2'] at hlt
          rw [f_X7_left_59, f_X7_left_65, e1]
          exact key _ (hsub _ (Or.inr ⟨h2', by omega⟩))
      · rw [if_neg h0]
        have h63 : 9223372036854775808 ≤ uN r := Nat.not_lt.mp (fun q => h0 (uN_neg.mpr q))
        rw [f_X7_left_24, if_neg (by decide), f_X7_left_59, f_X7_left_65, e1]
        refine key _ (hsub _ (Or.inl ⟨?_, by omega⟩))
        have := uN_lt r
        rw [h2]; omega
/-- the reference's remainder is the unsigned one -/
theorem left_mod {a b : Int64} (hb : ¬ b = 0) : uN (f_X7_left a b) = uN a % uN b := by
  have h : 0 < uN b := Nat.pos_of_ne_zero (fun q => hb (uN_0.mpr q))
  refine left_loop a b h 65 0 64 (by omega) (by omega) ?_
  have h1 : uN a / 2 ^ 64 = 0 := Nat.div_eq_of_lt (uN_lt a)
  rw [h1]
  rfl
theorem left_lt {a b : Int64} {n : Nat} (hb : ¬ b = 0) (h : uN b < n + 1) : uN (f_X7_left a b) < n := by
  rw [left_mod hb]
  have := Nat.mod_lt (uN a) (Nat.pos_of_ne_zero (fun q => hb (uN_0.mpr q)))
  omega
def f_X7_common_6  : Nat → Int64 → Int64 → Int64
  | 0, _, _ => 0
  | n_ + 1, y4_6, y6_6 => if y6_6 = 0 then y4_6 else (f_X7_common_6 n_) y6_6 (f_X7_left y4_6 y6_6)
def f_X7_common (a : Int64) (b : Int64) : Int64 := f_X7_common_6  18446744073709551616 a b
abbrev p_X7_common (M : Mem) (a : Int64) (b : Int64) : Option Value → Mem → Prop := fun r N => r = some (.long (f_X7_common a b)) ∧ N = M
set_option maxRecDepth 100000 in
set_option maxHeartbeats 4000000 in
theorem c_X7_common (G : Ctx) (l : Launch) (M : Mem) (a : Int64) (b : Int64)  : CT G l 1 mX7_common [.long a, .long b] M 0 0 (p_X7_common M a b) := by
  refine CT.of (by decide) (Nat.le_of_ble_eq_true rfl) ?_
  intro X d hd hl hRm hnm F
  subst hl
  have E : f_X7_common a b = f_X7_common a b := rfl
  show V G X 10 0 0 (Qx G X 0 0 (p_X7_common M a b)) 0 [(0, .long a), (2, .long b)] [] M
  refine V.seg F floX7 cjoX7 [.lload_n 0, .lstore 4, .lload_n 2] (by decide +kernel) (pc2 := 4) (lv2 := [(4, .long a), (0, .long a), (2, .long b)]) (st2 := [.long b]) (M2 := M) rfl ⟨trivial, (by decide), trivial, trivial⟩ ?_
  refine V.seg F floX7 cjoX7 [.lstore 6] (by decide +kernel) (pc2 := 6) (lv2 := [(6, .long b), (4, .long a), (0, .long a), (2, .long b)]) (st2 := []) (M2 := M) rfl ⟨(by decide), trivial⟩ ?_
  have hJ6 : ∀ (n_ : Nat) (y4_6 : Int64) (y6_6 : Int64), (uN y6_6 < n_) → f_X7_common a b = f_X7_common_6 n_ y4_6 y6_6 → V G X 10 0 0 (Qx G X 0 0 (p_X7_common M a b)) 6 [(4, .long y4_6), (6, .long y6_6)] [] M := by
    intro n_
    induction n_ with
    | zero => intro y4_6 y6_6 m6 E; omega
    | succ n_ ih_6 =>
      intro y4_6 y6_6 m6 E
      rw [f_X7_common_6] at E
      refine V.seg F floX7 cjoX7 [.lload 6, .lconst 0, .lcmp] (by decide +kernel) (pc2 := 10) (lv2 := [(4, .long y4_6), (6, .long y6_6)]) (st2 := [.int (lg_cmp y6_6 0)]) (M2 := M) rfl ⟨trivial, trivial, trivial, trivial⟩ ?_
      refine V.lc_eq (off := 23) F (by decide +kernel) (tgt := 33) (by decide) (fun h10 => ?_) (fun h10 => ?_)
      · replace E := E.trans (if_pos h10)
        refine V.seg F floX7 cjoX7 [.lload 4] (by decide +kernel) (pc2 := 35) (lv2 := [(4, .long y4_6), (6, .long y6_6)]) (st2 := [.long y4_6]) (M2 := M) rfl ⟨trivial, trivial⟩ ?_
        exact V.lret F (by decide +kernel) ⟨congrArg (fun z => some (Value.long z)) E.symm, rfl⟩
      · replace E := E.trans (if_neg h10)
        refine V.seg F floX7 cjoX7 [.lload 4, .lload 6] (by decide +kernel) (pc2 := 17) (lv2 := [(4, .long y4_6), (6, .long y6_6)]) (st2 := [.long y6_6, .long y4_6]) (M2 := M) rfl ⟨trivial, trivial, trivial⟩ ?_
        refine V.callS (as := [.long y4_6, .long y6_6]) (rest := []) F (by decide +kernel) lX7_127 bX7_left (c_X7_left G X.2.1 M y4_6 y6_6) (rm_ok hRm hd (by decide) (by decide)) ⟨Nat.zero_le _, Nat.zero_le _⟩ (Nat.le_of_ble_eq_true rfl) (fun r_ N_ p_ => ?_)
        obtain ⟨rfl, hN_⟩ := p_
        rw [hN_]
        clear hN_
        refine V.seg F floX7 cjoX7 [.lstore 8, .lload 6, .lstore 4, .lload 8, .lstore 6, .goto (-24)] (by decide +kernel) (pc2 := 6) (lv2 := [(6, .long (f_X7_left y4_6 y6_6)), (4, .long y6_6), (8, .long (f_X7_left y4_6 y6_6))]) (st2 := []) (M2 := M) rfl ⟨(by decide), trivial, (by decide), trivial, (by decide), (by decide), trivial⟩ ?_
        refine V.pick [1, 0] rfl ?_
        exact ih_6 y6_6 (f_X7_left y4_6 y6_6) (by exact left_lt h10 m6) E
  refine V.pick [1, 0] rfl ?_
  exact hJ6 _ a b (by exact uN_lt _) E
def f_X7_byOf_18  (w0_18 : Int64) : Int64 := w0_18
def f_X7_byOf (M : Mem) (f : Int32) : Int64 := if (f_X7_isNumber M f) = 0 then f_X7_byOf_18 (mL M 58 (ix f)) else f_X7_byOf_18 0
abbrev p_X7_byOf (M : Mem) (f : Int32) : Option Value → Mem → Prop := fun r N => r = some (.long (f_X7_byOf M f)) ∧ N = M
set_option maxRecDepth 100000 in
set_option maxHeartbeats 4000000 in
theorem c_X7_byOf (G : Ctx) (l : Launch) (M : Mem) (f : Int32) (q : Ok M) (gb : Gb M) (i_f : vp_in f 1648) : CT G l 1 mX7_byOf [.ref 52, .int f] M 0 0 (p_X7_byOf M f) := by
  refine CT.of (by decide) (Nat.le_of_ble_eq_true rfl) ?_
  intro X d hd hl hRm hnm F
  subst hl
  have E : f_X7_byOf M f = f_X7_byOf M f := rfl
  show V G X 2 0 0 (Qx G X 0 0 (p_X7_byOf M f)) 0 [(0, .ref 52), (1, .int f)] [] M
  refine V.seg F floX7 cjoX7 [.aload_n 0, .iload_n 1] (by decide +kernel) (pc2 := 2) (lv2 := [(0, .ref 52), (1, .int f)]) (st2 := [.int f, .ref 52]) (M2 := M) rfl ⟨trivial, trivial, trivial⟩ ?_
  refine V.callV (as := [.int f]) (rest := []) F (by decide +kernel) lX7_130 bX7_isNumber ⟨7, _, (q.o 52 7 rfl), rfl, rfl⟩ (c_X7_isNumber G X.2.1 M f q gb (by first | assumption | exact vinc (by decide))) (rm_ok hRm hd (by decide) (by decide)) ⟨Nat.zero_le _, Nat.zero_le _⟩ (Nat.le_of_ble_eq_true rfl) (fun r_ N_ p_ => ?_)
  obtain ⟨rfl, hN_, z2⟩ := p_
  rw [hN_]
  clear hN_
  have hJ18 : ∀ (w0_18 : Int64), f_X7_byOf M f = f_X7_byOf_18 w0_18 → V G X 2 0 0 (Qx G X 0 0 (p_X7_byOf M f)) 18 [] [.long w0_18] M := by
    intro w0_18 E
    exact V.lret F (by decide +kernel) ⟨congrArg (fun z => some (Value.long z)) E.symm, rfl⟩
  refine V.if_eq (off := 7) F (by decide +kernel) (tgt := 12) (by decide) (fun h5 => ?_) (fun h5 => ?_)
  · replace E := E.trans (if_pos h5)
    refine V.seg F floX7 cjoX7 [.aload_n 0, .getfield 26, .iload_n 1, .laload] (by decide +kernel) (pc2 := 18) (lv2 := [(0, .ref 52), (1, .int f)]) (st2 := [.long (mL M 58 (ix f))]) (M2 := M) rfl ⟨trivial, (q.f 52 7 5 rfl), trivial, (q.a 58 22 1648 rfl (by first | assumption | exact vinc (by decide))), trivial⟩ ?_
    refine V.pick [] rfl ?_
    exact hJ18 (mL M 58 (ix f))  E
  · replace E := E.trans (if_neg h5)
    refine V.seg F floX7 cjoX7 [.lconst 0, .goto 9] (by decide +kernel) (pc2 := 18) (lv2 := [(0, .ref 52), (1, .int f)]) (st2 := [.long 0]) (M2 := M) rfl ⟨trivial, (by decide), trivial⟩ ?_
    refine V.pick [] rfl ?_
    exact hJ18 0  E
def f_X7_restOf_23  (w0_23 : Int64) : Int64 := w0_23
def f_X7_restOf (M : Mem) (f : Int32) : Int64 := if (f_X7_isNumber M f) = 0 then f_X7_restOf_23 (mL M 59 (ix f)) else f_X7_restOf_23 (mL M 54 (ix f))
abbrev p_X7_restOf (M : Mem) (f : Int32) : Option Value → Mem → Prop := fun r N => r = some (.long (f_X7_restOf M f)) ∧ N = M
set_option maxRecDepth 100000 in
set_option maxHeartbeats 4000000 in
theorem c_X7_restOf (G : Ctx) (l : Launch) (M : Mem) (f : Int32) (q : Ok M) (gb : Gb M) (i_f : vp_in f 1648) : CT G l 1 mX7_restOf [.ref 52, .int f] M 0 0 (p_X7_restOf M f) := by
  refine CT.of (by decide) (Nat.le_of_ble_eq_true rfl) ?_
  intro X d hd hl hRm hnm F
  subst hl
  have E : f_X7_restOf M f = f_X7_restOf M f := rfl
  show V G X 2 0 0 (Qx G X 0 0 (p_X7_restOf M f)) 0 [(0, .ref 52), (1, .int f)] [] M
  refine V.seg F floX7 cjoX7 [.aload_n 0, .iload_n 1] (by decide +kernel) (pc2 := 2) (lv2 := [(0, .ref 52), (1, .int f)]) (st2 := [.int f, .ref 52]) (M2 := M) rfl ⟨trivial, trivial, trivial⟩ ?_
  refine V.callV (as := [.int f]) (rest := []) F (by decide +kernel) lX7_130 bX7_isNumber ⟨7, _, (q.o 52 7 rfl), rfl, rfl⟩ (c_X7_isNumber G X.2.1 M f q gb (by first | assumption | exact vinc (by decide))) (rm_ok hRm hd (by decide) (by decide)) ⟨Nat.zero_le _, Nat.zero_le _⟩ (Nat.le_of_ble_eq_true rfl) (fun r_ N_ p_ => ?_)
  obtain ⟨rfl, hN_, z2⟩ := p_
  rw [hN_]
  clear hN_
  have hJ23 : ∀ (w0_23 : Int64), f_X7_restOf M f = f_X7_restOf_23 w0_23 → V G X 2 0 0 (Qx G X 0 0 (p_X7_restOf M f)) 23 [] [.long w0_23] M := by
    intro w0_23 E
    exact V.lret F (by decide +kernel) ⟨congrArg (fun z => some (Value.long z)) E.symm, rfl⟩
  refine V.if_eq (off := 12) F (by decide +kernel) (tgt := 17) (by decide) (fun h5 => ?_) (fun h5 => ?_)
  · replace E := E.trans (if_pos h5)
    refine V.seg F floX7 cjoX7 [.aload_n 0, .getfield 29, .iload_n 1, .laload] (by decide +kernel) (pc2 := 23) (lv2 := [(0, .ref 52), (1, .int f)]) (st2 := [.long (mL M 59 (ix f))]) (M2 := M) rfl ⟨trivial, (q.f 52 7 6 rfl), trivial, (q.a 59 22 1648 rfl (by first | assumption | exact vinc (by decide))), trivial⟩ ?_
    refine V.pick [] rfl ?_
    exact hJ23 (mL M 59 (ix f))  E
  · replace E := E.trans (if_neg h5)
    refine V.seg F floX7 cjoX7 [.aload_n 0, .getfield 13, .iload_n 1, .laload, .goto 9] (by decide +kernel) (pc2 := 23) (lv2 := [(0, .ref 52), (1, .int f)]) (st2 := [.long (mL M 54 (ix f))]) (M2 := M) rfl ⟨trivial, (q.f 52 7 1 rfl), trivial, (q.a 54 22 1648 rfl (by first | assumption | exact vinc (by decide))), (by decide), trivial⟩ ?_
    refine V.pick [] rfl ?_
    exact hJ23 (mL M 54 (ix f))  E
def f_X7_setRest (M : Mem) (f : Int32) (m : Int64) (pr : Int64) : Mem := uL (uL M 58 (ix f) m) 59 (ix f) (f_X7_rem pr m)
abbrev p_X7_setRest (M : Mem) (f : Int32) (m : Int64) (pr : Int64) : Option Value → Mem → Prop := fun r N => r = none ∧ N = f_X7_setRest M f m pr ∧ SK wg M N
set_option maxRecDepth 100000 in
set_option maxHeartbeats 4000000 in
theorem c_X7_setRest (G : Ctx) (l : Launch) (M : Mem) (f : Int32) (m : Int64) (pr : Int64) (q : Ok M) (gb : Gb M) (i_f : vp_in f 1648) (hm : ¬ m = 0) : CT G l 1 mX7_setRest [.ref 52, .int f, .long m, .long pr] M 0 0 (p_X7_setRest M f m pr) := by
  refine CT.of (by decide) (Nat.le_of_ble_eq_true rfl) ?_
  intro X d hd hl hRm hnm F
  subst hl
  have E : f_X7_setRest M f m pr = f_X7_setRest M f m pr := rfl
  show V G X 6 0 0 (Qx G X 0 0 (p_X7_setRest M f m pr)) 0 [(0, .ref 52), (1, .int f), (2, .long m), (4, .long pr)] [] M
  refine V.seg F floX7 cjoX7 [.aload_n 0, .getfield 26, .iload_n 1, .lload_n 2, .lastore, .aload_n 0, .getfield 29, .iload_n 1, .lload 4, .lload_n 2] (by decide +kernel) (pc2 := 15) (lv2 := [(0, .ref 52), (1, .int f), (2, .long m), (4, .long pr)]) (st2 := [.long m, .long pr, .int f, .ref 59]) (M2 := uL M 58 (ix f) m) rfl ⟨trivial, (q.f 52 7 5 rfl), trivial, trivial, (q.a 58 22 1648 rfl (by first | assumption | exact vinc (by decide))), trivial, ((q.sm (SK.by (SK.rf (w := wg) gb) rfl (by assumption)).1).f 52 7 6 rfl), trivial, trivial, trivial, trivial⟩ ?_
  refine V.callS (as := [.long pr, .long m]) (rest := [.int f, .ref 59]) F (by decide +kernel) lX7_93 bX7_rem (c_X7_rem G X.2.1 (uL M 58 (ix f) m) pr m (by assumption)) (rm_ok hRm hd (by decide) (by decide)) ⟨Nat.zero_le _, Nat.zero_le _⟩ (Nat.le_of_ble_eq_true rfl) (fun r_ N_ p_ => ?_)
  obtain ⟨rfl, hN_⟩ := p_
  rw [hN_]
  clear hN_
  refine V.seg F floX7 cjoX7 [.lastore] (by decide +kernel) (pc2 := 19) (lv2 := [(0, .ref 52), (1, .int f), (2, .long m), (4, .long pr)]) (st2 := []) (M2 := uL (uL M 58 (ix f) m) 59 (ix f) (f_X7_rem pr m)) rfl ⟨((q.sm (SK.by (SK.rf (w := wg) gb) rfl (by assumption)).1).a 59 22 1648 rfl (by first | assumption | exact vinc (by decide))), trivial⟩ ?_
  exact V.vret F (by decide +kernel) ⟨rfl, E.symm, (SK.pL (SK.by (SK.rf (w := wg) gb) rfl (by assumption)) rfl (by decide))⟩
def f_X7_put (M : Mem) (f : Int32) (pl : Int64) (ph : Int64) (k : Int64) (v : Int64) : Mem := uL (uL (uL (uL (uL (uL (uI M 53 (ix f) 0) 54 (ix f) pl) 55 (ix f) ph) 56 (ix f) k) 57 (ix f) v) 58 (ix f) 1) 59 (ix f) 0
abbrev p_X7_put (M : Mem) (f : Int32) (pl : Int64) (ph : Int64) (k : Int64) (v : Int64) : Option Value → Mem → Prop := fun r N => r = none ∧ N = f_X7_put M f pl ph k v ∧ SK wg M N
set_option maxRecDepth 100000 in
set_option maxHeartbeats 4000000 in
theorem c_X7_put (G : Ctx) (l : Launch) (M : Mem) (f : Int32) (pl : Int64) (ph : Int64) (k : Int64) (v : Int64) (q : Ok M) (gb : Gb M) (i_f : vp_in f 1648) : CT G l 0 mX7_put [.ref 52, .int f, .long pl, .long ph, .long k, .long v] M 0 0 (p_X7_put M f pl ph k v) := by
  refine CT.of (by decide) (Nat.le_of_ble_eq_true rfl) ?_
  intro X d hd hl hRm hnm F
  subst hl
  have E : f_X7_put M f pl ph k v = f_X7_put M f pl ph k v := rfl
  show V G X 10 0 0 (Qx G X 0 0 (p_X7_put M f pl ph k v)) 0 [(0, .ref 52), (1, .int f), (2, .long pl), (4, .long ph), (6, .long k), (8, .long v)] [] M
  refine V.seg F floX7 cjoX7 [.aload_n 0, .getfield 9, .iload_n 1, .iconst 0, .bastore, .aload_n 0, .getfield 13, .iload_n 1, .lload_n 2, .lastore, .aload_n 0, .getfield 17, .iload_n 1, .lload 4, .lastore, .aload_n 0, .getfield 20, .iload_n 1, .lload 6, .lastore, .aload_n 0, .getfield 23, .iload_n 1, .lload 8, .lastore, .aload_n 0, .getfield 26, .iload_n 1, .lconst 1, .lastore, .aload_n 0, .getfield 29, .iload_n 1, .lconst 0, .lastore] (by decide +kernel) (pc2 := 52) (lv2 := [(0, .ref 52), (1, .int f), (2, .long pl), (4, .long ph), (6, .long k), (8, .long v)]) (st2 := []) (M2 := uL (uL (uL (uL (uL (uL (uI M 53 (ix f) 0) 54 (ix f) pl) 55 (ix f) ph) 56 (ix f) k) 57 (ix f) v) 58 (ix f) 1) 59 (ix f) 0) rfl ⟨trivial, (q.f 52 7 0 rfl), trivial, trivial, ⟨(q.a 53 21 1648 rfl (by first | assumption | exact vinc (by decide))), Or.inl rfl⟩, trivial, ((q.sm (SK.pI (SK.rf (w := wg) gb) rfl).1).f 52 7 1 rfl), trivial, trivial, ((q.sm (SK.pI (SK.rf (w := wg) gb) rfl).1).a 54 22 1648 rfl (by first | assumption | exact vinc (by decide))), trivial, ((q.sm (SK.pL (SK.pI (SK.rf (w := wg) gb) rfl) rfl (by decide)).1).f 52 7 2 rfl), trivial, trivial, ((q.sm (SK.pL (SK.pI (SK.rf (w := wg) gb) rfl) rfl (by decide)).1).a 55 22 1648 rfl (by first | assumption | exact vinc (by decide))), trivial, ((q.sm (SK.pL (SK.pL (SK.pI (SK.rf (w := wg) gb) rfl) rfl (by decide)) rfl (by decide)).1).f 52 7 3 rfl), trivial, trivial, ((q.sm (SK.pL (SK.pL (SK.pI (SK.rf (w := wg) gb) rfl) rfl (by decide)) rfl (by decide)).1).a 56 22 1648 rfl (by first | assumption | exact vinc (by decide))), trivial, ((q.sm (SK.pL (SK.pL (SK.pL (SK.pI (SK.rf (w := wg) gb) rfl) rfl (by decide)) rfl (by decide)) rfl (by decide)).1).f 52 7 4 rfl), trivial, trivial, ((q.sm (SK.pL (SK.pL (SK.pL (SK.pI (SK.rf (w := wg) gb) rfl) rfl (by decide)) rfl (by decide)) rfl (by decide)).1).a 57 22 1648 rfl (by first | assumption | exact vinc (by decide))), trivial, ((q.sm (SK.pL (SK.pL (SK.pL (SK.pL (SK.pI (SK.rf (w := wg) gb) rfl) rfl (by decide)) rfl (by decide)) rfl (by decide)) rfl (by decide)).1).f 52 7 5 rfl), trivial, trivial, ((q.sm (SK.pL (SK.pL (SK.pL (SK.pL (SK.pI (SK.rf (w := wg) gb) rfl) rfl (by decide)) rfl (by decide)) rfl (by decide)) rfl (by decide)).1).a 58 22 1648 rfl (by first | assumption | exact vinc (by decide))), trivial, ((q.sm (SK.by (SK.pL (SK.pL (SK.pL (SK.pL (SK.pI (SK.rf (w := wg) gb) rfl) rfl (by decide)) rfl (by decide)) rfl (by decide)) rfl (by decide)) rfl (by decide)).1).f 52 7 6 rfl), trivial, trivial, ((q.sm (SK.by (SK.pL (SK.pL (SK.pL (SK.pL (SK.pI (SK.rf (w := wg) gb) rfl) rfl (by decide)) rfl (by decide)) rfl (by decide)) rfl (by decide)) rfl (by decide)).1).a 59 22 1648 rfl (by first | assumption | exact vinc (by decide))), trivial⟩ ?_
  exact V.vret F (by decide +kernel) ⟨rfl, E.symm, (SK.pL (SK.by (SK.pL (SK.pL (SK.pL (SK.pL (SK.pI (SK.rf (w := wg) gb) rfl) rfl (by decide)) rfl (by decide)) rfl (by decide)) rfl (by decide)) rfl (by decide)) rfl (by decide))⟩
