/-- a METHOD of the class, made whole: its label, its own objects and arrays -/
def Rt (M : Mem) (r : Nat) : Prop := ∃ n, n < 6 ∧ r = 74 + 271 * n ∧ r + 270 ≤ mK M ∧ (∀ k, (ft 3 k).1 = 2 → mB M r k = true) ∧ (∀ j, j < 8 → mB M (r + 4) j = true) ∧ (∀ j, j < 256 → mB M (r + 5) j = true)
theorem SH_rt {n o : Nat} (hn : n < 6) (ho : o < 271) : SH (74 + 271 * n + o) = SHr o := by
  unfold SH
  have h1 : 74 + 271 * n + o - 74 = o + 271 * n := by omega
  rw [if_neg (by omega), h1]
  have h2 : (o + 271 * n) / 271 = n := by omega
  have h3 : (o + 271 * n) % 271 = o := by omega
  rw [h2, h3, if_pos hn]
theorem vnj {j N n : Nat} (h : j < N) (hn : N ≤ n) (hb : n < 2 ^ 31) : vp_in (nI j) n := vp_in_nI (Nat.lt_of_lt_of_le h hn) hb
theorem Rt.sm {M N : Mem} {r : Nat} (h : Rt M r) (s : Sm M N) : Rt N r := by
  obtain ⟨n, h1, h2, h3, h4, h5, h6⟩ := h
  exact ⟨n, h1, h2, by show r + 270 ≤ N.1; rw [s.1]; exact h3, fun k hk => by show N.2.1 r k = true; rw [s.2]; exact h4 k hk, fun k hk => by show N.2.1 _ k = true; rw [s.2]; exact h5 k hk, fun k hk => by show N.2.1 _ k = true; rw [s.2]; exact h6 k hk⟩
theorem Rt.sh {M : Mem} {r : Nat} (h : Rt M r) {o : Nat} (ho : o < 271) : SH (r + o) = SHr o ∧ 0 < r + o ∧ r + o ≤ mK M := by
  obtain ⟨n, h1, rfl, h3, -⟩ := h
  exact ⟨SH_rt h1 ho, by omega, by omega⟩
theorem Rt.o {M : Mem} {r : Nat} (h : Rt M r) : isO M r 3 := by
  have h0 := h.sh (o := 0) (by omega)
  exact ⟨by rw [show SH r = SH (r + 0) from rfl, h0.1]; rfl, h0.2⟩
theorem Rt.f {M : Mem} {r : Nat} (h : Rt M r) (k : Nat) (hk : (ft 3 k).1 = 2) : isO M r 3 ∧ mB M r k = true := by
  refine ⟨h.o, ?_⟩
  obtain ⟨n, h1, h2, h3, h4, h5, h6⟩ := h
  exact h4 k hk
theorem Rt.a {M : Mem} {r : Nat} (h : Rt M r) (o kd n : Nat) (hc : (decide (SHr o = (kd, n)) && decide (o < 271)) = true) {i : Int32} (hi : vp_in i n) : isA M (r + o) kd i := by
  simp only [Bool.and_eq_true, decide_eq_true_eq] at hc
  obtain ⟨h1, h2, h3⟩ := h.sh hc.2
  rw [hc.1] at h1
  exact ⟨by rw [h1], h2, h3, by rw [h1]; exact hi⟩
theorem SHr_f {o : Nat} (h : 7 ≤ o) : SHr o = (2, 0) := by
  match o, h with
  | o + 7, _ => rfl
theorem Rt.fa {M : Mem} {r o : Nat} (h : Rt M r) (h7 : 7 ≤ o) (ho : o < 271) : isO M (r + o) 1 := by
  obtain ⟨h1, h2, h3⟩ := h.sh ho
  exact ⟨by rw [h1, SHr_f h7], h2, h3⟩
theorem Rt.st {M : Mem} {r : Nat} (h : Rt M r) {i : Int32} (hi : vp_in i 8) : isO M (r + 4 + 3 + ix i) 1 := by
  have hl : ix i < 8 := vin_lt hi
  have := h.fa (o := 7 + ix i) (by omega) (by omega)
  rw [show r + 4 + 3 + ix i = r + (7 + ix i) by omega]
  exact this
theorem Rt.ah {M : Mem} {r : Nat} (h : Rt M r) {i : Int32} (hi : vp_in i 256) : isO M (r + 5 + 10 + ix i) 1 := by
  have hl : ix i < 256 := vin_lt hi
  have := h.fa (o := 15 + ix i) (by omega) (by omega)
  rw [show r + 5 + 10 + ix i = r + (15 + ix i) by omega]
  exact this
theorem Rt.sB {M : Mem} {r : Nat} (h : Rt M r) {i : Int32} (hi : vp_in i 8) : mB M (r + 4) i.toNatClampNeg = true := by
  obtain ⟨n, h1, h2, h3, h4, h5, h6⟩ := h
  exact h5 _ (vin_lt hi)
theorem Rt.aB {M : Mem} {r : Nat} (h : Rt M r) {i : Int32} (hi : vp_in i 256) : mB M (r + 5) i.toNatClampNeg = true := by
  obtain ⟨n, h1, h2, h3, h4, h5, h6⟩ := h
  exact h6 _ (vin_lt hi)
theorem Ok.el {M : Mem} (h : Ok M) (a kd n : Nat) (hc : okA a kd n = true) (hk : (decide (kd = 23) || decide (kd = 24) || decide (kd = 28)) = true) {i : Int32} (hi : vp_in i n) : mB M a i.toNatClampNeg = true := by
  simp only [okA, Bool.and_eq_true, decide_eq_true_eq] at hc
  refine h.2 a _ hc.2 ?_
  unfold rfB
  rw [hc.1.1]
  simp only [Bool.or_eq_true, Bool.and_eq_true, decide_eq_true_eq] at hk ⊢
  exact Or.inr ⟨hk, vin_lt hi⟩
theorem Ok.fa {M : Mem} (h : Ok M) {i : Int32} (hi : vp_in i 16) : isO M (2 + 34 + ix i) 1 := by
  have hl : ix i < 16 := vin_lt hi
  have hall : ∀ j, j < 16 → (SH (36 + j)).1 = 2 := by decide
  exact ⟨hall _ hl, by omega, Nat.le_trans (by omega) h.1⟩
theorem Ok.co {M : Mem} (h : Ok M) {i : Int32} (hi : vp_in i 8) : isO M (18 + 5 + ix i) 1 := by
  have hl : ix i < 8 := vin_lt hi
  have hall : ∀ j, j < 8 → (SH (23 + j)).1 = 2 := by decide
  exact ⟨hall _ hl, by omega, Nat.le_trans (by omega) h.1⟩
theorem Ok.nu {M : Mem} (h : Ok M) {t i : Int32} (ht : vp_in t 4) (hi : vp_in i 16) : isA M (5 + 1 + ix t) 22 i := by
  have hl : ix t < 4 := vin_lt ht
  have hall : ∀ j, j < 4 → SH (6 + j) = (22, 16) := by decide
  have h9 : SH (5 + 1 + ix t) = (22, 16) := hall _ hl
  exact ⟨by rw [h9], by omega, Nat.le_trans (by omega) h.1, by rw [h9]; exact hi⟩
def f_X5_has_23  (w0_23 : Int32) : Int32 := w0_23
def f_X5_has_22   : Int32 := f_X5_has_23 0
def f_X5_has (M : Mem) (t : Int32) (v : Int64) : Int32 := if v < 0 then f_X5_has_22  else if (Int32.toInt64 (mI M 10 (ix t))) ≤ v then f_X5_has_22  else f_X5_has_23 1
abbrev p_X5_has (M : Mem) (t : Int32) (v : Int64) : Option Value → Mem → Prop := fun r N => r = some (.int (f_X5_has M t v)) ∧ N = M ∧ ((f_X5_has M t v) = 0 ∨ (f_X5_has M t v) = 1)
set_option maxRecDepth 100000 in
set_option maxHeartbeats 4000000 in
theorem c_X5_has (G : Ctx) (l : Launch) (M : Mem) (t : Int32) (v : Int64) (q : Ok M) (i_t : vp_in t 4) : CT G l 0 mX5_has [.ref 4, .int t, .long v] M 0 0 (p_X5_has M t v) := by
  refine CT.of (by decide) (Nat.le_of_ble_eq_true rfl) ?_
  intro X d hd hl hRm hnm F
  subst hl
  have E : f_X5_has M t v = f_X5_has M t v := rfl
  show V G X 4 0 0 (Qx G X 0 0 (p_X5_has M t v)) 0 [(0, .ref 4), (1, .int t), (2, .long v)] [] M
  refine V.seg F floX5 cjoX5 [.lload_n 2, .lconst 0, .lcmp] (by decide +kernel) (pc2 := 3) (lv2 := [(0, .ref 4), (1, .int t), (2, .long v)]) (st2 := [.int (lg_cmp v 0)]) (M2 := M) rfl ⟨trivial, trivial, trivial, trivial⟩ ?_
  have hJ23 : ∀ (w0_23 : Int32), (w0_23 = 0 ∨ w0_23 = 1) → f_X5_has M t v = f_X5_has_23 w0_23 → V G X 4 0 0 (Qx G X 0 0 (p_X5_has M t v)) 23 [] [.int w0_23] M := by
    intro w0_23 zw0_23 E
    exact V.zret F (zw0_23) (by decide +kernel) ⟨congrArg (fun z => some (Value.int z)) E.symm, rfl, by rw [E]; exact zw0_23⟩
  have hJ22 : f_X5_has M t v = f_X5_has_22 → V G X 4 0 0 (Qx G X 0 0 (p_X5_has M t v)) 22 [] [] M := by
    intro E
    refine V.seg F floX5 cjoX5 [.iconst 0] (by decide +kernel) (pc2 := 23) (lv2 := []) (st2 := [.int 0]) (M2 := M) rfl ⟨trivial, trivial⟩ ?_
    refine V.pick [] rfl ?_
    exact hJ23 0 (Or.inl rfl) E
  refine V.lc_lt (off := 19) F (by decide +kernel) (tgt := 22) (by decide) (fun h3 => ?_) (fun h3 => ?_)
  · replace E := E.trans (if_pos h3)
    refine V.pick [] rfl ?_
    exact hJ22   E
  · replace E := E.trans (if_neg h3)
    refine V.seg F floX5 cjoX5 [.lload_n 2, .aload_n 0, .getfield 16, .iload_n 1, .iaload, .i2l, .lcmp] (by decide +kernel) (pc2 := 15) (lv2 := [(0, .ref 4), (1, .int t), (2, .long v)]) (st2 := [.int (lg_cmp v (Int32.toInt64 (mI M 10 (ix t))))]) (M2 := M) rfl ⟨trivial, trivial, (q.f 4 5 1 rfl), trivial, (q.a 10 20 4 rfl (by first | assumption | exact vinc (by decide))), trivial, trivial, trivial⟩ ?_
    refine V.lc_ge (off := 7) F (by decide +kernel) (tgt := 22) (by decide) (fun h15 => ?_) (fun h15 => ?_)
    · replace E := E.trans (if_pos h15)
      refine V.pick [] rfl ?_
      exact hJ22   E
    · replace E := E.trans (if_neg h15)
      refine V.seg F floX5 cjoX5 [.iconst 1, .goto 4] (by decide +kernel) (pc2 := 23) (lv2 := [(0, .ref 4), (1, .int t), (2, .long v)]) (st2 := [.int 1]) (M2 := M) rfl ⟨trivial, (by decide), trivial⟩ ?_
      refine V.pick [] rfl ?_
      exact hJ23 1 (Or.inr rfl) E
def f_X3_allows_2 (rt : Nat) (M : Mem) : Nat → Nat → Int32
  | 0, _ => 0
  | n_ + 1, j2 => if 8 ≤ (nI j2) then 1 else if (f_X1_holds M (rt + 4 + 3 + ix (nI j2)) (mL M 33 (ix (nI j2)))) = 0 then 0 else (f_X3_allows_2 rt M n_) (j2 + 1)
def f_X3_allows (M : Mem) (rt : Nat) : Int32 := f_X3_allows_2 rt M 9 0
abbrev p_X3_allows (M : Mem) (rt : Nat) : Option Value → Mem → Prop := fun r N => r = some (.int (f_X3_allows M rt)) ∧ N = M ∧ ((f_X3_allows M rt) = 0 ∨ (f_X3_allows M rt) = 1)
set_option maxRecDepth 100000 in
set_option maxHeartbeats 4000000 in
theorem c_X3_allows (G : Ctx) (l : Launch) (M : Mem) (rt : Nat) (q : Ok M) (hr : Rt M rt) : CT G l 2 mX3_allows [.ref rt, .ref 33] M 0 0 (p_X3_allows M rt) := by
  refine CT.of (by decide) (Nat.le_of_ble_eq_true rfl) ?_
  intro X d hd hl hRm hnm F
  subst hl
  have E : f_X3_allows M rt = f_X3_allows M rt := rfl
  show V G X 3 0 0 (Qx G X 0 0 (p_X3_allows M rt)) 0 [(0, .ref rt), (1, .ref 33)] [] M
  refine V.seg F floX3 cjoX3 [.iconst 0] (by decide +kernel) (pc2 := 1) (lv2 := [(0, .ref rt), (1, .ref 33)]) (st2 := [.int 0]) (M2 := M) rfl ⟨trivial, trivial⟩ ?_
  refine V.seg F floX3 cjoX3 [.istore_n 2] (by decide +kernel) (pc2 := 2) (lv2 := [(2, .int 0), (0, .ref rt), (1, .ref 33)]) (st2 := []) (M2 := M) rfl ⟨(by decide), trivial⟩ ?_
  have hJ2 : ∀ (n_ : Nat) (j2 : Nat), (j2 ≤ 8) → (8 - j2 < n_) → f_X3_allows M rt = f_X3_allows_2 rt M n_ j2 → V G X 3 0 0 (Qx G X 0 0 (p_X3_allows M rt)) 2 [(0, .ref rt), (1, .ref 33), (2, .int (nI j2))] [] M := by
    intro n_
    induction n_ with
    | zero => intro j2 b2 m2 E; omega
    | succ n_ ih_2 =>
      intro j2 b2 m2 E
      rw [f_X3_allows_2] at E
      refine V.seg F floX3 cjoX3 [.iload_n 2, .bipush 8] (by decide +kernel) (pc2 := 5) (lv2 := [(0, .ref rt), (1, .ref 33), (2, .int (nI j2))]) (st2 := [.int 8, .int (nI j2)]) (M2 := M) rfl ⟨trivial, trivial, trivial⟩ ?_
      refine V.ic_ge (off := 26) F (by decide +kernel) (tgt := 31) (by decide) (fun h5 => ?_) (fun h5 => ?_)
      · replace E := E.trans (if_pos h5)
        refine V.seg F floX3 cjoX3 [.iconst 1] (by decide +kernel) (pc2 := 32) (lv2 := [(0, .ref rt), (1, .ref 33), (2, .int (nI j2))]) (st2 := [.int 1]) (M2 := M) rfl ⟨trivial, trivial⟩ ?_
        exact V.zret F (Or.inr rfl) (by decide +kernel) ⟨congrArg (fun z => some (Value.int z)) E.symm, rfl, by rw [E]; exact Or.inr rfl⟩
      · replace E := E.trans (if_neg h5)
        refine V.seg F floX3 cjoX3 [.aload_n 0, .getfield 27, .iload_n 2] (by decide +kernel) (pc2 := 13) (lv2 := [(0, .ref rt), (1, .ref 33), (2, .int (nI j2))]) (st2 := [.int (nI j2), .ref (rt + 4)]) (M2 := M) rfl ⟨trivial, (Rt.f hr 4 rfl), trivial, trivial⟩ ?_
        refine V.aald (kd := 25) F (by decide +kernel) (Rt.a hr 4 25 8 rfl (vnj (cnt_lt (n := 8) h5 rfl (by omega) (by decide)) (by decide) (by decide))) ⟨by decide, by decide⟩ (Rt.sB hr (vnj (cnt_lt (n := 8) h5 rfl (by omega) (by decide)) (by decide) (by decide))) ?_
        show V G X 3 0 0 (Qx G X 0 0 (p_X3_allows M rt)) 14 [(0, .ref rt), (1, .ref 33), (2, .int (nI j2))] [.ref (rt + 4 + 3 + ix (nI j2))] M
        refine V.seg F floX3 cjoX3 [.aload_n 1, .iload_n 2, .laload] (by decide +kernel) (pc2 := 17) (lv2 := [(0, .ref rt), (1, .ref 33), (2, .int (nI j2))]) (st2 := [.long (mL M 33 (ix (nI j2))), .ref (rt + 4 + 3 + ix (nI j2))]) (M2 := M) rfl ⟨trivial, trivial, (q.a 33 22 8 rfl (vnj (cnt_lt (n := 8) h5 rfl (by omega) (by decide)) (by decide) (by decide))), trivial⟩ ?_
        refine V.callV (as := [.long (mL M 33 (ix (nI j2)))]) (rest := []) F (by decide +kernel) lX3_46 bX1_holds ⟨1, _, (Rt.st hr (vnj (cnt_lt (n := 8) h5 rfl (by omega) (by decide)) (by decide) (by decide))), rfl, rfl⟩ (c_X1_holds G X.2.1 M (rt + 4 + 3 + ix (nI j2)) (mL M 33 (ix (nI j2))) (Rt.st hr (vnj (cnt_lt (n := 8) h5 rfl (by omega) (by decide)) (by decide) (by decide)))) (rm_ok hRm hd (by decide) (by decide)) ⟨Nat.zero_le _, Nat.zero_le _⟩ (Nat.le_of_ble_eq_true rfl) (fun r_ N_ p_ => ?_)
        obtain ⟨rfl, hN_, z17⟩ := p_
        rw [hN_]
        clear hN_
        refine V.if_ne (off := 5) F (by decide +kernel) (tgt := 25) (by decide) (fun h20 => ?_) (fun h20 => ?_)
        · replace E := E.trans (if_neg h20)
          refine V.seg F floX3 cjoX3 [.iinc 2 1, .goto (-26)] (by decide +kernel) (pc2 := 2) (lv2 := [(2, .int ((nI j2) + 1)), (0, .ref rt), (1, .ref 33)]) (st2 := []) (M2 := M) rfl ⟨(by decide), (by decide), trivial⟩ ?_
          refine V.pick [1, 2, 0] rfl ?_
          rw [nI_1]
          exact ih_2 (j2 + 1) (by have hlt_ := cnt_lt (n := 8) h5 rfl (by omega) (by decide); omega) (by have hlt_ := cnt_lt (n := 8) h5 rfl (by omega) (by decide); omega) E
        · replace E := E.trans (if_pos h20)
          refine V.seg F floX3 cjoX3 [.iconst 0] (by decide +kernel) (pc2 := 24) (lv2 := [(0, .ref rt), (1, .ref 33), (2, .int (nI j2))]) (st2 := [.int 0]) (M2 := M) rfl ⟨trivial, trivial⟩ ?_
          exact V.zret F (Or.inl rfl) (by decide +kernel) ⟨congrArg (fun z => some (Value.int z)) E.symm, rfl, by rw [E]; exact Or.inl rfl⟩
  refine V.pick [1, 2, 0] rfl ?_
  exact hJ2 _ 0 (by omega) (by omega) E
