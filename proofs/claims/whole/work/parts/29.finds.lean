def f_X2_reachAll_c45 (j25 : Nat) (R25_ : Nat → Mem → Mem) (M45 : Mem) : Mem := R25_ (j25 + 1) M45
def f_X2_reachAll_25 (rt : Nat) : Nat → Nat → Mem → Mem
  | 0, _, M25 => M25
  | n25_ + 1, j25, M25 => if ((mI M25 rt 3) * 8) ≤ (nI j25) then M25 else f_X2_reachAll_c45 j25 (f_X2_reachAll_25 rt n25_) (f_X1_makeAll M25 (rt + 5 + 10 + ix (nI j25)))
def f_X2_reachAll_2 (rt : Nat) (M : Mem) : Nat → Nat → Mem → Mem
  | 0, _, M2 => M2
  | n_ + 1, j2, M2 => if (mI M2 rt 3) ≤ (nI j2) then f_X2_reachAll_25 rt ((ix (mI M rt 3) * 8) + 1) 0 M2 else (f_X2_reachAll_2 rt M n_) (j2 + 1) (uI M2 (rt + 6) (ix (nI j2)) 1)
def f_X2_reachAll (M : Mem) (rt : Nat) : Mem := f_X2_reachAll_2 rt M (ix (mI M rt 3) + 1) 0 M
abbrev p_X2_reachAll (M : Mem) (rt : Nat) : Option Value → Mem → Prop := fun r N => r = none ∧ N = f_X2_reachAll M rt ∧ SC wF M N
set_option maxRecDepth 100000 in
set_option maxHeartbeats 4000000 in
theorem c_X2_reachAll (G : Ctx) (l : Launch) (M : Mem) (rt : Nat) (hr_rt : Rt M rt) (q : Ok M) (cR : cn (mI M rt 3) 32) : CT G l 2 mX2_reachAll [.ref rt] M 0 0 (p_X2_reachAll M rt) := by
  refine CT.of (by decide) (Nat.le_of_ble_eq_true rfl) ?_
  intro X d hd hl hRm hnm F
  subst hl
  have E : f_X2_reachAll M rt = f_X2_reachAll M rt := rfl
  show V G X 2 0 0 (Qx G X 0 0 (p_X2_reachAll M rt)) 0 [(0, .ref rt)] [] M
  refine V.seg F floX2 cjoX2 [.iconst 0] (by decide +kernel) (pc2 := 1) (lv2 := [(0, .ref rt)]) (st2 := [.int 0]) (M2 := M) rfl ⟨trivial, trivial⟩ ?_
  refine V.seg F floX2 cjoX2 [.istore_n 1] (by decide +kernel) (pc2 := 2) (lv2 := [(1, .int 0), (0, .ref rt)]) (st2 := []) (M2 := M) rfl ⟨(by decide), trivial⟩ ?_
  have hJ2 : ∀ (n_ : Nat) (j2 : Nat) (M2 : Mem), (SC wF M M2) → (j2 ≤ ix (mI M rt 3)) → (ix (mI M rt 3) - j2 < n_) → f_X2_reachAll M rt = f_X2_reachAll_2 rt M n_ j2 M2 → V G X 2 0 0 (Qx G X 0 0 (p_X2_reachAll M rt)) 2 [(0, .ref rt), (1, .int (nI j2))] [] M2 := by
    intro n_
    induction n_ with
    | zero => intro j2 M2 s2 b2 m2 E; omega
    | succ n_ ih_2 =>
      intro j2 M2 s2 b2 m2 E
      rw [f_X2_reachAll_2] at E
      refine V.seg F floX2 cjoX2 [.iload_n 1, .aload_n 0, .getfield 72] (by decide +kernel) (pc2 := 7) (lv2 := [(0, .ref rt), (1, .int (nI j2))]) (st2 := [.int (mI M2 rt 3), .int (nI j2)]) (M2 := M2) rfl ⟨trivial, trivial, (Rt.o (hr_rt.sm s2.1)), trivial⟩ ?_
      refine V.ic_ge (off := 16) F (by decide +kernel) (tgt := 23) (by decide) (fun h7 => ?_) (fun h7 => ?_)
      · replace E := E.trans (if_pos h7)
        refine V.seg F floX2 cjoX2 [.iconst 0] (by decide +kernel) (pc2 := 24) (lv2 := [(0, .ref rt), (1, .int (nI j2))]) (st2 := [.int 0]) (M2 := M2) rfl ⟨trivial, trivial⟩ ?_
        refine V.seg F floX2 cjoX2 [.istore_n 1] (by decide +kernel) (pc2 := 25) (lv2 := [(1, .int 0), (0, .ref rt)]) (st2 := []) (M2 := M2) rfl ⟨(by decide), trivial⟩ ?_
        have hJ25 : ∀ (n25_ : Nat) (j25 : Nat) (M25 : Mem), (SC wF M M25) → (j25 ≤ (ix (mI M rt 3) * 8)) → ((ix (mI M rt 3) * 8) - j25 < n25_) → f_X2_reachAll M rt = f_X2_reachAll_25 rt n25_ j25 M25 → V G X 2 0 0 (Qx G X 0 0 (p_X2_reachAll M rt)) 25 [(0, .ref rt), (1, .int (nI j25))] [] M25 := by
          intro n25_
          induction n25_ with
          | zero => intro j25 M25 s25 b25 m25 E; omega
          | succ n25_ ih_25 =>
            intro j25 M25 s25 b25 m25 E
            rw [f_X2_reachAll_25] at E
            refine V.seg F floX2 cjoX2 [.iload_n 1, .aload_n 0, .getfield 72, .bipush 8, .imul] (by decide +kernel) (pc2 := 33) (lv2 := [(0, .ref rt), (1, .int (nI j25))]) (st2 := [.int ((mI M25 rt 3) * 8), .int (nI j25)]) (M2 := M25) rfl ⟨trivial, trivial, (Rt.o (hr_rt.sm s25.1)), trivial, trivial, trivial⟩ ?_
            refine V.ic_ge (off := 18) F (by decide +kernel) (tgt := 51) (by decide) (fun h33 => ?_) (fun h33 => ?_)
            · replace E := E.trans (if_pos h33)
              exact V.vret F (by decide +kernel) ⟨rfl, E.symm, s25⟩
            · replace E := E.trans (if_neg h33)
              refine V.seg F floX2 cjoX2 [.aload_n 0, .getfield 75, .iload_n 1] (by decide +kernel) (pc2 := 41) (lv2 := [(0, .ref rt), (1, .int (nI j25))]) (st2 := [.int (nI j25), .ref (rt + 5)]) (M2 := M25) rfl ⟨trivial, (Rt.f (hr_rt.sm s25.1) 5 rfl), trivial, trivial⟩ ?_
              refine V.aald (kd := 26) F (by decide +kernel) (Rt.a (hr_rt.sm s25.1) 5 26 256 rfl (vp_in_nI (by have le_ := cR.2; have hlt_ := cnt_lt (n := (ix (mI M rt 3) * 8)) h33 (mulN ((s25.r hr_rt 3 rfl).trans cR.1) (rfl : (8 : Int32) = nI 8)) (by omega) (by omega); omega) (by decide))) ⟨by decide, by decide⟩ (Rt.aB (hr_rt.sm s25.1) (vp_in_nI (by have le_ := cR.2; have hlt_ := cnt_lt (n := (ix (mI M rt 3) * 8)) h33 (mulN ((s25.r hr_rt 3 rfl).trans cR.1) (rfl : (8 : Int32) = nI 8)) (by omega) (by omega); omega) (by decide))) ?_
              show V G X 2 0 0 (Qx G X 0 0 (p_X2_reachAll M rt)) 42 [(0, .ref rt), (1, .int (nI j25))] [.ref (rt + 5 + 10 + ix (nI j25))] M25
              refine V.callV (as := []) (rest := []) F (by decide +kernel) lX2_78 bX1_makeAll ⟨1, _, (Rt.ah (hr_rt.sm s25.1) (vp_in_nI (by have le_ := cR.2; have hlt_ := cnt_lt (n := (ix (mI M rt 3) * 8)) h33 (mulN ((s25.r hr_rt 3 rfl).trans cR.1) (rfl : (8 : Int32) = nI 8)) (by omega) (by omega); omega) (by decide))), rfl, rfl⟩ (c_X1_makeAll G X.2.1 M25 (rt + 5 + 10 + ix (nI j25)) (Rt.ah (hr_rt.sm s25.1) (vp_in_nI (by have le_ := cR.2; have hlt_ := cnt_lt (n := (ix (mI M rt 3) * 8)) h33 (mulN ((s25.r hr_rt 3 rfl).trans cR.1) (rfl : (8 : Int32) = nI 8)) (by omega) (by omega); omega) (by decide)))) (rm_ok hRm hd (by decide) (by decide)) ⟨Nat.zero_le _, Nat.zero_le _⟩ (Nat.le_of_ble_eq_true rfl) (fun r_ N_ p_ => ?_)
              obtain ⟨rfl, rfl, t42⟩ := p_
              refine (?_ : ∀ (M45 : Mem), (SC wF M M45) → f_X2_reachAll M rt = f_X2_reachAll_c45 j25 (f_X2_reachAll_25 rt n25_) M45 → V G X 2 0 0 (Qx G X 0 0 (p_X2_reachAll M rt)) 45 [(0, .ref rt), (1, .int (nI j25))] [] M45) _ (SC.tr s25 (t42.sc (fun _ _ => rfl))) E
              intro M45 s45 E
              refine V.seg F floX2 cjoX2 [.iinc 1 1, .goto (-23)] (by decide +kernel) (pc2 := 25) (lv2 := [(1, .int ((nI j25) + 1)), (0, .ref rt)]) (st2 := []) (M2 := M45) rfl ⟨(by decide), (by decide), trivial⟩ ?_
              refine V.pick [1, 0] rfl ?_
              rw [nI_1]
              exact ih_25 (j25 + 1) M45 s45 (by have le_ := cR.2; have hlt_ := cnt_lt (n := (ix (mI M rt 3) * 8)) h33 (mulN ((s25.r hr_rt 3 rfl).trans cR.1) (rfl : (8 : Int32) = nI 8)) (by omega) (by omega); omega) (by have le_ := cR.2; have hlt_ := cnt_lt (n := (ix (mI M rt 3) * 8)) h33 (mulN ((s25.r hr_rt 3 rfl).trans cR.1) (rfl : (8 : Int32) = nI 8)) (by omega) (by omega); omega) E
        refine V.pick [1, 0] rfl ?_
        exact hJ25 _ 0 M2 s2 (by omega) (by omega) E
      · replace E := E.trans (if_neg h7)
        refine V.seg F floX2 cjoX2 [.aload_n 0, .getfield 46, .iload_n 1, .iconst 1, .bastore, .iinc 1 1, .goto (-18)] (by decide +kernel) (pc2 := 2) (lv2 := [(1, .int ((nI j2) + 1)), (0, .ref rt)]) (st2 := []) (M2 := uI M2 (rt + 6) (ix (nI j2)) 1) rfl ⟨trivial, (Rt.f (hr_rt.sm s2.1) 6 rfl), trivial, trivial, ⟨(Rt.a (hr_rt.sm s2.1) 6 21 32 rfl (vp_in_nI (by have le_ := cR.2; have hlt_ := cnt_lt (n := ix (mI M rt 3)) h7 ((s2.r hr_rt 3 rfl).trans cR.1) (by omega) (by omega); omega) (by decide))), Or.inr rfl⟩, (by decide), (by decide), trivial⟩ ?_
        refine V.pick [1, 0] rfl ?_
        rw [nI_1]
        exact ih_2 (j2 + 1) (uI M2 (rt + 6) (ix (nI j2)) 1) (SC.pI s2 (wC_a hr_rt 6 (by decide) rfl)) (by have le_ := cR.2; have hlt_ := cnt_lt (n := ix (mI M rt 3)) h7 ((s2.r hr_rt 3 rfl).trans cR.1) (by omega) (by omega); omega) (by have le_ := cR.2; have hlt_ := cnt_lt (n := ix (mI M rt 3)) h7 ((s2.r hr_rt 3 rfl).trans cR.1) (by omega) (by omega); omega) E
  refine V.pick [1, 0] rfl ?_
  exact hJ2 _ 0 M (SC.rf (w := wF)) (by omega) (by omega) E
def f_X2_end_11 (rt : Nat) (M11 : Mem) : Mem := uI M11 rt 7 1
def f_X2_end_c11 (rt : Nat) (M11 : Mem) : Mem := f_X2_end_11 rt M11
def f_X2_end (M : Mem) (rt : Nat) : Mem := if (f_X2_someWait M) = 0 then f_X2_end_11 rt M else f_X2_end_c11 rt (f_X2_reachAll M rt)
abbrev p_X2_end (M : Mem) (rt : Nat) : Option Value → Mem → Prop := fun r N => r = none ∧ N = f_X2_end M rt ∧ SC wF M N
set_option maxRecDepth 100000 in
set_option maxHeartbeats 4000000 in
theorem c_X2_end (G : Ctx) (l : Launch) (M : Mem) (rt : Nat) (hr_rt : Rt M rt) (q : Ok M) (cR : cn (mI M rt 3) 32) : CT G l 3 mX2_end [.ref 14, .ref rt] M 0 0 (p_X2_end M rt) := by
  refine CT.of (by decide) (Nat.le_of_ble_eq_true rfl) ?_
  intro X d hd hl hRm hnm F
  subst hl
  have E : f_X2_end M rt = f_X2_end M rt := rfl
  show V G X 2 0 0 (Qx G X 0 0 (p_X2_end M rt)) 0 [(0, .ref 14), (1, .ref rt)] [] M
  refine V.seg F floX2 cjoX2 [.aload_n 0] (by decide +kernel) (pc2 := 1) (lv2 := [(0, .ref 14), (1, .ref rt)]) (st2 := [.ref 14]) (M2 := M) rfl ⟨trivial, trivial⟩ ?_
  refine V.callV (as := []) (rest := []) F (by decide +kernel) lX2_60 bX2_someWait ⟨2, _, (q.o 14 2 rfl), rfl, rfl⟩ (c_X2_someWait G X.2.1 M q) (rm_ok hRm hd (by decide) (by decide)) ⟨Nat.zero_le _, Nat.zero_le _⟩ (Nat.le_of_ble_eq_true rfl) (fun r_ N_ p_ => ?_)
  obtain ⟨rfl, hN_, z1⟩ := p_
  rw [hN_]
  clear hN_
  have hJ11 : ∀ (M11 : Mem), (SC wF M M11) → f_X2_end M rt = f_X2_end_11 rt M11 → V G X 2 0 0 (Qx G X 0 0 (p_X2_end M rt)) 11 [(1, .ref rt)] [] M11 := by
    intro M11 s11 E
    refine V.seg F floX2 cjoX2 [.aload_n 1, .iconst 1, .putfield 68] (by decide +kernel) (pc2 := 16) (lv2 := [(1, .ref rt)]) (st2 := []) (M2 := uI M11 rt 7 1) rfl ⟨trivial, trivial, ⟨(Rt.o (hr_rt.sm s11.1)), Or.inr rfl⟩, trivial⟩ ?_
    exact V.vret F (by decide +kernel) ⟨rfl, E.symm, (SC.pI s11 (wC_r hr_rt rfl))⟩
  refine V.if_eq (off := 7) F (by decide +kernel) (tgt := 11) (by decide) (fun h4 => ?_) (fun h4 => ?_)
  · replace E := E.trans (if_pos h4)
    refine V.pick [1] rfl ?_
    exact hJ11 M (SC.rf (w := wF)) E
  · replace E := E.trans (if_neg h4)
    refine V.seg F floX2 cjoX2 [.aload_n 1] (by decide +kernel) (pc2 := 8) (lv2 := [(0, .ref 14), (1, .ref rt)]) (st2 := [.ref rt]) (M2 := M) rfl ⟨trivial, trivial⟩ ?_
    refine V.callS (as := [.ref rt]) (rest := []) F (by decide +kernel) lX2_64 bX2_reachAll (c_X2_reachAll G X.2.1 M rt hr_rt q (by first | assumption | decide)) (rm_ok hRm hd (by decide) (by decide)) ⟨Nat.zero_le _, Nat.zero_le _⟩ (Nat.le_of_ble_eq_true rfl) (fun r_ N_ p_ => ?_)
    obtain ⟨rfl, rfl, t8⟩ := p_
    refine (?_ : ∀ (M11 : Mem), (SC wF M M11) → f_X2_end M rt = f_X2_end_c11 rt M11 → V G X 2 0 0 (Qx G X 0 0 (p_X2_end M rt)) 11 [(0, .ref 14), (1, .ref rt)] [] M11) _ t8 E
    intro M11 s11 E
    refine V.pick [1] rfl ?_
    exact hJ11 M11 s11 E
def f_X2_merge_176  (M176 : Mem) : Int32 × Mem := (0, M176)
def f_X2_merge_c187  (M187 : Mem) : Int32 × Mem := (1, M187)
def f_X2_merge_154 (rt : Nat) (k : Int32) (M154 : Mem) : Int32 × Mem := if (mI M154 19 0) = 0 then if (f_X1_isLike M154 19 (rt + 5 + 10 + ix k)) = 0 then f_X2_merge_c187 (f_X1_copy M154 (rt + 5 + 10 + ix k) 19) else f_X2_merge_176 M154 else f_X2_merge_176 M154
def f_X2_merge_c154 (rt : Nat) (k : Int32) (M154 : Mem) : Int32 × Mem := f_X2_merge_154 rt k M154
def f_X2_merge_131 (rt : Nat) (k : Int32) (y5_131 : Int32) (M131 : Mem) : Int32 × Mem := if y5_131 ≤ 0 then f_X2_merge_154 rt k M131 else f_X2_merge_c154 rt k (f_X1_sharpen (uI M131 rt 8 ((mI M131 rt 8) + y5_131)) 19)
def f_X2_merge_82 (rt : Nat) (k : Int32) (y5_82 : Int32) (M82 : Mem) : Int32 × Mem := if (mL M82 19 2) ≤ (mL M82 (rt + 5 + 10 + ix k) 2) then f_X2_merge_131 rt k y5_82 M82 else if (mI (uI M82 22 (ix k) ((mI M82 22 (ix k)) + 1)) 22 (ix k)) < 4 then f_X2_merge_131 rt k y5_82 (uI M82 22 (ix k) ((mI M82 22 (ix k)) + 1)) else f_X2_merge_131 rt k (y5_82 + 1) (uL (uI M82 22 (ix k) ((mI M82 22 (ix k)) + 1)) 19 2 9223372036854775807)
def f_X2_merge_c18 (rt : Nat) (k : Int32) (M18 : Mem) : Int32 × Mem := if (mI M18 19 0) = 0 then if (mL M18 (rt + 5 + 10 + ix k) 1) ≤ (mL M18 19 1) then f_X2_merge_82 rt k 0 M18 else if (mI (uI M18 21 (ix k) ((mI M18 21 (ix k)) + 1)) 21 (ix k)) < 4 then f_X2_merge_82 rt k 0 (uI M18 21 (ix k) ((mI M18 21 (ix k)) + 1)) else f_X2_merge_82 rt k (0 + 1) (uL (uI M18 21 (ix k) ((mI M18 21 (ix k)) + 1)) 19 1 ((-9223372036854775808))) else (0, M18)
def f_X2_merge (M : Mem) (rt : Nat) (k : Int32) (a : Nat) : Int32 × Mem := f_X2_merge_c18 rt k (f_X1_becomeJoin M 19 (rt + 5 + 10 + ix k) a)
abbrev p_X2_merge (M : Mem) (rt : Nat) (k : Int32) (a : Nat) : Option Value → Mem → Prop := fun r N => r = some (.int (f_X2_merge M rt k a).1) ∧ N = (f_X2_merge M rt k a).2 ∧ SC wF M N ∧ ((f_X2_merge M rt k a).1 = 0 ∨ (f_X2_merge M rt k a).1 = 1)
set_option maxRecDepth 100000 in
set_option maxHeartbeats 4000000 in
theorem c_X2_merge (G : Ctx) (l : Launch) (M : Mem) (rt : Nat) (k : Int32) (a : Nat) (hr_rt : Rt M rt) (o_a : isO M a 1) (q : Ok M) (i_k : vp_in k 256) : CT G l 4 mX2_merge [.ref 14, .ref rt, .int k, .ref a] M 0 0 (p_X2_merge M rt k a) := by
  refine CT.of (by decide) (Nat.le_of_ble_eq_true rfl) ?_
  intro X d hd hl hRm hnm F
  subst hl
  have E : f_X2_merge M rt k a = f_X2_merge M rt k a := rfl
  show V G X 6 0 0 (Qx G X 0 0 (p_X2_merge M rt k a)) 0 [(0, .ref 14), (1, .ref rt), (2, .int k), (3, .ref a)] [] M
  refine V.seg F floX2 cjoX2 [.aload_n 1, .getfield 75, .iload_n 2] (by decide +kernel) (pc2 := 5) (lv2 := [(0, .ref 14), (1, .ref rt), (2, .int k), (3, .ref a)]) (st2 := [.int k, .ref (rt + 5)]) (M2 := M) rfl ⟨trivial, (Rt.f hr_rt 5 rfl), trivial, trivial⟩ ?_
  refine V.aald (kd := 26) F (by decide +kernel) (Rt.a hr_rt 5 26 256 rfl i_k) ⟨by decide, by decide⟩ (Rt.aB hr_rt i_k) ?_
  show V G X 6 0 0 (Qx G X 0 0 (p_X2_merge M rt k a)) 6 [(0, .ref 14), (1, .ref rt), (2, .int k), (3, .ref a)] [.ref (rt + 5 + 10 + ix k)] M
  refine V.seg F floX2 cjoX2 [.astore 4, .aload_n 0, .getfield 25, .aload 4, .aload_n 3] (by decide +kernel) (pc2 := 15) (lv2 := [(4, .ref (rt + 5 + 10 + ix k)), (0, .ref 14), (1, .ref rt), (2, .int k), (3, .ref a)]) (st2 := [.ref a, .ref (rt + 5 + 10 + ix k), .ref 19]) (M2 := M) rfl ⟨(by decide), trivial, (q.f 14 2 2 rfl), trivial, trivial, trivial⟩ ?_
  refine V.callV (as := [.ref (rt + 5 + 10 + ix k), .ref a]) (rest := []) F (by decide +kernel) lX2_125 bX1_becomeJoin ⟨1, _, (q.o 19 1 rfl), rfl, rfl⟩ (c_X1_becomeJoin G X.2.1 M 19 (rt + 5 + 10 + ix k) a (q.o 19 1 rfl) (Rt.ah hr_rt i_k) o_a) (rm_ok hRm hd (by decide) (by decide)) ⟨Nat.zero_le _, Nat.zero_le _⟩ (Nat.le_of_ble_eq_true rfl) (fun r_ N_ p_ => ?_)
  obtain ⟨rfl, rfl, t15⟩ := p_
  refine (?_ : ∀ (M18 : Mem), (SC wF M M18) → f_X2_merge M rt k a = f_X2_merge_c18 rt k M18 → V G X 6 0 0 (Qx G X 0 0 (p_X2_merge M rt k a)) 18 [(4, .ref (rt + 5 + 10 + ix k)), (0, .ref 14), (1, .ref rt), (2, .int k), (3, .ref a)] [] M18) _ (t15.sc (fun _ _ => rfl)) E
  intro M18 s18 E
  refine V.seg F floX2 cjoX2 [.aload_n 0, .getfield 25, .getfield 192] (by decide +kernel) (pc2 := 25) (lv2 := [(4, .ref (rt + 5 + 10 + ix k)), (0, .ref 14), (1, .ref rt), (2, .int k), (3, .ref a)]) (st2 := [.int (mI M18 19 0)]) (M2 := M18) rfl ⟨trivial, ((q.sm s18.1).f 14 2 2 rfl), ((q.sm s18.1).o 19 1 rfl), trivial⟩ ?_
  refine V.if_eq (off := 5) F (by decide +kernel) (tgt := 30) (by decide) (fun h25 => ?_) (fun h25 => ?_)
  · replace E := E.trans (if_pos h25)
    refine V.seg F floX2 cjoX2 [.iconst 0, .istore 5, .aload_n 0, .getfield 25, .getfield 146, .aload 4, .getfield 146, .lcmp] (by decide +kernel) (pc2 := 46) (lv2 := [(5, .int 0), (4, .ref (rt + 5 + 10 + ix k)), (0, .ref 14), (1, .ref rt), (2, .int k), (3, .ref a)]) (st2 := [.int (lg_cmp (mL M18 19 1) (mL M18 (rt + 5 + 10 + ix k) 1))]) (M2 := M18) rfl ⟨trivial, (by decide), trivial, ((q.sm s18.1).f 14 2 2 rfl), ((q.sm s18.1).o 19 1 rfl), trivial, (Rt.ah (hr_rt.sm s18.1) i_k), trivial, trivial⟩ ?_
    have hJ82 : ∀ (y5_82 : Int32) (M82 : Mem), (SC wF M M82) → f_X2_merge M rt k a = f_X2_merge_82 rt k y5_82 M82 → V G X 6 0 0 (Qx G X 0 0 (p_X2_merge M rt k a)) 82 [(0, .ref 14), (1, .ref rt), (2, .int k), (4, .ref (rt + 5 + 10 + ix k)), (5, .int y5_82)] [] M82 := by
      intro y5_82 M82 s82 E
      refine V.seg F floX2 cjoX2 [.aload_n 0, .getfield 25, .getfield 154, .aload 4, .getfield 154, .lcmp] (by decide +kernel) (pc2 := 95) (lv2 := [(0, .ref 14), (1, .ref rt), (2, .int k), (4, .ref (rt + 5 + 10 + ix k)), (5, .int y5_82)]) (st2 := [.int (lg_cmp (mL M82 19 2) (mL M82 (rt + 5 + 10 + ix k) 2))]) (M2 := M82) rfl ⟨trivial, ((q.sm s82.1).f 14 2 2 rfl), ((q.sm s82.1).o 19 1 rfl), trivial, (Rt.ah (hr_rt.sm s82.1) i_k), trivial, trivial⟩ ?_
      have hJ131 : ∀ (y5_131 : Int32) (M131 : Mem), (SC wF M M131) → f_X2_merge M rt k a = f_X2_merge_131 rt k y5_131 M131 → V G X 6 0 0 (Qx G X 0 0 (p_X2_merge M rt k a)) 131 [(0, .ref 14), (1, .ref rt), (4, .ref (rt + 5 + 10 + ix k)), (5, .int y5_131)] [] M131 := by
        intro y5_131 M131 s131 E
        refine V.seg F floX2 cjoX2 [.iload 5] (by decide +kernel) (pc2 := 133) (lv2 := [(0, .ref 14), (1, .ref rt), (4, .ref (rt + 5 + 10 + ix k)), (5, .int y5_131)]) (st2 := [.int y5_131]) (M2 := M131) rfl ⟨trivial, trivial⟩ ?_
        have hJ154 : ∀ (M154 : Mem), (SC wF M M154) → f_X2_merge M rt k a = f_X2_merge_154 rt k M154 → V G X 6 0 0 (Qx G X 0 0 (p_X2_merge M rt k a)) 154 [(0, .ref 14), (4, .ref (rt + 5 + 10 + ix k))] [] M154 := by
          intro M154 s154 E
          refine V.seg F floX2 cjoX2 [.aload_n 0, .getfield 25, .getfield 192] (by decide +kernel) (pc2 := 161) (lv2 := [(0, .ref 14), (4, .ref (rt + 5 + 10 + ix k))]) (st2 := [.int (mI M154 19 0)]) (M2 := M154) rfl ⟨trivial, ((q.sm s154.1).f 14 2 2 rfl), ((q.sm s154.1).o 19 1 rfl), trivial⟩ ?_
          have hJ176 : ∀ (M176 : Mem), (SC wF M M176) → f_X2_merge M rt k a = f_X2_merge_176 M176 → V G X 6 0 0 (Qx G X 0 0 (p_X2_merge M rt k a)) 176 [] [] M176 := by
            intro M176 s176 E
            refine V.seg F floX2 cjoX2 [.iconst 0] (by decide +kernel) (pc2 := 177) (lv2 := []) (st2 := [.int 0]) (M2 := M176) rfl ⟨trivial, trivial⟩ ?_
            exact V.zret F (Or.inl rfl) (by decide +kernel) ⟨congrArg (fun z => some (Value.int z.1)) E.symm, congrArg Prod.snd E.symm, s176, by rw [E]; exact Or.inl rfl⟩
          refine V.if_ne (off := 15) F (by decide +kernel) (tgt := 176) (by decide) (fun h161 => ?_) (fun h161 => ?_)
          · replace E := E.trans (if_neg h161)
            refine V.pick [] rfl ?_
            exact hJ176 M154 s154 E
          · replace E := E.trans (if_pos h161)
            refine V.seg F floX2 cjoX2 [.aload_n 0, .getfield 25, .aload 4] (by decide +kernel) (pc2 := 170) (lv2 := [(0, .ref 14), (4, .ref (rt + 5 + 10 + ix k))]) (st2 := [.ref (rt + 5 + 10 + ix k), .ref 19]) (M2 := M154) rfl ⟨trivial, ((q.sm s154.1).f 14 2 2 rfl), trivial, trivial⟩ ?_
            refine V.callV (as := [.ref (rt + 5 + 10 + ix k)]) (rest := []) F (by decide +kernel) lX2_195 bX1_isLike ⟨1, _, ((q.sm s154.1).o 19 1 rfl), rfl, rfl⟩ (c_X1_isLike G X.2.1 M154 19 (rt + 5 + 10 + ix k) ((q.sm s154.1).o 19 1 rfl) (Rt.ah (hr_rt.sm s154.1) i_k)) (rm_ok hRm hd (by decide) (by decide)) ⟨Nat.zero_le _, Nat.zero_le _⟩ (Nat.le_of_ble_eq_true rfl) (fun r_ N_ p_ => ?_)
            obtain ⟨rfl, hN_, z170⟩ := p_
            rw [hN_]
            clear hN_
            refine V.if_eq (off := 5) F (by decide +kernel) (tgt := 178) (by decide) (fun h173 => ?_) (fun h173 => ?_)
            · replace E := E.trans (if_pos h173)
              refine V.seg F floX2 cjoX2 [.aload 4, .aload_n 0, .getfield 25] (by decide +kernel) (pc2 := 184) (lv2 := [(0, .ref 14), (4, .ref (rt + 5 + 10 + ix k))]) (st2 := [.ref 19, .ref (rt + 5 + 10 + ix k)]) (M2 := M154) rfl ⟨trivial, trivial, ((q.sm s154.1).f 14 2 2 rfl), trivial⟩ ?_
              refine V.callV (as := [.ref 19]) (rest := []) F (by decide +kernel) lX2_52 bX1_copy ⟨1, _, (Rt.ah (hr_rt.sm s154.1) i_k), rfl, rfl⟩ (c_X1_copy G X.2.1 M154 (rt + 5 + 10 + ix k) 19 (Rt.ah (hr_rt.sm s154.1) i_k) ((q.sm s154.1).o 19 1 rfl)) (rm_ok hRm hd (by decide) (by decide)) ⟨Nat.zero_le _, Nat.zero_le _⟩ (Nat.le_of_ble_eq_true rfl) (fun r_ N_ p_ => ?_)
              obtain ⟨rfl, rfl, t184⟩ := p_
              refine (?_ : ∀ (M187 : Mem), (SC wF M M187) → f_X2_merge M rt k a = f_X2_merge_c187 M187 → V G X 6 0 0 (Qx G X 0 0 (p_X2_merge M rt k a)) 187 [(0, .ref 14), (4, .ref (rt + 5 + 10 + ix k))] [] M187) _ (SC.tr s154 (t184.sc (fun _ _ => rfl))) E
              intro M187 s187 E
              refine V.seg F floX2 cjoX2 [.iconst 1] (by decide +kernel) (pc2 := 188) (lv2 := [(0, .ref 14), (4, .ref (rt + 5 + 10 + ix k))]) (st2 := [.int 1]) (M2 := M187) rfl ⟨trivial, trivial⟩ ?_
              exact V.zret F (Or.inr rfl) (by decide +kernel) ⟨congrArg (fun z => some (Value.int z.1)) E.symm, congrArg Prod.snd E.symm, s187, by rw [E]; exact Or.inr rfl⟩
            · replace E := E.trans (if_neg h173)
              refine V.pick [] rfl ?_
              exact hJ176 M154 s154 E
        refine V.if_le (off := 21) F (by decide +kernel) (tgt := 154) (by decide) (fun h133 => ?_) (fun h133 => ?_)
        · replace E := E.trans (if_pos h133)
          refine V.pick [0, 2] rfl ?_
          exact hJ154 M131 s131 E
        · replace E := E.trans (if_neg h133)
          refine V.seg F floX2 cjoX2 [.aload_n 1, .dup, .getfield 40, .iload 5, .iadd, .putfield 40, .aload_n 0, .getfield 25] (by decide +kernel) (pc2 := 151) (lv2 := [(0, .ref 14), (1, .ref rt), (4, .ref (rt + 5 + 10 + ix k)), (5, .int y5_131)]) (st2 := [.ref 19]) (M2 := uI M131 rt 8 ((mI M131 rt 8) + y5_131)) rfl ⟨trivial, trivial, (Rt.o (hr_rt.sm s131.1)), trivial, trivial, (Rt.o (hr_rt.sm s131.1)), trivial, ((q.sm (SC.pI s131 (wC_r hr_rt rfl)).1).f 14 2 2 rfl), trivial⟩ ?_
          refine V.callV (as := []) (rest := []) F (by decide +kernel) lX2_166 bX1_sharpen ⟨1, _, ((q.sm (SC.pI s131 (wC_r hr_rt rfl)).1).o 19 1 rfl), rfl, rfl⟩ (c_X1_sharpen G X.2.1 (uI M131 rt 8 ((mI M131 rt 8) + y5_131)) 19 ((q.sm (SC.pI s131 (wC_r hr_rt rfl)).1).o 19 1 rfl)) (rm_ok hRm hd (by decide) (by decide)) ⟨Nat.zero_le _, Nat.zero_le _⟩ (Nat.le_of_ble_eq_true rfl) (fun r_ N_ p_ => ?_)
          obtain ⟨rfl, rfl, t151⟩ := p_
          refine (?_ : ∀ (M154 : Mem), (SC wF M M154) → f_X2_merge M rt k a = f_X2_merge_c154 rt k M154 → V G X 6 0 0 (Qx G X 0 0 (p_X2_merge M rt k a)) 154 [(0, .ref 14), (1, .ref rt), (4, .ref (rt + 5 + 10 + ix k)), (5, .int y5_131)] [] M154) _ (SC.tr (SC.pI s131 (wC_r hr_rt rfl)) (t151.sc (fun _ _ => rfl))) E
          intro M154 s154 E
          refine V.pick [0, 2] rfl ?_
          exact hJ154 M154 s154 E
      refine V.lc_le (off := 36) F (by decide +kernel) (tgt := 131) (by decide) (fun h95 => ?_) (fun h95 => ?_)
      · replace E := E.trans (if_pos h95)
        refine V.pick [0, 1, 3, 4] rfl ?_
        exact hJ131 y5_82 M82 s82 E
      · replace E := E.trans (if_neg h95)
        refine V.seg F floX2 cjoX2 [.aload_n 0, .getfield 37, .iload_n 2, .dup2, .iaload, .iconst 1, .iadd, .iastore, .aload_n 0, .getfield 37, .iload_n 2, .iaload, .iconst 4] (by decide +kernel) (pc2 := 115) (lv2 := [(0, .ref 14), (1, .ref rt), (2, .int k), (4, .ref (rt + 5 + 10 + ix k)), (5, .int y5_82)]) (st2 := [.int 4, .int (mI (uI M82 22 (ix k) ((mI M82 22 (ix k)) + 1)) 22 (ix k))]) (M2 := uI M82 22 (ix k) ((mI M82 22 (ix k)) + 1)) rfl ⟨trivial, ((q.sm s82.1).f 14 2 5 rfl), trivial, trivial, ((q.sm s82.1).a 22 20 256 rfl i_k), trivial, trivial, ((q.sm s82.1).a 22 20 256 rfl i_k), trivial, ((q.sm (SC.pI s82 rfl).1).f 14 2 5 rfl), trivial, ((q.sm (SC.pI s82 rfl).1).a 22 20 256 rfl i_k), trivial, trivial⟩ ?_
        refine V.ic_lt (off := 16) F (by decide +kernel) (tgt := 131) (by decide) (fun h115 => ?_) (fun h115 => ?_)
        · replace E := E.trans (if_pos h115)
          refine V.pick [0, 1, 3, 4] rfl ?_
          exact hJ131 y5_82 (uI M82 22 (ix k) ((mI M82 22 (ix k)) + 1)) (SC.pI s82 rfl) E
        · replace E := E.trans (if_neg h115)
          refine V.seg F floX2 cjoX2 [.aload_n 0, .getfield 25, .ldc2_w 174, .putfield 154, .iinc 5 1] (by decide +kernel) (pc2 := 131) (lv2 := [(5, .int (y5_82 + 1)), (0, .ref 14), (1, .ref rt), (2, .int k), (4, .ref (rt + 5 + 10 + ix k))]) (st2 := []) (M2 := uL (uI M82 22 (ix k) ((mI M82 22 (ix k)) + 1)) 19 2 9223372036854775807) rfl ⟨trivial, ((q.sm (SC.pI s82 rfl).1).f 14 2 2 rfl), trivial, ((q.sm (SC.pI s82 rfl).1).o 19 1 rfl), (by decide), trivial⟩ ?_
          refine V.pick [1, 2, 4, 0] rfl ?_
          exact hJ131 (y5_82 + 1) (uL (uI M82 22 (ix k) ((mI M82 22 (ix k)) + 1)) 19 2 9223372036854775807) (SC.pL (SC.pI s82 rfl) rfl) E
    refine V.lc_ge (off := 36) F (by decide +kernel) (tgt := 82) (by decide) (fun h46 => ?_) (fun h46 => ?_)
    · replace E := E.trans (if_pos h46)
      refine V.pick [2, 3, 4, 1, 0] rfl ?_
      exact hJ82 0 M18 s18 E
    · replace E := E.trans (if_neg h46)
      refine V.seg F floX2 cjoX2 [.aload_n 0, .getfield 33, .iload_n 2, .dup2, .iaload, .iconst 1, .iadd, .iastore, .aload_n 0, .getfield 33, .iload_n 2, .iaload, .iconst 4] (by decide +kernel) (pc2 := 66) (lv2 := [(5, .int 0), (4, .ref (rt + 5 + 10 + ix k)), (0, .ref 14), (1, .ref rt), (2, .int k), (3, .ref a)]) (st2 := [.int 4, .int (mI (uI M18 21 (ix k) ((mI M18 21 (ix k)) + 1)) 21 (ix k))]) (M2 := uI M18 21 (ix k) ((mI M18 21 (ix k)) + 1)) rfl ⟨trivial, ((q.sm s18.1).f 14 2 4 rfl), trivial, trivial, ((q.sm s18.1).a 21 20 256 rfl i_k), trivial, trivial, ((q.sm s18.1).a 21 20 256 rfl i_k), trivial, ((q.sm (SC.pI s18 rfl).1).f 14 2 4 rfl), trivial, ((q.sm (SC.pI s18 rfl).1).a 21 20 256 rfl i_k), trivial, trivial⟩ ?_
      refine V.ic_lt (off := 16) F (by decide +kernel) (tgt := 82) (by decide) (fun h66 => ?_) (fun h66 => ?_)
      · replace E := E.trans (if_pos h66)
        refine V.pick [2, 3, 4, 1, 0] rfl ?_
        exact hJ82 0 (uI M18 21 (ix k) ((mI M18 21 (ix k)) + 1)) (SC.pI s18 rfl) E
      · replace E := E.trans (if_neg h66)
        refine V.seg F floX2 cjoX2 [.aload_n 0, .getfield 25, .ldc2_w 172, .putfield 146, .iinc 5 1] (by decide +kernel) (pc2 := 82) (lv2 := [(5, .int (0 + 1)), (4, .ref (rt + 5 + 10 + ix k)), (0, .ref 14), (1, .ref rt), (2, .int k), (3, .ref a)]) (st2 := []) (M2 := uL (uI M18 21 (ix k) ((mI M18 21 (ix k)) + 1)) 19 1 ((-9223372036854775808))) rfl ⟨trivial, ((q.sm (SC.pI s18 rfl).1).f 14 2 2 rfl), trivial, ((q.sm (SC.pI s18 rfl).1).o 19 1 rfl), (by decide), trivial⟩ ?_
        refine V.pick [2, 3, 4, 1, 0] rfl ?_
        exact hJ82 (0 + 1) (uL (uI M18 21 (ix k) ((mI M18 21 (ix k)) + 1)) 19 1 ((-9223372036854775808))) (SC.pL (SC.pI s18 rfl) rfl) E
  · replace E := E.trans (if_neg h25)
    refine V.seg F floX2 cjoX2 [.iconst 0] (by decide +kernel) (pc2 := 29) (lv2 := [(4, .ref (rt + 5 + 10 + ix k)), (0, .ref 14), (1, .ref rt), (2, .int k), (3, .ref a)]) (st2 := [.int 0]) (M2 := M18) rfl ⟨trivial, trivial⟩ ?_
    exact V.zret F (Or.inl rfl) (by decide +kernel) ⟨congrArg (fun z => some (Value.int z.1)) E.symm, congrArg Prod.snd E.symm, s18, by rw [E]; exact Or.inl rfl⟩
def f_X2_send_19  (M19 : Mem) : Mem := M19
def f_X2_send_126  (M126 : Mem) : Mem := M126
def f_X2_send_101 (j41 : Nat) (R41_ : Int32 → Nat → Mem → Mem) (y4_101 : Int32) (M101 : Mem) : Mem := R41_ y4_101 (j41 + 1) M101
def f_X2_send_c95 (y4_41 : Int32) (j41 : Nat) (R41_ : Int32 → Nat → Mem → Mem) (x95 : Int32) (M95 : Mem) : Mem := if x95 = 0 then f_X2_send_101 j41 R41_ y4_41 M95 else f_X2_send_101 j41 R41_ 1 M95
def f_X2_send_c78 (y4_41 : Int32) (j41 : Nat) (R41_ : Int32 → Nat → Mem → Mem) (M78 : Mem) : Mem := f_X2_send_101 j41 R41_ y4_41 M78
def f_X2_send_41 (rt : Nat) (ln : Int32) (w0_34 : Int32) : Nat → Int32 → Nat → Mem → Mem
  | 0, _, _, M41 => M41
  | n_ + 1, y4_41, j41, M41 => if 8 ≤ (nI j41) then if y4_41 = 0 then f_X2_send_126 (uI M41 (rt + 6) (ix ln) 1) else f_X2_send_126 (uI (uI M41 (rt + 6) (ix ln) 1) 20 (ix ln) 1) else if w0_34 = 0 then f_X2_send_c95 y4_41 j41 (f_X2_send_41 rt ln w0_34 n_) ((f_X2_merge M41 rt ((ln * 8) + (nI j41)) (18 + 5 + ix (nI j41))).1) ((f_X2_merge M41 rt ((ln * 8) + (nI j41)) (18 + 5 + ix (nI j41))).2) else f_X2_send_c78 y4_41 j41 (f_X2_send_41 rt ln w0_34 n_) (f_X1_copy M41 (rt + 5 + 10 + ix ((ln * 8) + (nI j41))) (18 + 5 + ix (nI j41)))
def f_X2_send_34 (rt : Nat) (ln : Int32) (w0_34 : Int32) (M34 : Mem) : Mem := f_X2_send_41 rt ln w0_34 9 w0_34 0 M34
def f_X2_send (M : Mem) (rt : Nat) (ln : Int32) : Mem := if ln < 0 then f_X2_send_19 M else if (mI M rt 3) ≤ ln then f_X2_send_19 M else if (f_X2_someComeToNone M) = 0 then if (mI M (rt + 6) (ix ln)) = 0 then f_X2_send_34 rt ln 1 M else f_X2_send_34 rt ln 0 M else f_X2_send_19 M
abbrev p_X2_send (M : Mem) (rt : Nat) (ln : Int32) : Option Value → Mem → Prop := fun r N => r = none ∧ N = f_X2_send M rt ln ∧ SC wF M N
set_option maxRecDepth 100000 in
set_option maxHeartbeats 4000000 in
theorem c_X2_send (G : Ctx) (l : Launch) (M : Mem) (rt : Nat) (ln : Int32) (hr_rt : Rt M rt) (q : Ok M) (cR : cn (mI M rt 3) 32) : CT G l 5 mX2_send [.ref 14, .ref rt, .int ln] M 0 0 (p_X2_send M rt ln) := by
  refine CT.of (by decide) (Nat.le_of_ble_eq_true rfl) ?_
  intro X d hd hl hRm hnm F
  subst hl
  have E : f_X2_send M rt ln = f_X2_send M rt ln := rfl
  show V G X 7 0 0 (Qx G X 0 0 (p_X2_send M rt ln)) 0 [(0, .ref 14), (1, .ref rt), (2, .int ln)] [] M
  refine V.seg F floX2 cjoX2 [.iload_n 2] (by decide +kernel) (pc2 := 1) (lv2 := [(0, .ref 14), (1, .ref rt), (2, .int ln)]) (st2 := [.int ln]) (M2 := M) rfl ⟨trivial, trivial⟩ ?_
  have hJ19 : ∀ (M19 : Mem), (SC wF M M19) → f_X2_send M rt ln = f_X2_send_19 M19 → V G X 7 0 0 (Qx G X 0 0 (p_X2_send M rt ln)) 19 [] [] M19 := by
    intro M19 s19 E
    exact V.vret F (by decide +kernel) ⟨rfl, E.symm, s19⟩
  refine V.if_lt (off := 18) F (by decide +kernel) (tgt := 19) (by decide) (fun h1 => ?_) (fun h1 => ?_)
  · replace E := E.trans (if_pos h1)
    refine V.pick [] rfl ?_
    exact hJ19 M (SC.rf (w := wF)) E
  · replace E := E.trans (if_neg h1)
    refine V.seg F floX2 cjoX2 [.iload_n 2, .aload_n 1, .getfield 72] (by decide +kernel) (pc2 := 9) (lv2 := [(0, .ref 14), (1, .ref rt), (2, .int ln)]) (st2 := [.int (mI M rt 3), .int ln]) (M2 := M) rfl ⟨trivial, trivial, (Rt.o hr_rt), trivial⟩ ?_
    refine V.ic_ge (off := 10) F (by decide +kernel) (tgt := 19) (by decide) (fun h9 => ?_) (fun h9 => ?_)
    · replace E := E.trans (if_pos h9)
      refine V.pick [] rfl ?_
      exact hJ19 M (SC.rf (w := wF)) E
    · replace E := E.trans (if_neg h9)
      refine V.seg F floX2 cjoX2 [.aload_n 0] (by decide +kernel) (pc2 := 13) (lv2 := [(0, .ref 14), (1, .ref rt), (2, .int ln)]) (st2 := [.ref 14]) (M2 := M) rfl ⟨trivial, trivial⟩ ?_
      refine V.callV (as := []) (rest := []) F (by decide +kernel) lX2_185 bX2_someComeToNone ⟨2, _, (q.o 14 2 rfl), rfl, rfl⟩ (c_X2_someComeToNone G X.2.1 M q) (rm_ok hRm hd (by decide) (by decide)) ⟨Nat.zero_le _, Nat.zero_le _⟩ (Nat.le_of_ble_eq_true rfl) (fun r_ N_ p_ => ?_)
      obtain ⟨rfl, hN_, z13⟩ := p_
      rw [hN_]
      clear hN_
      refine V.if_eq (off := 4) F (by decide +kernel) (tgt := 20) (by decide) (fun h16 => ?_) (fun h16 => ?_)
      · replace E := E.trans (if_pos h16)
        refine V.seg F floX2 cjoX2 [.aload_n 1, .getfield 46, .iload_n 2, .baload] (by decide +kernel) (pc2 := 26) (lv2 := [(0, .ref 14), (1, .ref rt), (2, .int ln)]) (st2 := [.int (mI M (rt + 6) (ix ln))]) (M2 := M) rfl ⟨trivial, (Rt.f hr_rt 6 rfl), trivial, (Rt.a hr_rt 6 21 32 rfl (lnC cR h1 h9)), trivial⟩ ?_
        have hJ34 : ∀ (w0_34 : Int32) (M34 : Mem), (SC wF M M34) → f_X2_send M rt ln = f_X2_send_34 rt ln w0_34 M34 → V G X 7 0 0 (Qx G X 0 0 (p_X2_send M rt ln)) 34 [(0, .ref 14), (1, .ref rt), (2, .int ln)] [.int w0_34] M34 := by
          intro w0_34 M34 s34 E
          refine V.seg F floX2 cjoX2 [.istore_n 3, .iload_n 3, .istore 4, .iconst 0] (by decide +kernel) (pc2 := 39) (lv2 := [(4, .int w0_34), (3, .int w0_34), (0, .ref 14), (1, .ref rt), (2, .int ln)]) (st2 := [.int 0]) (M2 := M34) rfl ⟨(by decide), trivial, (by decide), trivial, trivial⟩ ?_
          refine V.seg F floX2 cjoX2 [.istore 5] (by decide +kernel) (pc2 := 41) (lv2 := [(5, .int 0), (4, .int w0_34), (3, .int w0_34), (0, .ref 14), (1, .ref rt), (2, .int ln)]) (st2 := []) (M2 := M34) rfl ⟨(by decide), trivial⟩ ?_
          have hJ41 : ∀ (n_ : Nat) (y4_41 : Int32) (j41 : Nat) (M41 : Mem), (SC wF M M41) → (j41 ≤ 8) → (8 - j41 < n_) → f_X2_send M rt ln = f_X2_send_41 rt ln w0_34 n_ y4_41 j41 M41 → V G X 7 0 0 (Qx G X 0 0 (p_X2_send M rt ln)) 41 [(0, .ref 14), (1, .ref rt), (2, .int ln), (3, .int w0_34), (4, .int y4_41), (5, .int (nI j41))] [] M41 := by
            intro n_
            induction n_ with
            | zero => intro y4_41 j41 M41 s41 b41 m41 E; omega
            | succ n_ ih_41 =>
              intro y4_41 j41 M41 s41 b41 m41 E
              rw [f_X2_send_41] at E
              refine V.seg F floX2 cjoX2 [.iload 5, .bipush 8] (by decide +kernel) (pc2 := 45) (lv2 := [(0, .ref 14), (1, .ref rt), (2, .int ln), (3, .int w0_34), (4, .int y4_41), (5, .int (nI j41))]) (st2 := [.int 8, .int (nI j41)]) (M2 := M41) rfl ⟨trivial, trivial, trivial⟩ ?_
              refine V.ic_ge (off := 62) F (by decide +kernel) (tgt := 107) (by decide) (fun h45 => ?_) (fun h45 => ?_)
              · replace E := E.trans (if_pos h45)
                refine V.seg F floX2 cjoX2 [.aload_n 1, .getfield 46, .iload_n 2, .iconst 1, .bastore, .iload 4] (by decide +kernel) (pc2 := 116) (lv2 := [(0, .ref 14), (1, .ref rt), (2, .int ln), (3, .int w0_34), (4, .int y4_41), (5, .int (nI j41))]) (st2 := [.int y4_41]) (M2 := uI M41 (rt + 6) (ix ln) 1) rfl ⟨trivial, (Rt.f (hr_rt.sm s41.1) 6 rfl), trivial, trivial, ⟨(Rt.a (hr_rt.sm s41.1) 6 21 32 rfl (lnC cR h1 h9)), Or.inr rfl⟩, trivial, trivial⟩ ?_
                have hJ126 : ∀ (M126 : Mem), (SC wF M M126) → f_X2_send M rt ln = f_X2_send_126 M126 → V G X 7 0 0 (Qx G X 0 0 (p_X2_send M rt ln)) 126 [] [] M126 := by
                  intro M126 s126 E
                  exact V.vret F (by decide +kernel) ⟨rfl, E.symm, s126⟩
                refine V.if_eq (off := 10) F (by decide +kernel) (tgt := 126) (by decide) (fun h116 => ?_) (fun h116 => ?_)
                · replace E := E.trans (if_pos h116)
                  refine V.pick [] rfl ?_
                  exact hJ126 (uI M41 (rt + 6) (ix ln) 1) (SC.pI s41 (wC_a hr_rt 6 (by decide) rfl)) E
                · replace E := E.trans (if_neg h116)
                  refine V.seg F floX2 cjoX2 [.aload_n 0, .getfield 29, .iload_n 2, .iconst 1, .bastore] (by decide +kernel) (pc2 := 126) (lv2 := [(0, .ref 14), (1, .ref rt), (2, .int ln), (3, .int w0_34), (4, .int y4_41), (5, .int (nI j41))]) (st2 := []) (M2 := uI (uI M41 (rt + 6) (ix ln) 1) 20 (ix ln) 1) rfl ⟨trivial, ((q.sm (SC.pI s41 (wC_a hr_rt 6 (by decide) rfl)).1).f 14 2 3 rfl), trivial, trivial, ⟨((q.sm (SC.pI s41 (wC_a hr_rt 6 (by decide) rfl)).1).a 20 21 32 rfl (lnC cR h1 h9)), Or.inr rfl⟩, trivial⟩ ?_
                  refine V.pick [] rfl ?_
                  exact hJ126 (uI (uI M41 (rt + 6) (ix ln) 1) 20 (ix ln) 1) (SC.pI (SC.pI s41 (wC_a hr_rt 6 (by decide) rfl)) rfl) E
              · replace E := E.trans (if_neg h45)
                refine V.seg F floX2 cjoX2 [.iload_n 2, .bipush 8, .imul, .iload 5, .iadd, .istore 6, .iload_n 3] (by decide +kernel) (pc2 := 58) (lv2 := [(6, .int ((ln * 8) + (nI j41))), (0, .ref 14), (1, .ref rt), (2, .int ln), (3, .int w0_34), (4, .int y4_41), (5, .int (nI j41))]) (st2 := [.int w0_34]) (M2 := M41) rfl ⟨trivial, trivial, trivial, trivial, trivial, (by decide), trivial, trivial⟩ ?_
                have hJ101 : ∀ (y4_101 : Int32) (M101 : Mem), (SC wF M M101) → f_X2_send M rt ln = f_X2_send_101 j41 (f_X2_send_41 rt ln w0_34 n_) y4_101 M101 → V G X 7 0 0 (Qx G X 0 0 (p_X2_send M rt ln)) 101 [(0, .ref 14), (1, .ref rt), (2, .int ln), (3, .int w0_34), (4, .int y4_101), (5, .int (nI j41))] [] M101 := by
                  intro y4_101 M101 s101 E
                  refine V.seg F floX2 cjoX2 [.iinc 5 1, .goto (-63)] (by decide +kernel) (pc2 := 41) (lv2 := [(5, .int ((nI j41) + 1)), (0, .ref 14), (1, .ref rt), (2, .int ln), (3, .int w0_34), (4, .int y4_101)]) (st2 := []) (M2 := M101) rfl ⟨(by decide), (by decide), trivial⟩ ?_
                  refine V.pick [1, 2, 3, 4, 5, 0] rfl ?_
                  rw [nI_1]
                  exact ih_41 y4_101 (j41 + 1) M101 s101 (by have hlt_ := cnt_lt (n := 8) h45 rfl (by omega) (by decide); omega) (by have hlt_ := cnt_lt (n := 8) h45 rfl (by omega) (by decide); omega) E
                refine V.if_eq (off := 23) F (by decide +kernel) (tgt := 81) (by decide) (fun h58 => ?_) (fun h58 => ?_)
                · replace E := E.trans (if_pos h58)
                  refine V.seg F floX2 cjoX2 [.aload_n 0, .aload_n 1, .iload 6, .aload_n 0, .getfield 20, .iload 5] (by decide +kernel) (pc2 := 91) (lv2 := [(6, .int ((ln * 8) + (nI j41))), (0, .ref 14), (1, .ref rt), (2, .int ln), (3, .int w0_34), (4, .int y4_41), (5, .int (nI j41))]) (st2 := [.int (nI j41), .ref 18, .int ((ln * 8) + (nI j41)), .ref rt, .ref 14]) (M2 := M41) rfl ⟨trivial, trivial, trivial, trivial, ((q.sm s41.1).f 14 2 1 rfl), trivial, trivial⟩ ?_
                  refine V.aald (kd := 24) F (by decide +kernel) ((q.sm s41.1).a 18 24 8 rfl (vnj (cnt_lt (n := 8) h45 rfl (by omega) (by decide)) (by decide) (by decide))) ⟨by decide, by decide⟩ ((q.sm s41.1).el 18 24 8 rfl rfl (vnj (cnt_lt (n := 8) h45 rfl (by omega) (by decide)) (by decide) (by decide))) ?_
                  show V G X 7 0 0 (Qx G X 0 0 (p_X2_send M rt ln)) 92 [(6, .int ((ln * 8) + (nI j41))), (0, .ref 14), (1, .ref rt), (2, .int ln), (3, .int w0_34), (4, .int y4_41), (5, .int (nI j41))] [.ref (18 + 5 + ix (nI j41)), .int ((ln * 8) + (nI j41)), .ref rt, .ref 14] M41
                  refine V.callV (as := [.ref rt, .int ((ln * 8) + (nI j41)), .ref (18 + 5 + ix (nI j41))]) (rest := []) F (by decide +kernel) lX2_188 bX2_merge ⟨2, _, ((q.sm s41.1).o 14 2 rfl), rfl, rfl⟩ (c_X2_merge G X.2.1 M41 rt ((ln * 8) + (nI j41)) (18 + 5 + ix (nI j41)) (hr_rt.sm s41.1) ((q.sm s41.1).co (vnj (cnt_lt (n := 8) h45 rfl (by omega) (by decide)) (by decide) (by decide))) (q.sm s41.1) (lpq (lnC cR h1 h9) (vnj (cnt_lt (n := 8) h45 rfl (by omega) (by decide)) (by decide) (by decide)))) (rm_ok hRm hd (by decide) (by decide)) ⟨Nat.zero_le _, Nat.zero_le _⟩ (Nat.le_of_ble_eq_true rfl) (fun r_ N_ p_ => ?_)
                  obtain ⟨rfl, rfl, t92, z92⟩ := p_
                  refine (?_ : ∀ (x95 : Int32) (M95 : Mem), (x95 = 0 ∨ x95 = 1) → SC wF M M95 → f_X2_send M rt ln = f_X2_send_c95 y4_41 j41 (f_X2_send_41 rt ln w0_34 n_) x95 M95 → V G X 7 0 0 (Qx G X 0 0 (p_X2_send M rt ln)) 95 [(6, .int ((ln * 8) + (nI j41))), (0, .ref 14), (1, .ref rt), (2, .int ln), (3, .int w0_34), (4, .int y4_41), (5, .int (nI j41))] [.int x95] M95) _ _ z92 (SC.tr s41 t92)  E
                  intro x95 M95 z95 s95  E
                  refine V.if_eq (off := 6) F (by decide +kernel) (tgt := 101) (by decide) (fun h95 => ?_) (fun h95 => ?_)
                  · replace E := E.trans (if_pos h95)
                    refine V.pick [1, 2, 3, 4, 5, 6] rfl ?_
                    exact hJ101 y4_41 M95 s95 E
                  · replace E := E.trans (if_neg h95)
                    refine V.seg F floX2 cjoX2 [.iconst 1, .istore 4] (by decide +kernel) (pc2 := 101) (lv2 := [(4, .int 1), (6, .int ((ln * 8) + (nI j41))), (0, .ref 14), (1, .ref rt), (2, .int ln), (3, .int w0_34), (5, .int (nI j41))]) (st2 := []) (M2 := M95) rfl ⟨trivial, (by decide), trivial⟩ ?_
                    refine V.pick [2, 3, 4, 5, 0, 6] rfl ?_
                    exact hJ101 1 M95 s95 E
                · replace E := E.trans (if_neg h58)
                  refine V.seg F floX2 cjoX2 [.aload_n 1, .getfield 75, .iload 6] (by decide +kernel) (pc2 := 67) (lv2 := [(6, .int ((ln * 8) + (nI j41))), (0, .ref 14), (1, .ref rt), (2, .int ln), (3, .int w0_34), (4, .int y4_41), (5, .int (nI j41))]) (st2 := [.int ((ln * 8) + (nI j41)), .ref (rt + 5)]) (M2 := M41) rfl ⟨trivial, (Rt.f (hr_rt.sm s41.1) 5 rfl), trivial, trivial⟩ ?_
                  refine V.aald (kd := 26) F (by decide +kernel) (Rt.a (hr_rt.sm s41.1) 5 26 256 rfl (lpq (lnC cR h1 h9) (vnj (cnt_lt (n := 8) h45 rfl (by omega) (by decide)) (by decide) (by decide)))) ⟨by decide, by decide⟩ (Rt.aB (hr_rt.sm s41.1) (lpq (lnC cR h1 h9) (vnj (cnt_lt (n := 8) h45 rfl (by omega) (by decide)) (by decide) (by decide)))) ?_
                  show V G X 7 0 0 (Qx G X 0 0 (p_X2_send M rt ln)) 68 [(6, .int ((ln * 8) + (nI j41))), (0, .ref 14), (1, .ref rt), (2, .int ln), (3, .int w0_34), (4, .int y4_41), (5, .int (nI j41))] [.ref (rt + 5 + 10 + ix ((ln * 8) + (nI j41)))] M41
                  refine V.seg F floX2 cjoX2 [.aload_n 0, .getfield 20, .iload 5] (by decide +kernel) (pc2 := 74) (lv2 := [(6, .int ((ln * 8) + (nI j41))), (0, .ref 14), (1, .ref rt), (2, .int ln), (3, .int w0_34), (4, .int y4_41), (5, .int (nI j41))]) (st2 := [.int (nI j41), .ref 18, .ref (rt + 5 + 10 + ix ((ln * 8) + (nI j41)))]) (M2 := M41) rfl ⟨trivial, ((q.sm s41.1).f 14 2 1 rfl), trivial, trivial⟩ ?_
                  refine V.aald (kd := 24) F (by decide +kernel) ((q.sm s41.1).a 18 24 8 rfl (vnj (cnt_lt (n := 8) h45 rfl (by omega) (by decide)) (by decide) (by decide))) ⟨by decide, by decide⟩ ((q.sm s41.1).el 18 24 8 rfl rfl (vnj (cnt_lt (n := 8) h45 rfl (by omega) (by decide)) (by decide) (by decide))) ?_
                  show V G X 7 0 0 (Qx G X 0 0 (p_X2_send M rt ln)) 75 [(6, .int ((ln * 8) + (nI j41))), (0, .ref 14), (1, .ref rt), (2, .int ln), (3, .int w0_34), (4, .int y4_41), (5, .int (nI j41))] [.ref (18 + 5 + ix (nI j41)), .ref (rt + 5 + 10 + ix ((ln * 8) + (nI j41)))] M41
                  refine V.callV (as := [.ref (18 + 5 + ix (nI j41))]) (rest := []) F (by decide +kernel) lX2_52 bX1_copy ⟨1, _, (Rt.ah (hr_rt.sm s41.1) (lpq (lnC cR h1 h9) (vnj (cnt_lt (n := 8) h45 rfl (by omega) (by decide)) (by decide) (by decide)))), rfl, rfl⟩ (c_X1_copy G X.2.1 M41 (rt + 5 + 10 + ix ((ln * 8) + (nI j41))) (18 + 5 + ix (nI j41)) (Rt.ah (hr_rt.sm s41.1) (lpq (lnC cR h1 h9) (vnj (cnt_lt (n := 8) h45 rfl (by omega) (by decide)) (by decide) (by decide)))) ((q.sm s41.1).co (vnj (cnt_lt (n := 8) h45 rfl (by omega) (by decide)) (by decide) (by decide)))) (rm_ok hRm hd (by decide) (by decide)) ⟨Nat.zero_le _, Nat.zero_le _⟩ (Nat.le_of_ble_eq_true rfl) (fun r_ N_ p_ => ?_)
                  obtain ⟨rfl, rfl, t75⟩ := p_
                  refine (?_ : ∀ (M78 : Mem), (SC wF M M78) → f_X2_send M rt ln = f_X2_send_c78 y4_41 j41 (f_X2_send_41 rt ln w0_34 n_) M78 → V G X 7 0 0 (Qx G X 0 0 (p_X2_send M rt ln)) 78 [(6, .int ((ln * 8) + (nI j41))), (0, .ref 14), (1, .ref rt), (2, .int ln), (3, .int w0_34), (4, .int y4_41), (5, .int (nI j41))] [] M78) _ (SC.tr s41 (t75.sc (fun _ _ => rfl))) E
                  intro M78 s78 E
                  refine V.seg F floX2 cjoX2 [.goto 23] (by decide +kernel) (pc2 := 101) (lv2 := [(6, .int ((ln * 8) + (nI j41))), (0, .ref 14), (1, .ref rt), (2, .int ln), (3, .int w0_34), (4, .int y4_41), (5, .int (nI j41))]) (st2 := []) (M2 := M78) rfl ⟨(by decide), trivial⟩ ?_
                  refine V.pick [1, 2, 3, 4, 5, 6] rfl ?_
                  exact hJ101 y4_41 M78 s78 E
          refine V.pick [3, 4, 5, 2, 1, 0] rfl ?_
          exact hJ41 _ w0_34 0 M34 s34 (by omega) (by omega) E
        refine V.if_ne (off := 7) F (by decide +kernel) (tgt := 33) (by decide) (fun h26 => ?_) (fun h26 => ?_)
        · replace E := E.trans (if_neg h26)
          refine V.seg F floX2 cjoX2 [.iconst 0] (by decide +kernel) (pc2 := 34) (lv2 := [(0, .ref 14), (1, .ref rt), (2, .int ln)]) (st2 := [.int 0]) (M2 := M) rfl ⟨trivial, trivial⟩ ?_
          refine V.pick [0, 1, 2] rfl ?_
          exact hJ34 0 M (SC.rf (w := wF)) E
        · replace E := E.trans (if_pos h26)
          refine V.seg F floX2 cjoX2 [.iconst 1, .goto 4] (by decide +kernel) (pc2 := 34) (lv2 := [(0, .ref 14), (1, .ref rt), (2, .int ln)]) (st2 := [.int 1]) (M2 := M) rfl ⟨trivial, (by decide), trivial⟩ ?_
          refine V.pick [0, 1, 2] rfl ?_
          exact hJ34 1 M (SC.rf (w := wF)) E
      · replace E := E.trans (if_neg h16)
        refine V.pick [] rfl ?_
        exact hJ19 M (SC.rf (w := wF)) E
def f_X2_begin_c97  (M97 : Mem) : Mem := M97
def f_X2_begin_c85 (j64 : Nat) (R64_ : Nat → Mem → Mem) (M85 : Mem) : Mem := R64_ (j64 + 1) M85
def f_X2_begin_64 (rt : Nat) : Nat → Nat → Mem → Mem
  | 0, _, M64 => M64
  | n64_ + 1, j64, M64 => if 8 ≤ (nI j64) then f_X2_begin_c97 (f_X2_send M64 rt 0) else f_X2_begin_c85 j64 (f_X2_begin_64 rt n64_) (f_X1_copy M64 (18 + 5 + ix (nI j64)) (rt + 4 + 3 + ix (nI j64)))
def f_X2_begin_35 (rt : Nat) : Nat → Nat → Mem → Mem
  | 0, _, M35 => M35
  | n35_ + 1, j35, M35 => if 256 ≤ (nI j35) then f_X2_begin_64 rt 9 0 M35 else (f_X2_begin_35 rt n35_) (j35 + 1) (uI (uI M35 21 (ix (nI j35)) 0) 22 (ix (nI j35)) 0)
def f_X2_begin_7 (rt : Nat) : Nat → Nat → Mem → Mem
  | 0, _, M7 => M7
  | n_ + 1, j7, M7 => if 32 ≤ (nI j7) then f_X2_begin_35 rt 257 0 M7 else (f_X2_begin_7 rt n_) (j7 + 1) (uI (uI M7 20 (ix (nI j7)) 0) (rt + 6) (ix (nI j7)) 0)
def f_X2_begin (M : Mem) (rt : Nat) : Mem := f_X2_begin_7 rt 33 0 (uI M rt 8 0)
abbrev p_X2_begin (M : Mem) (rt : Nat) : Option Value → Mem → Prop := fun r N => r = none ∧ N = f_X2_begin M rt ∧ SC wF M N
set_option maxRecDepth 100000 in
set_option maxHeartbeats 4000000 in
theorem c_X2_begin (G : Ctx) (l : Launch) (M : Mem) (rt : Nat) (hr_rt : Rt M rt) (q : Ok M) (cR : cn (mI M rt 3) 32) : CT G l 6 mX2_begin [.ref 14, .ref rt] M 0 0 (p_X2_begin M rt) := by
  refine CT.of (by decide) (Nat.le_of_ble_eq_true rfl) ?_
  intro X d hd hl hRm hnm F
  subst hl
  have E : f_X2_begin M rt = f_X2_begin M rt := rfl
  show V G X 3 0 0 (Qx G X 0 0 (p_X2_begin M rt)) 0 [(0, .ref 14), (1, .ref rt)] [] M
  refine V.seg F floX2 cjoX2 [.aload_n 1, .iconst 0, .putfield 40, .iconst 0] (by decide +kernel) (pc2 := 6) (lv2 := [(0, .ref 14), (1, .ref rt)]) (st2 := [.int 0]) (M2 := uI M rt 8 0) rfl ⟨trivial, trivial, (Rt.o hr_rt), trivial, trivial⟩ ?_
  refine V.seg F floX2 cjoX2 [.istore_n 2] (by decide +kernel) (pc2 := 7) (lv2 := [(2, .int 0), (0, .ref 14), (1, .ref rt)]) (st2 := []) (M2 := uI M rt 8 0) rfl ⟨(by decide), trivial⟩ ?_
  have hJ7 : ∀ (n_ : Nat) (j7 : Nat) (M7 : Mem), (SC wF M M7) → (j7 ≤ 32) → (32 - j7 < n_) → f_X2_begin M rt = f_X2_begin_7 rt n_ j7 M7 → V G X 3 0 0 (Qx G X 0 0 (p_X2_begin M rt)) 7 [(0, .ref 14), (1, .ref rt), (2, .int (nI j7))] [] M7 := by
    intro n_
    induction n_ with
    | zero => intro j7 M7 s7 b7 m7 E; omega
    | succ n_ ih_7 =>
      intro j7 M7 s7 b7 m7 E
      rw [f_X2_begin_7] at E
      refine V.seg F floX2 cjoX2 [.iload_n 2, .bipush 32] (by decide +kernel) (pc2 := 10) (lv2 := [(0, .ref 14), (1, .ref rt), (2, .int (nI j7))]) (st2 := [.int 32, .int (nI j7)]) (M2 := M7) rfl ⟨trivial, trivial, trivial⟩ ?_
      refine V.ic_ge (off := 23) F (by decide +kernel) (tgt := 33) (by decide) (fun h10 => ?_) (fun h10 => ?_)
      · replace E := E.trans (if_pos h10)
        refine V.seg F floX2 cjoX2 [.iconst 0] (by decide +kernel) (pc2 := 34) (lv2 := [(0, .ref 14), (1, .ref rt), (2, .int (nI j7))]) (st2 := [.int 0]) (M2 := M7) rfl ⟨trivial, trivial⟩ ?_
        refine V.seg F floX2 cjoX2 [.istore_n 2] (by decide +kernel) (pc2 := 35) (lv2 := [(2, .int 0), (0, .ref 14), (1, .ref rt)]) (st2 := []) (M2 := M7) rfl ⟨(by decide), trivial⟩ ?_
        have hJ35 : ∀ (n35_ : Nat) (j35 : Nat) (M35 : Mem), (SC wF M M35) → (j35 ≤ 256) → (256 - j35 < n35_) → f_X2_begin M rt = f_X2_begin_35 rt n35_ j35 M35 → V G X 3 0 0 (Qx G X 0 0 (p_X2_begin M rt)) 35 [(0, .ref 14), (1, .ref rt), (2, .int (nI j35))] [] M35 := by
          intro n35_
          induction n35_ with
          | zero => intro j35 M35 s35 b35 m35 E; omega
          | succ n35_ ih_35 =>
            intro j35 M35 s35 b35 m35 E
            rw [f_X2_begin_35] at E
            refine V.seg F floX2 cjoX2 [.iload_n 2, .sipush 256] (by decide +kernel) (pc2 := 39) (lv2 := [(0, .ref 14), (1, .ref rt), (2, .int (nI j35))]) (st2 := [.int 256, .int (nI j35)]) (M2 := M35) rfl ⟨trivial, trivial, trivial⟩ ?_
            refine V.ic_ge (off := 23) F (by decide +kernel) (tgt := 62) (by decide) (fun h39 => ?_) (fun h39 => ?_)
            · replace E := E.trans (if_pos h39)
              refine V.seg F floX2 cjoX2 [.iconst 0] (by decide +kernel) (pc2 := 63) (lv2 := [(0, .ref 14), (1, .ref rt), (2, .int (nI j35))]) (st2 := [.int 0]) (M2 := M35) rfl ⟨trivial, trivial⟩ ?_
              refine V.seg F floX2 cjoX2 [.istore_n 2] (by decide +kernel) (pc2 := 64) (lv2 := [(2, .int 0), (0, .ref 14), (1, .ref rt)]) (st2 := []) (M2 := M35) rfl ⟨(by decide), trivial⟩ ?_
              have hJ64 : ∀ (n64_ : Nat) (j64 : Nat) (M64 : Mem), (SC wF M M64) → (j64 ≤ 8) → (8 - j64 < n64_) → f_X2_begin M rt = f_X2_begin_64 rt n64_ j64 M64 → V G X 3 0 0 (Qx G X 0 0 (p_X2_begin M rt)) 64 [(0, .ref 14), (1, .ref rt), (2, .int (nI j64))] [] M64 := by
                intro n64_
                induction n64_ with
                | zero => intro j64 M64 s64 b64 m64 E; omega
                | succ n64_ ih_64 =>
                  intro j64 M64 s64 b64 m64 E
                  rw [f_X2_begin_64] at E
                  refine V.seg F floX2 cjoX2 [.iload_n 2, .bipush 8] (by decide +kernel) (pc2 := 67) (lv2 := [(0, .ref 14), (1, .ref rt), (2, .int (nI j64))]) (st2 := [.int 8, .int (nI j64)]) (M2 := M64) rfl ⟨trivial, trivial, trivial⟩ ?_
                  refine V.ic_ge (off := 24) F (by decide +kernel) (tgt := 91) (by decide) (fun h67 => ?_) (fun h67 => ?_)
                  · replace E := E.trans (if_pos h67)
                    refine V.seg F floX2 cjoX2 [.aload_n 0, .aload_n 1, .iconst 0] (by decide +kernel) (pc2 := 94) (lv2 := [(0, .ref 14), (1, .ref rt), (2, .int (nI j64))]) (st2 := [.int 0, .ref rt, .ref 14]) (M2 := M64) rfl ⟨trivial, trivial, trivial, trivial⟩ ?_
                    refine V.callV (as := [.ref rt, .int 0]) (rest := []) F (by decide +kernel) lX2_56 bX2_send ⟨2, _, ((q.sm s64.1).o 14 2 rfl), rfl, rfl⟩ (c_X2_send G X.2.1 M64 rt 0 (hr_rt.sm s64.1) (q.sm s64.1) (cn.of (s64.r hr_rt 3 rfl) cR)) (rm_ok hRm hd (by decide) (by decide)) ⟨Nat.zero_le _, Nat.zero_le _⟩ (Nat.le_of_ble_eq_true rfl) (fun r_ N_ p_ => ?_)
                    obtain ⟨rfl, rfl, t94⟩ := p_
                    refine (?_ : ∀ (M97 : Mem), (SC wF M M97) → f_X2_begin M rt = f_X2_begin_c97 M97 → V G X 3 0 0 (Qx G X 0 0 (p_X2_begin M rt)) 97 [(0, .ref 14), (1, .ref rt), (2, .int (nI j64))] [] M97) _ (SC.tr s64 t94) E
                    intro M97 s97 E
                    exact V.vret F (by decide +kernel) ⟨rfl, E.symm, s97⟩
                  · replace E := E.trans (if_neg h67)
                    refine V.seg F floX2 cjoX2 [.aload_n 0, .getfield 20, .iload_n 2] (by decide +kernel) (pc2 := 75) (lv2 := [(0, .ref 14), (1, .ref rt), (2, .int (nI j64))]) (st2 := [.int (nI j64), .ref 18]) (M2 := M64) rfl ⟨trivial, ((q.sm s64.1).f 14 2 1 rfl), trivial, trivial⟩ ?_
                    refine V.aald (kd := 24) F (by decide +kernel) ((q.sm s64.1).a 18 24 8 rfl (vnj (cnt_lt (n := 8) h67 rfl (by omega) (by decide)) (by decide) (by decide))) ⟨by decide, by decide⟩ ((q.sm s64.1).el 18 24 8 rfl rfl (vnj (cnt_lt (n := 8) h67 rfl (by omega) (by decide)) (by decide) (by decide))) ?_
                    show V G X 3 0 0 (Qx G X 0 0 (p_X2_begin M rt)) 76 [(0, .ref 14), (1, .ref rt), (2, .int (nI j64))] [.ref (18 + 5 + ix (nI j64))] M64
                    refine V.seg F floX2 cjoX2 [.aload_n 1, .getfield 49, .iload_n 2] (by decide +kernel) (pc2 := 81) (lv2 := [(0, .ref 14), (1, .ref rt), (2, .int (nI j64))]) (st2 := [.int (nI j64), .ref (rt + 4), .ref (18 + 5 + ix (nI j64))]) (M2 := M64) rfl ⟨trivial, (Rt.f (hr_rt.sm s64.1) 4 rfl), trivial, trivial⟩ ?_
                    refine V.aald (kd := 25) F (by decide +kernel) (Rt.a (hr_rt.sm s64.1) 4 25 8 rfl (vnj (cnt_lt (n := 8) h67 rfl (by omega) (by decide)) (by decide) (by decide))) ⟨by decide, by decide⟩ (Rt.sB (hr_rt.sm s64.1) (vnj (cnt_lt (n := 8) h67 rfl (by omega) (by decide)) (by decide) (by decide))) ?_
                    show V G X 3 0 0 (Qx G X 0 0 (p_X2_begin M rt)) 82 [(0, .ref 14), (1, .ref rt), (2, .int (nI j64))] [.ref (rt + 4 + 3 + ix (nI j64)), .ref (18 + 5 + ix (nI j64))] M64
                    refine V.callV (as := [.ref (rt + 4 + 3 + ix (nI j64))]) (rest := []) F (by decide +kernel) lX2_52 bX1_copy ⟨1, _, ((q.sm s64.1).co (vnj (cnt_lt (n := 8) h67 rfl (by omega) (by decide)) (by decide) (by decide))), rfl, rfl⟩ (c_X1_copy G X.2.1 M64 (18 + 5 + ix (nI j64)) (rt + 4 + 3 + ix (nI j64)) ((q.sm s64.1).co (vnj (cnt_lt (n := 8) h67 rfl (by omega) (by decide)) (by decide) (by decide))) (Rt.st (hr_rt.sm s64.1) (vnj (cnt_lt (n := 8) h67 rfl (by omega) (by decide)) (by decide) (by decide)))) (rm_ok hRm hd (by decide) (by decide)) ⟨Nat.zero_le _, Nat.zero_le _⟩ (Nat.le_of_ble_eq_true rfl) (fun r_ N_ p_ => ?_)
                    obtain ⟨rfl, rfl, t82⟩ := p_
                    refine (?_ : ∀ (M85 : Mem), (SC wF M M85) → f_X2_begin M rt = f_X2_begin_c85 j64 (f_X2_begin_64 rt n64_) M85 → V G X 3 0 0 (Qx G X 0 0 (p_X2_begin M rt)) 85 [(0, .ref 14), (1, .ref rt), (2, .int (nI j64))] [] M85) _ (SC.tr s64 (t82.sc (fun _ _ => rfl))) E
                    intro M85 s85 E
                    refine V.seg F floX2 cjoX2 [.iinc 2 1, .goto (-24)] (by decide +kernel) (pc2 := 64) (lv2 := [(2, .int ((nI j64) + 1)), (0, .ref 14), (1, .ref rt)]) (st2 := []) (M2 := M85) rfl ⟨(by decide), (by decide), trivial⟩ ?_
                    refine V.pick [1, 2, 0] rfl ?_
                    rw [nI_1]
                    exact ih_64 (j64 + 1) M85 s85 (by have hlt_ := cnt_lt (n := 8) h67 rfl (by omega) (by decide); omega) (by have hlt_ := cnt_lt (n := 8) h67 rfl (by omega) (by decide); omega) E
              refine V.pick [1, 2, 0] rfl ?_
              exact hJ64 _ 0 M35 s35 (by omega) (by omega) E
            · replace E := E.trans (if_neg h39)
              refine V.seg F floX2 cjoX2 [.aload_n 0, .getfield 33, .iload_n 2, .iconst 0, .iastore, .aload_n 0, .getfield 37, .iload_n 2, .iconst 0, .iastore, .iinc 2 1, .goto (-24)] (by decide +kernel) (pc2 := 35) (lv2 := [(2, .int ((nI j35) + 1)), (0, .ref 14), (1, .ref rt)]) (st2 := []) (M2 := uI (uI M35 21 (ix (nI j35)) 0) 22 (ix (nI j35)) 0) rfl ⟨trivial, ((q.sm s35.1).f 14 2 4 rfl), trivial, trivial, ((q.sm s35.1).a 21 20 256 rfl (vnj (cnt_lt (n := 256) h39 rfl (by omega) (by decide)) (by decide) (by decide))), trivial, ((q.sm (SC.pI s35 rfl).1).f 14 2 5 rfl), trivial, trivial, ((q.sm (SC.pI s35 rfl).1).a 22 20 256 rfl (vnj (cnt_lt (n := 256) h39 rfl (by omega) (by decide)) (by decide) (by decide))), (by decide), (by decide), trivial⟩ ?_
              refine V.pick [1, 2, 0] rfl ?_
              rw [nI_1]
              exact ih_35 (j35 + 1) (uI (uI M35 21 (ix (nI j35)) 0) 22 (ix (nI j35)) 0) (SC.pI (SC.pI s35 rfl) rfl) (by have hlt_ := cnt_lt (n := 256) h39 rfl (by omega) (by decide); omega) (by have hlt_ := cnt_lt (n := 256) h39 rfl (by omega) (by decide); omega) E
        refine V.pick [1, 2, 0] rfl ?_
        exact hJ35 _ 0 M7 s7 (by omega) (by omega) E
      · replace E := E.trans (if_neg h10)
        refine V.seg F floX2 cjoX2 [.aload_n 0, .getfield 29, .iload_n 2, .iconst 0, .bastore, .aload_n 1, .getfield 46, .iload_n 2, .iconst 0, .bastore, .iinc 2 1, .goto (-23)] (by decide +kernel) (pc2 := 7) (lv2 := [(2, .int ((nI j7) + 1)), (0, .ref 14), (1, .ref rt)]) (st2 := []) (M2 := uI (uI M7 20 (ix (nI j7)) 0) (rt + 6) (ix (nI j7)) 0) rfl ⟨trivial, ((q.sm s7.1).f 14 2 3 rfl), trivial, trivial, ⟨((q.sm s7.1).a 20 21 32 rfl (vnj (cnt_lt (n := 32) h10 rfl (by omega) (by decide)) (by decide) (by decide))), Or.inl rfl⟩, trivial, (Rt.f (hr_rt.sm (SC.pI s7 rfl).1) 6 rfl), trivial, trivial, ⟨(Rt.a (hr_rt.sm (SC.pI s7 rfl).1) 6 21 32 rfl (vnj (cnt_lt (n := 32) h10 rfl (by omega) (by decide)) (by decide) (by decide))), Or.inl rfl⟩, (by decide), (by decide), trivial⟩ ?_
        refine V.pick [1, 2, 0] rfl ?_
        rw [nI_1]
        exact ih_7 (j7 + 1) (uI (uI M7 20 (ix (nI j7)) 0) (rt + 6) (ix (nI j7)) 0) (SC.pI (SC.pI s7 rfl) (wC_a hr_rt 6 (by decide) rfl)) (by have hlt_ := cnt_lt (n := 32) h10 rfl (by omega) (by decide); omega) (by have hlt_ := cnt_lt (n := 32) h10 rfl (by omega) (by decide); omega) E
  refine V.pick [1, 2, 0] rfl ?_
  exact hJ7 _ 0 (uI M rt 8 0) (SC.pI (SC.rf (w := wF)) (wC_r hr_rt rfl)) (by omega) (by omega) E
def f_X2_workLine_c260  (M260 : Mem) : Mem := M260
def f_X2_workLine_252 (rt : Nat) (ln : Int32) (M252 : Mem) : Mem := f_X2_workLine_c260 (f_X2_send M252 rt (ln + 1))
def f_X2_workLine_c132 (rt : Nat) (ln : Int32) (M132 : Mem) : Mem := f_X2_workLine_252 rt ln M132
def f_X2_workLine_c150 (rt : Nat) (ln : Int32) (M150 : Mem) : Mem := f_X2_workLine_252 rt ln M150
def f_X2_workLine_c164 (rt : Nat) (ln : Int32) (M164 : Mem) : Mem := f_X2_workLine_252 rt ln M164
def f_X2_workLine_c203  (M203 : Mem) : Mem := M203
def f_X2_workLine_c195 (rt : Nat) (ln : Int32) (M195 : Mem) : Mem := f_X2_workLine_c203 (f_X2_send M195 rt (ln + 2))
def f_X2_workLine_c188 (rt : Nat) (ln : Int32) (M188 : Mem) : Mem := f_X2_workLine_c195 rt ln (f_X2_branch M188 rt ln 1)
def f_X2_workLine_c182 (rt : Nat) (ln : Int32) (M182 : Mem) : Mem := f_X2_workLine_c188 rt ln (f_X2_fetch M182 rt ln)
def f_X2_workLine_c174 (rt : Nat) (ln : Int32) (M174 : Mem) : Mem := f_X2_workLine_c182 rt ln (f_X2_send M174 rt (ln + 1))
def f_X2_workLine_c211  (M211 : Mem) : Mem := M211
def f_X2_workLine_c252 (rt : Nat) (ln : Int32) (M252 : Mem) : Mem := f_X2_workLine_252 rt ln M252
def f_X2_workLine_245 (rt : Nat) (ln : Int32) (M23 : Mem) (w0_245 : Nat) (M245 : Mem) : Mem := f_X2_workLine_c252 rt ln (f_X0_work M245 15 (mI M23 (rt + 1) (ix ln)) w0_245 (rt + 5 + 10 + ix ((ln * 8) + (mI M23 (rt + 3) (ix ln)))) (18 + 5 + ix (mI M23 (rt + 2) (ix ln))))
def f_X2_workLine_c23 (rt : Nat) (ln : Int32) (M23 : Mem) : Mem := if (mI M23 (rt + 1) (ix ln)) = 20 then f_X2_workLine_c132 rt ln (f_X1_makeConstant M23 (18 + 5 + ix (mI M23 (rt + 2) (ix ln))) (Int32.toInt64 (mI M23 (rt + 3) (ix ln)))) else if (mI M23 (rt + 1) (ix ln)) = 21 then f_X2_workLine_c150 rt ln (f_X1_copy M23 (18 + 5 + ix (mI M23 (rt + 2) (ix ln))) (rt + 5 + 10 + ix ((ln * 8) + (mI M23 (rt + 3) (ix ln))))) else if (mI M23 (rt + 1) (ix ln)) = 22 then f_X2_workLine_c164 rt ln (f_X2_lookUp M23 (mI M23 (rt + 3) (ix ln)) (rt + 5 + 10 + ix ((ln * 8) + (mI M23 (rt + 2) (ix ln)))) (18 + 5 + ix (mI M23 (rt + 2) (ix ln)))) else if (mI M23 (rt + 1) (ix ln)) = 23 ∨ (mI M23 (rt + 1) (ix ln)) = 24 ∨ (mI M23 (rt + 1) (ix ln)) = 25 then f_X2_workLine_c174 rt ln (f_X2_branch M23 rt ln 0) else if (mI M23 (rt + 1) (ix ln)) = 26 then f_X2_workLine_c211 (f_X2_send M23 rt (mI M23 (rt + 3) (ix ln))) else if (mI M23 (rt + 1) (ix ln)) = 27 then M23 else if 12 ≤ (mI M23 (rt + 1) (ix ln)) then f_X2_workLine_245 rt ln M23 (rt + 5 + 10 + ix ((ln * 8) + (mI M23 (rt + 3) (ix ln)))) M23 else f_X2_workLine_245 rt ln M23 (rt + 5 + 10 + ix ((ln * 8) + (mI M23 (rt + 2) (ix ln)))) M23
def f_X2_workLine (M : Mem) (rt : Nat) (ln : Int32) : Mem := if (mI M 20 (ix ln)) = 0 then M else f_X2_workLine_c23 rt ln (f_X2_fetch (uI M 20 (ix ln) 0) rt ln)
abbrev p_X2_workLine (M : Mem) (rt : Nat) (ln : Int32) : Option Value → Mem → Prop := fun r N => r = none ∧ N = f_X2_workLine M rt ln ∧ SC wF M N
set_option maxRecDepth 100000 in
set_option maxHeartbeats 4000000 in
theorem c_X2_workLine (G : Ctx) (l : Launch) (M : Mem) (rt : Nat) (ln : Int32) (hr_rt : Rt M rt) (q : Ok M) (i_ln : vp_in ln 32) (cR : cn (mI M rt 3) 32) (hT : ∀ t, t < 4 → cn (mI M 10 t) 16) (hL : LnC (mI M (rt + 1) (ix ln)) (mI M (rt + 2) (ix ln)) (mI M (rt + 3) (ix ln))) : CT G l 6 mX2_workLine [.ref 14, .ref rt, .ref 4, .int ln] M 0 0 (p_X2_workLine M rt ln) := by
  refine CT.of (by decide) (Nat.le_of_ble_eq_true rfl) ?_
  intro X d hd hl hRm hnm F
  subst hl
  have E : f_X2_workLine M rt ln = f_X2_workLine M rt ln := rfl
  show V G X 10 0 0 (Qx G X 0 0 (p_X2_workLine M rt ln)) 0 [(0, .ref 14), (1, .ref rt), (2, .ref 4), (3, .int ln)] [] M
  refine V.seg F floX2 cjoX2 [.aload_n 0, .getfield 29, .iload_n 3, .baload] (by decide +kernel) (pc2 := 6) (lv2 := [(0, .ref 14), (1, .ref rt), (2, .ref 4), (3, .int ln)]) (st2 := [.int (mI M 20 (ix ln))]) (M2 := M) rfl ⟨trivial, (q.f 14 2 3 rfl), trivial, (q.a 20 21 32 rfl i_ln), trivial⟩ ?_
  refine V.if_ne (off := 4) F (by decide +kernel) (tgt := 10) (by decide) (fun h6 => ?_) (fun h6 => ?_)
  · replace E := E.trans (if_neg h6)
    refine V.seg F floX2 cjoX2 [.aload_n 0, .getfield 29, .iload_n 3, .iconst 0, .bastore, .aload_n 0, .aload_n 1, .iload_n 3] (by decide +kernel) (pc2 := 20) (lv2 := [(0, .ref 14), (1, .ref rt), (2, .ref 4), (3, .int ln)]) (st2 := [.int ln, .ref rt, .ref 14]) (M2 := uI M 20 (ix ln) 0) rfl ⟨trivial, (q.f 14 2 3 rfl), trivial, trivial, ⟨(q.a 20 21 32 rfl i_ln), Or.inl rfl⟩, trivial, trivial, trivial, trivial⟩ ?_
    refine V.callV (as := [.ref rt, .int ln]) (rest := []) F (by decide +kernel) lX2_81 bX2_fetch ⟨2, _, ((q.sm (SC.pI (SC.rf (w := wF)) rfl).1).o 14 2 rfl), rfl, rfl⟩ (c_X2_fetch G X.2.1 (uI M 20 (ix ln) 0) rt ln (hr_rt.sm (SC.pI (SC.rf (w := wF)) rfl).1) (q.sm (SC.pI (SC.rf (w := wF)) rfl).1) i_ln) (rm_ok hRm hd (by decide) (by decide)) ⟨Nat.zero_le _, Nat.zero_le _⟩ (Nat.le_of_ble_eq_true rfl) (fun r_ N_ p_ => ?_)
    obtain ⟨rfl, rfl, t20⟩ := p_
    refine (?_ : ∀ (M23 : Mem), (SC wF M M23) → f_X2_workLine M rt ln = f_X2_workLine_c23 rt ln M23 → V G X 10 0 0 (Qx G X 0 0 (p_X2_workLine M rt ln)) 23 [(0, .ref 14), (1, .ref rt), (2, .ref 4), (3, .int ln)] [] M23) _ (SC.tr (SC.pI (SC.rf (w := wF)) rfl) (t20.sc (fun _ _ => rfl))) E
    intro M23 s23 E
    refine V.seg F floX2 cjoX2 [.aload_n 1, .getfield 84, .iload_n 3, .iaload, .istore 4, .aload_n 1, .getfield 87, .iload_n 3, .iaload, .istore 5, .iload_n 3, .bipush 8, .imul, .istore 6, .aload_n 1, .getfield 75, .iload 6, .aload_n 1, .getfield 90, .iload_n 3, .iaload, .iadd] (by decide +kernel) (pc2 := 58) (lv2 := [(6, .int (ln * 8)), (5, .int (mI M23 (rt + 3) (ix ln))), (4, .int (mI M23 (rt + 1) (ix ln))), (0, .ref 14), (1, .ref rt), (2, .ref 4), (3, .int ln)]) (st2 := [.int ((ln * 8) + (mI M23 (rt + 2) (ix ln))), .ref (rt + 5)]) (M2 := M23) rfl ⟨trivial, (Rt.f (hr_rt.sm s23.1) 0 rfl), trivial, (Rt.a (hr_rt.sm s23.1) 1 20 32 rfl i_ln), (by decide), trivial, (Rt.f (hr_rt.sm s23.1) 2 rfl), trivial, (Rt.a (hr_rt.sm s23.1) 3 20 32 rfl i_ln), (by decide), trivial, trivial, trivial, (by decide), trivial, (Rt.f (hr_rt.sm s23.1) 5 rfl), trivial, trivial, (Rt.f (hr_rt.sm s23.1) 1 rfl), trivial, (Rt.a (hr_rt.sm s23.1) 2 20 32 rfl i_ln), trivial, trivial⟩ ?_
    refine V.aald (kd := 26) F (by decide +kernel) (Rt.a (hr_rt.sm s23.1) 5 26 256 rfl (lpq i_ln (LnC.of (s23.a hr_rt 1 (by decide) _ rfl) (s23.a hr_rt 2 (by decide) _ rfl) (s23.a hr_rt 3 (by decide) _ rfl) hL).1.1)) ⟨by decide, by decide⟩ (Rt.aB (hr_rt.sm s23.1) (lpq i_ln (LnC.of (s23.a hr_rt 1 (by decide) _ rfl) (s23.a hr_rt 2 (by decide) _ rfl) (s23.a hr_rt 3 (by decide) _ rfl) hL).1.1)) ?_
    show V G X 10 0 0 (Qx G X 0 0 (p_X2_workLine M rt ln)) 59 [(6, .int (ln * 8)), (5, .int (mI M23 (rt + 3) (ix ln))), (4, .int (mI M23 (rt + 1) (ix ln))), (0, .ref 14), (1, .ref rt), (2, .ref 4), (3, .int ln)] [.ref (rt + 5 + 10 + ix ((ln * 8) + (mI M23 (rt + 2) (ix ln))))] M23
    refine V.seg F floX2 cjoX2 [.astore 7, .aload_n 0, .getfield 20, .aload_n 1, .getfield 90, .iload_n 3, .iaload] (by decide +kernel) (pc2 := 71) (lv2 := [(7, .ref (rt + 5 + 10 + ix ((ln * 8) + (mI M23 (rt + 2) (ix ln))))), (6, .int (ln * 8)), (5, .int (mI M23 (rt + 3) (ix ln))), (4, .int (mI M23 (rt + 1) (ix ln))), (0, .ref 14), (1, .ref rt), (2, .ref 4), (3, .int ln)]) (st2 := [.int (mI M23 (rt + 2) (ix ln)), .ref 18]) (M2 := M23) rfl ⟨(by decide), trivial, ((q.sm s23.1).f 14 2 1 rfl), trivial, (Rt.f (hr_rt.sm s23.1) 1 rfl), trivial, (Rt.a (hr_rt.sm s23.1) 2 20 32 rfl i_ln), trivial⟩ ?_
    refine V.aald (kd := 24) F (by decide +kernel) ((q.sm s23.1).a 18 24 8 rfl (LnC.of (s23.a hr_rt 1 (by decide) _ rfl) (s23.a hr_rt 2 (by decide) _ rfl) (s23.a hr_rt 3 (by decide) _ rfl) hL).1.1) ⟨by decide, by decide⟩ ((q.sm s23.1).el 18 24 8 rfl rfl (LnC.of (s23.a hr_rt 1 (by decide) _ rfl) (s23.a hr_rt 2 (by decide) _ rfl) (s23.a hr_rt 3 (by decide) _ rfl) hL).1.1) ?_
    show V G X 10 0 0 (Qx G X 0 0 (p_X2_workLine M rt ln)) 72 [(7, .ref (rt + 5 + 10 + ix ((ln * 8) + (mI M23 (rt + 2) (ix ln))))), (6, .int (ln * 8)), (5, .int (mI M23 (rt + 3) (ix ln))), (4, .int (mI M23 (rt + 1) (ix ln))), (0, .ref 14), (1, .ref rt), (2, .ref 4), (3, .int ln)] [.ref (18 + 5 + ix (mI M23 (rt + 2) (ix ln)))] M23
    refine V.seg F floX2 cjoX2 [.astore 8, .iload 4] (by decide +kernel) (pc2 := 76) (lv2 := [(8, .ref (18 + 5 + ix (mI M23 (rt + 2) (ix ln)))), (7, .ref (rt + 5 + 10 + ix ((ln * 8) + (mI M23 (rt + 2) (ix ln))))), (6, .int (ln * 8)), (5, .int (mI M23 (rt + 3) (ix ln))), (4, .int (mI M23 (rt + 1) (ix ln))), (0, .ref 14), (1, .ref rt), (2, .ref 4), (3, .int ln)]) (st2 := [.int (mI M23 (rt + 1) (ix ln))]) (M2 := M23) rfl ⟨(by decide), trivial, trivial⟩ ?_
    have hJ252 : ∀ (M252 : Mem), (SC wF M M252) → f_X2_workLine M rt ln = f_X2_workLine_252 rt ln M252 → V G X 10 0 0 (Qx G X 0 0 (p_X2_workLine M rt ln)) 252 [(0, .ref 14), (1, .ref rt), (3, .int ln)] [] M252 := by
      intro M252 s252 E
      refine V.seg F floX2 cjoX2 [.aload_n 0, .aload_n 1, .iload_n 3, .iconst 1, .iadd] (by decide +kernel) (pc2 := 257) (lv2 := [(0, .ref 14), (1, .ref rt), (3, .int ln)]) (st2 := [.int (ln + 1), .ref rt, .ref 14]) (M2 := M252) rfl ⟨trivial, trivial, trivial, trivial, trivial, trivial⟩ ?_
      refine V.callV (as := [.ref rt, .int (ln + 1)]) (rest := []) F (by decide +kernel) lX2_56 bX2_send ⟨2, _, ((q.sm s252.1).o 14 2 rfl), rfl, rfl⟩ (c_X2_send G X.2.1 M252 rt (ln + 1) (hr_rt.sm s252.1) (q.sm s252.1) (cn.of (s252.r hr_rt 3 rfl) cR)) (rm_ok hRm hd (by decide) (by decide)) ⟨Nat.zero_le _, Nat.zero_le _⟩ (Nat.le_of_ble_eq_true rfl) (fun r_ N_ p_ => ?_)
      obtain ⟨rfl, rfl, t257⟩ := p_
      refine (?_ : ∀ (M260 : Mem), (SC wF M M260) → f_X2_workLine M rt ln = f_X2_workLine_c260 M260 → V G X 10 0 0 (Qx G X 0 0 (p_X2_workLine M rt ln)) 260 [(0, .ref 14), (1, .ref rt), (3, .int ln)] [] M260) _ (SC.tr s252 t257) E
      intro M260 s260 E
      exact V.vret F (by decide +kernel) ⟨rfl, E.symm, s260⟩
    by_cases h76_0 : (mI M23 (rt + 1) (ix ln)) = 20
    · replace E := E.trans (if_pos h76_0)
      refine V.swo (dflt := 137) (lo := 20) (hi := 27) (offs := #[48, 59, 77, 91, 91, 91, 128, 136]) (len := 48) (off := 48) (tgt := 124) F (by decide +kernel) (by rw [h76_0]; rfl) rfl (by decide) ?_
      refine V.seg F floX2 cjoX2 [.aload 8, .iload 5, .i2l] (by decide +kernel) (pc2 := 129) (lv2 := [(8, .ref (18 + 5 + ix (mI M23 (rt + 2) (ix ln)))), (7, .ref (rt + 5 + 10 + ix ((ln * 8) + (mI M23 (rt + 2) (ix ln))))), (6, .int (ln * 8)), (5, .int (mI M23 (rt + 3) (ix ln))), (4, .int (mI M23 (rt + 1) (ix ln))), (0, .ref 14), (1, .ref rt), (2, .ref 4), (3, .int ln)]) (st2 := [.long (Int32.toInt64 (mI M23 (rt + 3) (ix ln))), .ref (18 + 5 + ix (mI M23 (rt + 2) (ix ln)))]) (M2 := M23) rfl ⟨trivial, trivial, trivial, trivial⟩ ?_
      refine V.callV (as := [.long (Int32.toInt64 (mI M23 (rt + 3) (ix ln)))]) (rest := []) F (by decide +kernel) lX2_93 bX1_makeConstant ⟨1, _, ((q.sm s23.1).co (LnC.of (s23.a hr_rt 1 (by decide) _ rfl) (s23.a hr_rt 2 (by decide) _ rfl) (s23.a hr_rt 3 (by decide) _ rfl) hL).1.1), rfl, rfl⟩ (c_X1_makeConstant G X.2.1 M23 (18 + 5 + ix (mI M23 (rt + 2) (ix ln))) (Int32.toInt64 (mI M23 (rt + 3) (ix ln))) ((q.sm s23.1).co (LnC.of (s23.a hr_rt 1 (by decide) _ rfl) (s23.a hr_rt 2 (by decide) _ rfl) (s23.a hr_rt 3 (by decide) _ rfl) hL).1.1)) (rm_ok hRm hd (by decide) (by decide)) ⟨Nat.zero_le _, Nat.zero_le _⟩ (Nat.le_of_ble_eq_true rfl) (fun r_ N_ p_ => ?_)
      obtain ⟨rfl, rfl, t129⟩ := p_
      refine (?_ : ∀ (M132 : Mem), (SC wF M M132) → f_X2_workLine M rt ln = f_X2_workLine_c132 rt ln M132 → V G X 10 0 0 (Qx G X 0 0 (p_X2_workLine M rt ln)) 132 [(8, .ref (18 + 5 + ix (mI M23 (rt + 2) (ix ln)))), (7, .ref (rt + 5 + 10 + ix ((ln * 8) + (mI M23 (rt + 2) (ix ln))))), (6, .int (ln * 8)), (5, .int (mI M23 (rt + 3) (ix ln))), (4, .int (mI M23 (rt + 1) (ix ln))), (0, .ref 14), (1, .ref rt), (2, .ref 4), (3, .int ln)] [] M132) _ (SC.tr s23 (t129.sc (fun _ _ => rfl))) E
      intro M132 s132 E
      refine V.seg F floX2 cjoX2 [.goto 120] (by decide +kernel) (pc2 := 252) (lv2 := [(8, .ref (18 + 5 + ix (mI M23 (rt + 2) (ix ln)))), (7, .ref (rt + 5 + 10 + ix ((ln * 8) + (mI M23 (rt + 2) (ix ln))))), (6, .int (ln * 8)), (5, .int (mI M23 (rt + 3) (ix ln))), (4, .int (mI M23 (rt + 1) (ix ln))), (0, .ref 14), (1, .ref rt), (2, .ref 4), (3, .int ln)]) (st2 := []) (M2 := M132) rfl ⟨(by decide), trivial⟩ ?_
      refine V.pick [5, 6, 8] rfl ?_
      exact hJ252 M132 s132 E
    · replace E := E.trans (if_neg h76_0)
      by_cases h76_1 : (mI M23 (rt + 1) (ix ln)) = 21
      · replace E := E.trans (if_pos h76_1)
        refine V.swo (dflt := 137) (lo := 20) (hi := 27) (offs := #[48, 59, 77, 91, 91, 91, 128, 136]) (len := 48) (off := 59) (tgt := 135) F (by decide +kernel) (by rw [h76_1]; rfl) rfl (by decide) ?_
        refine V.seg F floX2 cjoX2 [.aload 8, .aload_n 1, .getfield 75, .iload 6, .iload 5, .iadd] (by decide +kernel) (pc2 := 146) (lv2 := [(8, .ref (18 + 5 + ix (mI M23 (rt + 2) (ix ln)))), (7, .ref (rt + 5 + 10 + ix ((ln * 8) + (mI M23 (rt + 2) (ix ln))))), (6, .int (ln * 8)), (5, .int (mI M23 (rt + 3) (ix ln))), (4, .int (mI M23 (rt + 1) (ix ln))), (0, .ref 14), (1, .ref rt), (2, .ref 4), (3, .int ln)]) (st2 := [.int ((ln * 8) + (mI M23 (rt + 3) (ix ln))), .ref (rt + 5), .ref (18 + 5 + ix (mI M23 (rt + 2) (ix ln)))]) (M2 := M23) rfl ⟨trivial, trivial, (Rt.f (hr_rt.sm s23.1) 5 rfl), trivial, trivial, trivial, trivial⟩ ?_
        refine V.aald (kd := 26) F (by decide +kernel) (Rt.a (hr_rt.sm s23.1) 5 26 256 rfl (lpq i_ln (by first | exact (LnC.of (s23.a hr_rt 1 (by decide) _ rfl) (s23.a hr_rt 2 (by decide) _ rfl) (s23.a hr_rt 3 (by decide) _ rfl) hL).1.2.2.1 h76_1 | exact lnD (LnC.of (s23.a hr_rt 1 (by decide) _ rfl) (s23.a hr_rt 2 (by decide) _ rfl) (s23.a hr_rt 3 (by decide) _ rfl) hL) h76_0 h76_1 h76_2 h76_3 h76_4 h76_5))) ⟨by decide, by decide⟩ (Rt.aB (hr_rt.sm s23.1) (lpq i_ln (by first | exact (LnC.of (s23.a hr_rt 1 (by decide) _ rfl) (s23.a hr_rt 2 (by decide) _ rfl) (s23.a hr_rt 3 (by decide) _ rfl) hL).1.2.2.1 h76_1 | exact lnD (LnC.of (s23.a hr_rt 1 (by decide) _ rfl) (s23.a hr_rt 2 (by decide) _ rfl) (s23.a hr_rt 3 (by decide) _ rfl) hL) h76_0 h76_1 h76_2 h76_3 h76_4 h76_5))) ?_
        show V G X 10 0 0 (Qx G X 0 0 (p_X2_workLine M rt ln)) 147 [(8, .ref (18 + 5 + ix (mI M23 (rt + 2) (ix ln)))), (7, .ref (rt + 5 + 10 + ix ((ln * 8) + (mI M23 (rt + 2) (ix ln))))), (6, .int (ln * 8)), (5, .int (mI M23 (rt + 3) (ix ln))), (4, .int (mI M23 (rt + 1) (ix ln))), (0, .ref 14), (1, .ref rt), (2, .ref 4), (3, .int ln)] [.ref (rt + 5 + 10 + ix ((ln * 8) + (mI M23 (rt + 3) (ix ln)))), .ref (18 + 5 + ix (mI M23 (rt + 2) (ix ln)))] M23
        refine V.callV (as := [.ref (rt + 5 + 10 + ix ((ln * 8) + (mI M23 (rt + 3) (ix ln))))]) (rest := []) F (by decide +kernel) lX2_52 bX1_copy ⟨1, _, ((q.sm s23.1).co (LnC.of (s23.a hr_rt 1 (by decide) _ rfl) (s23.a hr_rt 2 (by decide) _ rfl) (s23.a hr_rt 3 (by decide) _ rfl) hL).1.1), rfl, rfl⟩ (c_X1_copy G X.2.1 M23 (18 + 5 + ix (mI M23 (rt + 2) (ix ln))) (rt + 5 + 10 + ix ((ln * 8) + (mI M23 (rt + 3) (ix ln)))) ((q.sm s23.1).co (LnC.of (s23.a hr_rt 1 (by decide) _ rfl) (s23.a hr_rt 2 (by decide) _ rfl) (s23.a hr_rt 3 (by decide) _ rfl) hL).1.1) (Rt.ah (hr_rt.sm s23.1) (lpq i_ln (by first | exact (LnC.of (s23.a hr_rt 1 (by decide) _ rfl) (s23.a hr_rt 2 (by decide) _ rfl) (s23.a hr_rt 3 (by decide) _ rfl) hL).1.2.2.1 h76_1 | exact lnD (LnC.of (s23.a hr_rt 1 (by decide) _ rfl) (s23.a hr_rt 2 (by decide) _ rfl) (s23.a hr_rt 3 (by decide) _ rfl) hL) h76_0 h76_1 h76_2 h76_3 h76_4 h76_5)))) (rm_ok hRm hd (by decide) (by decide)) ⟨Nat.zero_le _, Nat.zero_le _⟩ (Nat.le_of_ble_eq_true rfl) (fun r_ N_ p_ => ?_)
        obtain ⟨rfl, rfl, t147⟩ := p_
        refine (?_ : ∀ (M150 : Mem), (SC wF M M150) → f_X2_workLine M rt ln = f_X2_workLine_c150 rt ln M150 → V G X 10 0 0 (Qx G X 0 0 (p_X2_workLine M rt ln)) 150 [(8, .ref (18 + 5 + ix (mI M23 (rt + 2) (ix ln)))), (7, .ref (rt + 5 + 10 + ix ((ln * 8) + (mI M23 (rt + 2) (ix ln))))), (6, .int (ln * 8)), (5, .int (mI M23 (rt + 3) (ix ln))), (4, .int (mI M23 (rt + 1) (ix ln))), (0, .ref 14), (1, .ref rt), (2, .ref 4), (3, .int ln)] [] M150) _ (SC.tr s23 (t147.sc (fun _ _ => rfl))) E
        intro M150 s150 E
        refine V.seg F floX2 cjoX2 [.goto 102] (by decide +kernel) (pc2 := 252) (lv2 := [(8, .ref (18 + 5 + ix (mI M23 (rt + 2) (ix ln)))), (7, .ref (rt + 5 + 10 + ix ((ln * 8) + (mI M23 (rt + 2) (ix ln))))), (6, .int (ln * 8)), (5, .int (mI M23 (rt + 3) (ix ln))), (4, .int (mI M23 (rt + 1) (ix ln))), (0, .ref 14), (1, .ref rt), (2, .ref 4), (3, .int ln)]) (st2 := []) (M2 := M150) rfl ⟨(by decide), trivial⟩ ?_
        refine V.pick [5, 6, 8] rfl ?_
        exact hJ252 M150 s150 E
      · replace E := E.trans (if_neg h76_1)
        by_cases h76_2 : (mI M23 (rt + 1) (ix ln)) = 22
        · replace E := E.trans (if_pos h76_2)
          refine V.swo (dflt := 137) (lo := 20) (hi := 27) (offs := #[48, 59, 77, 91, 91, 91, 128, 136]) (len := 48) (off := 77) (tgt := 153) F (by decide +kernel) (by rw [h76_2]; rfl) rfl (by decide) ?_
          refine V.seg F floX2 cjoX2 [.aload_n 0, .aload_n 2, .iload 5, .aload 7, .aload 8] (by decide +kernel) (pc2 := 161) (lv2 := [(8, .ref (18 + 5 + ix (mI M23 (rt + 2) (ix ln)))), (7, .ref (rt + 5 + 10 + ix ((ln * 8) + (mI M23 (rt + 2) (ix ln))))), (6, .int (ln * 8)), (5, .int (mI M23 (rt + 3) (ix ln))), (4, .int (mI M23 (rt + 1) (ix ln))), (0, .ref 14), (1, .ref rt), (2, .ref 4), (3, .int ln)]) (st2 := [.ref (18 + 5 + ix (mI M23 (rt + 2) (ix ln))), .ref (rt + 5 + 10 + ix ((ln * 8) + (mI M23 (rt + 2) (ix ln)))), .int (mI M23 (rt + 3) (ix ln)), .ref 4, .ref 14]) (M2 := M23) rfl ⟨trivial, trivial, trivial, trivial, trivial, trivial⟩ ?_
          refine V.callV (as := [.ref 4, .int (mI M23 (rt + 3) (ix ln)), .ref (rt + 5 + 10 + ix ((ln * 8) + (mI M23 (rt + 2) (ix ln)))), .ref (18 + 5 + ix (mI M23 (rt + 2) (ix ln)))]) (rest := []) F (by decide +kernel) lX2_97 bX2_lookUp ⟨2, _, ((q.sm s23.1).o 14 2 rfl), rfl, rfl⟩ (c_X2_lookUp G X.2.1 M23 (mI M23 (rt + 3) (ix ln)) (rt + 5 + 10 + ix ((ln * 8) + (mI M23 (rt + 2) (ix ln)))) (18 + 5 + ix (mI M23 (rt + 2) (ix ln))) (Rt.ah (hr_rt.sm s23.1) (lpq i_ln (LnC.of (s23.a hr_rt 1 (by decide) _ rfl) (s23.a hr_rt 2 (by decide) _ rfl) (s23.a hr_rt 3 (by decide) _ rfl) hL).1.1)) ((q.sm s23.1).co (LnC.of (s23.a hr_rt 1 (by decide) _ rfl) (s23.a hr_rt 2 (by decide) _ rfl) (s23.a hr_rt 3 (by decide) _ rfl) hL).1.1) (q.sm s23.1) ((LnC.of (s23.a hr_rt 1 (by decide) _ rfl) (s23.a hr_rt 2 (by decide) _ rfl) (s23.a hr_rt 3 (by decide) _ rfl) hL).1.2.2.2.1 h76_2) (cn.of (s23.2 10 _ rfl).1 (hT _ (vin_lt ((LnC.of (s23.a hr_rt 1 (by decide) _ rfl) (s23.a hr_rt 2 (by decide) _ rfl) (s23.a hr_rt 3 (by decide) _ rfl) hL).1.2.2.2.1 h76_2))))) (rm_ok hRm hd (by decide) (by decide)) ⟨Nat.zero_le _, Nat.zero_le _⟩ (Nat.le_of_ble_eq_true rfl) (fun r_ N_ p_ => ?_)
          obtain ⟨rfl, rfl, t161⟩ := p_
          refine (?_ : ∀ (M164 : Mem), (SC wF M M164) → f_X2_workLine M rt ln = f_X2_workLine_c164 rt ln M164 → V G X 10 0 0 (Qx G X 0 0 (p_X2_workLine M rt ln)) 164 [(8, .ref (18 + 5 + ix (mI M23 (rt + 2) (ix ln)))), (7, .ref (rt + 5 + 10 + ix ((ln * 8) + (mI M23 (rt + 2) (ix ln))))), (6, .int (ln * 8)), (5, .int (mI M23 (rt + 3) (ix ln))), (4, .int (mI M23 (rt + 1) (ix ln))), (0, .ref 14), (1, .ref rt), (2, .ref 4), (3, .int ln)] [] M164) _ (SC.tr s23 (t161.sc (fun _ _ => rfl))) E
          intro M164 s164 E
          refine V.seg F floX2 cjoX2 [.goto 88] (by decide +kernel) (pc2 := 252) (lv2 := [(8, .ref (18 + 5 + ix (mI M23 (rt + 2) (ix ln)))), (7, .ref (rt + 5 + 10 + ix ((ln * 8) + (mI M23 (rt + 2) (ix ln))))), (6, .int (ln * 8)), (5, .int (mI M23 (rt + 3) (ix ln))), (4, .int (mI M23 (rt + 1) (ix ln))), (0, .ref 14), (1, .ref rt), (2, .ref 4), (3, .int ln)]) (st2 := []) (M2 := M164) rfl ⟨(by decide), trivial⟩ ?_
          refine V.pick [5, 6, 8] rfl ?_
          exact hJ252 M164 s164 E
        · replace E := E.trans (if_neg h76_2)
          by_cases h76_3 : (mI M23 (rt + 1) (ix ln)) = 23 ∨ (mI M23 (rt + 1) (ix ln)) = 24 ∨ (mI M23 (rt + 1) (ix ln)) = 25
          · replace E := E.trans (if_pos h76_3)
            refine V.swo (dflt := 137) (lo := 20) (hi := 27) (offs := #[48, 59, 77, 91, 91, 91, 128, 136]) (len := 48) (off := 91) (tgt := 167) F (by decide +kernel) (by rcases h76_3 with h_ | h_ | h_ <;> rw [h_] <;> rfl) rfl (by decide) ?_
            refine V.seg F floX2 cjoX2 [.aload_n 0, .aload_n 1, .iload_n 3, .iconst 0] (by decide +kernel) (pc2 := 171) (lv2 := [(8, .ref (18 + 5 + ix (mI M23 (rt + 2) (ix ln)))), (7, .ref (rt + 5 + 10 + ix ((ln * 8) + (mI M23 (rt + 2) (ix ln))))), (6, .int (ln * 8)), (5, .int (mI M23 (rt + 3) (ix ln))), (4, .int (mI M23 (rt + 1) (ix ln))), (0, .ref 14), (1, .ref rt), (2, .ref 4), (3, .int ln)]) (st2 := [.int 0, .int ln, .ref rt, .ref 14]) (M2 := M23) rfl ⟨trivial, trivial, trivial, trivial, trivial⟩ ?_
            refine V.callV (as := [.ref rt, .int ln, .int 0]) (rest := []) F (by decide +kernel) lX2_101 bX2_branch ⟨2, _, ((q.sm s23.1).o 14 2 rfl), rfl, rfl⟩ (c_X2_branch G X.2.1 M23 rt ln 0 (hr_rt.sm s23.1) (Or.inl rfl) (q.sm s23.1) i_ln (vin_of (s23.a hr_rt 2 (by decide) _ rfl) hL.1.1) (fun z => lnBx h76_3 (s23.a hr_rt 1 (by decide) (ix ln) rfl) hL (s23.a hr_rt 1 (by decide) (ix ln) rfl) (s23.a hr_rt 3 (by decide) (ix ln) rfl) z)) (rm_ok hRm hd (by decide) (by decide)) ⟨Nat.zero_le _, Nat.zero_le _⟩ (Nat.le_of_ble_eq_true rfl) (fun r_ N_ p_ => ?_)
            obtain ⟨rfl, rfl, t171⟩ := p_
            refine (?_ : ∀ (M174 : Mem), (SC wF M M174) → f_X2_workLine M rt ln = f_X2_workLine_c174 rt ln M174 → V G X 10 0 0 (Qx G X 0 0 (p_X2_workLine M rt ln)) 174 [(8, .ref (18 + 5 + ix (mI M23 (rt + 2) (ix ln)))), (7, .ref (rt + 5 + 10 + ix ((ln * 8) + (mI M23 (rt + 2) (ix ln))))), (6, .int (ln * 8)), (5, .int (mI M23 (rt + 3) (ix ln))), (4, .int (mI M23 (rt + 1) (ix ln))), (0, .ref 14), (1, .ref rt), (2, .ref 4), (3, .int ln)] [] M174) _ (SC.tr s23 (t171.sc (fun _ _ => rfl))) E
            intro M174 s174 E
            refine V.seg F floX2 cjoX2 [.aload_n 0, .aload_n 1, .iload_n 3, .iconst 1, .iadd] (by decide +kernel) (pc2 := 179) (lv2 := [(8, .ref (18 + 5 + ix (mI M23 (rt + 2) (ix ln)))), (7, .ref (rt + 5 + 10 + ix ((ln * 8) + (mI M23 (rt + 2) (ix ln))))), (6, .int (ln * 8)), (5, .int (mI M23 (rt + 3) (ix ln))), (4, .int (mI M23 (rt + 1) (ix ln))), (0, .ref 14), (1, .ref rt), (2, .ref 4), (3, .int ln)]) (st2 := [.int (ln + 1), .ref rt, .ref 14]) (M2 := M174) rfl ⟨trivial, trivial, trivial, trivial, trivial, trivial⟩ ?_
            refine V.callV (as := [.ref rt, .int (ln + 1)]) (rest := []) F (by decide +kernel) lX2_56 bX2_send ⟨2, _, ((q.sm s174.1).o 14 2 rfl), rfl, rfl⟩ (c_X2_send G X.2.1 M174 rt (ln + 1) (hr_rt.sm s174.1) (q.sm s174.1) (cn.of (s174.r hr_rt 3 rfl) cR)) (rm_ok hRm hd (by decide) (by decide)) ⟨Nat.zero_le _, Nat.zero_le _⟩ (Nat.le_of_ble_eq_true rfl) (fun r_ N_ p_ => ?_)
            obtain ⟨rfl, rfl, t179⟩ := p_
            refine (?_ : ∀ (M182 : Mem), (SC wF M M182) → f_X2_workLine M rt ln = f_X2_workLine_c182 rt ln M182 → V G X 10 0 0 (Qx G X 0 0 (p_X2_workLine M rt ln)) 182 [(8, .ref (18 + 5 + ix (mI M23 (rt + 2) (ix ln)))), (7, .ref (rt + 5 + 10 + ix ((ln * 8) + (mI M23 (rt + 2) (ix ln))))), (6, .int (ln * 8)), (5, .int (mI M23 (rt + 3) (ix ln))), (4, .int (mI M23 (rt + 1) (ix ln))), (0, .ref 14), (1, .ref rt), (2, .ref 4), (3, .int ln)] [] M182) _ (SC.tr s174 t179) E
            intro M182 s182 E
            refine V.seg F floX2 cjoX2 [.aload_n 0, .aload_n 1, .iload_n 3] (by decide +kernel) (pc2 := 185) (lv2 := [(8, .ref (18 + 5 + ix (mI M23 (rt + 2) (ix ln)))), (7, .ref (rt + 5 + 10 + ix ((ln * 8) + (mI M23 (rt + 2) (ix ln))))), (6, .int (ln * 8)), (5, .int (mI M23 (rt + 3) (ix ln))), (4, .int (mI M23 (rt + 1) (ix ln))), (0, .ref 14), (1, .ref rt), (2, .ref 4), (3, .int ln)]) (st2 := [.int ln, .ref rt, .ref 14]) (M2 := M182) rfl ⟨trivial, trivial, trivial, trivial⟩ ?_
            refine V.callV (as := [.ref rt, .int ln]) (rest := []) F (by decide +kernel) lX2_81 bX2_fetch ⟨2, _, ((q.sm s182.1).o 14 2 rfl), rfl, rfl⟩ (c_X2_fetch G X.2.1 M182 rt ln (hr_rt.sm s182.1) (q.sm s182.1) i_ln) (rm_ok hRm hd (by decide) (by decide)) ⟨Nat.zero_le _, Nat.zero_le _⟩ (Nat.le_of_ble_eq_true rfl) (fun r_ N_ p_ => ?_)
            obtain ⟨rfl, rfl, t185⟩ := p_
            refine (?_ : ∀ (M188 : Mem), (SC wF M M188) → f_X2_workLine M rt ln = f_X2_workLine_c188 rt ln M188 → V G X 10 0 0 (Qx G X 0 0 (p_X2_workLine M rt ln)) 188 [(8, .ref (18 + 5 + ix (mI M23 (rt + 2) (ix ln)))), (7, .ref (rt + 5 + 10 + ix ((ln * 8) + (mI M23 (rt + 2) (ix ln))))), (6, .int (ln * 8)), (5, .int (mI M23 (rt + 3) (ix ln))), (4, .int (mI M23 (rt + 1) (ix ln))), (0, .ref 14), (1, .ref rt), (2, .ref 4), (3, .int ln)] [] M188) _ (SC.tr s182 (t185.sc (fun _ _ => rfl))) E
            intro M188 s188 E
            refine V.seg F floX2 cjoX2 [.aload_n 0, .aload_n 1, .iload_n 3, .iconst 1] (by decide +kernel) (pc2 := 192) (lv2 := [(8, .ref (18 + 5 + ix (mI M23 (rt + 2) (ix ln)))), (7, .ref (rt + 5 + 10 + ix ((ln * 8) + (mI M23 (rt + 2) (ix ln))))), (6, .int (ln * 8)), (5, .int (mI M23 (rt + 3) (ix ln))), (4, .int (mI M23 (rt + 1) (ix ln))), (0, .ref 14), (1, .ref rt), (2, .ref 4), (3, .int ln)]) (st2 := [.int 1, .int ln, .ref rt, .ref 14]) (M2 := M188) rfl ⟨trivial, trivial, trivial, trivial, trivial⟩ ?_
            refine V.callV (as := [.ref rt, .int ln, .int 1]) (rest := []) F (by decide +kernel) lX2_101 bX2_branch ⟨2, _, ((q.sm s188.1).o 14 2 rfl), rfl, rfl⟩ (c_X2_branch G X.2.1 M188 rt ln 1 (hr_rt.sm s188.1) (Or.inr rfl) (q.sm s188.1) i_ln (vin_of (s188.a hr_rt 2 (by decide) _ rfl) hL.1.1) (fun z => lnBx h76_3 (s23.a hr_rt 1 (by decide) (ix ln) rfl) hL (s188.a hr_rt 1 (by decide) (ix ln) rfl) (s188.a hr_rt 3 (by decide) (ix ln) rfl) z)) (rm_ok hRm hd (by decide) (by decide)) ⟨Nat.zero_le _, Nat.zero_le _⟩ (Nat.le_of_ble_eq_true rfl) (fun r_ N_ p_ => ?_)
            obtain ⟨rfl, rfl, t192⟩ := p_
            refine (?_ : ∀ (M195 : Mem), (SC wF M M195) → f_X2_workLine M rt ln = f_X2_workLine_c195 rt ln M195 → V G X 10 0 0 (Qx G X 0 0 (p_X2_workLine M rt ln)) 195 [(8, .ref (18 + 5 + ix (mI M23 (rt + 2) (ix ln)))), (7, .ref (rt + 5 + 10 + ix ((ln * 8) + (mI M23 (rt + 2) (ix ln))))), (6, .int (ln * 8)), (5, .int (mI M23 (rt + 3) (ix ln))), (4, .int (mI M23 (rt + 1) (ix ln))), (0, .ref 14), (1, .ref rt), (2, .ref 4), (3, .int ln)] [] M195) _ (SC.tr s188 (t192.sc (fun _ _ => rfl))) E
            intro M195 s195 E
            refine V.seg F floX2 cjoX2 [.aload_n 0, .aload_n 1, .iload_n 3, .iconst 2, .iadd] (by decide +kernel) (pc2 := 200) (lv2 := [(8, .ref (18 + 5 + ix (mI M23 (rt + 2) (ix ln)))), (7, .ref (rt + 5 + 10 + ix ((ln * 8) + (mI M23 (rt + 2) (ix ln))))), (6, .int (ln * 8)), (5, .int (mI M23 (rt + 3) (ix ln))), (4, .int (mI M23 (rt + 1) (ix ln))), (0, .ref 14), (1, .ref rt), (2, .ref 4), (3, .int ln)]) (st2 := [.int (ln + 2), .ref rt, .ref 14]) (M2 := M195) rfl ⟨trivial, trivial, trivial, trivial, trivial, trivial⟩ ?_
            refine V.callV (as := [.ref rt, .int (ln + 2)]) (rest := []) F (by decide +kernel) lX2_56 bX2_send ⟨2, _, ((q.sm s195.1).o 14 2 rfl), rfl, rfl⟩ (c_X2_send G X.2.1 M195 rt (ln + 2) (hr_rt.sm s195.1) (q.sm s195.1) (cn.of (s195.r hr_rt 3 rfl) cR)) (rm_ok hRm hd (by decide) (by decide)) ⟨Nat.zero_le _, Nat.zero_le _⟩ (Nat.le_of_ble_eq_true rfl) (fun r_ N_ p_ => ?_)
            obtain ⟨rfl, rfl, t200⟩ := p_
            refine (?_ : ∀ (M203 : Mem), (SC wF M M203) → f_X2_workLine M rt ln = f_X2_workLine_c203 M203 → V G X 10 0 0 (Qx G X 0 0 (p_X2_workLine M rt ln)) 203 [(8, .ref (18 + 5 + ix (mI M23 (rt + 2) (ix ln)))), (7, .ref (rt + 5 + 10 + ix ((ln * 8) + (mI M23 (rt + 2) (ix ln))))), (6, .int (ln * 8)), (5, .int (mI M23 (rt + 3) (ix ln))), (4, .int (mI M23 (rt + 1) (ix ln))), (0, .ref 14), (1, .ref rt), (2, .ref 4), (3, .int ln)] [] M203) _ (SC.tr s195 t200) E
            intro M203 s203 E
            exact V.vret F (by decide +kernel) ⟨rfl, E.symm, s203⟩
          · replace E := E.trans (if_neg h76_3)
            by_cases h76_4 : (mI M23 (rt + 1) (ix ln)) = 26
            · replace E := E.trans (if_pos h76_4)
              refine V.swo (dflt := 137) (lo := 20) (hi := 27) (offs := #[48, 59, 77, 91, 91, 91, 128, 136]) (len := 48) (off := 128) (tgt := 204) F (by decide +kernel) (by rw [h76_4]; rfl) rfl (by decide) ?_
              refine V.seg F floX2 cjoX2 [.aload_n 0, .aload_n 1, .iload 5] (by decide +kernel) (pc2 := 208) (lv2 := [(8, .ref (18 + 5 + ix (mI M23 (rt + 2) (ix ln)))), (7, .ref (rt + 5 + 10 + ix ((ln * 8) + (mI M23 (rt + 2) (ix ln))))), (6, .int (ln * 8)), (5, .int (mI M23 (rt + 3) (ix ln))), (4, .int (mI M23 (rt + 1) (ix ln))), (0, .ref 14), (1, .ref rt), (2, .ref 4), (3, .int ln)]) (st2 := [.int (mI M23 (rt + 3) (ix ln)), .ref rt, .ref 14]) (M2 := M23) rfl ⟨trivial, trivial, trivial, trivial⟩ ?_
              refine V.callV (as := [.ref rt, .int (mI M23 (rt + 3) (ix ln))]) (rest := []) F (by decide +kernel) lX2_56 bX2_send ⟨2, _, ((q.sm s23.1).o 14 2 rfl), rfl, rfl⟩ (c_X2_send G X.2.1 M23 rt (mI M23 (rt + 3) (ix ln)) (hr_rt.sm s23.1) (q.sm s23.1) (cn.of (s23.r hr_rt 3 rfl) cR)) (rm_ok hRm hd (by decide) (by decide)) ⟨Nat.zero_le _, Nat.zero_le _⟩ (Nat.le_of_ble_eq_true rfl) (fun r_ N_ p_ => ?_)
              obtain ⟨rfl, rfl, t208⟩ := p_
              refine (?_ : ∀ (M211 : Mem), (SC wF M M211) → f_X2_workLine M rt ln = f_X2_workLine_c211 M211 → V G X 10 0 0 (Qx G X 0 0 (p_X2_workLine M rt ln)) 211 [(8, .ref (18 + 5 + ix (mI M23 (rt + 2) (ix ln)))), (7, .ref (rt + 5 + 10 + ix ((ln * 8) + (mI M23 (rt + 2) (ix ln))))), (6, .int (ln * 8)), (5, .int (mI M23 (rt + 3) (ix ln))), (4, .int (mI M23 (rt + 1) (ix ln))), (0, .ref 14), (1, .ref rt), (2, .ref 4), (3, .int ln)] [] M211) _ (SC.tr s23 t208) E
              intro M211 s211 E
              exact V.vret F (by decide +kernel) ⟨rfl, E.symm, s211⟩
            · replace E := E.trans (if_neg h76_4)
              by_cases h76_5 : (mI M23 (rt + 1) (ix ln)) = 27
              · replace E := E.trans (if_pos h76_5)
                refine V.swo (dflt := 137) (lo := 20) (hi := 27) (offs := #[48, 59, 77, 91, 91, 91, 128, 136]) (len := 48) (off := 136) (tgt := 212) F (by decide +kernel) (by rw [h76_5]; rfl) rfl (by decide) ?_
                exact V.vret F (by decide +kernel) ⟨rfl, E.symm, s23⟩
              · replace E := E.trans (if_neg h76_5)
                refine V.swo (dflt := 137) (lo := 20) (hi := 27) (offs := #[48, 59, 77, 91, 91, 91, 128, 136]) (len := 48) (off := 137) (tgt := 213) F (by decide +kernel) (sw_dflt 8 (by decide) (h := fun k_ hk_ e_ => match k_, hk_, e_ with | 0, _, e_ => absurd ((e_.trans (by decide))) h76_0 | 1, _, e_ => absurd ((e_.trans (by decide))) h76_1 | 2, _, e_ => absurd ((e_.trans (by decide))) h76_2 | 3, _, e_ => absurd (Or.inl (e_.trans (by decide))) h76_3 | 4, _, e_ => absurd (Or.inr (Or.inl (e_.trans (by decide)))) h76_3 | 5, _, e_ => absurd (Or.inr (Or.inr ((e_.trans (by decide))))) h76_3 | 6, _, e_ => absurd ((e_.trans (by decide))) h76_4 | 7, _, e_ => absurd ((e_.trans (by decide))) h76_5 | k_ + 8, hk_, _ => absurd hk_ (by omega))) rfl (by decide) ?_
                refine V.seg F floX2 cjoX2 [.aload_n 1, .getfield 75, .iload 6, .iload 5, .iadd] (by decide +kernel) (pc2 := 222) (lv2 := [(8, .ref (18 + 5 + ix (mI M23 (rt + 2) (ix ln)))), (7, .ref (rt + 5 + 10 + ix ((ln * 8) + (mI M23 (rt + 2) (ix ln))))), (6, .int (ln * 8)), (5, .int (mI M23 (rt + 3) (ix ln))), (4, .int (mI M23 (rt + 1) (ix ln))), (0, .ref 14), (1, .ref rt), (2, .ref 4), (3, .int ln)]) (st2 := [.int ((ln * 8) + (mI M23 (rt + 3) (ix ln))), .ref (rt + 5)]) (M2 := M23) rfl ⟨trivial, (Rt.f (hr_rt.sm s23.1) 5 rfl), trivial, trivial, trivial, trivial⟩ ?_
                refine V.aald (kd := 26) F (by decide +kernel) (Rt.a (hr_rt.sm s23.1) 5 26 256 rfl (lpq i_ln (by first | exact (LnC.of (s23.a hr_rt 1 (by decide) _ rfl) (s23.a hr_rt 2 (by decide) _ rfl) (s23.a hr_rt 3 (by decide) _ rfl) hL).1.2.2.1 h76_1 | exact lnD (LnC.of (s23.a hr_rt 1 (by decide) _ rfl) (s23.a hr_rt 2 (by decide) _ rfl) (s23.a hr_rt 3 (by decide) _ rfl) hL) h76_0 h76_1 h76_2 h76_3 h76_4 h76_5))) ⟨by decide, by decide⟩ (Rt.aB (hr_rt.sm s23.1) (lpq i_ln (by first | exact (LnC.of (s23.a hr_rt 1 (by decide) _ rfl) (s23.a hr_rt 2 (by decide) _ rfl) (s23.a hr_rt 3 (by decide) _ rfl) hL).1.2.2.1 h76_1 | exact lnD (LnC.of (s23.a hr_rt 1 (by decide) _ rfl) (s23.a hr_rt 2 (by decide) _ rfl) (s23.a hr_rt 3 (by decide) _ rfl) hL) h76_0 h76_1 h76_2 h76_3 h76_4 h76_5))) ?_
                show V G X 10 0 0 (Qx G X 0 0 (p_X2_workLine M rt ln)) 223 [(8, .ref (18 + 5 + ix (mI M23 (rt + 2) (ix ln)))), (7, .ref (rt + 5 + 10 + ix ((ln * 8) + (mI M23 (rt + 2) (ix ln))))), (6, .int (ln * 8)), (5, .int (mI M23 (rt + 3) (ix ln))), (4, .int (mI M23 (rt + 1) (ix ln))), (0, .ref 14), (1, .ref rt), (2, .ref 4), (3, .int ln)] [.ref (rt + 5 + 10 + ix ((ln * 8) + (mI M23 (rt + 3) (ix ln))))] M23
                refine V.seg F floX2 cjoX2 [.astore 9, .aload_n 0, .getfield 12, .iload 4, .iload 4, .bipush 12] (by decide +kernel) (pc2 := 235) (lv2 := [(9, .ref (rt + 5 + 10 + ix ((ln * 8) + (mI M23 (rt + 3) (ix ln))))), (8, .ref (18 + 5 + ix (mI M23 (rt + 2) (ix ln)))), (7, .ref (rt + 5 + 10 + ix ((ln * 8) + (mI M23 (rt + 2) (ix ln))))), (6, .int (ln * 8)), (5, .int (mI M23 (rt + 3) (ix ln))), (4, .int (mI M23 (rt + 1) (ix ln))), (0, .ref 14), (1, .ref rt), (2, .ref 4), (3, .int ln)]) (st2 := [.int 12, .int (mI M23 (rt + 1) (ix ln)), .int (mI M23 (rt + 1) (ix ln)), .ref 15]) (M2 := M23) rfl ⟨(by decide), trivial, ((q.sm s23.1).f 14 2 0 rfl), trivial, trivial, trivial, trivial⟩ ?_
                have hJ245 : ∀ (w0_245 : Nat) (M245 : Mem), (isO M w0_245 1) → (SC wF M M245) → f_X2_workLine M rt ln = f_X2_workLine_245 rt ln M23 w0_245 M245 → V G X 10 0 0 (Qx G X 0 0 (p_X2_workLine M rt ln)) 245 [(0, .ref 14), (1, .ref rt), (3, .int ln), (8, .ref (18 + 5 + ix (mI M23 (rt + 2) (ix ln)))), (9, .ref (rt + 5 + 10 + ix ((ln * 8) + (mI M23 (rt + 3) (ix ln)))))] [.ref w0_245, .int (mI M23 (rt + 1) (ix ln)), .ref 15] M245 := by
                  intro w0_245 M245 ow0_245 s245 E
                  refine V.seg F floX2 cjoX2 [.aload 9, .aload 8] (by decide +kernel) (pc2 := 249) (lv2 := [(0, .ref 14), (1, .ref rt), (3, .int ln), (8, .ref (18 + 5 + ix (mI M23 (rt + 2) (ix ln)))), (9, .ref (rt + 5 + 10 + ix ((ln * 8) + (mI M23 (rt + 3) (ix ln)))))]) (st2 := [.ref (18 + 5 + ix (mI M23 (rt + 2) (ix ln))), .ref (rt + 5 + 10 + ix ((ln * 8) + (mI M23 (rt + 3) (ix ln)))), .ref w0_245, .int (mI M23 (rt + 1) (ix ln)), .ref 15]) (M2 := M245) rfl ⟨trivial, trivial, trivial⟩ ?_
                  refine V.callV (as := [.int (mI M23 (rt + 1) (ix ln)), .ref w0_245, .ref (rt + 5 + 10 + ix ((ln * 8) + (mI M23 (rt + 3) (ix ln)))), .ref (18 + 5 + ix (mI M23 (rt + 2) (ix ln)))]) (rest := []) F (by decide +kernel) lX2_105 bX0_work ⟨0, _, ((q.sm s245.1).o 15 0 rfl), rfl, rfl⟩ (c_X0_work G X.2.1 M245 15 (mI M23 (rt + 1) (ix ln)) w0_245 (rt + 5 + 10 + ix ((ln * 8) + (mI M23 (rt + 3) (ix ln)))) (18 + 5 + ix (mI M23 (rt + 2) (ix ln))) (q.sm s245.1) (Or.inr rfl) (ow0_245.sm s245.1) (Rt.ah (hr_rt.sm s245.1) (lpq i_ln (by first | exact (LnC.of (s23.a hr_rt 1 (by decide) _ rfl) (s23.a hr_rt 2 (by decide) _ rfl) (s23.a hr_rt 3 (by decide) _ rfl) hL).1.2.2.1 h76_1 | exact lnD (LnC.of (s23.a hr_rt 1 (by decide) _ rfl) (s23.a hr_rt 2 (by decide) _ rfl) (s23.a hr_rt 3 (by decide) _ rfl) hL) h76_0 h76_1 h76_2 h76_3 h76_4 h76_5))) ((q.sm s245.1).co (LnC.of (s23.a hr_rt 1 (by decide) _ rfl) (s23.a hr_rt 2 (by decide) _ rfl) (s23.a hr_rt 3 (by decide) _ rfl) hL).1.1)) (rm_ok hRm hd (by decide) (by decide)) ⟨Nat.zero_le _, Nat.zero_le _⟩ (Nat.le_of_ble_eq_true rfl) (fun r_ N_ p_ => ?_)
                  obtain ⟨rfl, rfl, t249⟩ := p_
                  refine (?_ : ∀ (M252 : Mem), (SC wF M M252) → f_X2_workLine M rt ln = f_X2_workLine_c252 rt ln M252 → V G X 10 0 0 (Qx G X 0 0 (p_X2_workLine M rt ln)) 252 [(0, .ref 14), (1, .ref rt), (3, .int ln), (8, .ref (18 + 5 + ix (mI M23 (rt + 2) (ix ln)))), (9, .ref (rt + 5 + 10 + ix ((ln * 8) + (mI M23 (rt + 3) (ix ln)))))] [] M252) _ (SC.tr s245 (t249.sc (fun _ _ => rfl))) E
                  intro M252 s252 E
                  refine V.pick [0, 1, 2] rfl ?_
                  exact hJ252 M252 s252 E
                refine V.ic_ge (off := 8) F (by decide +kernel) (tgt := 243) (by decide) (fun h235 => ?_) (fun h235 => ?_)
                · replace E := E.trans (if_pos h235)
                  refine V.seg F floX2 cjoX2 [.aload 9] (by decide +kernel) (pc2 := 245) (lv2 := [(9, .ref (rt + 5 + 10 + ix ((ln * 8) + (mI M23 (rt + 3) (ix ln))))), (8, .ref (18 + 5 + ix (mI M23 (rt + 2) (ix ln)))), (7, .ref (rt + 5 + 10 + ix ((ln * 8) + (mI M23 (rt + 2) (ix ln))))), (6, .int (ln * 8)), (5, .int (mI M23 (rt + 3) (ix ln))), (4, .int (mI M23 (rt + 1) (ix ln))), (0, .ref 14), (1, .ref rt), (2, .ref 4), (3, .int ln)]) (st2 := [.ref (rt + 5 + 10 + ix ((ln * 8) + (mI M23 (rt + 3) (ix ln)))), .int (mI M23 (rt + 1) (ix ln)), .ref 15]) (M2 := M23) rfl ⟨trivial, trivial⟩ ?_
                  refine V.pick [6, 7, 9, 1, 0] rfl ?_
                  exact hJ245 (rt + 5 + 10 + ix ((ln * 8) + (mI M23 (rt + 3) (ix ln)))) M23 (Rt.ah hr_rt (lpq i_ln (by first | exact (LnC.of (s23.a hr_rt 1 (by decide) _ rfl) (s23.a hr_rt 2 (by decide) _ rfl) (s23.a hr_rt 3 (by decide) _ rfl) hL).1.2.2.1 h76_1 | exact lnD (LnC.of (s23.a hr_rt 1 (by decide) _ rfl) (s23.a hr_rt 2 (by decide) _ rfl) (s23.a hr_rt 3 (by decide) _ rfl) hL) h76_0 h76_1 h76_2 h76_3 h76_4 h76_5))) s23 E
                · replace E := E.trans (if_neg h235)
                  refine V.seg F floX2 cjoX2 [.aload 7, .goto 5] (by decide +kernel) (pc2 := 245) (lv2 := [(9, .ref (rt + 5 + 10 + ix ((ln * 8) + (mI M23 (rt + 3) (ix ln))))), (8, .ref (18 + 5 + ix (mI M23 (rt + 2) (ix ln)))), (7, .ref (rt + 5 + 10 + ix ((ln * 8) + (mI M23 (rt + 2) (ix ln))))), (6, .int (ln * 8)), (5, .int (mI M23 (rt + 3) (ix ln))), (4, .int (mI M23 (rt + 1) (ix ln))), (0, .ref 14), (1, .ref rt), (2, .ref 4), (3, .int ln)]) (st2 := [.ref (rt + 5 + 10 + ix ((ln * 8) + (mI M23 (rt + 2) (ix ln)))), .int (mI M23 (rt + 1) (ix ln)), .ref 15]) (M2 := M23) rfl ⟨trivial, (by decide), trivial⟩ ?_
                  refine V.pick [6, 7, 9, 1, 0] rfl ?_
                  exact hJ245 (rt + 5 + 10 + ix ((ln * 8) + (mI M23 (rt + 2) (ix ln)))) M23 (Rt.ah hr_rt (lpq i_ln (LnC.of (s23.a hr_rt 1 (by decide) _ rfl) (s23.a hr_rt 2 (by decide) _ rfl) (s23.a hr_rt 3 (by decide) _ rfl) hL).1.1)) s23 E
  · replace E := E.trans (if_pos h6)
    exact V.vret F (by decide +kernel) ⟨rfl, E.symm, (SC.rf (w := wF))⟩
