theorem cn34 {x : Int32} (c : cn x 32) : vp_in x 34 := by
  have h := c.2
  rw [c.1]
  exact vp_in_nI (by omega) (by decide)
theorem imin_in {x y : Int32} (h : ¬ x < 0) (c : cn y 32) : vp_in (imin x y) 34 := by
  unfold imin
  split
  · exact cn34 c
  · rename_i h1
    obtain ⟨j, hj, rfl⟩ := nI_of h
    have h2 := c.2
    rw [c.1] at h1
    have h3 : ¬ ix y < j := fun q => h1 ((nI_ltI (by omega) hj).mpr q)
    exact vp_in_nI (by omega) (by decide)
theorem cn0 {N : Nat} : cn 0 N := ⟨by decide, Nat.zero_le _⟩
theorem cn_s {y k : Int32} (c : cn y (ix k)) (hk : k = nI (ix k)) (hb : ix k < 2 ^ 31 - 1) (h : ¬ k ≤ y) : cn (y + 1) (ix k) ∧ ix (y + 1) = ix y + 1 := by
  have h1 := c.2
  rw [c.1] at h
  have h2 := cnt_lt h hk (by omega) (by omega)
  have e : y + 1 = nI (ix y + 1) := addN c.1 (rfl : (1 : Int32) = nI 1)
  have e2 : ix (y + 1) = ix y + 1 := by rw [e, ix_n (by omega)]
  exact ⟨⟨by rw [e2]; exact e, by omega⟩, e2⟩
theorem step_ge {M : Mem} {rt : Nat} (i_n : vp_in (mI M 31 2) 32) (hL : LnC (mI M (rt + 1) (ix (mI M 31 2))) (mI M (rt + 2) (ix (mI M 31 2))) (mI M (rt + 3) (ix (mI M 31 2)))) : (f_X4_step M rt).1 = -1 ∨ ¬ (f_X4_step M rt).1 < 0 := by
  have n1 : ¬ (mI M 31 2 + 1) < 0 := fun q => ln1 i_n (Or.inl q)
  have n2 : ¬ (mI M 31 2 + 2) < 0 := fun q => ln2 i_n (Or.inl q)
  have kl : ∀ a t, mI (f_X4_lookUp M a t).2 31 2 = mI M 31 2 := fun a t => by
    unfold f_X4_lookUp
    split <;> rfl
  have kc : ∀ o a b, mI (f_X4_compute M o a b).2 31 2 = mI M 31 2 := fun o a b => by
    unfold f_X4_compute
    split
    · split <;> rfl
    · rfl
  unfold f_X4_step f_X4_step_c127 f_X4_step_c257 f_X4_step_140 f_X4_step_174 f_X4_step_208 f_X4_step_241 f_X4_step_270
  split
  · exact Or.inr n1
  · split
    · exact Or.inr n1
    · split
      · split
        · exact Or.inl rfl
        · exact Or.inr (by rw [kl]; exact n1)
      · split
        · split
          · exact Or.inr n2
          · exact Or.inr n1
        · split
          · split
            · exact Or.inr n1
            · exact Or.inr n2
          · split
            · split
              · exact Or.inr n2
              · exact Or.inr n1
            · split
              · rename_i h
                exact Or.inr (fun q => hL.1.2.2.2.2.2 h (Or.inl q))
              · split
                · exact Or.inr (show ¬ (32 : Int32) < 0 by decide)
                · split
                  · exact Or.inl rfl
                  · exact Or.inr (by rw [kc]; exact n1)
theorem lnAt {w : Nat × Nat → Nat → Bool} {M N : Mem} {rt : Nat} {r : Int32} {L : Nat} (s : SC w M N) (hr : Rt M rt) (w1 : ∀ k, w (20, 32) k = false) (hLn : ∀ l : Nat, l < L → LnC (mI M (rt + 1) (ix (nI l))) (mI M (rt + 2) (ix (nI l))) (mI M (rt + 3) (ix (nI l)))) (hv : vp_in r 34) (e : mI N 31 2 = r) (lt : ix r < L) : LnC (mI N (rt + 1) (ix (mI N 31 2))) (mI N (rt + 2) (ix (mI N 31 2))) (mI N (rt + 3) (ix (mI N 31 2))) := by
  rw [e, s.a hr 1 (by decide) _ (w1 _), s.a hr 2 (by decide) _ (w1 _), s.a hr 3 (by decide) _ (w1 _)]
  have h := hLn (ix r) lt
  rw [← ixv hv (by decide)] at h
  exact h
theorem wm1 {c c' : Prop} [Decidable c] [Decidable c'] {k y y' n : Nat} (h : (if c then k - y + 1 else 0) < n + 1) (he : c) (hy : y' ≤ k) (hs : c' → y' = y + 1) : (if c' then k - y' + 1 else 0) < n := by
  rw [if_pos he] at h
  split
  · rename_i h2
    have := hs h2
    omega
  · omega
def f_X4_begin_149 (y5_43 : Int32) (M149 : Mem) : Int32 × Mem := (y5_43, M149)
def f_X4_begin_146 (y5_43 : Int32) (w0_146 : Int32) (M146 : Mem) : Int32 × Mem := f_X4_begin_149 y5_43 (uI M146 31 1 w0_146)
def f_X4_begin_116 (rt : Nat) (y5_43 : Int32) (y6_43 : Int32) (M116 : Mem) : Int32 × Mem := if y6_43 = 0 then f_X4_begin_149 y5_43 (uI M116 31 1 2) else if (mI M116 rt 3) ≤ (mI M116 31 2) then f_X4_begin_146 y5_43 1 M116 else f_X4_begin_146 y5_43 3 M116
def f_X4_begin_113 (R43_ : Int32 → Int32 → Mem → (Int32 × Mem)) (w0_90 : Int32) (y5_113 : Int32) (M113 : Mem) : Int32 × Mem := R43_ y5_113 w0_90 M113
def f_X4_begin_90 (rt : Nat) (y5_43 : Int32) (R43_ : Int32 → Int32 → Mem → (Int32 × Mem)) (x77 : Int32) (w0_90 : Int32) (M90 : Mem) : Int32 × Mem := if w0_90 = 0 then f_X4_begin_113 R43_ w0_90 y5_43 M90 else f_X4_begin_113 R43_ w0_90 (y5_43 + 1) (uI M90 31 2 (imin x77 (mI M90 rt 3)))
def f_X4_begin_c77 (rt : Nat) (y5_43 : Int32) (R43_ : Int32 → Int32 → Mem → (Int32 × Mem)) (x77 : Int32) (M77 : Mem) : Int32 × Mem := if x77 = ((-1)) then f_X4_begin_90 rt y5_43 R43_ x77 0 M77 else f_X4_begin_90 rt y5_43 R43_ x77 1 M77
def f_X4_begin_c71 (rt : Nat) (y5_43 : Int32) (R43_ : Int32 → Int32 → Mem → (Int32 × Mem)) (M71 : Mem) : Int32 × Mem := f_X4_begin_c77 rt y5_43 R43_ ((f_X4_step M71 rt).1) ((f_X4_step M71 rt).2)
def f_X4_begin_43 (rt : Nat) (k : Int32) : Nat → Int32 → Int32 → Mem → (Int32 × Mem)
  | 0, _, _, M43 => (0, M43)
  | n43_ + 1, y5_43, y6_43, M43 => if y6_43 = 0 then f_X4_begin_116 rt y5_43 y6_43 M43 else if k ≤ y5_43 then f_X4_begin_116 rt y5_43 y6_43 M43 else if (mI M43 rt 3) ≤ (mI M43 31 2) then f_X4_begin_116 rt y5_43 y6_43 M43 else f_X4_begin_c71 rt y5_43 (f_X4_begin_43 rt k n43_) (f_X4_look M43 rt)
def f_X4_begin_3 (rt : Nat) (k : Int32) : Nat → Nat → Mem → (Int32 × Mem)
  | 0, _, M3 => (0, M3)
  | n_ + 1, j3, M3 => if 8 ≤ (nI j3) then f_X4_begin_43 rt k (ix k + 2) 0 1 (uI (uI M3 31 2 0) 31 3 ((-1))) else (f_X4_begin_3 rt k n_) (j3 + 1) (uL M3 32 (ix (nI j3)) (mL M3 33 (ix (nI j3))))
def f_X4_begin (M : Mem) (rt : Nat) (k : Int32) : Int32 × Mem := f_X4_begin_3 rt k 9 0 M
abbrev p_X4_begin (M : Mem) (rt : Nat) (k : Int32) : Option Value → Mem → Prop := fun r N => r = some (.int (f_X4_begin M rt k).1) ∧ N = (f_X4_begin M rt k).2 ∧ SC wR M N
set_option maxRecDepth 100000 in
set_option maxHeartbeats 4000000 in
theorem c_X4_begin (G : Ctx) (l : Launch) (M : Mem) (rt : Nat) (k : Int32) (hr_rt : Rt M rt) (q : Ok M) (cR : cn (mI M rt 3) 32) (hLn : ∀ l : Nat, l < ix (mI M rt 3) → LnC (mI M (rt + 1) (ix (nI l))) (mI M (rt + 2) (ix (nI l))) (mI M (rt + 3) (ix (nI l)))) (hT : Ts M) (hk : cn k 1000) : CT G l 3 mX4_begin [.ref 31, .ref rt, .ref 4, .ref 33, .int k] M 0 0 (p_X4_begin M rt k) := by
  refine CT.of (by decide) (Nat.le_of_ble_eq_true rfl) ?_
  intro X d hd hl hRm hnm F
  subst hl
  have E : f_X4_begin M rt k = f_X4_begin M rt k := rfl
  show V G X 8 0 0 (Qx G X 0 0 (p_X4_begin M rt k)) 0 [(0, .ref 31), (1, .ref rt), (2, .ref 4), (3, .ref 33), (4, .int k)] [] M
  refine V.seg F floX4 cjoX4 [.iconst 0] (by decide +kernel) (pc2 := 1) (lv2 := [(0, .ref 31), (1, .ref rt), (2, .ref 4), (3, .ref 33), (4, .int k)]) (st2 := [.int 0]) (M2 := M) rfl ⟨trivial, trivial⟩ ?_
  refine V.seg F floX4 cjoX4 [.istore 5] (by decide +kernel) (pc2 := 3) (lv2 := [(5, .int 0), (0, .ref 31), (1, .ref rt), (2, .ref 4), (3, .ref 33), (4, .int k)]) (st2 := []) (M2 := M) rfl ⟨(by decide), trivial⟩ ?_
  have hJ3 : ∀ (n_ : Nat) (j3 : Nat) (M3 : Mem), (SC wR M M3) → (j3 ≤ 8) → (8 - j3 < n_) → f_X4_begin M rt k = f_X4_begin_3 rt k n_ j3 M3 → V G X 8 0 0 (Qx G X 0 0 (p_X4_begin M rt k)) 3 [(0, .ref 31), (1, .ref rt), (2, .ref 4), (3, .ref 33), (4, .int k), (5, .int (nI j3))] [] M3 := by
    intro n_
    induction n_ with
    | zero => intro j3 M3 s3 b3 m3 E; omega
    | succ n_ ih_3 =>
      intro j3 M3 s3 b3 m3 E
      rw [f_X4_begin_3] at E
      refine V.seg F floX4 cjoX4 [.iload 5, .bipush 8] (by decide +kernel) (pc2 := 7) (lv2 := [(0, .ref 31), (1, .ref rt), (2, .ref 4), (3, .ref 33), (4, .int k), (5, .int (nI j3))]) (st2 := [.int 8, .int (nI j3)]) (M2 := M3) rfl ⟨trivial, trivial, trivial⟩ ?_
      refine V.ic_ge (off := 20) F (by decide +kernel) (tgt := 27) (by decide) (fun h7 => ?_) (fun h7 => ?_)
      · replace E := E.trans (if_pos h7)
        refine V.seg F floX4 cjoX4 [.aload_n 0, .iconst 0, .putfield 19, .aload_n 0, .iconst (-1), .putfield 22, .iconst 0, .istore 5, .iconst 1] (by decide +kernel) (pc2 := 41) (lv2 := [(5, .int 0), (0, .ref 31), (1, .ref rt), (2, .ref 4), (3, .ref 33), (4, .int k)]) (st2 := [.int 1]) (M2 := uI (uI M3 31 2 0) 31 3 ((-1))) rfl ⟨trivial, trivial, ((q.sm s3.1).o 31 4 rfl), trivial, trivial, ((q.sm (SC.pI s3 rfl).1).o 31 4 rfl), trivial, (by decide), trivial, trivial⟩ ?_
        refine V.seg F floX4 cjoX4 [.istore 6] (by decide +kernel) (pc2 := 43) (lv2 := [(6, .int 1), (5, .int 0), (0, .ref 31), (1, .ref rt), (2, .ref 4), (3, .ref 33), (4, .int k)]) (st2 := []) (M2 := uI (uI M3 31 2 0) 31 3 ((-1))) rfl ⟨(by decide), trivial⟩ ?_
        have hJ43 : ∀ (n43_ : Nat) (y5_43 : Int32) (y6_43 : Int32) (M43 : Mem), (SC wR M M43) → (cn y5_43 (ix k)) → (vp_in (mI M43 31 2) 34) → ((if ¬ y6_43 = 0 then ix k - ix y5_43 + 1 else 0) < n43_) → f_X4_begin M rt k = f_X4_begin_43 rt k n43_ y5_43 y6_43 M43 → V G X 8 0 0 (Qx G X 0 0 (p_X4_begin M rt k)) 43 [(0, .ref 31), (1, .ref rt), (2, .ref 4), (4, .int k), (5, .int y5_43), (6, .int y6_43)] [] M43 := by
          intro n43_
          induction n43_ with
          | zero => intro y5_43 y6_43 M43 s43 c43 n43 m43 E; omega
          | succ n43_ ih_43 =>
            intro y5_43 y6_43 M43 s43 c43 n43 m43 E
            rw [f_X4_begin_43] at E
            refine V.seg F floX4 cjoX4 [.iload 6] (by decide +kernel) (pc2 := 45) (lv2 := [(0, .ref 31), (1, .ref rt), (2, .ref 4), (4, .int k), (5, .int y5_43), (6, .int y6_43)]) (st2 := [.int y6_43]) (M2 := M43) rfl ⟨trivial, trivial⟩ ?_
            have hJ116 : ∀ (M116 : Mem), (SC wR M M116) → f_X4_begin M rt k = f_X4_begin_116 rt y5_43 y6_43 M116 → V G X 8 0 0 (Qx G X 0 0 (p_X4_begin M rt k)) 116 [(0, .ref 31), (1, .ref rt), (5, .int y5_43), (6, .int y6_43)] [] M116 := by
              intro M116 s116 E
              refine V.seg F floX4 cjoX4 [.iload 6] (by decide +kernel) (pc2 := 118) (lv2 := [(0, .ref 31), (1, .ref rt), (5, .int y5_43), (6, .int y6_43)]) (st2 := [.int y6_43]) (M2 := M116) rfl ⟨trivial, trivial⟩ ?_
              have hJ149 : ∀ (M149 : Mem), (SC wR M M149) → f_X4_begin M rt k = f_X4_begin_149 y5_43 M149 → V G X 8 0 0 (Qx G X 0 0 (p_X4_begin M rt k)) 149 [(5, .int y5_43)] [] M149 := by
                intro M149 s149 E
                refine V.seg F floX4 cjoX4 [.iload 5] (by decide +kernel) (pc2 := 151) (lv2 := [(5, .int y5_43)]) (st2 := [.int y5_43]) (M2 := M149) rfl ⟨trivial, trivial⟩ ?_
                exact V.iret F (by decide +kernel) ⟨congrArg (fun z => some (Value.int z.1)) E.symm, congrArg Prod.snd E.symm, s149⟩
              refine V.if_ne (off := 11) F (by decide +kernel) (tgt := 129) (by decide) (fun h118 => ?_) (fun h118 => ?_)
              · replace E := E.trans (if_neg h118)
                refine V.seg F floX4 cjoX4 [.aload_n 0, .aload_n 0, .getfield 19, .aload_n 1, .getfield 25] (by decide +kernel) (pc2 := 138) (lv2 := [(0, .ref 31), (1, .ref rt), (5, .int y5_43), (6, .int y6_43)]) (st2 := [.int (mI M116 rt 3), .int (mI M116 31 2), .ref 31]) (M2 := M116) rfl ⟨trivial, trivial, ((q.sm s116.1).o 31 4 rfl), trivial, (Rt.o (hr_rt.sm s116.1)), trivial⟩ ?_
                have hJ146 : ∀ (w0_146 : Int32) (M146 : Mem), (SC wR M M146) → f_X4_begin M rt k = f_X4_begin_146 y5_43 w0_146 M146 → V G X 8 0 0 (Qx G X 0 0 (p_X4_begin M rt k)) 146 [(5, .int y5_43)] [.int w0_146, .ref 31] M146 := by
                  intro w0_146 M146 s146 E
                  refine V.seg F floX4 cjoX4 [.putfield 15] (by decide +kernel) (pc2 := 149) (lv2 := [(5, .int y5_43)]) (st2 := []) (M2 := uI M146 31 1 w0_146) rfl ⟨((q.sm s146.1).o 31 4 rfl), trivial⟩ ?_
                  refine V.pick [0] rfl ?_
                  exact hJ149 (uI M146 31 1 w0_146) (SC.pI s146 rfl) E
                refine V.ic_ge (off := 7) F (by decide +kernel) (tgt := 145) (by decide) (fun h138 => ?_) (fun h138 => ?_)
                · replace E := E.trans (if_pos h138)
                  refine V.seg F floX4 cjoX4 [.iconst 1] (by decide +kernel) (pc2 := 146) (lv2 := [(0, .ref 31), (1, .ref rt), (5, .int y5_43), (6, .int y6_43)]) (st2 := [.int 1, .ref 31]) (M2 := M116) rfl ⟨trivial, trivial⟩ ?_
                  refine V.pick [2] rfl ?_
                  exact hJ146 1 M116 s116 E
                · replace E := E.trans (if_neg h138)
                  refine V.seg F floX4 cjoX4 [.iconst 3, .goto 4] (by decide +kernel) (pc2 := 146) (lv2 := [(0, .ref 31), (1, .ref rt), (5, .int y5_43), (6, .int y6_43)]) (st2 := [.int 3, .ref 31]) (M2 := M116) rfl ⟨trivial, (by decide), trivial⟩ ?_
                  refine V.pick [2] rfl ?_
                  exact hJ146 3 M116 s116 E
              · replace E := E.trans (if_pos h118)
                refine V.seg F floX4 cjoX4 [.aload_n 0, .iconst 2, .putfield 15, .goto 23] (by decide +kernel) (pc2 := 149) (lv2 := [(0, .ref 31), (1, .ref rt), (5, .int y5_43), (6, .int y6_43)]) (st2 := []) (M2 := uI M116 31 1 2) rfl ⟨trivial, trivial, ((q.sm s116.1).o 31 4 rfl), (by decide), trivial⟩ ?_
                refine V.pick [2] rfl ?_
                exact hJ149 (uI M116 31 1 2) (SC.pI s116 rfl) E
            refine V.if_eq (off := 71) F (by decide +kernel) (tgt := 116) (by decide) (fun h45 => ?_) (fun h45 => ?_)
            · replace E := E.trans (if_pos h45)
              refine V.pick [0, 1, 4, 5] rfl ?_
              exact hJ116 M43 s43 E
            · replace E := E.trans (if_neg h45)
              refine V.seg F floX4 cjoX4 [.iload 5, .iload 4] (by decide +kernel) (pc2 := 52) (lv2 := [(0, .ref 31), (1, .ref rt), (2, .ref 4), (4, .int k), (5, .int y5_43), (6, .int y6_43)]) (st2 := [.int k, .int y5_43]) (M2 := M43) rfl ⟨trivial, trivial, trivial⟩ ?_
              refine V.ic_ge (off := 64) F (by decide +kernel) (tgt := 116) (by decide) (fun h52 => ?_) (fun h52 => ?_)
              · replace E := E.trans (if_pos h52)
                refine V.pick [0, 1, 4, 5] rfl ?_
                exact hJ116 M43 s43 E
              · replace E := E.trans (if_neg h52)
                refine V.seg F floX4 cjoX4 [.aload_n 0, .getfield 19, .aload_n 1, .getfield 25] (by decide +kernel) (pc2 := 63) (lv2 := [(0, .ref 31), (1, .ref rt), (2, .ref 4), (4, .int k), (5, .int y5_43), (6, .int y6_43)]) (st2 := [.int (mI M43 rt 3), .int (mI M43 31 2)]) (M2 := M43) rfl ⟨trivial, ((q.sm s43.1).o 31 4 rfl), trivial, (Rt.o (hr_rt.sm s43.1)), trivial⟩ ?_
                refine V.ic_ge (off := 53) F (by decide +kernel) (tgt := 116) (by decide) (fun h63 => ?_) (fun h63 => ?_)
                · replace E := E.trans (if_pos h63)
                  refine V.pick [0, 1, 4, 5] rfl ?_
                  exact hJ116 M43 s43 E
                · replace E := E.trans (if_neg h63)
                  refine V.seg F floX4 cjoX4 [.aload_n 0, .aload_n 1] (by decide +kernel) (pc2 := 68) (lv2 := [(0, .ref 31), (1, .ref rt), (2, .ref 4), (4, .int k), (5, .int y5_43), (6, .int y6_43)]) (st2 := [.ref rt, .ref 31]) (M2 := M43) rfl ⟨trivial, trivial, trivial⟩ ?_
                  refine V.callV (as := [.ref rt]) (rest := []) F (by decide +kernel) lX4_30 bX4_look ⟨4, _, ((q.sm s43.1).o 31 4 rfl), rfl, rfl⟩ (c_X4_look G X.2.1 M43 rt (hr_rt.sm s43.1) (q.sm s43.1) (ln32 n43 (cn.of (s43.r hr_rt 3 rfl) cR) h63)) (rm_ok hRm hd (by decide) (by decide)) ⟨Nat.zero_le _, Nat.zero_le _⟩ (Nat.le_of_ble_eq_true rfl) (fun r_ N_ p_ => ?_)
                  obtain ⟨rfl, rfl, t68⟩ := p_
                  refine (?_ : ∀ (M71 : Mem), (SC wR M M71) → (mI M71 31 2 = mI M43 31 2) → f_X4_begin M rt k = f_X4_begin_c71 rt y5_43 (f_X4_begin_43 rt k n43_) M71 → V G X 8 0 0 (Qx G X 0 0 (p_X4_begin M rt k)) 71 [(0, .ref 31), (1, .ref rt), (2, .ref 4), (4, .int k), (5, .int y5_43), (6, .int y6_43)] [] M71) _ (SC.tr s43 (t68.mono sub_wK_wR)) (t68.2 31 2 rfl).1 E
                  intro M71 s71 e71 E
                  refine V.seg F floX4 cjoX4 [.aload_n 0, .aload_n 1, .aload_n 2] (by decide +kernel) (pc2 := 74) (lv2 := [(0, .ref 31), (1, .ref rt), (2, .ref 4), (4, .int k), (5, .int y5_43), (6, .int y6_43)]) (st2 := [.ref 4, .ref rt, .ref 31]) (M2 := M71) rfl ⟨trivial, trivial, trivial, trivial⟩ ?_
                  refine V.callV (as := [.ref rt, .ref 4]) (rest := []) F (by decide +kernel) lX4_34 bX4_step ⟨4, _, ((q.sm s71.1).o 31 4 rfl), rfl, rfl⟩ (c_X4_step G X.2.1 M71 rt (hr_rt.sm s71.1) (q.sm s71.1) (vin_of e71 (ln32 n43 (cn.of (s43.r hr_rt 3 rfl) cR) h63)) (fun t ht => cn.of (s71.2 10 t rfl).1 (hT t ht)) (lnAt s71 hr_rt (fun _ => rfl) hLn n43 e71 (by have e_ := (s43.r hr_rt 3 rfl); have h_ := ixlt (cn.of (s43.r hr_rt 3 rfl) cR) n43 h63 (by decide) (by decide); rw [e_] at h_; exact h_))) (rm_ok hRm hd (by decide) (by decide)) ⟨Nat.zero_le _, Nat.zero_le _⟩ (Nat.le_of_ble_eq_true rfl) (fun r_ N_ p_ => ?_)
                  obtain ⟨rfl, rfl, t74⟩ := p_
                  refine (?_ : ∀ (x77 : Int32) (M77 : Mem), (SC wR M M77) → (x77 = -1 ∨ ¬ x77 < 0) → (vp_in (mI M77 31 2) 34) → f_X4_begin M rt k = f_X4_begin_c77 rt y5_43 (f_X4_begin_43 rt k n43_) x77 M77 → V G X 8 0 0 (Qx G X 0 0 (p_X4_begin M rt k)) 77 [(0, .ref 31), (1, .ref rt), (2, .ref 4), (4, .int k), (5, .int y5_43), (6, .int y6_43)] [.int x77] M77) _ _ (SC.tr s71 (t74.mono sub_wN_wR)) (step_ge (vin_of e71 (ln32 n43 (cn.of (s43.r hr_rt 3 rfl) cR) h63)) (lnAt s71 hr_rt (fun _ => rfl) hLn n43 e71 (by have e_ := (s43.r hr_rt 3 rfl); have h_ := ixlt (cn.of (s43.r hr_rt 3 rfl) cR) n43 h63 (by decide) (by decide); rw [e_] at h_; exact h_))) (vin_of (t74.2 31 2 rfl).1 (vin_of e71 n43)) E
                  intro x77 M77 s77 g77 n77 E
                  refine V.seg F floX4 cjoX4 [.istore 7, .iload 7, .iconst (-1)] (by decide +kernel) (pc2 := 82) (lv2 := [(7, .int x77), (0, .ref 31), (1, .ref rt), (2, .ref 4), (4, .int k), (5, .int y5_43), (6, .int y6_43)]) (st2 := [.int ((-1)), .int x77]) (M2 := M77) rfl ⟨(by decide), trivial, trivial, trivial⟩ ?_
                  have hJ90 : ∀ (w0_90 : Int32) (M90 : Mem), (SC wR M M90) → (w0_90 = 0 ∨ ¬ x77 < 0) → (vp_in (mI M90 31 2) 34) → f_X4_begin M rt k = f_X4_begin_90 rt y5_43 (f_X4_begin_43 rt k n43_) x77 w0_90 M90 → V G X 8 0 0 (Qx G X 0 0 (p_X4_begin M rt k)) 90 [(0, .ref 31), (1, .ref rt), (2, .ref 4), (4, .int k), (5, .int y5_43), (7, .int x77)] [.int w0_90] M90 := by
                    intro w0_90 M90 s90 g90 n90 E
                    refine V.seg F floX4 cjoX4 [.istore 6, .iload 6] (by decide +kernel) (pc2 := 94) (lv2 := [(6, .int w0_90), (0, .ref 31), (1, .ref rt), (2, .ref 4), (4, .int k), (5, .int y5_43), (7, .int x77)]) (st2 := [.int w0_90]) (M2 := M90) rfl ⟨(by decide), trivial, trivial⟩ ?_
                    have hJ113 : ∀ (y5_113 : Int32) (M113 : Mem), (SC wR M M113) → (cn y5_113 (ix k) ∧ (¬ w0_90 = 0 → ix y5_113 = ix y5_43 + 1)) → (vp_in (mI M113 31 2) 34) → f_X4_begin M rt k = f_X4_begin_113 (f_X4_begin_43 rt k n43_) w0_90 y5_113 M113 → V G X 8 0 0 (Qx G X 0 0 (p_X4_begin M rt k)) 113 [(0, .ref 31), (1, .ref rt), (2, .ref 4), (4, .int k), (5, .int y5_113), (6, .int w0_90)] [] M113 := by
                      intro y5_113 M113 s113 c113 n113 E
                      refine V.seg F floX4 cjoX4 [.goto (-70)] (by decide +kernel) (pc2 := 43) (lv2 := [(0, .ref 31), (1, .ref rt), (2, .ref 4), (4, .int k), (5, .int y5_113), (6, .int w0_90)]) (st2 := []) (M2 := M113) rfl ⟨(by decide), trivial⟩ ?_
                      refine V.pick [0, 1, 2, 3, 4, 5] rfl ?_
                      exact ih_43 y5_113 w0_90 M113 s113 (by exact c113.1) (by exact n113) (by exact wm1 m43 h45 c113.1.2 c113.2) E
                    refine V.if_eq (off := 19) F (by decide +kernel) (tgt := 113) (by decide) (fun h94 => ?_) (fun h94 => ?_)
                    · replace E := E.trans (if_pos h94)
                      refine V.pick [1, 2, 3, 4, 5, 0] rfl ?_
                      exact hJ113 y5_43 M90 s90 (by first | exact ⟨c43, fun z => absurd h94 z⟩ | exact ⟨(cn_s c43 hk.1 (by have h_ := hk.2; omega) h52).1, fun _ => (cn_s c43 hk.1 (by have h_ := hk.2; omega) h52).2⟩) (by first | exact n90 | exact vin_of mI_uI (imin_in (g90.resolve_left h94) (cn.of (s90.r hr_rt 3 rfl) cR))) E
                    · replace E := E.trans (if_neg h94)
                      refine V.seg F floX4 cjoX4 [.aload_n 0, .iload 7, .aload_n 1, .getfield 25] (by decide +kernel) (pc2 := 104) (lv2 := [(6, .int w0_90), (0, .ref 31), (1, .ref rt), (2, .ref 4), (4, .int k), (5, .int y5_43), (7, .int x77)]) (st2 := [.int (mI M90 rt 3), .int x77, .ref 31]) (M2 := M90) rfl ⟨trivial, trivial, trivial, (Rt.o (hr_rt.sm s90.1)), trivial⟩ ?_
                      refine V.mminI (st := [.ref 31]) F (by decide +kernel) lX4_38 (rm_ok hRm hd (by decide) (by decide)) ⟨Nat.zero_le _, Nat.zero_le _⟩ (Nat.le_of_ble_eq_true rfl) ?_
                      refine V.seg F floX4 cjoX4 [.putfield 19, .iinc 5 1] (by decide +kernel) (pc2 := 113) (lv2 := [(5, .int (y5_43 + 1)), (6, .int w0_90), (0, .ref 31), (1, .ref rt), (2, .ref 4), (4, .int k), (7, .int x77)]) (st2 := []) (M2 := uI M90 31 2 (imin x77 (mI M90 rt 3))) rfl ⟨((q.sm s90.1).o 31 4 rfl), (by decide), trivial⟩ ?_
                      refine V.pick [2, 3, 4, 5, 0, 1] rfl ?_
                      exact hJ113 (y5_43 + 1) (uI M90 31 2 (imin x77 (mI M90 rt 3))) (SC.pI s90 rfl) (by first | exact ⟨c43, fun z => absurd h94 z⟩ | exact ⟨(cn_s c43 hk.1 (by have h_ := hk.2; omega) h52).1, fun _ => (cn_s c43 hk.1 (by have h_ := hk.2; omega) h52).2⟩) (by first | exact n90 | exact vin_of mI_uI (imin_in (g90.resolve_left h94) (cn.of (s90.r hr_rt 3 rfl) cR))) E
                  refine V.ic_eq (off := 7) F (by decide +kernel) (tgt := 89) (by decide) (fun h82 => ?_) (fun h82 => ?_)
                  · replace E := E.trans (if_pos h82)
                    refine V.seg F floX4 cjoX4 [.iconst 0] (by decide +kernel) (pc2 := 90) (lv2 := [(7, .int x77), (0, .ref 31), (1, .ref rt), (2, .ref 4), (4, .int k), (5, .int y5_43), (6, .int y6_43)]) (st2 := [.int 0]) (M2 := M77) rfl ⟨trivial, trivial⟩ ?_
                    refine V.pick [1, 2, 3, 4, 5, 0] rfl ?_
                    exact hJ90 0 M77 s77 (by first | exact Or.inl rfl | exact Or.inr (g77.resolve_left h82)) (by exact n77) E
                  · replace E := E.trans (if_neg h82)
                    refine V.seg F floX4 cjoX4 [.iconst 1, .goto 4] (by decide +kernel) (pc2 := 90) (lv2 := [(7, .int x77), (0, .ref 31), (1, .ref rt), (2, .ref 4), (4, .int k), (5, .int y5_43), (6, .int y6_43)]) (st2 := [.int 1]) (M2 := M77) rfl ⟨trivial, (by decide), trivial⟩ ?_
                    refine V.pick [1, 2, 3, 4, 5, 0] rfl ?_
                    exact hJ90 1 M77 s77 (by first | exact Or.inl rfl | exact Or.inr (g77.resolve_left h82)) (by exact n77) E
        refine V.pick [2, 3, 4, 6, 1, 0] rfl ?_
        exact hJ43 _ 0 1 (uI (uI M3 31 2 0) 31 3 ((-1))) (SC.pI (SC.pI s3 rfl) rfl) (by exact cn0) (by exact vin_of (mI_uI_nk (by decide)) (vin_of mI_uI (vinc (by decide)))) (by rw [if_pos (by decide)]; omega) E
      · replace E := E.trans (if_neg h7)
        refine V.seg F floX4 cjoX4 [.aload_n 0, .getfield 9, .iload 5, .aload_n 3, .iload 5, .laload, .lastore, .iinc 5 1, .goto (-21)] (by decide +kernel) (pc2 := 3) (lv2 := [(5, .int ((nI j3) + 1)), (0, .ref 31), (1, .ref rt), (2, .ref 4), (3, .ref 33), (4, .int k)]) (st2 := []) (M2 := uL M3 32 (ix (nI j3)) (mL M3 33 (ix (nI j3)))) rfl ⟨trivial, ((q.sm s3.1).f 31 4 0 rfl), trivial, trivial, trivial, ((q.sm s3.1).a 33 22 8 rfl (vnj (cnt_lt (n := 8) h7 rfl (by omega) (by decide)) (by decide) (by decide))), ((q.sm s3.1).a 32 22 8 rfl (vnj (cnt_lt (n := 8) h7 rfl (by omega) (by decide)) (by decide) (by decide))), (by decide), (by decide), trivial⟩ ?_
        refine V.pick [1, 2, 3, 4, 5, 0] rfl ?_
        rw [nI_1]
        exact ih_3 (j3 + 1) (uL M3 32 (ix (nI j3)) (mL M3 33 (ix (nI j3)))) (SC.pL s3 rfl) (by have hlt_ := cnt_lt (n := 8) h7 rfl (by omega) (by decide); omega) (by have hlt_ := cnt_lt (n := 8) h7 rfl (by omega) (by decide); omega) E
  refine V.pick [1, 2, 3, 4, 5, 0] rfl ?_
  exact hJ3 _ 0 M (SC.rf (w := wR)) (by omega) (by omega) E
