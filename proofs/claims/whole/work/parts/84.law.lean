/-! THE LAW'S LOOP: at its head both hold the same (Iv); each of the seventeen calls keeps it and is answered alike -/
theorem vp28 {op : Int32} (h0 : 0 ≤ op) (h1 : op ≤ 27) : vp_in op 28 := by
  have a := Int32.le_iff_toInt_le.mp h0
  have b := Int32.le_iff_toInt_le.mp h1
  rw [show (0 : Int32).toInt = 0 from rfl] at a
  rw [show (27 : Int32).toInt = 27 from rfl] at b
  intro h
  rcases h with h | h
  · have := Int32.lt_iff_toInt_lt.mp h
    rw [show (0 : Int32).toInt = 0 from rfl] at this
    omega
  · rw [Int32.toNatClampNeg] at h
    omega
theorem lnG_c {op a b : Int32} (h : LnG op a b) : LnC op a b := by
  obtain ⟨h0, h1, ⟨i, hi, e⟩, h2, h3, -, h5⟩ := h
  have g8 : ∀ {z : Int32}, (∃ i, i < 8 ∧ z = nI i) → vp_in z 8 := fun ⟨j, hj, ej⟩ => by rw [ej]; exact vp_in_nI hj (by decide)
  refine ⟨⟨g8 ⟨i, hi, e⟩, fun q => g8 (h2 (Or.inl (Int32.not_le.mp q))), fun q => g8 (h2 (Or.inr (Or.inl q))), fun q => ?_, fun q1 q2 q3 => g8 (h2 ?_), fun q => ?_⟩, vp28 h0 h1⟩
  · obtain ⟨j, hj, ej⟩ := h3 q
    rw [ej]; exact vp_in_nI hj (by decide)
  · have a := Int32.lt_iff_toInt_lt.mp (Int32.not_le.mp q1)
    have b := Int32.lt_iff_toInt_lt.mp (Int32.not_le.mp q2)
    rw [show (22 : Int32).toInt = 22 from rfl] at a
    rw [show (26 : Int32).toInt = 26 from rfl] at b
    have c : ¬ op.toInt = 25 := fun z => q3 (Int32.toInt.inj (z.trans (show (25 : Int) = (25 : Int32).toInt from rfl)))
    rcases (show op.toInt = 23 ∨ op.toInt = 24 by omega) with z | z
    · exact Or.inr (Or.inr (Or.inl (Int32.toInt.inj (z.trans (show (23 : Int) = (23 : Int32).toInt from rfl)))))
    · exact Or.inr (Or.inr (Or.inr (Int32.toInt.inj (z.trans (show (24 : Int) = (24 : Int32).toInt from rfl)))))
  · obtain ⟨j, hj, ej⟩ := h5 q
    rw [ej]; exact vp_in_nI (by omega) (by decide)
theorem cn_n {n N : Nat} (h : n ≤ N) (hN : N < 2 ^ 31) : cn (nI n) N := by
  refine ⟨?_, ?_⟩
  · rw [ix_n (by omega)]
  · rw [ix_n (by omega)]; exact h
def Iv (c : Nat) (M : Mem) : Prop := Rl c M M ∧ Ok M ∧ Gb M ∧ mK M = 73 + 271 * c ∧ ∀ n, n < c → Rt M (74 + 271 * n) ∧ mB M 3 n = true
section IV
variable {c : Nat} {M N N1 N2 : Mem}
theorem Iv.rl (I : Iv c M) : Rl c M M := I.1
theorem Iv.ok (I : Iv c M) : Ok M := I.2.1
theorem Iv.rs (I : Iv c M) : Rs M := by
  obtain ⟨⟨-, hS, hM, -⟩, -, -, -, hR⟩ := I
  have hc := hS.1
  refine ⟨by rw [hS.2.1]; exact cn_n hc (by decide), fun n hn => ?_⟩
  rw [hS.2.1, ix_n (by omega)] at hn
  obtain ⟨k, k1, k2, k3, k4, -⟩ := hM n hn
  have k2 : mI M (74 + 271 * n) 3 = nI k := k2
  refine ⟨(hR n hn).1, (hR n hn).2, by rw [k2]; exact cn_n k1 (by decide), fun l hl => ?_⟩
  rw [k2, ix_n (by omega)] at hl
  rw [ix_n (show l < 2 ^ 31 by omega)]
  obtain ⟨e1, e2, e3⟩ := k4 l hl
  exact LnC.of e1 e2 e3 (lnG_c (hS.2.2.2.2.2.2.2.2 _))
theorem Iv.ts (I : Iv c M) : Ts M := by
  intro t ht
  obtain ⟨n, h1, h2, -⟩ := I.1.2.1.2.2.2.2.2.1 t ht
  rw [h2]; exact cn_n h1 (by decide)
theorem Rl.prem (R : Rl c M N) : cn (mI N 52 9) 6 ∧ (∀ m, m < 6 → cn (mI N 60 m) 32) ∧ (∀ t, t < 4 → cn (mI N 64 t) 16) ∧ ∀ k, LnOK (mI N 61 k) (mI N 62 k) (mI N 63 k) := by
  obtain ⟨-, hS, hM, -⟩ := R
  refine ⟨by rw [hS.2.2.1]; exact cn_n hS.1 (by decide), fun m hm => ?_, fun t ht => ?_, fun k => (lnG_c (hS.2.2.2.2.2.2.2.2 k)).1⟩
  · by_cases h : m < c
    · obtain ⟨n, h1, -, h3, -⟩ := hM m h
      rw [h3]; exact cn_n h1 (by decide)
    · rw [hS.2.2.2.2.2.2.2.1 m (by omega)]; exact cn_n (n := 0) (by omega) (by decide)
  · obtain ⟨n, h1, -, h3, -⟩ := hS.2.2.2.2.2.1 t ht
    rw [h3]; exact cn_n h1 (by decide)
theorem Iv.mid (I : Iv c M) (k : CK M N) : Rl c M N ∧ Ok N ∧ Gb N := by
  refine ⟨I.1.mid k, I.2.1.sm ⟨k.1, k.2.1⟩, fun f hf => ?_⟩
  rw [(k.2.2 58 f (by decide) (by decide)).2]
  exact I.2.2.1 f hf
theorem Iv.nx (I : Iv c M) {α : Type} {x y : α × Mem} (e1 : N1 = x.2) (e2 : N2 = y.2) (T : Tk c M N1 x y) (g : Gb N2) : x.1 = y.1 ∧ Iv c N2 := by
  obtain ⟨t1, t2, t3, t4⟩ := T
  rw [← e1] at t2 t3
  rw [← e2] at t2 t4
  have s : Sm M N2 := ⟨t4.1.trans t3.1, t4.2.1.trans t3.2.1⟩
  refine ⟨t1, t2.aft t4 rfl, I.2.1.sm s, g, ?_, fun n hn => ⟨(I.2.2.2.2 n hn).1.sm s, ?_⟩⟩
  · show N2.1 = _
    rw [s.1]; exact I.2.2.2.1
  · show N2.2.1 3 n = true
    rw [s.2]; exact (I.2.2.2.2 n hn).2
theorem ft3 {k : Nat} (h : (ft 3 k).1 = 2) : k < 7 ∧ ¬ k = 3 := by
  by_cases h9 : k < 9
  · exact (show ∀ k, k < 9 → (ft 3 k).1 = 2 → k < 7 ∧ ¬ k = 3 by decide) k h9 h
  · unfold ft at h
    rw [show FTt.getD 3 [] = [(2, 1), (2, 2), (2, 3), (0, 0), (2, 4), (2, 5), (2, 6), (3, 0), (0, 0)] from rfl, List.getD_eq_getElem?_getD, List.getElem?_eq_none (by simp; omega)] at h
    cases h
/-- method: either both are full, or both have one more -/
theorem Iv.meth (I : Iv c M) (e1 : N1 = (f_X6_method M c).2) : Rl c M N1 ∧ Ok N1 ∧ Gb N1 ∧ ((f_X6_method M c).1 = (f_X7_method N1).1) ∧ (N2 = (f_X7_method N1).2 → Gb N2 → ∃ c', Iv c' N2) := by
  have hk : M.1 = 73 + 271 * c := I.2.2.2.1
  have A0 := (ag_method I.1 hk).2
  rw [← e1] at A0
  rcases A0 with ⟨c6, a1, -⟩ | ⟨cl, -, b2, b3, b4, b5, b6, b7, b8, -⟩
  · subst a1
    have A := ag_method I.1 hk
    refine ⟨I.1, I.2.1, I.2.2.1, A.1, fun e2 g => ⟨c, ?_⟩⟩
    rcases A.2 with ⟨-, -, z⟩ | ⟨z, -⟩
    · rw [e2, z]; exact I
    · omega
  · have R1 : Rl c M N1 := I.1.cg (fun _ _ _ => ⟨rfl, rfl⟩) b3
    have A := ag_method R1 hk
    have q1 : Ok N1 := ⟨by show 73 ≤ N1.1; omega, fun a k ha hr => b4 a k (by omega) (I.2.1.2 a k ha hr)⟩
    refine ⟨R1, q1, fun f hf => by rw [(b3 58 f (by decide) (by decide)).2]; exact I.2.2.1 f hf, A.1, fun e2 g => ⟨c + 1, ?_⟩⟩
    rcases A.2 with ⟨z, -⟩ | ⟨-, z1, -, -, -, -, -, -, -, z2⟩
    · omega
    · rw [← e2] at z1 z2
      rw [← e1] at z1
      have s : Sm N1 N2 := ⟨z2.1, z2.2.1⟩
      refine ⟨z1.aft z2 rfl, q1.sm s, g, ?_, fun n hn => ⟨Rt.sm ?_ s, ?_⟩⟩
      · show N2.1 = _
        rw [s.1]; exact b2
      · by_cases h : n = c
        · subst h
          exact ⟨n, cl, rfl, by show _ ≤ N1.1; omega, fun k hk => b6 k (ft3 hk).1 (ft3 hk).2, b7, b8⟩
        · obtain ⟨i, h1, h2, h3, h4, h5, h6⟩ := (I.2.2.2.2 n (by omega)).1
          have h3 : 74 + 271 * n + 270 ≤ M.1 := h3
          exact ⟨i, h1, h2, by show _ ≤ N1.1; omega, fun k hk => b4 _ _ (by omega) (h4 k hk), fun j hj => b4 _ _ (by omega) (h5 j hj), fun j hj => b4 _ _ (by omega) (h6 j hj)⟩
      · show N2.2.1 3 n = true
        rw [s.2]
        by_cases h : n = c
        · subst h; exact b5
        · exact b4 3 n (by omega) (I.2.2.2.2 n (by omega)).2
end IV
/-- the start -/
theorem rfB_k {a k : Nat} (ha : a ≤ 73) (h : rfB a k = true) : k < 32 := by
  have h1 : ∀ c, c < 9 → (FTt.getD c []).length ≤ 32 := by decide
  have h2 : ∀ a, a < 74 → ((SH a).1 = 23 ∨ (SH a).1 = 24 ∨ (SH a).1 = 28) → (SH a).2 ≤ 32 := by decide +kernel
  unfold rfB at h
  simp only [Bool.or_eq_true, Bool.and_eq_true, decide_eq_true_eq] at h
  rcases h with ⟨h3, h4⟩ | ⟨h3, h4⟩
  · refine Nat.lt_of_not_le fun q => ?_
    unfold ft at h4
    rw [List.getD_eq_getElem?_getD, List.getElem?_eq_none (Nat.le_trans (h1 _ (by omega)) q)] at h4
    cases h4
  · have := h2 a (by omega) (by rcases h3 with (h3 | h3) | h3 <;> simp [h3])
    omega
set_option maxRecDepth 100000 in
theorem z_B : ((List.range 74).all fun a => (List.range 32).all fun k => !(rfB a k) || (decide (a ≤ 51) && mB (f_X6_init (mN M00)) a k) || (decide (a = 52) && decide (k ∈ l52))) = true := by decide +kernel
theorem start_iv {N : Mem} (e : N = f_X7_init (mN (f_X6_init (mN M00)))) : Iv 0 N := by
  obtain ⟨N', e', h1, h2, h3, h4, h5⟩ := start_law
  have hB := z_B
  generalize f_X6_init (mN M00) = A at hB e e' h4
  have e9 : N = N' := e.trans e'
  subst e9
  refine ⟨h1, ⟨by show 73 ≤ N.1; omega, fun a k ha hr => ?_⟩, h3, h2, fun n hn => absurd hn (by omega)⟩
  have hk := rfB_k ha hr
  have hB := List.all_eq_true.mp (List.all_eq_true.mp hB a (List.mem_range.mpr (by omega))) k (List.mem_range.mpr hk)
  rw [hr] at hB
  simp only [Bool.not_true, Bool.false_or, Bool.or_eq_true, Bool.and_eq_true, decide_eq_true_eq] at hB
  rcases hB with ⟨z1, z2⟩ | ⟨z1, z2⟩
  · exact h4 a k z1 z2
  · rw [z1]; exact h5 k z2
/-- what stays the same during the law's walk -/
def Cx (G : Ctx) (X : Xt) (L : Nat) (xs : Nat → Int32) : Prop := Fx G X RL code 4 ret ∧ va_X G.2.1 L xs X.2.2.2.2.1 X.2.2.2.2.1.heap ∧ G.2.1 < X.2.2.2.2.1.heap.size ∧ G.1 = X.2.2.2.2.1.heap.size ∧ X.2.2.2.1 = room_1 ∧ L ≤ 3072
def Lv (t : Nat) : List (Nat × Value) := [(3, .int (nI t)), (2, .ref 52), (1, .ref 1), (0, .ref 0)]
def lg2 (a b : Int32) : Int64 := jshl a.toInt64 32 ||| (b.toInt64 &&& 4294967295)
section LW
variable {G : Ctx} {X : Xt} {L : Nat} {xs : Nat → Int32} {cells slots : Nat} {Q : State → Prop} {pc : Nat} {lv : List (Nat × Value)} {st : List Value} {M : Mem}
theorem V.sld (C : Cx G X L xs) {nL : Nat} {i : Int32} (hd : decode code pc = .ok (.iaload, 1)) (hi : vp_in i L) (k : V G X nL cells slots Q (pc + 1) lv (.int (xs i.toNatClampNeg) :: st) M) : V G X nL cells slots Q pc lv (.int i :: .ref 0 :: st) M := by
  intro H locs ls hl hR hS
  obtain ⟨p, l, e, R, s, m, args, below, meth, c0⟩ := X
  obtain ⟨⟨hx, hb, -⟩, hX, hbl, hG, -⟩ := C
  exact va_sld (A := fun q => G.1 ≤ q) hx hb hX hbl (by show ¬ G.1 ≤ G.2.1; rw [hG]; exact Nat.not_le.mpr hbl) hS hi hd (k H locs ls hl hR hS)
theorem V.slen (C : Cx G X L xs) {nL : Nat} (hd : decode code pc = .ok (.arraylength, 1)) (k : V G X nL cells slots Q (pc + 1) lv (.int (nI L) :: st) M) : V G X nL cells slots Q pc lv (.ref 0 :: st) M := by
  intro H locs ls hl hR hS
  obtain ⟨p, l, e, R, s, m, args, below, meth, c0⟩ := X
  obtain ⟨⟨hx, hb, -⟩, hX, hbl, hG, -⟩ := C
  exact va_slen (A := fun q => G.1 ≤ q) hx hb hX hbl (by show ¬ G.1 ≤ G.2.1; rw [hG]; exact Nat.not_le.mpr hbl) hS hd (k H locs ls hl hR hS)
theorem icon {k : Nat} (h : k < 6) : Int32.ofInt (k : Int) = nI k := (show ∀ k : Nat, k < 6 → Int32.ofInt (k : Int) = nI k by decide) k h
theorem V.arg (C : Cx G X L xs) {t k : Nat} (hL : t + 6 ≤ L) (hk : k < 6) (hd : decs code [.aload_n 0, .iload_n 3, .iconst (k : Int), .iadd] pc = true) (hd2 : decode code (pc + 4) = .ok (.iaload, 1)) (kk : V G X 4 cells slots Q (pc + 5) (Lv t) (.int (xs (t + k)) :: st) M) : V G X 4 cells slots Q pc (Lv t) st M := by
  have hl := C.2.2.2.2.2
  refine V.seg C.1 floL cjoL [.aload_n 0, .iload_n 3, .iconst (k : Int), .iadd] hd (pc2 := pc + 4) (lv2 := Lv t) (st2 := .int (nI t + Int32.ofInt (k : Int)) :: .ref 0 :: st) (M2 := M) rfl ⟨trivial, trivial, trivial, trivial, trivial⟩ ?_
  rw [icon hk, nI_p]
  refine V.sld C hd2 (vp_in_nI (by omega) (by omega)) ?_
  rw [nI_clamp (by omega)]
  exact kk
theorem V.arl (C : Cx G X L xs) {t k : Nat} (hL : t + 6 ≤ L) (hk : k < 5) (hd : decs code [.aload_n 0, .iload_n 3, .iconst (k : Int), .iadd] pc = true) (hd2 : decode code (pc + 4) = .ok (.iaload, 1)) (hd3 : decs code [.i2l, .bipush 32, .lshl] (pc + 5) = true)
    (hd4 : decs code [.aload_n 0, .iload_n 3, .iconst ((k + 1 : Nat) : Int), .iadd] (pc + 9) = true) (hd5 : decode code (pc + 9 + 4) = .ok (.iaload, 1)) (hd6 : decs code [.i2l, .ldc2_w 13, .land, .lor] (pc + 14) = true)
    (kk : V G X 4 cells slots Q (pc + 20) (Lv t) (.long (lg2 (xs (t + k)) (xs (t + k + 1))) :: st) M) : V G X 4 cells slots Q pc (Lv t) st M := by
  refine V.arg C hL (by omega) hd hd2 ?_
  refine V.seg C.1 floL cjoL [.i2l, .bipush 32, .lshl] hd3 (pc2 := pc + 9) (lv2 := Lv t) (st2 := .long (jshl (xs (t + k)).toInt64 32) :: st) (M2 := M) rfl ⟨trivial, trivial, trivial, trivial⟩ ?_
  refine V.arg C hL (k := k + 1) (by omega) hd4 hd5 ?_
  exact V.seg C.1 floL cjoL [.i2l, .ldc2_w 13, .land, .lor] hd6 (pc2 := pc + 20) (lv2 := Lv t) (st2 := .long (lg2 (xs (t + k)) (xs (t + k + 1))) :: st) (M2 := M) rfl ⟨trivial, trivial, trivial, trivial, trivial⟩ kk
theorem Cx.cs (C : Cx G X L xs) (h1 : cells ≤ 600000) (h2 : slots ≤ 7302250) : cells ≤ X.2.2.2.1.cells ∧ slots ≤ X.2.2.2.1.slots := by
  rw [C.2.2.2.2.1]; exact ⟨h1, h2⟩
theorem Cx.rm (C : Cx G X L xs) {D mL : Nat} (h1 : D + 1 ≤ 11) (h2 : 22 + mL + 50 * D ≤ 516) : RmOK X.2.2.2.1 D mL := by
  rw [C.2.2.2.2.1]; exact ⟨h1, h2⟩
end LW
set_option maxRecDepth 100000 in
theorem law_fact {G : Ctx} {X : Xt} {Q : State → Prop} {L : Nat} {xs : Nat → Int32} {t c cells slots : Nat} {M : Mem} (C : Cx G X L xs) (hL : t + 6 ≤ L) (I : Iv c M) (hc : cells + 271 ≤ 600000) (hs : slots + 2249 ≤ 7302250) (k : ∀ c' M', Iv c' M' → V G X 4 (cells + 271) (slots + 2249) Q 970 (Lv t) [] M') : V G X 4 cells slots Q 116 (Lv t) [] M := by
  have F := C.1
  refine V.seg F floL cjoL [.aload_n 1] (by decide +kernel) (pc2 := 117) (lv2 := Lv t) (st2 := [.ref 1]) (M2 := M) rfl ⟨trivial, trivial⟩ ?_
  refine V.arg C hL (k := 1) (by decide) (by decide +kernel) (by decide +kernel) ?_
  refine V.arl C hL (k := 2) (by decide) (by decide +kernel) (by decide +kernel) (by decide +kernel) (by decide +kernel) (by decide +kernel) (by decide +kernel) ?_
  refine V.arl C hL (k := 4) (by decide) (by decide +kernel) (by decide +kernel) (by decide +kernel) (by decide +kernel) (by decide +kernel) (by decide +kernel) ?_
  show V G X 4 cells slots Q 162 (Lv t) [.long (lg2 (xs (t + 4)) (xs (t + 4 + 1))), .long (lg2 (xs (t + 2)) (xs (t + 2 + 1))), .int (xs (t + 1)), .ref 1] M
  refine V.callV (as := [.int (xs (t + 1)), .long (lg2 (xs (t + 2)) (xs (t + 2 + 1))), .long (lg2 (xs (t + 4)) (xs (t + 4 + 1)))]) (rest := []) F (by decide +kernel) lL_15 bX6_fact ⟨6, _, I.ok.o 1 6 rfl, rfl, rfl⟩ (c_X6_fact G X.2.1 M (xs (t + 1)) (lg2 (xs (t + 2)) (xs (t + 2 + 1))) (lg2 (xs (t + 4)) (xs (t + 4 + 1))) I.ok ) (C.rm (by decide) (by decide)) (C.cs (by omega) (by omega)) (Nat.le_of_ble_eq_true rfl) (fun r1 N1 p1 => ?_)
  obtain ⟨rfl, e1, -⟩ := p1
  have K1 : CK M N1 := by rw [e1]; exact (ag_fact I.rl).2.2.1
  obtain ⟨R1, q1, g1⟩ := I.mid K1
  have cM := R1.prem.1
  have hLs := R1.prem.2.1
  have hT := R1.prem.2.2.1
  have hLn := R1.prem.2.2.2
  show V G X 4 cells slots Q 165 (Lv t) [.int (f_X6_fact M (xs (t + 1)) (lg2 (xs (t + 2)) (xs (t + 2 + 1))) (lg2 (xs (t + 4)) (xs (t + 4 + 1)))).1] N1
  refine V.seg F floL cjoL [.aload_n 2] (by decide +kernel) (pc2 := 166) (lv2 := Lv t) (st2 := [.ref 52, .int (f_X6_fact M (xs (t + 1)) (lg2 (xs (t + 2)) (xs (t + 2 + 1))) (lg2 (xs (t + 4)) (xs (t + 4 + 1)))).1]) (M2 := N1) rfl ⟨trivial, trivial⟩ ?_
  refine V.arg C hL (k := 1) (by decide) (by decide +kernel) (by decide +kernel) ?_
  refine V.arl C hL (k := 2) (by decide) (by decide +kernel) (by decide +kernel) (by decide +kernel) (by decide +kernel) (by decide +kernel) (by decide +kernel) ?_
  refine V.arl C hL (k := 4) (by decide) (by decide +kernel) (by decide +kernel) (by decide +kernel) (by decide +kernel) (by decide +kernel) (by decide +kernel) ?_
  show V G X 4 cells slots Q 211 (Lv t) [.long (lg2 (xs (t + 4)) (xs (t + 4 + 1))), .long (lg2 (xs (t + 2)) (xs (t + 2 + 1))), .int (xs (t + 1)), .ref 52, .int (f_X6_fact M (xs (t + 1)) (lg2 (xs (t + 2)) (xs (t + 2 + 1))) (lg2 (xs (t + 4)) (xs (t + 4 + 1)))).1] N1
  refine V.callV (as := [.int (xs (t + 1)), .long (lg2 (xs (t + 2)) (xs (t + 2 + 1))), .long (lg2 (xs (t + 4)) (xs (t + 4 + 1)))]) (rest := [.int (f_X6_fact M (xs (t + 1)) (lg2 (xs (t + 2)) (xs (t + 2 + 1))) (lg2 (xs (t + 4)) (xs (t + 4 + 1)))).1]) F (by decide +kernel) lL_19 bX7_fact ⟨7, _, q1.o 52 7 rfl, rfl, rfl⟩ (c_X7_fact G X.2.1 N1 (xs (t + 1)) (lg2 (xs (t + 2)) (xs (t + 2 + 1))) (lg2 (xs (t + 4)) (xs (t + 4 + 1))) q1 g1) (C.rm (by decide) (by decide)) (C.cs (by omega) (by omega)) (Nat.le_of_ble_eq_true rfl) (fun r2 N2 p2 => ?_)
  obtain ⟨rfl, e2, s2⟩ := p2
  obtain ⟨J1, J2⟩ := I.nx e1 e2 (ag_fact R1) s2.2.1
  show V G X 4 cells slots Q 214 (Lv t) [.int (f_X7_fact N1 (xs (t + 1)) (lg2 (xs (t + 2)) (xs (t + 2 + 1))) (lg2 (xs (t + 4)) (xs (t + 4 + 1)))).1, .int (f_X6_fact M (xs (t + 1)) (lg2 (xs (t + 2)) (xs (t + 2 + 1))) (lg2 (xs (t + 4)) (xs (t + 4 + 1)))).1] N2
  refine V.ic_eq (off := 756) F (by decide +kernel) (tgt := 970) (by decide) (fun _ => ?_) (fun h => absurd J1 h)
  exact V.widen (Nat.le_add_right _ _) (Nat.le_add_right _ _) (k c _ J2)
set_option maxRecDepth 100000 in
theorem law_bits {G : Ctx} {X : Xt} {Q : State → Prop} {L : Nat} {xs : Nat → Int32} {t c cells slots : Nat} {M : Mem} (C : Cx G X L xs) (hL : t + 6 ≤ L) (I : Iv c M) (hc : cells + 271 ≤ 600000) (hs : slots + 2249 ≤ 7302250) (k : ∀ c' M', Iv c' M' → V G X 4 (cells + 271) (slots + 2249) Q 970 (Lv t) [] M') : V G X 4 cells slots Q 219 (Lv t) [] M := by
  have F := C.1
  refine V.seg F floL cjoL [.aload_n 1] (by decide +kernel) (pc2 := 220) (lv2 := Lv t) (st2 := [.ref 1]) (M2 := M) rfl ⟨trivial, trivial⟩ ?_
  refine V.arg C hL (k := 1) (by decide) (by decide +kernel) (by decide +kernel) ?_
  refine V.arl C hL (k := 2) (by decide) (by decide +kernel) (by decide +kernel) (by decide +kernel) (by decide +kernel) (by decide +kernel) (by decide +kernel) ?_
  refine V.arl C hL (k := 4) (by decide) (by decide +kernel) (by decide +kernel) (by decide +kernel) (by decide +kernel) (by decide +kernel) (by decide +kernel) ?_
  show V G X 4 cells slots Q 265 (Lv t) [.long (lg2 (xs (t + 4)) (xs (t + 4 + 1))), .long (lg2 (xs (t + 2)) (xs (t + 2 + 1))), .int (xs (t + 1)), .ref 1] M
  refine V.callV (as := [.int (xs (t + 1)), .long (lg2 (xs (t + 2)) (xs (t + 2 + 1))), .long (lg2 (xs (t + 4)) (xs (t + 4 + 1)))]) (rest := []) F (by decide +kernel) lL_20 bX6_bits ⟨6, _, I.ok.o 1 6 rfl, rfl, rfl⟩ (c_X6_bits G X.2.1 M (xs (t + 1)) (lg2 (xs (t + 2)) (xs (t + 2 + 1))) (lg2 (xs (t + 4)) (xs (t + 4 + 1))) I.ok ) (C.rm (by decide) (by decide)) (C.cs (by omega) (by omega)) (Nat.le_of_ble_eq_true rfl) (fun r1 N1 p1 => ?_)
  obtain ⟨rfl, e1, -⟩ := p1
  have K1 : CK M N1 := by rw [e1]; exact (ag_bits I.rl).2.2.1
  obtain ⟨R1, q1, g1⟩ := I.mid K1
  have cM := R1.prem.1
  have hLs := R1.prem.2.1
  have hT := R1.prem.2.2.1
  have hLn := R1.prem.2.2.2
  show V G X 4 cells slots Q 268 (Lv t) [.int (f_X6_bits M (xs (t + 1)) (lg2 (xs (t + 2)) (xs (t + 2 + 1))) (lg2 (xs (t + 4)) (xs (t + 4 + 1)))).1] N1
  refine V.seg F floL cjoL [.aload_n 2] (by decide +kernel) (pc2 := 269) (lv2 := Lv t) (st2 := [.ref 52, .int (f_X6_bits M (xs (t + 1)) (lg2 (xs (t + 2)) (xs (t + 2 + 1))) (lg2 (xs (t + 4)) (xs (t + 4 + 1)))).1]) (M2 := N1) rfl ⟨trivial, trivial⟩ ?_
  refine V.arg C hL (k := 1) (by decide) (by decide +kernel) (by decide +kernel) ?_
  refine V.arl C hL (k := 2) (by decide) (by decide +kernel) (by decide +kernel) (by decide +kernel) (by decide +kernel) (by decide +kernel) (by decide +kernel) ?_
  refine V.arl C hL (k := 4) (by decide) (by decide +kernel) (by decide +kernel) (by decide +kernel) (by decide +kernel) (by decide +kernel) (by decide +kernel) ?_
  show V G X 4 cells slots Q 314 (Lv t) [.long (lg2 (xs (t + 4)) (xs (t + 4 + 1))), .long (lg2 (xs (t + 2)) (xs (t + 2 + 1))), .int (xs (t + 1)), .ref 52, .int (f_X6_bits M (xs (t + 1)) (lg2 (xs (t + 2)) (xs (t + 2 + 1))) (lg2 (xs (t + 4)) (xs (t + 4 + 1)))).1] N1
  refine V.callV (as := [.int (xs (t + 1)), .long (lg2 (xs (t + 2)) (xs (t + 2 + 1))), .long (lg2 (xs (t + 4)) (xs (t + 4 + 1)))]) (rest := [.int (f_X6_bits M (xs (t + 1)) (lg2 (xs (t + 2)) (xs (t + 2 + 1))) (lg2 (xs (t + 4)) (xs (t + 4 + 1)))).1]) F (by decide +kernel) lL_23 bX7_bits ⟨7, _, q1.o 52 7 rfl, rfl, rfl⟩ (c_X7_bits G X.2.1 N1 (xs (t + 1)) (lg2 (xs (t + 2)) (xs (t + 2 + 1))) (lg2 (xs (t + 4)) (xs (t + 4 + 1))) q1 g1) (C.rm (by decide) (by decide)) (C.cs (by omega) (by omega)) (Nat.le_of_ble_eq_true rfl) (fun r2 N2 p2 => ?_)
  obtain ⟨rfl, e2, s2⟩ := p2
  obtain ⟨J1, J2⟩ := I.nx e1 e2 (ag_bits R1) s2.2.1
  show V G X 4 cells slots Q 317 (Lv t) [.int (f_X7_bits N1 (xs (t + 1)) (lg2 (xs (t + 2)) (xs (t + 2 + 1))) (lg2 (xs (t + 4)) (xs (t + 4 + 1)))).1, .int (f_X6_bits M (xs (t + 1)) (lg2 (xs (t + 2)) (xs (t + 2 + 1))) (lg2 (xs (t + 4)) (xs (t + 4 + 1)))).1] N2
  refine V.ic_eq (off := 653) F (by decide +kernel) (tgt := 970) (by decide) (fun _ => ?_) (fun h => absurd J1 h)
  exact V.widen (Nat.le_add_right _ _) (Nat.le_add_right _ _) (k c _ J2)
set_option maxRecDepth 100000 in
theorem law_rest {G : Ctx} {X : Xt} {Q : State → Prop} {L : Nat} {xs : Nat → Int32} {t c cells slots : Nat} {M : Mem} (C : Cx G X L xs) (hL : t + 6 ≤ L) (I : Iv c M) (hc : cells + 271 ≤ 600000) (hs : slots + 2249 ≤ 7302250) (k : ∀ c' M', Iv c' M' → V G X 4 (cells + 271) (slots + 2249) Q 970 (Lv t) [] M') : V G X 4 cells slots Q 322 (Lv t) [] M := by
  have F := C.1
  refine V.seg F floL cjoL [.aload_n 1] (by decide +kernel) (pc2 := 323) (lv2 := Lv t) (st2 := [.ref 1]) (M2 := M) rfl ⟨trivial, trivial⟩ ?_
  refine V.arg C hL (k := 1) (by decide) (by decide +kernel) (by decide +kernel) ?_
  refine V.arg C hL (k := 2) (by decide) (by decide +kernel) (by decide +kernel) ?_
  refine V.arl C hL (k := 3) (by decide) (by decide +kernel) (by decide +kernel) (by decide +kernel) (by decide +kernel) (by decide +kernel) (by decide +kernel) ?_
  show V G X 4 cells slots Q 353 (Lv t) [.long (lg2 (xs (t + 3)) (xs (t + 3 + 1))), .int (xs (t + 2)), .int (xs (t + 1)), .ref 1] M
  refine V.callV (as := [.int (xs (t + 1)), .int (xs (t + 2)), .long (lg2 (xs (t + 3)) (xs (t + 3 + 1)))]) (rest := []) F (by decide +kernel) lL_24 bX6_rest ⟨6, _, I.ok.o 1 6 rfl, rfl, rfl⟩ (c_X6_rest G X.2.1 M (xs (t + 1)) (xs (t + 2)) (lg2 (xs (t + 3)) (xs (t + 3 + 1))) I.ok ) (C.rm (by decide) (by decide)) (C.cs (by omega) (by omega)) (Nat.le_of_ble_eq_true rfl) (fun r1 N1 p1 => ?_)
  obtain ⟨rfl, e1, -⟩ := p1
  have K1 : CK M N1 := by rw [e1]; exact (ag_rest I.rl).2.2.1
  obtain ⟨R1, q1, g1⟩ := I.mid K1
  have cM := R1.prem.1
  have hLs := R1.prem.2.1
  have hT := R1.prem.2.2.1
  have hLn := R1.prem.2.2.2
  show V G X 4 cells slots Q 356 (Lv t) [.int (f_X6_rest M (xs (t + 1)) (xs (t + 2)) (lg2 (xs (t + 3)) (xs (t + 3 + 1)))).1] N1
  refine V.seg F floL cjoL [.aload_n 2] (by decide +kernel) (pc2 := 357) (lv2 := Lv t) (st2 := [.ref 52, .int (f_X6_rest M (xs (t + 1)) (xs (t + 2)) (lg2 (xs (t + 3)) (xs (t + 3 + 1)))).1]) (M2 := N1) rfl ⟨trivial, trivial⟩ ?_
  refine V.arg C hL (k := 1) (by decide) (by decide +kernel) (by decide +kernel) ?_
  refine V.arg C hL (k := 2) (by decide) (by decide +kernel) (by decide +kernel) ?_
  refine V.arl C hL (k := 3) (by decide) (by decide +kernel) (by decide +kernel) (by decide +kernel) (by decide +kernel) (by decide +kernel) (by decide +kernel) ?_
  show V G X 4 cells slots Q 387 (Lv t) [.long (lg2 (xs (t + 3)) (xs (t + 3 + 1))), .int (xs (t + 2)), .int (xs (t + 1)), .ref 52, .int (f_X6_rest M (xs (t + 1)) (xs (t + 2)) (lg2 (xs (t + 3)) (xs (t + 3 + 1)))).1] N1
  refine V.callV (as := [.int (xs (t + 1)), .int (xs (t + 2)), .long (lg2 (xs (t + 3)) (xs (t + 3 + 1)))]) (rest := [.int (f_X6_rest M (xs (t + 1)) (xs (t + 2)) (lg2 (xs (t + 3)) (xs (t + 3 + 1)))).1]) F (by decide +kernel) lL_28 bX7_rest ⟨7, _, q1.o 52 7 rfl, rfl, rfl⟩ (c_X7_rest G X.2.1 N1 (xs (t + 1)) (xs (t + 2)) (lg2 (xs (t + 3)) (xs (t + 3 + 1))) q1 g1) (C.rm (by decide) (by decide)) (C.cs (by omega) (by omega)) (Nat.le_of_ble_eq_true rfl) (fun r2 N2 p2 => ?_)
  obtain ⟨rfl, e2, s2⟩ := p2
  obtain ⟨J1, J2⟩ := I.nx e1 e2 (ag_rest R1) s2.2.1
  show V G X 4 cells slots Q 390 (Lv t) [.int (f_X7_rest N1 (xs (t + 1)) (xs (t + 2)) (lg2 (xs (t + 3)) (xs (t + 3 + 1)))).1, .int (f_X6_rest M (xs (t + 1)) (xs (t + 2)) (lg2 (xs (t + 3)) (xs (t + 3 + 1)))).1] N2
  refine V.ic_eq (off := 580) F (by decide +kernel) (tgt := 970) (by decide) (fun _ => ?_) (fun h => absurd J1 h)
  exact V.widen (Nat.le_add_right _ _) (Nat.le_add_right _ _) (k c _ J2)
set_option maxRecDepth 100000 in
theorem law_act {G : Ctx} {X : Xt} {Q : State → Prop} {L : Nat} {xs : Nat → Int32} {t c cells slots : Nat} {M : Mem} (C : Cx G X L xs) (hL : t + 6 ≤ L) (I : Iv c M) (hc : cells + 271 ≤ 600000) (hs : slots + 2249 ≤ 7302250) (k : ∀ c' M', Iv c' M' → V G X 4 (cells + 271) (slots + 2249) Q 970 (Lv t) [] M') : V G X 4 cells slots Q 395 (Lv t) [] M := by
  have F := C.1
  refine V.seg F floL cjoL [.aload_n 1] (by decide +kernel) (pc2 := 396) (lv2 := Lv t) (st2 := [.ref 1]) (M2 := M) rfl ⟨trivial, trivial⟩ ?_
  refine V.arg C hL (k := 1) (by decide) (by decide +kernel) (by decide +kernel) ?_
  refine V.arg C hL (k := 2) (by decide) (by decide +kernel) (by decide +kernel) ?_
  refine V.arg C hL (k := 3) (by decide) (by decide +kernel) (by decide +kernel) ?_
  refine V.arg C hL (k := 4) (by decide) (by decide +kernel) (by decide +kernel) ?_
  show V G X 4 cells slots Q 416 (Lv t) [.int (xs (t + 4)), .int (xs (t + 3)), .int (xs (t + 2)), .int (xs (t + 1)), .ref 1] M
  refine V.callV (as := [.int (xs (t + 1)), .int (xs (t + 2)), .int (xs (t + 3)), .int (xs (t + 4))]) (rest := []) F (by decide +kernel) lL_29 bX6_act ⟨6, _, I.ok.o 1 6 rfl, rfl, rfl⟩ (c_X6_act G X.2.1 M (xs (t + 1)) (xs (t + 2)) (xs (t + 3)) (xs (t + 4)) I.ok ) (C.rm (by decide) (by decide)) (C.cs (by omega) (by omega)) (Nat.le_of_ble_eq_true rfl) (fun r1 N1 p1 => ?_)
  obtain ⟨rfl, e1, -⟩ := p1
  have K1 : CK M N1 := by rw [e1]; exact (ag_act I.rl).2.2.1
  obtain ⟨R1, q1, g1⟩ := I.mid K1
  have cM := R1.prem.1
  have hLs := R1.prem.2.1
  have hT := R1.prem.2.2.1
  have hLn := R1.prem.2.2.2
  show V G X 4 cells slots Q 419 (Lv t) [.int (f_X6_act M (xs (t + 1)) (xs (t + 2)) (xs (t + 3)) (xs (t + 4))).1] N1
  refine V.seg F floL cjoL [.aload_n 2] (by decide +kernel) (pc2 := 420) (lv2 := Lv t) (st2 := [.ref 52, .int (f_X6_act M (xs (t + 1)) (xs (t + 2)) (xs (t + 3)) (xs (t + 4))).1]) (M2 := N1) rfl ⟨trivial, trivial⟩ ?_
  refine V.arg C hL (k := 1) (by decide) (by decide +kernel) (by decide +kernel) ?_
  refine V.arg C hL (k := 2) (by decide) (by decide +kernel) (by decide +kernel) ?_
  refine V.arg C hL (k := 3) (by decide) (by decide +kernel) (by decide +kernel) ?_
  refine V.arg C hL (k := 4) (by decide) (by decide +kernel) (by decide +kernel) ?_
  show V G X 4 cells slots Q 440 (Lv t) [.int (xs (t + 4)), .int (xs (t + 3)), .int (xs (t + 2)), .int (xs (t + 1)), .ref 52, .int (f_X6_act M (xs (t + 1)) (xs (t + 2)) (xs (t + 3)) (xs (t + 4))).1] N1
  refine V.callV (as := [.int (xs (t + 1)), .int (xs (t + 2)), .int (xs (t + 3)), .int (xs (t + 4))]) (rest := [.int (f_X6_act M (xs (t + 1)) (xs (t + 2)) (xs (t + 3)) (xs (t + 4))).1]) F (by decide +kernel) lL_33 bX7_act ⟨7, _, q1.o 52 7 rfl, rfl, rfl⟩ (c_X7_act G X.2.1 N1 (xs (t + 1)) (xs (t + 2)) (xs (t + 3)) (xs (t + 4)) q1 g1) (C.rm (by decide) (by decide)) (C.cs (by omega) (by omega)) (Nat.le_of_ble_eq_true rfl) (fun r2 N2 p2 => ?_)
  obtain ⟨rfl, e2, s2⟩ := p2
  obtain ⟨J1, J2⟩ := I.nx e1 e2 (ag_act R1) s2.2.1
  show V G X 4 cells slots Q 443 (Lv t) [.int (f_X7_act N1 (xs (t + 1)) (xs (t + 2)) (xs (t + 3)) (xs (t + 4))).1, .int (f_X6_act M (xs (t + 1)) (xs (t + 2)) (xs (t + 3)) (xs (t + 4))).1] N2
  refine V.ic_eq (off := 527) F (by decide +kernel) (tgt := 970) (by decide) (fun _ => ?_) (fun h => absurd J1 h)
  exact V.widen (Nat.le_add_right _ _) (Nat.le_add_right _ _) (k c _ J2)
set_option maxRecDepth 100000 in
theorem law_told {G : Ctx} {X : Xt} {Q : State → Prop} {L : Nat} {xs : Nat → Int32} {t c cells slots : Nat} {M : Mem} (C : Cx G X L xs) (hL : t + 6 ≤ L) (I : Iv c M) (hc : cells + 271 ≤ 600000) (hs : slots + 2249 ≤ 7302250) (k : ∀ c' M', Iv c' M' → V G X 4 (cells + 271) (slots + 2249) Q 970 (Lv t) [] M') : V G X 4 cells slots Q 448 (Lv t) [] M := by
  have F := C.1
  refine V.seg F floL cjoL [.aload_n 1] (by decide +kernel) (pc2 := 449) (lv2 := Lv t) (st2 := [.ref 1]) (M2 := M) rfl ⟨trivial, trivial⟩ ?_
  refine V.arg C hL (k := 1) (by decide) (by decide +kernel) (by decide +kernel) ?_
  refine V.arg C hL (k := 2) (by decide) (by decide +kernel) (by decide +kernel) ?_
  show V G X 4 cells slots Q 459 (Lv t) [.int (xs (t + 2)), .int (xs (t + 1)), .ref 1] M
  refine V.callV (as := [.int (xs (t + 1)), .int (xs (t + 2))]) (rest := []) F (by decide +kernel) lL_34 bX6_told ⟨6, _, I.ok.o 1 6 rfl, rfl, rfl⟩ (c_X6_told G X.2.1 M (xs (t + 1)) (xs (t + 2)) I.ok ) (C.rm (by decide) (by decide)) (C.cs (by omega) (by omega)) (Nat.le_of_ble_eq_true rfl) (fun r1 N1 p1 => ?_)
  obtain ⟨rfl, e1⟩ := p1
  obtain ⟨R1, q1, g1⟩ := I.mid CK.rf
  rw [e1]
  have cM := R1.prem.1
  have hLs := R1.prem.2.1
  have hT := R1.prem.2.2.1
  have hLn := R1.prem.2.2.2
  show V G X 4 cells slots Q 462 (Lv t) [.long (f_X6_told M (xs (t + 1)) (xs (t + 2)))] M
  refine V.seg F floL cjoL [.aload_n 2] (by decide +kernel) (pc2 := 463) (lv2 := Lv t) (st2 := [.ref 52, .long (f_X6_told M (xs (t + 1)) (xs (t + 2)))]) (M2 := M) rfl ⟨trivial, trivial⟩ ?_
  refine V.arg C hL (k := 1) (by decide) (by decide +kernel) (by decide +kernel) ?_
  refine V.arg C hL (k := 2) (by decide) (by decide +kernel) (by decide +kernel) ?_
  show V G X 4 cells slots Q 473 (Lv t) [.int (xs (t + 2)), .int (xs (t + 1)), .ref 52, .long (f_X6_told M (xs (t + 1)) (xs (t + 2)))] M
  refine V.callV (as := [.int (xs (t + 1)), .int (xs (t + 2))]) (rest := [.long (f_X6_told M (xs (t + 1)) (xs (t + 2)))]) F (by decide +kernel) lL_38 bX7_told ⟨7, _, q1.o 52 7 rfl, rfl, rfl⟩ (c_X7_told G X.2.1 M (xs (t + 1)) (xs (t + 2)) q1 g1) (C.rm (by decide) (by decide)) (C.cs (by omega) (by omega)) (Nat.le_of_ble_eq_true rfl) (fun r2 N2 p2 => ?_)
  obtain ⟨rfl, e2⟩ := p2
  have J1 : (f_X6_told M (xs (t + 1)) (xs (t + 2))) = (f_X7_told M (xs (t + 1)) (xs (t + 2))) := ag_told R1
  rw [e2]
  show V G X 4 cells slots Q 476 (Lv t) [.long (f_X7_told M (xs (t + 1)) (xs (t + 2))), .long (f_X6_told M (xs (t + 1)) (xs (t + 2)))] M
  refine V.seg F floL cjoL [.lcmp] (by decide +kernel) (pc2 := 477) (lv2 := Lv t) (st2 := [.int (lg_cmp (f_X6_told M (xs (t + 1)) (xs (t + 2))) (f_X7_told M (xs (t + 1)) (xs (t + 2))))]) (M2 := M) rfl ⟨trivial, trivial⟩ ?_
  refine V.lc_eq (off := 493) F (by decide +kernel) (tgt := 970) (by decide) (fun _ => ?_) (fun h => absurd J1 h)
  exact V.widen (Nat.le_add_right _ _) (Nat.le_add_right _ _) (k c _ I)
set_option maxRecDepth 100000 in
theorem law_isOf {G : Ctx} {X : Xt} {Q : State → Prop} {L : Nat} {xs : Nat → Int32} {t c cells slots : Nat} {M : Mem} (C : Cx G X L xs) (hL : t + 6 ≤ L) (I : Iv c M) (hc : cells + 271 ≤ 600000) (hs : slots + 2249 ≤ 7302250) (k : ∀ c' M', Iv c' M' → V G X 4 (cells + 271) (slots + 2249) Q 970 (Lv t) [] M') : V G X 4 cells slots Q 482 (Lv t) [] M := by
  have F := C.1
  refine V.seg F floL cjoL [.aload_n 1] (by decide +kernel) (pc2 := 483) (lv2 := Lv t) (st2 := [.ref 1]) (M2 := M) rfl ⟨trivial, trivial⟩ ?_
  refine V.arg C hL (k := 1) (by decide) (by decide +kernel) (by decide +kernel) ?_
  refine V.arl C hL (k := 2) (by decide) (by decide +kernel) (by decide +kernel) (by decide +kernel) (by decide +kernel) (by decide +kernel) (by decide +kernel) ?_
  show V G X 4 cells slots Q 508 (Lv t) [.long (lg2 (xs (t + 2)) (xs (t + 2 + 1))), .int (xs (t + 1)), .ref 1] M
  refine V.callV (as := [.int (xs (t + 1)), .long (lg2 (xs (t + 2)) (xs (t + 2 + 1)))]) (rest := []) F (by decide +kernel) lL_39 bX6_isOf ⟨6, _, I.ok.o 1 6 rfl, rfl, rfl⟩ (c_X6_isOf G X.2.1 M (xs (t + 1)) (lg2 (xs (t + 2)) (xs (t + 2 + 1))) I.ok ) (C.rm (by decide) (by decide)) (C.cs (by omega) (by omega)) (Nat.le_of_ble_eq_true rfl) (fun r1 N1 p1 => ?_)
  obtain ⟨rfl, e1, -⟩ := p1
  obtain ⟨R1, q1, g1⟩ := I.mid CK.rf
  rw [e1]
  have cM := R1.prem.1
  have hLs := R1.prem.2.1
  have hT := R1.prem.2.2.1
  have hLn := R1.prem.2.2.2
  show V G X 4 cells slots Q 511 (Lv t) [.int (f_X6_isOf M (xs (t + 1)) (lg2 (xs (t + 2)) (xs (t + 2 + 1))))] M
  refine V.seg F floL cjoL [.aload_n 2] (by decide +kernel) (pc2 := 512) (lv2 := Lv t) (st2 := [.ref 52, .int (f_X6_isOf M (xs (t + 1)) (lg2 (xs (t + 2)) (xs (t + 2 + 1))))]) (M2 := M) rfl ⟨trivial, trivial⟩ ?_
  refine V.arg C hL (k := 1) (by decide) (by decide +kernel) (by decide +kernel) ?_
  refine V.arl C hL (k := 2) (by decide) (by decide +kernel) (by decide +kernel) (by decide +kernel) (by decide +kernel) (by decide +kernel) (by decide +kernel) ?_
  show V G X 4 cells slots Q 537 (Lv t) [.long (lg2 (xs (t + 2)) (xs (t + 2 + 1))), .int (xs (t + 1)), .ref 52, .int (f_X6_isOf M (xs (t + 1)) (lg2 (xs (t + 2)) (xs (t + 2 + 1))))] M
  refine V.callV (as := [.int (xs (t + 1)), .long (lg2 (xs (t + 2)) (xs (t + 2 + 1)))]) (rest := [.int (f_X6_isOf M (xs (t + 1)) (lg2 (xs (t + 2)) (xs (t + 2 + 1))))]) F (by decide +kernel) lL_43 bX7_isOf ⟨7, _, q1.o 52 7 rfl, rfl, rfl⟩ (c_X7_isOf G X.2.1 M (xs (t + 1)) (lg2 (xs (t + 2)) (xs (t + 2 + 1))) q1 g1) (C.rm (by decide) (by decide)) (C.cs (by omega) (by omega)) (Nat.le_of_ble_eq_true rfl) (fun r2 N2 p2 => ?_)
  obtain ⟨rfl, e2, -⟩ := p2
  have J1 : (f_X6_isOf M (xs (t + 1)) (lg2 (xs (t + 2)) (xs (t + 2 + 1)))) = (f_X7_isOf M (xs (t + 1)) (lg2 (xs (t + 2)) (xs (t + 2 + 1)))) := ag_isOf R1
  rw [e2]
  show V G X 4 cells slots Q 540 (Lv t) [.int (f_X7_isOf M (xs (t + 1)) (lg2 (xs (t + 2)) (xs (t + 2 + 1)))), .int (f_X6_isOf M (xs (t + 1)) (lg2 (xs (t + 2)) (xs (t + 2 + 1))))] M
  refine V.ic_eq (off := 430) F (by decide +kernel) (tgt := 970) (by decide) (fun _ => ?_) (fun h => absurd J1 h)
  exact V.widen (Nat.le_add_right _ _) (Nat.le_add_right _ _) (k c _ I)
set_option maxRecDepth 100000 in
theorem law_method {G : Ctx} {X : Xt} {Q : State → Prop} {L : Nat} {xs : Nat → Int32} {t c cells slots : Nat} {M : Mem} (C : Cx G X L xs) (hL : t + 6 ≤ L) (I : Iv c M) (hc : cells + 271 ≤ 600000) (hs : slots + 2249 ≤ 7302250) (k : ∀ c' M', Iv c' M' → V G X 4 (cells + 271) (slots + 2249) Q 970 (Lv t) [] M') : V G X 4 cells slots Q 545 (Lv t) [] M := by
  have F := C.1
  refine V.seg F floL cjoL [.aload_n 1] (by decide +kernel) (pc2 := 546) (lv2 := Lv t) (st2 := [.ref 1]) (M2 := M) rfl ⟨trivial, trivial⟩ ?_
  show V G X 4 cells slots Q 546 (Lv t) [.ref 1] M
  refine V.callV (as := []) (rest := []) F (by decide +kernel) lL_44 bX6_method ⟨6, _, I.ok.o 1 6 rfl, rfl, rfl⟩ (c_X6_method G X.2.1 M c I.2.2.2.1 (fun z => by have h6 := I.1.2.1.1; rw [I.1.2.1.2.1, show (6 : Int32) = nI 6 from rfl, nI_ltI (by omega) (by omega)] at z; exact z) I.1.2.1.2.1 I.ok) (C.rm (by decide) (by decide)) (C.cs hc hs) (Nat.le_of_ble_eq_true rfl) (fun r1 N1 p1 => ?_)
  obtain ⟨rfl, e1⟩ := p1
  have J := fun N2 => I.meth (N2 := N2) e1
  obtain ⟨R1, q1, g1, J1, -⟩ := J M
  have cM := R1.prem.1
  have hLs := R1.prem.2.1
  have hT := R1.prem.2.2.1
  have hLn := R1.prem.2.2.2
  show V G X 4 (cells + 271) (slots + 2249) Q 549 (Lv t) [.int (f_X6_method M c).1] N1
  refine V.seg F floL cjoL [.aload_n 2] (by decide +kernel) (pc2 := 550) (lv2 := Lv t) (st2 := [.ref 52, .int (f_X6_method M c).1]) (M2 := N1) rfl ⟨trivial, trivial⟩ ?_
  show V G X 4 (cells + 271) (slots + 2249) Q 550 (Lv t) [.ref 52, .int (f_X6_method M c).1] N1
  refine V.callV (as := []) (rest := [.int (f_X6_method M c).1]) F (by decide +kernel) lL_48 bX7_method ⟨7, _, q1.o 52 7 rfl, rfl, rfl⟩ (c_X7_method G X.2.1 N1  q1 g1 cM) (C.rm (by decide) (by decide)) (C.cs hc hs) (Nat.le_of_ble_eq_true rfl) (fun r2 N2 p2 => ?_)
  obtain ⟨rfl, e2, s2⟩ := p2
  obtain ⟨c2, J2⟩ := (J N2).2.2.2.2 e2 s2.2.1
  show V G X 4 (cells + 271) (slots + 2249) Q 553 (Lv t) [.int (f_X7_method N1 ).1, .int (f_X6_method M c).1] N2
  refine V.ic_eq (off := 417) F (by decide +kernel) (tgt := 970) (by decide) (fun _ => ?_) (fun h => absurd J1 h)
  exact k c2 _ J2
set_option maxRecDepth 100000 in
theorem law_op {G : Ctx} {X : Xt} {Q : State → Prop} {L : Nat} {xs : Nat → Int32} {t c cells slots : Nat} {M : Mem} (C : Cx G X L xs) (hL : t + 6 ≤ L) (I : Iv c M) (hc : cells + 271 ≤ 600000) (hs : slots + 2249 ≤ 7302250) (k : ∀ c' M', Iv c' M' → V G X 4 (cells + 271) (slots + 2249) Q 970 (Lv t) [] M') : V G X 4 cells slots Q 558 (Lv t) [] M := by
  have F := C.1
  refine V.seg F floL cjoL [.aload_n 1] (by decide +kernel) (pc2 := 559) (lv2 := Lv t) (st2 := [.ref 1]) (M2 := M) rfl ⟨trivial, trivial⟩ ?_
  refine V.arg C hL (k := 1) (by decide) (by decide +kernel) (by decide +kernel) ?_
  refine V.arg C hL (k := 2) (by decide) (by decide +kernel) (by decide +kernel) ?_
  refine V.arg C hL (k := 3) (by decide) (by decide +kernel) (by decide +kernel) ?_
  refine V.arg C hL (k := 4) (by decide) (by decide +kernel) (by decide +kernel) ?_
  show V G X 4 cells slots Q 579 (Lv t) [.int (xs (t + 4)), .int (xs (t + 3)), .int (xs (t + 2)), .int (xs (t + 1)), .ref 1] M
  refine V.callV (as := [.int (xs (t + 1)), .int (xs (t + 2)), .int (xs (t + 3)), .int (xs (t + 4))]) (rest := []) F (by decide +kernel) lL_49 bX6_op ⟨6, _, I.ok.o 1 6 rfl, rfl, rfl⟩ (c_X6_op G X.2.1 M (xs (t + 1)) (xs (t + 2)) (xs (t + 3)) (xs (t + 4)) I.ok I.rs) (C.rm (by decide) (by decide)) (C.cs (by omega) (by omega)) (Nat.le_of_ble_eq_true rfl) (fun r1 N1 p1 => ?_)
  obtain ⟨rfl, e1, -⟩ := p1
  have K1 : CK M N1 := by rw [e1]; exact (ag_op I.rl).2.2.1
  obtain ⟨R1, q1, g1⟩ := I.mid K1
  have cM := R1.prem.1
  have hLs := R1.prem.2.1
  have hT := R1.prem.2.2.1
  have hLn := R1.prem.2.2.2
  show V G X 4 cells slots Q 582 (Lv t) [.int (f_X6_op M (xs (t + 1)) (xs (t + 2)) (xs (t + 3)) (xs (t + 4))).1] N1
  refine V.seg F floL cjoL [.aload_n 2] (by decide +kernel) (pc2 := 583) (lv2 := Lv t) (st2 := [.ref 52, .int (f_X6_op M (xs (t + 1)) (xs (t + 2)) (xs (t + 3)) (xs (t + 4))).1]) (M2 := N1) rfl ⟨trivial, trivial⟩ ?_
  refine V.arg C hL (k := 1) (by decide) (by decide +kernel) (by decide +kernel) ?_
  refine V.arg C hL (k := 2) (by decide) (by decide +kernel) (by decide +kernel) ?_
  refine V.arg C hL (k := 3) (by decide) (by decide +kernel) (by decide +kernel) ?_
  refine V.arg C hL (k := 4) (by decide) (by decide +kernel) (by decide +kernel) ?_
  show V G X 4 cells slots Q 603 (Lv t) [.int (xs (t + 4)), .int (xs (t + 3)), .int (xs (t + 2)), .int (xs (t + 1)), .ref 52, .int (f_X6_op M (xs (t + 1)) (xs (t + 2)) (xs (t + 3)) (xs (t + 4))).1] N1
  refine V.callV (as := [.int (xs (t + 1)), .int (xs (t + 2)), .int (xs (t + 3)), .int (xs (t + 4))]) (rest := [.int (f_X6_op M (xs (t + 1)) (xs (t + 2)) (xs (t + 3)) (xs (t + 4))).1]) F (by decide +kernel) lL_52 bX7_op ⟨7, _, q1.o 52 7 rfl, rfl, rfl⟩ (c_X7_op G X.2.1 N1 (xs (t + 1)) (xs (t + 2)) (xs (t + 3)) (xs (t + 4)) q1 g1 cM hLs) (C.rm (by decide) (by decide)) (C.cs (by omega) (by omega)) (Nat.le_of_ble_eq_true rfl) (fun r2 N2 p2 => ?_)
  obtain ⟨rfl, e2, s2⟩ := p2
  obtain ⟨J1, J2⟩ := I.nx e1 e2 (ag_op R1) s2.2.1
  show V G X 4 cells slots Q 606 (Lv t) [.int (f_X7_op N1 (xs (t + 1)) (xs (t + 2)) (xs (t + 3)) (xs (t + 4))).1, .int (f_X6_op M (xs (t + 1)) (xs (t + 2)) (xs (t + 3)) (xs (t + 4))).1] N2
  refine V.ic_eq (off := 364) F (by decide +kernel) (tgt := 970) (by decide) (fun _ => ?_) (fun h => absurd J1 h)
  exact V.widen (Nat.le_add_right _ _) (Nat.le_add_right _ _) (k c _ J2)
set_option maxRecDepth 100000 in
theorem law_table {G : Ctx} {X : Xt} {Q : State → Prop} {L : Nat} {xs : Nat → Int32} {t c cells slots : Nat} {M : Mem} (C : Cx G X L xs) (hL : t + 6 ≤ L) (I : Iv c M) (hc : cells + 271 ≤ 600000) (hs : slots + 2249 ≤ 7302250) (k : ∀ c' M', Iv c' M' → V G X 4 (cells + 271) (slots + 2249) Q 970 (Lv t) [] M') : V G X 4 cells slots Q 611 (Lv t) [] M := by
  have F := C.1
  refine V.seg F floL cjoL [.aload_n 1] (by decide +kernel) (pc2 := 612) (lv2 := Lv t) (st2 := [.ref 1]) (M2 := M) rfl ⟨trivial, trivial⟩ ?_
  refine V.arg C hL (k := 1) (by decide) (by decide +kernel) (by decide +kernel) ?_
  refine V.arl C hL (k := 2) (by decide) (by decide +kernel) (by decide +kernel) (by decide +kernel) (by decide +kernel) (by decide +kernel) (by decide +kernel) ?_
  show V G X 4 cells slots Q 637 (Lv t) [.long (lg2 (xs (t + 2)) (xs (t + 2 + 1))), .int (xs (t + 1)), .ref 1] M
  refine V.callV (as := [.int (xs (t + 1)), .long (lg2 (xs (t + 2)) (xs (t + 2 + 1)))]) (rest := []) F (by decide +kernel) lL_53 bX6_table ⟨6, _, I.ok.o 1 6 rfl, rfl, rfl⟩ (c_X6_table G X.2.1 M (xs (t + 1)) (lg2 (xs (t + 2)) (xs (t + 2 + 1))) I.ok I.rs I.ts) (C.rm (by decide) (by decide)) (C.cs (by omega) (by omega)) (Nat.le_of_ble_eq_true rfl) (fun r1 N1 p1 => ?_)
  obtain ⟨rfl, e1, -⟩ := p1
  have K1 : CK M N1 := by rw [e1]; exact (ag_table I.rl).2.2.1
  obtain ⟨R1, q1, g1⟩ := I.mid K1
  have cM := R1.prem.1
  have hLs := R1.prem.2.1
  have hT := R1.prem.2.2.1
  have hLn := R1.prem.2.2.2
  show V G X 4 cells slots Q 640 (Lv t) [.int (f_X6_table M (xs (t + 1)) (lg2 (xs (t + 2)) (xs (t + 2 + 1)))).1] N1
  refine V.seg F floL cjoL [.aload_n 2] (by decide +kernel) (pc2 := 641) (lv2 := Lv t) (st2 := [.ref 52, .int (f_X6_table M (xs (t + 1)) (lg2 (xs (t + 2)) (xs (t + 2 + 1)))).1]) (M2 := N1) rfl ⟨trivial, trivial⟩ ?_
  refine V.arg C hL (k := 1) (by decide) (by decide +kernel) (by decide +kernel) ?_
  refine V.arl C hL (k := 2) (by decide) (by decide +kernel) (by decide +kernel) (by decide +kernel) (by decide +kernel) (by decide +kernel) (by decide +kernel) ?_
  show V G X 4 cells slots Q 666 (Lv t) [.long (lg2 (xs (t + 2)) (xs (t + 2 + 1))), .int (xs (t + 1)), .ref 52, .int (f_X6_table M (xs (t + 1)) (lg2 (xs (t + 2)) (xs (t + 2 + 1)))).1] N1
  refine V.callV (as := [.int (xs (t + 1)), .long (lg2 (xs (t + 2)) (xs (t + 2 + 1)))]) (rest := [.int (f_X6_table M (xs (t + 1)) (lg2 (xs (t + 2)) (xs (t + 2 + 1)))).1]) F (by decide +kernel) lL_57 bX7_table ⟨7, _, q1.o 52 7 rfl, rfl, rfl⟩ (c_X7_table G X.2.1 N1 (xs (t + 1)) (lg2 (xs (t + 2)) (xs (t + 2 + 1))) q1 g1 hT) (C.rm (by decide) (by decide)) (C.cs (by omega) (by omega)) (Nat.le_of_ble_eq_true rfl) (fun r2 N2 p2 => ?_)
  obtain ⟨rfl, e2, s2⟩ := p2
  obtain ⟨J1, J2⟩ := I.nx e1 e2 (ag_table R1) s2.2.1
  show V G X 4 cells slots Q 669 (Lv t) [.int (f_X7_table N1 (xs (t + 1)) (lg2 (xs (t + 2)) (xs (t + 2 + 1)))).1, .int (f_X6_table M (xs (t + 1)) (lg2 (xs (t + 2)) (xs (t + 2 + 1)))).1] N2
  refine V.ic_eq (off := 301) F (by decide +kernel) (tgt := 970) (by decide) (fun _ => ?_) (fun h => absurd J1 h)
  exact V.widen (Nat.le_add_right _ _) (Nat.le_add_right _ _) (k c _ J2)
set_option maxRecDepth 100000 in
theorem law_given {G : Ctx} {X : Xt} {Q : State → Prop} {L : Nat} {xs : Nat → Int32} {t c cells slots : Nat} {M : Mem} (C : Cx G X L xs) (hL : t + 6 ≤ L) (I : Iv c M) (hc : cells + 271 ≤ 600000) (hs : slots + 2249 ≤ 7302250) (k : ∀ c' M', Iv c' M' → V G X 4 (cells + 271) (slots + 2249) Q 970 (Lv t) [] M') : V G X 4 cells slots Q 674 (Lv t) [] M := by
  have F := C.1
  refine V.seg F floL cjoL [.aload_n 1] (by decide +kernel) (pc2 := 675) (lv2 := Lv t) (st2 := [.ref 1]) (M2 := M) rfl ⟨trivial, trivial⟩ ?_
  refine V.arg C hL (k := 1) (by decide) (by decide +kernel) (by decide +kernel) ?_
  refine V.arg C hL (k := 2) (by decide) (by decide +kernel) (by decide +kernel) ?_
  refine V.arg C hL (k := 3) (by decide) (by decide +kernel) (by decide +kernel) ?_
  show V G X 4 cells slots Q 690 (Lv t) [.int (xs (t + 3)), .int (xs (t + 2)), .int (xs (t + 1)), .ref 1] M
  refine V.callV (as := [.int (xs (t + 1)), .int (xs (t + 2)), .int (xs (t + 3))]) (rest := []) F (by decide +kernel) lL_58 bX6_given ⟨6, _, I.ok.o 1 6 rfl, rfl, rfl⟩ (c_X6_given G X.2.1 M (xs (t + 1)) (xs (t + 2)) (xs (t + 3)) I.ok I.rs) (C.rm (by decide) (by decide)) (C.cs (by omega) (by omega)) (Nat.le_of_ble_eq_true rfl) (fun r1 N1 p1 => ?_)
  obtain ⟨rfl, e1, -⟩ := p1
  have K1 : CK M N1 := by rw [e1]; exact (ag_given I.rl).2.2.1
  obtain ⟨R1, q1, g1⟩ := I.mid K1
  have cM := R1.prem.1
  have hLs := R1.prem.2.1
  have hT := R1.prem.2.2.1
  have hLn := R1.prem.2.2.2
  show V G X 4 cells slots Q 693 (Lv t) [.int (f_X6_given M (xs (t + 1)) (xs (t + 2)) (xs (t + 3))).1] N1
  refine V.seg F floL cjoL [.aload_n 2] (by decide +kernel) (pc2 := 694) (lv2 := Lv t) (st2 := [.ref 52, .int (f_X6_given M (xs (t + 1)) (xs (t + 2)) (xs (t + 3))).1]) (M2 := N1) rfl ⟨trivial, trivial⟩ ?_
  refine V.arg C hL (k := 1) (by decide) (by decide +kernel) (by decide +kernel) ?_
  refine V.arg C hL (k := 2) (by decide) (by decide +kernel) (by decide +kernel) ?_
  refine V.arg C hL (k := 3) (by decide) (by decide +kernel) (by decide +kernel) ?_
  show V G X 4 cells slots Q 709 (Lv t) [.int (xs (t + 3)), .int (xs (t + 2)), .int (xs (t + 1)), .ref 52, .int (f_X6_given M (xs (t + 1)) (xs (t + 2)) (xs (t + 3))).1] N1
  refine V.callV (as := [.int (xs (t + 1)), .int (xs (t + 2)), .int (xs (t + 3))]) (rest := [.int (f_X6_given M (xs (t + 1)) (xs (t + 2)) (xs (t + 3))).1]) F (by decide +kernel) lL_62 bX7_given ⟨7, _, q1.o 52 7 rfl, rfl, rfl⟩ (c_X7_given G X.2.1 N1 (xs (t + 1)) (xs (t + 2)) (xs (t + 3)) q1 g1 cM) (C.rm (by decide) (by decide)) (C.cs (by omega) (by omega)) (Nat.le_of_ble_eq_true rfl) (fun r2 N2 p2 => ?_)
  obtain ⟨rfl, e2, s2⟩ := p2
  obtain ⟨J1, J2⟩ := I.nx e1 e2 (ag_given R1) s2.2.1
  show V G X 4 cells slots Q 712 (Lv t) [.int (f_X7_given N1 (xs (t + 1)) (xs (t + 2)) (xs (t + 3))).1, .int (f_X6_given M (xs (t + 1)) (xs (t + 2)) (xs (t + 3))).1] N2
  refine V.ic_eq (off := 258) F (by decide +kernel) (tgt := 970) (by decide) (fun _ => ?_) (fun h => absurd J1 h)
  exact V.widen (Nat.le_add_right _ _) (Nat.le_add_right _ _) (k c _ J2)
set_option maxRecDepth 100000 in
theorem law_find {G : Ctx} {X : Xt} {Q : State → Prop} {L : Nat} {xs : Nat → Int32} {t c cells slots : Nat} {M : Mem} (C : Cx G X L xs) (hL : t + 6 ≤ L) (I : Iv c M) (hc : cells + 271 ≤ 600000) (hs : slots + 2249 ≤ 7302250) (k : ∀ c' M', Iv c' M' → V G X 4 (cells + 271) (slots + 2249) Q 970 (Lv t) [] M') : V G X 4 cells slots Q 717 (Lv t) [] M := by
  have F := C.1
  refine V.seg F floL cjoL [.aload_n 1] (by decide +kernel) (pc2 := 718) (lv2 := Lv t) (st2 := [.ref 1]) (M2 := M) rfl ⟨trivial, trivial⟩ ?_
  refine V.arg C hL (k := 1) (by decide) (by decide +kernel) (by decide +kernel) ?_
  show V G X 4 cells slots Q 723 (Lv t) [.int (xs (t + 1)), .ref 1] M
  refine V.callV (as := [.int (xs (t + 1))]) (rest := []) F (by decide +kernel) lL_63 bX6_find ⟨6, _, I.ok.o 1 6 rfl, rfl, rfl⟩ (c_X6_find G X.2.1 M (xs (t + 1)) I.ok I.rs I.ts) (C.rm (by decide) (by decide)) (C.cs (by omega) (by omega)) (Nat.le_of_ble_eq_true rfl) (fun r1 N1 p1 => ?_)
  obtain ⟨rfl, e1, -⟩ := p1
  have K1 : CK M N1 := by rw [e1]; exact (ag_find I.rl).2.2.1
  obtain ⟨R1, q1, g1⟩ := I.mid K1
  have cM := R1.prem.1
  have hLs := R1.prem.2.1
  have hT := R1.prem.2.2.1
  have hLn := R1.prem.2.2.2
  show V G X 4 cells slots Q 726 (Lv t) [.int (f_X6_find M (xs (t + 1))).1] N1
  refine V.seg F floL cjoL [.aload_n 2] (by decide +kernel) (pc2 := 727) (lv2 := Lv t) (st2 := [.ref 52, .int (f_X6_find M (xs (t + 1))).1]) (M2 := N1) rfl ⟨trivial, trivial⟩ ?_
  refine V.arg C hL (k := 1) (by decide) (by decide +kernel) (by decide +kernel) ?_
  show V G X 4 cells slots Q 732 (Lv t) [.int (xs (t + 1)), .ref 52, .int (f_X6_find M (xs (t + 1))).1] N1
  refine V.callV (as := [.int (xs (t + 1))]) (rest := [.int (f_X6_find M (xs (t + 1))).1]) F (by decide +kernel) lL_67 bX7_find ⟨7, _, q1.o 52 7 rfl, rfl, rfl⟩ (c_X7_find G X.2.1 N1 (xs (t + 1)) q1 g1 cM hLs hT (fun _ _ => hLn _)) (C.rm (by decide) (by decide)) (C.cs (by omega) (by omega)) (Nat.le_of_ble_eq_true rfl) (fun r2 N2 p2 => ?_)
  obtain ⟨rfl, e2, s2⟩ := p2
  obtain ⟨J1, J2⟩ := I.nx e1 e2 (ag_find R1) s2.2.1
  show V G X 4 cells slots Q 735 (Lv t) [.int (f_X7_find N1 (xs (t + 1))).1, .int (f_X6_find M (xs (t + 1))).1] N2
  refine V.ic_eq (off := 235) F (by decide +kernel) (tgt := 970) (by decide) (fun _ => ?_) (fun h => absurd J1 h)
  exact V.widen (Nat.le_add_right _ _) (Nat.le_add_right _ _) (k c _ J2)
set_option maxRecDepth 100000 in
theorem law_found {G : Ctx} {X : Xt} {Q : State → Prop} {L : Nat} {xs : Nat → Int32} {t c cells slots : Nat} {M : Mem} (C : Cx G X L xs) (hL : t + 6 ≤ L) (I : Iv c M) (hc : cells + 271 ≤ 600000) (hs : slots + 2249 ≤ 7302250) (k : ∀ c' M', Iv c' M' → V G X 4 (cells + 271) (slots + 2249) Q 970 (Lv t) [] M') : V G X 4 cells slots Q 740 (Lv t) [] M := by
  have F := C.1
  refine V.seg F floL cjoL [.aload_n 1] (by decide +kernel) (pc2 := 741) (lv2 := Lv t) (st2 := [.ref 1]) (M2 := M) rfl ⟨trivial, trivial⟩ ?_
  refine V.arg C hL (k := 1) (by decide) (by decide +kernel) (by decide +kernel) ?_
  refine V.arg C hL (k := 2) (by decide) (by decide +kernel) (by decide +kernel) ?_
  refine V.arg C hL (k := 3) (by decide) (by decide +kernel) (by decide +kernel) ?_
  refine V.arg C hL (k := 4) (by decide) (by decide +kernel) (by decide +kernel) ?_
  show V G X 4 cells slots Q 761 (Lv t) [.int (xs (t + 4)), .int (xs (t + 3)), .int (xs (t + 2)), .int (xs (t + 1)), .ref 1] M
  refine V.callV (as := [.int (xs (t + 1)), .int (xs (t + 2)), .int (xs (t + 3)), .int (xs (t + 4))]) (rest := []) F (by decide +kernel) lL_68 bX6_found ⟨6, _, I.ok.o 1 6 rfl, rfl, rfl⟩ (c_X6_found G X.2.1 M (xs (t + 1)) (xs (t + 2)) (xs (t + 3)) (xs (t + 4)) I.ok I.rs) (C.rm (by decide) (by decide)) (C.cs (by omega) (by omega)) (Nat.le_of_ble_eq_true rfl) (fun r1 N1 p1 => ?_)
  obtain ⟨rfl, e1, -⟩ := p1
  have K1 : CK M N1 := by rw [e1]; exact (ag_found I.rl).2.2.1
  obtain ⟨R1, q1, g1⟩ := I.mid K1
  have cM := R1.prem.1
  have hLs := R1.prem.2.1
  have hT := R1.prem.2.2.1
  have hLn := R1.prem.2.2.2
  show V G X 4 cells slots Q 764 (Lv t) [.int (f_X6_found M (xs (t + 1)) (xs (t + 2)) (xs (t + 3)) (xs (t + 4))).1] N1
  refine V.seg F floL cjoL [.aload_n 2] (by decide +kernel) (pc2 := 765) (lv2 := Lv t) (st2 := [.ref 52, .int (f_X6_found M (xs (t + 1)) (xs (t + 2)) (xs (t + 3)) (xs (t + 4))).1]) (M2 := N1) rfl ⟨trivial, trivial⟩ ?_
  refine V.arg C hL (k := 1) (by decide) (by decide +kernel) (by decide +kernel) ?_
  refine V.arg C hL (k := 2) (by decide) (by decide +kernel) (by decide +kernel) ?_
  refine V.arg C hL (k := 3) (by decide) (by decide +kernel) (by decide +kernel) ?_
  refine V.arg C hL (k := 4) (by decide) (by decide +kernel) (by decide +kernel) ?_
  show V G X 4 cells slots Q 785 (Lv t) [.int (xs (t + 4)), .int (xs (t + 3)), .int (xs (t + 2)), .int (xs (t + 1)), .ref 52, .int (f_X6_found M (xs (t + 1)) (xs (t + 2)) (xs (t + 3)) (xs (t + 4))).1] N1
  refine V.callV (as := [.int (xs (t + 1)), .int (xs (t + 2)), .int (xs (t + 3)), .int (xs (t + 4))]) (rest := [.int (f_X6_found M (xs (t + 1)) (xs (t + 2)) (xs (t + 3)) (xs (t + 4))).1]) F (by decide +kernel) lL_71 bX7_found ⟨7, _, q1.o 52 7 rfl, rfl, rfl⟩ (c_X7_found G X.2.1 N1 (xs (t + 1)) (xs (t + 2)) (xs (t + 3)) (xs (t + 4)) q1 g1 cM hLs) (C.rm (by decide) (by decide)) (C.cs (by omega) (by omega)) (Nat.le_of_ble_eq_true rfl) (fun r2 N2 p2 => ?_)
  obtain ⟨rfl, e2, s2⟩ := p2
  obtain ⟨J1, J2⟩ := I.nx e1 e2 (ag_found R1) s2.2.1
  show V G X 4 cells slots Q 788 (Lv t) [.int (f_X7_found N1 (xs (t + 1)) (xs (t + 2)) (xs (t + 3)) (xs (t + 4))).1, .int (f_X6_found M (xs (t + 1)) (xs (t + 2)) (xs (t + 3)) (xs (t + 4))).1] N2
  refine V.ic_eq (off := 182) F (by decide +kernel) (tgt := 970) (by decide) (fun _ => ?_) (fun h => absurd J1 h)
  exact V.widen (Nat.le_add_right _ _) (Nat.le_add_right _ _) (k c _ J2)
set_option maxRecDepth 100000 in
theorem law_sum {G : Ctx} {X : Xt} {Q : State → Prop} {L : Nat} {xs : Nat → Int32} {t c cells slots : Nat} {M : Mem} (C : Cx G X L xs) (hL : t + 6 ≤ L) (I : Iv c M) (hc : cells + 271 ≤ 600000) (hs : slots + 2249 ≤ 7302250) (k : ∀ c' M', Iv c' M' → V G X 4 (cells + 271) (slots + 2249) Q 970 (Lv t) [] M') : V G X 4 cells slots Q 793 (Lv t) [] M := by
  have F := C.1
  refine V.seg F floL cjoL [.aload_n 1] (by decide +kernel) (pc2 := 794) (lv2 := Lv t) (st2 := [.ref 1]) (M2 := M) rfl ⟨trivial, trivial⟩ ?_
  refine V.arg C hL (k := 1) (by decide) (by decide +kernel) (by decide +kernel) ?_
  refine V.arg C hL (k := 2) (by decide) (by decide +kernel) (by decide +kernel) ?_
  show V G X 4 cells slots Q 804 (Lv t) [.int (xs (t + 2)), .int (xs (t + 1)), .ref 1] M
  refine V.callV (as := [.int (xs (t + 1)), .int (xs (t + 2))]) (rest := []) F (by decide +kernel) lL_72 bX6_sum ⟨6, _, I.ok.o 1 6 rfl, rfl, rfl⟩ (c_X6_sum G X.2.1 M (xs (t + 1)) (xs (t + 2)) I.ok I.rs) (C.rm (by decide) (by decide)) (C.cs (by omega) (by omega)) (Nat.le_of_ble_eq_true rfl) (fun r1 N1 p1 => ?_)
  obtain ⟨rfl, e1⟩ := p1
  obtain ⟨R1, q1, g1⟩ := I.mid CK.rf
  rw [e1]
  have cM := R1.prem.1
  have hLs := R1.prem.2.1
  have hT := R1.prem.2.2.1
  have hLn := R1.prem.2.2.2
  show V G X 4 cells slots Q 807 (Lv t) [.int (f_X6_sum M (xs (t + 1)) (xs (t + 2)))] M
  refine V.seg F floL cjoL [.aload_n 2] (by decide +kernel) (pc2 := 808) (lv2 := Lv t) (st2 := [.ref 52, .int (f_X6_sum M (xs (t + 1)) (xs (t + 2)))]) (M2 := M) rfl ⟨trivial, trivial⟩ ?_
  refine V.arg C hL (k := 1) (by decide) (by decide +kernel) (by decide +kernel) ?_
  refine V.arg C hL (k := 2) (by decide) (by decide +kernel) (by decide +kernel) ?_
  show V G X 4 cells slots Q 818 (Lv t) [.int (xs (t + 2)), .int (xs (t + 1)), .ref 52, .int (f_X6_sum M (xs (t + 1)) (xs (t + 2)))] M
  refine V.callV (as := [.int (xs (t + 1)), .int (xs (t + 2))]) (rest := [.int (f_X6_sum M (xs (t + 1)) (xs (t + 2)))]) F (by decide +kernel) lL_76 bX7_sum ⟨7, _, q1.o 52 7 rfl, rfl, rfl⟩ (c_X7_sum G X.2.1 M (xs (t + 1)) (xs (t + 2)) q1 g1 cM hLs (fun _ _ => hLn _)) (C.rm (by decide) (by decide)) (C.cs (by omega) (by omega)) (Nat.le_of_ble_eq_true rfl) (fun r2 N2 p2 => ?_)
  obtain ⟨rfl, e2, s2⟩ := p2
  obtain ⟨J1, J2⟩ := I.nx (N1 := M) (x := (f_X6_sum M (xs (t + 1)) (xs (t + 2)), M)) rfl e2 (ag_sum R1) s2.2.1
  show V G X 4 cells slots Q 821 (Lv t) [.int (f_X7_sum M (xs (t + 1)) (xs (t + 2))).1, .int (f_X6_sum M (xs (t + 1)) (xs (t + 2)))] N2
  refine V.ic_eq (off := 149) F (by decide +kernel) (tgt := 970) (by decide) (fun _ => ?_) (fun h => absurd J1 h)
  exact V.widen (Nat.le_add_right _ _) (Nat.le_add_right _ _) (k c _ J2)
set_option maxRecDepth 100000 in
theorem law_put {G : Ctx} {X : Xt} {Q : State → Prop} {L : Nat} {xs : Nat → Int32} {t c cells slots : Nat} {M : Mem} (C : Cx G X L xs) (hL : t + 6 ≤ L) (I : Iv c M) (hc : cells + 271 ≤ 600000) (hs : slots + 2249 ≤ 7302250) (k : ∀ c' M', Iv c' M' → V G X 4 (cells + 271) (slots + 2249) Q 970 (Lv t) [] M') : V G X 4 cells slots Q 826 (Lv t) [] M := by
  have F := C.1
  refine V.seg F floL cjoL [.aload_n 1] (by decide +kernel) (pc2 := 827) (lv2 := Lv t) (st2 := [.ref 1]) (M2 := M) rfl ⟨trivial, trivial⟩ ?_
  refine V.arg C hL (k := 1) (by decide) (by decide +kernel) (by decide +kernel) ?_
  refine V.arl C hL (k := 2) (by decide) (by decide +kernel) (by decide +kernel) (by decide +kernel) (by decide +kernel) (by decide +kernel) (by decide +kernel) ?_
  show V G X 4 cells slots Q 852 (Lv t) [.long (lg2 (xs (t + 2)) (xs (t + 2 + 1))), .int (xs (t + 1)), .ref 1] M
  refine V.callV (as := [.int (xs (t + 1)), .long (lg2 (xs (t + 2)) (xs (t + 2 + 1)))]) (rest := []) F (by decide +kernel) lL_77 bX6_put ⟨6, _, I.ok.o 1 6 rfl, rfl, rfl⟩ (c_X6_put G X.2.1 M (xs (t + 1)) (lg2 (xs (t + 2)) (xs (t + 2 + 1))) I.ok ) (C.rm (by decide) (by decide)) (C.cs (by omega) (by omega)) (Nat.le_of_ble_eq_true rfl) (fun r1 N1 p1 => ?_)
  obtain ⟨rfl, e1, -⟩ := p1
  have K1 : CK M N1 := by rw [e1]; exact (ag_put I.rl).2.2.1
  obtain ⟨R1, q1, g1⟩ := I.mid K1
  have cM := R1.prem.1
  have hLs := R1.prem.2.1
  have hT := R1.prem.2.2.1
  have hLn := R1.prem.2.2.2
  show V G X 4 cells slots Q 855 (Lv t) [.long (f_X6_put M (xs (t + 1)) (lg2 (xs (t + 2)) (xs (t + 2 + 1)))).1] N1
  refine V.seg F floL cjoL [.aload_n 2] (by decide +kernel) (pc2 := 856) (lv2 := Lv t) (st2 := [.ref 52, .long (f_X6_put M (xs (t + 1)) (lg2 (xs (t + 2)) (xs (t + 2 + 1)))).1]) (M2 := N1) rfl ⟨trivial, trivial⟩ ?_
  refine V.arg C hL (k := 1) (by decide) (by decide +kernel) (by decide +kernel) ?_
  refine V.arl C hL (k := 2) (by decide) (by decide +kernel) (by decide +kernel) (by decide +kernel) (by decide +kernel) (by decide +kernel) (by decide +kernel) ?_
  show V G X 4 cells slots Q 881 (Lv t) [.long (lg2 (xs (t + 2)) (xs (t + 2 + 1))), .int (xs (t + 1)), .ref 52, .long (f_X6_put M (xs (t + 1)) (lg2 (xs (t + 2)) (xs (t + 2 + 1)))).1] N1
  refine V.callV (as := [.int (xs (t + 1)), .long (lg2 (xs (t + 2)) (xs (t + 2 + 1)))]) (rest := [.long (f_X6_put M (xs (t + 1)) (lg2 (xs (t + 2)) (xs (t + 2 + 1)))).1]) F (by decide +kernel) lL_81 bX7_put_ ⟨7, _, q1.o 52 7 rfl, rfl, rfl⟩ (c_X7_put_ G X.2.1 N1 (xs (t + 1)) (lg2 (xs (t + 2)) (xs (t + 2 + 1))) q1 g1) (C.rm (by decide) (by decide)) (C.cs (by omega) (by omega)) (Nat.le_of_ble_eq_true rfl) (fun r2 N2 p2 => ?_)
  obtain ⟨rfl, e2, s2⟩ := p2
  obtain ⟨J1, J2⟩ := I.nx e1 e2 (ag_put R1) s2.2.1
  show V G X 4 cells slots Q 884 (Lv t) [.long (f_X7_put_ N1 (xs (t + 1)) (lg2 (xs (t + 2)) (xs (t + 2 + 1)))).1, .long (f_X6_put M (xs (t + 1)) (lg2 (xs (t + 2)) (xs (t + 2 + 1)))).1] N2
  refine V.seg F floL cjoL [.lcmp] (by decide +kernel) (pc2 := 885) (lv2 := Lv t) (st2 := [.int (lg_cmp (f_X6_put M (xs (t + 1)) (lg2 (xs (t + 2)) (xs (t + 2 + 1)))).1 (f_X7_put_ N1 (xs (t + 1)) (lg2 (xs (t + 2)) (xs (t + 2 + 1)))).1)]) (M2 := N2) rfl ⟨trivial, trivial⟩ ?_
  refine V.lc_eq (off := 85) F (by decide +kernel) (tgt := 970) (by decide) (fun _ => ?_) (fun h => absurd J1 h)
  exact V.widen (Nat.le_add_right _ _) (Nat.le_add_right _ _) (k c _ J2)
set_option maxRecDepth 100000 in
theorem law_walk {G : Ctx} {X : Xt} {Q : State → Prop} {L : Nat} {xs : Nat → Int32} {t c cells slots : Nat} {M : Mem} (C : Cx G X L xs) (hL : t + 6 ≤ L) (I : Iv c M) (hc : cells + 271 ≤ 600000) (hs : slots + 2249 ≤ 7302250) (k : ∀ c' M', Iv c' M' → V G X 4 (cells + 271) (slots + 2249) Q 970 (Lv t) [] M') : V G X 4 cells slots Q 890 (Lv t) [] M := by
  have F := C.1
  refine V.seg F floL cjoL [.aload_n 1] (by decide +kernel) (pc2 := 891) (lv2 := Lv t) (st2 := [.ref 1]) (M2 := M) rfl ⟨trivial, trivial⟩ ?_
  refine V.arg C hL (k := 1) (by decide) (by decide +kernel) (by decide +kernel) ?_
  refine V.arg C hL (k := 2) (by decide) (by decide +kernel) (by decide +kernel) ?_
  show V G X 4 cells slots Q 901 (Lv t) [.int (xs (t + 2)), .int (xs (t + 1)), .ref 1] M
  refine V.callV (as := [.int (xs (t + 1)), .int (xs (t + 2))]) (rest := []) F (by decide +kernel) lL_82 bX6_walk ⟨6, _, I.ok.o 1 6 rfl, rfl, rfl⟩ (c_X6_walk G X.2.1 M (xs (t + 1)) (xs (t + 2)) I.ok I.rs I.ts) (C.rm (by decide) (by decide)) (C.cs (by omega) (by omega)) (Nat.le_of_ble_eq_true rfl) (fun r1 N1 p1 => ?_)
  obtain ⟨rfl, e1, -⟩ := p1
  have K1 : CK M N1 := by rw [e1]; exact (ag_walk I.rl).2.2.1
  obtain ⟨R1, q1, g1⟩ := I.mid K1
  have cM := R1.prem.1
  have hLs := R1.prem.2.1
  have hT := R1.prem.2.2.1
  have hLn := R1.prem.2.2.2
  show V G X 4 cells slots Q 904 (Lv t) [.int (f_X6_walk M (xs (t + 1)) (xs (t + 2))).1] N1
  refine V.seg F floL cjoL [.aload_n 2] (by decide +kernel) (pc2 := 905) (lv2 := Lv t) (st2 := [.ref 52, .int (f_X6_walk M (xs (t + 1)) (xs (t + 2))).1]) (M2 := N1) rfl ⟨trivial, trivial⟩ ?_
  refine V.arg C hL (k := 1) (by decide) (by decide +kernel) (by decide +kernel) ?_
  refine V.arg C hL (k := 2) (by decide) (by decide +kernel) (by decide +kernel) ?_
  show V G X 4 cells slots Q 915 (Lv t) [.int (xs (t + 2)), .int (xs (t + 1)), .ref 52, .int (f_X6_walk M (xs (t + 1)) (xs (t + 2))).1] N1
  refine V.callV (as := [.int (xs (t + 1)), .int (xs (t + 2))]) (rest := [.int (f_X6_walk M (xs (t + 1)) (xs (t + 2))).1]) F (by decide +kernel) lL_85 bX7_walk ⟨7, _, q1.o 52 7 rfl, rfl, rfl⟩ (c_X7_walk G X.2.1 N1 (xs (t + 1)) (xs (t + 2)) q1 g1 cM hLs hT (fun _ _ => hLn _)) (C.rm (by decide) (by decide)) (C.cs (by omega) (by omega)) (Nat.le_of_ble_eq_true rfl) (fun r2 N2 p2 => ?_)
  obtain ⟨rfl, e2, s2⟩ := p2
  obtain ⟨J1, J2⟩ := I.nx e1 e2 (ag_walk R1) s2.2.1
  show V G X 4 cells slots Q 918 (Lv t) [.int (f_X7_walk N1 (xs (t + 1)) (xs (t + 2))).1, .int (f_X6_walk M (xs (t + 1)) (xs (t + 2))).1] N2
  refine V.ic_eq (off := 52) F (by decide +kernel) (tgt := 970) (by decide) (fun _ => ?_) (fun h => absurd J1 h)
  exact V.widen (Nat.le_add_right _ _) (Nat.le_add_right _ _) (k c _ J2)
set_option maxRecDepth 100000 in
theorem law_now {G : Ctx} {X : Xt} {Q : State → Prop} {L : Nat} {xs : Nat → Int32} {t c cells slots : Nat} {M : Mem} (C : Cx G X L xs) (hL : t + 6 ≤ L) (I : Iv c M) (hc : cells + 271 ≤ 600000) (hs : slots + 2249 ≤ 7302250) (k : ∀ c' M', Iv c' M' → V G X 4 (cells + 271) (slots + 2249) Q 970 (Lv t) [] M') : V G X 4 cells slots Q 923 (Lv t) [] M := by
  have F := C.1
  refine V.seg F floL cjoL [.aload_n 1] (by decide +kernel) (pc2 := 924) (lv2 := Lv t) (st2 := [.ref 1]) (M2 := M) rfl ⟨trivial, trivial⟩ ?_
  refine V.arg C hL (k := 1) (by decide) (by decide +kernel) (by decide +kernel) ?_
  show V G X 4 cells slots Q 929 (Lv t) [.int (xs (t + 1)), .ref 1] M
  refine V.callV (as := [.int (xs (t + 1))]) (rest := []) F (by decide +kernel) lL_86 bX6_now ⟨6, _, I.ok.o 1 6 rfl, rfl, rfl⟩ (c_X6_now G X.2.1 M (xs (t + 1)) I.ok ) (C.rm (by decide) (by decide)) (C.cs (by omega) (by omega)) (Nat.le_of_ble_eq_true rfl) (fun r1 N1 p1 => ?_)
  obtain ⟨rfl, e1⟩ := p1
  obtain ⟨R1, q1, g1⟩ := I.mid CK.rf
  rw [e1]
  have cM := R1.prem.1
  have hLs := R1.prem.2.1
  have hT := R1.prem.2.2.1
  have hLn := R1.prem.2.2.2
  show V G X 4 cells slots Q 932 (Lv t) [.long (f_X6_now M (xs (t + 1)))] M
  refine V.seg F floL cjoL [.aload_n 2] (by decide +kernel) (pc2 := 933) (lv2 := Lv t) (st2 := [.ref 52, .long (f_X6_now M (xs (t + 1)))]) (M2 := M) rfl ⟨trivial, trivial⟩ ?_
  refine V.arg C hL (k := 1) (by decide) (by decide +kernel) (by decide +kernel) ?_
  show V G X 4 cells slots Q 938 (Lv t) [.int (xs (t + 1)), .ref 52, .long (f_X6_now M (xs (t + 1)))] M
  refine V.callV (as := [.int (xs (t + 1))]) (rest := [.long (f_X6_now M (xs (t + 1)))]) F (by decide +kernel) lL_90 bX7_now ⟨7, _, q1.o 52 7 rfl, rfl, rfl⟩ (c_X7_now G X.2.1 M (xs (t + 1)) q1 g1) (C.rm (by decide) (by decide)) (C.cs (by omega) (by omega)) (Nat.le_of_ble_eq_true rfl) (fun r2 N2 p2 => ?_)
  obtain ⟨rfl, e2⟩ := p2
  have J1 : (f_X6_now M (xs (t + 1))) = (f_X7_now M (xs (t + 1))) := ag_now R1
  rw [e2]
  show V G X 4 cells slots Q 941 (Lv t) [.long (f_X7_now M (xs (t + 1))), .long (f_X6_now M (xs (t + 1)))] M
  refine V.seg F floL cjoL [.lcmp] (by decide +kernel) (pc2 := 942) (lv2 := Lv t) (st2 := [.int (lg_cmp (f_X6_now M (xs (t + 1))) (f_X7_now M (xs (t + 1))))]) (M2 := M) rfl ⟨trivial, trivial⟩ ?_
  refine V.lc_eq (off := 28) F (by decide +kernel) (tgt := 970) (by decide) (fun _ => ?_) (fun h => absurd J1 h)
  exact V.widen (Nat.le_add_right _ _) (Nat.le_add_right _ _) (k c _ I)
set_option maxRecDepth 100000 in
theorem law_ran {G : Ctx} {X : Xt} {Q : State → Prop} {L : Nat} {xs : Nat → Int32} {t c cells slots : Nat} {M : Mem} (C : Cx G X L xs) (hL : t + 6 ≤ L) (I : Iv c M) (hc : cells + 271 ≤ 600000) (hs : slots + 2249 ≤ 7302250) (k : ∀ c' M', Iv c' M' → V G X 4 (cells + 271) (slots + 2249) Q 970 (Lv t) [] M') : V G X 4 cells slots Q 947 (Lv t) [] M := by
  have F := C.1
  refine V.seg F floL cjoL [.aload_n 1] (by decide +kernel) (pc2 := 948) (lv2 := Lv t) (st2 := [.ref 1]) (M2 := M) rfl ⟨trivial, trivial⟩ ?_
  refine V.arg C hL (k := 1) (by decide) (by decide +kernel) (by decide +kernel) ?_
  show V G X 4 cells slots Q 953 (Lv t) [.int (xs (t + 1)), .ref 1] M
  refine V.callV (as := [.int (xs (t + 1))]) (rest := []) F (by decide +kernel) lL_91 bX6_ran ⟨6, _, I.ok.o 1 6 rfl, rfl, rfl⟩ (c_X6_ran G X.2.1 M (xs (t + 1)) I.ok ) (C.rm (by decide) (by decide)) (C.cs (by omega) (by omega)) (Nat.le_of_ble_eq_true rfl) (fun r1 N1 p1 => ?_)
  obtain ⟨rfl, e1⟩ := p1
  obtain ⟨R1, q1, g1⟩ := I.mid CK.rf
  rw [e1]
  have cM := R1.prem.1
  have hLs := R1.prem.2.1
  have hT := R1.prem.2.2.1
  have hLn := R1.prem.2.2.2
  show V G X 4 cells slots Q 956 (Lv t) [.int (f_X6_ran M (xs (t + 1)))] M
  refine V.seg F floL cjoL [.aload_n 2] (by decide +kernel) (pc2 := 957) (lv2 := Lv t) (st2 := [.ref 52, .int (f_X6_ran M (xs (t + 1)))]) (M2 := M) rfl ⟨trivial, trivial⟩ ?_
  refine V.arg C hL (k := 1) (by decide) (by decide +kernel) (by decide +kernel) ?_
  show V G X 4 cells slots Q 962 (Lv t) [.int (xs (t + 1)), .ref 52, .int (f_X6_ran M (xs (t + 1)))] M
  refine V.callV (as := [.int (xs (t + 1))]) (rest := [.int (f_X6_ran M (xs (t + 1)))]) F (by decide +kernel) lL_94 bX7_ran ⟨7, _, q1.o 52 7 rfl, rfl, rfl⟩ (c_X7_ran G X.2.1 M (xs (t + 1)) q1 g1) (C.rm (by decide) (by decide)) (C.cs (by omega) (by omega)) (Nat.le_of_ble_eq_true rfl) (fun r2 N2 p2 => ?_)
  obtain ⟨rfl, e2⟩ := p2
  have J1 : (f_X6_ran M (xs (t + 1))) = (f_X7_ran M (xs (t + 1))) := ag_ran R1
  rw [e2]
  show V G X 4 cells slots Q 965 (Lv t) [.int (f_X7_ran M (xs (t + 1))), .int (f_X6_ran M (xs (t + 1)))] M
  refine V.ic_eq (off := 5) F (by decide +kernel) (tgt := 970) (by decide) (fun _ => ?_) (fun h => absurd J1 h)
  exact V.widen (Nat.le_add_right _ _) (Nat.le_add_right _ _) (k c _ I)
set_option maxRecDepth 100000 in
theorem law_step {G : Ctx} {X : Xt} {Q : State → Prop} {L : Nat} {xs : Nat → Int32} {t c cells slots : Nat} {M : Mem} (C : Cx G X L xs) (hL : t + 6 ≤ L) (I : Iv c M) (hc : cells + 271 ≤ 600000) (hs : slots + 2249 ≤ 7302250) (k : ∀ c' M', Iv c' M' → V G X 4 (cells + 271) (slots + 2249) Q 970 (Lv t) [] M') : V G X 4 cells slots Q 27 (Lv t) [] M := by
  have F := C.1
  have hl := C.2.2.2.2.2
  refine V.seg F floL cjoL [.aload_n 0, .iload_n 3] (by decide +kernel) (pc2 := 29) (lv2 := Lv t) (st2 := [.int (nI t), .ref 0]) (M2 := M) rfl ⟨trivial, trivial, trivial⟩ ?_
  refine V.sld C (by decide +kernel) (vp_in_nI (by omega) (by omega)) ?_
  generalize xs (nI t).toNatClampNeg = y
  refine V.seg F floL cjoL [.bipush 31, .iand] (by decide +kernel) (pc2 := 33) (lv2 := Lv t) (st2 := [.int (y &&& 31)]) (M2 := M) rfl ⟨trivial, trivial, trivial⟩ ?_
  generalize y &&& 31 = z
  by_cases h_0 : z = 0
  · refine V.swo (dflt := 937) (lo := 0) (hi := 16) (offs := #[83, 186, 289, 362, 415, 449, 512, 525, 578, 641, 684, 707, 760, 793, 857, 890, 914]) (len := 83) (off := 83) (tgt := 116) F (by decide +kernel) (by rw [h_0]; rfl) rfl (by decide) ?_
    exact law_fact C hL I hc hs k
  by_cases h_1 : z = 1
  · refine V.swo (dflt := 937) (lo := 0) (hi := 16) (offs := #[83, 186, 289, 362, 415, 449, 512, 525, 578, 641, 684, 707, 760, 793, 857, 890, 914]) (len := 83) (off := 186) (tgt := 219) F (by decide +kernel) (by rw [h_1]; rfl) rfl (by decide) ?_
    exact law_bits C hL I hc hs k
  by_cases h_2 : z = 2
  · refine V.swo (dflt := 937) (lo := 0) (hi := 16) (offs := #[83, 186, 289, 362, 415, 449, 512, 525, 578, 641, 684, 707, 760, 793, 857, 890, 914]) (len := 83) (off := 289) (tgt := 322) F (by decide +kernel) (by rw [h_2]; rfl) rfl (by decide) ?_
    exact law_rest C hL I hc hs k
  by_cases h_3 : z = 3
  · refine V.swo (dflt := 937) (lo := 0) (hi := 16) (offs := #[83, 186, 289, 362, 415, 449, 512, 525, 578, 641, 684, 707, 760, 793, 857, 890, 914]) (len := 83) (off := 362) (tgt := 395) F (by decide +kernel) (by rw [h_3]; rfl) rfl (by decide) ?_
    exact law_act C hL I hc hs k
  by_cases h_4 : z = 4
  · refine V.swo (dflt := 937) (lo := 0) (hi := 16) (offs := #[83, 186, 289, 362, 415, 449, 512, 525, 578, 641, 684, 707, 760, 793, 857, 890, 914]) (len := 83) (off := 415) (tgt := 448) F (by decide +kernel) (by rw [h_4]; rfl) rfl (by decide) ?_
    exact law_told C hL I hc hs k
  by_cases h_5 : z = 5
  · refine V.swo (dflt := 937) (lo := 0) (hi := 16) (offs := #[83, 186, 289, 362, 415, 449, 512, 525, 578, 641, 684, 707, 760, 793, 857, 890, 914]) (len := 83) (off := 449) (tgt := 482) F (by decide +kernel) (by rw [h_5]; rfl) rfl (by decide) ?_
    exact law_isOf C hL I hc hs k
  by_cases h_6 : z = 6
  · refine V.swo (dflt := 937) (lo := 0) (hi := 16) (offs := #[83, 186, 289, 362, 415, 449, 512, 525, 578, 641, 684, 707, 760, 793, 857, 890, 914]) (len := 83) (off := 512) (tgt := 545) F (by decide +kernel) (by rw [h_6]; rfl) rfl (by decide) ?_
    exact law_method C hL I hc hs k
  by_cases h_7 : z = 7
  · refine V.swo (dflt := 937) (lo := 0) (hi := 16) (offs := #[83, 186, 289, 362, 415, 449, 512, 525, 578, 641, 684, 707, 760, 793, 857, 890, 914]) (len := 83) (off := 525) (tgt := 558) F (by decide +kernel) (by rw [h_7]; rfl) rfl (by decide) ?_
    exact law_op C hL I hc hs k
  by_cases h_8 : z = 8
  · refine V.swo (dflt := 937) (lo := 0) (hi := 16) (offs := #[83, 186, 289, 362, 415, 449, 512, 525, 578, 641, 684, 707, 760, 793, 857, 890, 914]) (len := 83) (off := 578) (tgt := 611) F (by decide +kernel) (by rw [h_8]; rfl) rfl (by decide) ?_
    exact law_table C hL I hc hs k
  by_cases h_9 : z = 9
  · refine V.swo (dflt := 937) (lo := 0) (hi := 16) (offs := #[83, 186, 289, 362, 415, 449, 512, 525, 578, 641, 684, 707, 760, 793, 857, 890, 914]) (len := 83) (off := 641) (tgt := 674) F (by decide +kernel) (by rw [h_9]; rfl) rfl (by decide) ?_
    exact law_given C hL I hc hs k
  by_cases h_10 : z = 10
  · refine V.swo (dflt := 937) (lo := 0) (hi := 16) (offs := #[83, 186, 289, 362, 415, 449, 512, 525, 578, 641, 684, 707, 760, 793, 857, 890, 914]) (len := 83) (off := 684) (tgt := 717) F (by decide +kernel) (by rw [h_10]; rfl) rfl (by decide) ?_
    exact law_find C hL I hc hs k
  by_cases h_11 : z = 11
  · refine V.swo (dflt := 937) (lo := 0) (hi := 16) (offs := #[83, 186, 289, 362, 415, 449, 512, 525, 578, 641, 684, 707, 760, 793, 857, 890, 914]) (len := 83) (off := 707) (tgt := 740) F (by decide +kernel) (by rw [h_11]; rfl) rfl (by decide) ?_
    exact law_found C hL I hc hs k
  by_cases h_12 : z = 12
  · refine V.swo (dflt := 937) (lo := 0) (hi := 16) (offs := #[83, 186, 289, 362, 415, 449, 512, 525, 578, 641, 684, 707, 760, 793, 857, 890, 914]) (len := 83) (off := 760) (tgt := 793) F (by decide +kernel) (by rw [h_12]; rfl) rfl (by decide) ?_
    exact law_sum C hL I hc hs k
  by_cases h_13 : z = 13
  · refine V.swo (dflt := 937) (lo := 0) (hi := 16) (offs := #[83, 186, 289, 362, 415, 449, 512, 525, 578, 641, 684, 707, 760, 793, 857, 890, 914]) (len := 83) (off := 793) (tgt := 826) F (by decide +kernel) (by rw [h_13]; rfl) rfl (by decide) ?_
    exact law_put C hL I hc hs k
  by_cases h_14 : z = 14
  · refine V.swo (dflt := 937) (lo := 0) (hi := 16) (offs := #[83, 186, 289, 362, 415, 449, 512, 525, 578, 641, 684, 707, 760, 793, 857, 890, 914]) (len := 83) (off := 857) (tgt := 890) F (by decide +kernel) (by rw [h_14]; rfl) rfl (by decide) ?_
    exact law_walk C hL I hc hs k
  by_cases h_15 : z = 15
  · refine V.swo (dflt := 937) (lo := 0) (hi := 16) (offs := #[83, 186, 289, 362, 415, 449, 512, 525, 578, 641, 684, 707, 760, 793, 857, 890, 914]) (len := 83) (off := 890) (tgt := 923) F (by decide +kernel) (by rw [h_15]; rfl) rfl (by decide) ?_
    exact law_now C hL I hc hs k
  by_cases h_16 : z = 16
  · refine V.swo (dflt := 937) (lo := 0) (hi := 16) (offs := #[83, 186, 289, 362, 415, 449, 512, 525, 578, 641, 684, 707, 760, 793, 857, 890, 914]) (len := 83) (off := 914) (tgt := 947) F (by decide +kernel) (by rw [h_16]; rfl) rfl (by decide) ?_
    exact law_ran C hL I hc hs k
  refine V.swo (dflt := 937) (lo := 0) (hi := 16) (offs := #[83, 186, 289, 362, 415, 449, 512, 525, 578, 641, 684, 707, 760, 793, 857, 890, 914]) (len := 83) (off := 937) (tgt := 970) F (by decide +kernel) (sw_dflt 17 (by decide) (h := fun k_ hk_ e_ => match k_, hk_, e_ with | 0, _, e_ => absurd (e_.trans (by decide)) h_0 | 1, _, e_ => absurd (e_.trans (by decide)) h_1 | 2, _, e_ => absurd (e_.trans (by decide)) h_2 | 3, _, e_ => absurd (e_.trans (by decide)) h_3 | 4, _, e_ => absurd (e_.trans (by decide)) h_4 | 5, _, e_ => absurd (e_.trans (by decide)) h_5 | 6, _, e_ => absurd (e_.trans (by decide)) h_6 | 7, _, e_ => absurd (e_.trans (by decide)) h_7 | 8, _, e_ => absurd (e_.trans (by decide)) h_8 | 9, _, e_ => absurd (e_.trans (by decide)) h_9 | 10, _, e_ => absurd (e_.trans (by decide)) h_10 | 11, _, e_ => absurd (e_.trans (by decide)) h_11 | 12, _, e_ => absurd (e_.trans (by decide)) h_12 | 13, _, e_ => absurd (e_.trans (by decide)) h_13 | 14, _, e_ => absurd (e_.trans (by decide)) h_14 | 15, _, e_ => absurd (e_.trans (by decide)) h_15 | 16, _, e_ => absurd (e_.trans (by decide)) h_16 | n_ + 17, hk_, _ => absurd hk_ (by omega))) rfl (by decide) ?_
  exact V.widen (Nat.le_add_right _ _) (Nat.le_add_right _ _) (k c M I)
theorem sub6 {L t : Nat} (hL : L ≤ 3072) (ht : t ≤ L) (h : ¬ nI L - 6 < nI t) : t + 6 ≤ L := by
  by_cases h6 : 6 ≤ L
  · rw [show nI L - 6 = nI (L - 6) by
      have e : nI L = nI (L - 6) + 6 := by
        rw [show (6 : Int32) = nI 6 from rfl, nI_p, Nat.sub_add_cancel h6]
      rw [e, Int32.add_sub_cancel], nI_ltI (by omega) (by omega)] at h
    omega
  · refine absurd ?_ h
    have e : nI L - 6 < 0 := (show ∀ L : Nat, L < 6 → nI L - 6 < 0 by decide) L (by omega)
    have e2 : (nI t).toInt = (t : Int) := nI_toInt (by omega)
    have e3 := Int32.lt_iff_toInt_lt.mp e
    rw [show (0 : Int32).toInt = 0 from rfl] at e3
    exact Int32.lt_iff_toInt_lt.mpr (by omega)
set_option maxRecDepth 100000 in
theorem law_loop {G : Ctx} {X : Xt} {Q : State → Prop} {L : Nat} {xs : Nat → Int32} (C : Cx G X L xs) (hQ : ∀ (cells slots : Nat) (lv : List (Nat × Value)) (M : Mem), cells ≤ 600000 → slots ≤ 7302250 → V G X 4 cells slots Q 977 lv [.int 1] M) :
    ∀ (n u c : Nat) (M : Mem), 6 * u ≤ L → L + 6 ≤ 6 * (u + n) → Iv c M → V G X 4 (73 + 271 * u) (13882 + 2249 * u) Q 18 (Lv (6 * u)) [] M := by
  have F := C.1
  have hl := C.2.2.2.2.2
  intro n
  induction n with
  | zero => intro u c M h1 h2; exact absurd h2 (by omega)
  | succ n ih =>
    intro u c M h1 h2 I
    refine V.seg F floL cjoL [.iload_n 3, .aload_n 0] (by decide +kernel) (pc2 := 20) (lv2 := Lv (6 * u)) (st2 := [.ref 0, .int (nI (6 * u))]) (M2 := M) rfl ⟨trivial, trivial, trivial⟩ ?_
    refine V.slen C (by decide +kernel) ?_
    refine V.seg F floL cjoL [.bipush 6, .isub] (by decide +kernel) (pc2 := 24) (lv2 := Lv (6 * u)) (st2 := [.int (nI L - 6), .int (nI (6 * u))]) (M2 := M) rfl ⟨trivial, trivial, trivial⟩ ?_
    refine V.ic_gt (off := 952) F (by decide +kernel) (tgt := 976) (by decide) (fun h => ?_) (fun h => ?_)
    · refine V.seg F floL cjoL [.iconst 1] (by decide +kernel) (pc2 := 977) (lv2 := Lv (6 * u)) (st2 := [.int 1]) (M2 := M) rfl ⟨trivial, trivial⟩ ?_
      exact hQ _ _ _ _ (by omega) (by omega)
    · have h6 := sub6 hl h1 h
      refine law_step C h6 I (by omega) (by omega) (fun c' M' I' => ?_)
      refine V.seg F floL cjoL [.iinc 3 6, .goto (-955)] (by decide +kernel) (pc2 := 18) (lv2 := s1 (Lv (6 * u)) 3 (.int (nI (6 * u) + 6))) (st2 := []) (M2 := M') rfl ⟨(by decide), (by decide), trivial⟩ ?_
      rw [show nI (6 * u) + 6 = nI (6 * (u + 1)) by rw [show (6 : Int32) = nI 6 from rfl, nI_p]; rfl]
      exact ih (u + 1) c' M' (by omega) (by omega) I'
set_option maxRecDepth 100000 in
theorem law_start {G : Ctx} {X : Xt} {Q : State → Prop} {L : Nat} {xs : Nat → Int32} (C : Cx G X L xs) (hQ : ∀ (cells slots : Nat) (lv : List (Nat × Value)) (M : Mem), cells ≤ 600000 → slots ≤ 7302250 → V G X 4 cells slots Q 977 lv [.int 1] M) : V G X 4 0 0 Q 0 [(0, .ref 0)] [] M00 := by
  have F := C.1
  refine V.new (c := 6) (x := 7) F (by decide +kernel) rfl rfl (by decide +kernel) (by decide +kernel) (by decide +kernel) (C.cs (cells := 1) (slots := 0) (by decide) (by decide)).1 (C.cs (cells := 0) (slots := 10) (by decide) (by decide)).2 ?_
  show V G X 4 1 10 Q 3 [(0, .ref 0)] [.ref 1] (mN M00)
  refine V.seg F floL cjoL [.dup] (by decide +kernel) (pc2 := 4) (lv2 := [(0, .ref 0)]) (st2 := [.ref 1, .ref 1]) (M2 := mN M00) rfl ⟨trivial, trivial⟩ ?_
  refine V.callI (b := 1) (as := []) (rest := [.ref 1]) F (by decide +kernel) lL_9 bX6_init (c_X6_init G X.2.1 (mN M00) rfl) (C.rm (by decide) (by decide)) (C.cs (by decide) (by decide)) (Nat.le_of_ble_eq_true rfl) (fun r1 N1 p1 => ?_)
  obtain ⟨rfl, e1, k1, -⟩ := p1
  show V G X 4 51 905 Q 7 [(0, .ref 0)] [.ref 1] N1
  refine V.seg F floL cjoL [.astore_n 1] (by decide +kernel) (pc2 := 8) (lv2 := [(1, .ref 1), (0, .ref 0)]) (st2 := []) (M2 := N1) rfl ⟨(by decide), trivial⟩ ?_
  refine V.new (c := 7) (x := 10) F (by decide +kernel) rfl (by rw [k1]; rfl) (by decide +kernel) (by decide +kernel) (by decide +kernel) (C.cs (cells := 52) (slots := 0) (by decide) (by decide)).1 (C.cs (cells := 0) (slots := 932) (by decide) (by decide)).2 ?_
  rw [k1]
  show V G X 4 52 932 Q 11 [(1, .ref 1), (0, .ref 0)] [.ref 52] (mN N1)
  have k2 : mK (mN N1) = 52 := by
    have k1 : N1.1 = 51 := k1
    show N1.1 + 1 = 52
    omega
  refine V.seg F floL cjoL [.dup] (by decide +kernel) (pc2 := 12) (lv2 := [(1, .ref 1), (0, .ref 0)]) (st2 := [.ref 52, .ref 52]) (M2 := mN N1) rfl ⟨trivial, trivial⟩ ?_
  refine V.callI (b := 52) (as := []) (rest := [.ref 52]) F (by decide +kernel) lL_12 bX7_init (c_X7_init G X.2.1 (mN N1) k2) (C.rm (by decide) (by decide)) (C.cs (by decide) (by decide)) (Nat.le_of_ble_eq_true rfl) (fun r2 N2 p2 => ?_)
  obtain ⟨rfl, e2, -, -⟩ := p2
  show V G X 4 73 13882 Q 15 [(1, .ref 1), (0, .ref 0)] [.ref 52] N2
  refine V.seg F floL cjoL [.astore_n 2, .iconst 0, .istore_n 3] (by decide +kernel) (pc2 := 18) (lv2 := [(3, .int (nI 0)), (2, .ref 52), (1, .ref 1), (0, .ref 0)]) (st2 := []) (M2 := N2) rfl ⟨(by decide), trivial, (by decide), trivial⟩ ?_
  rw [e1] at e2
  exact law_loop C hQ (L + 6) 0 0 N2 (by omega) (by omega) (start_iv e2)
