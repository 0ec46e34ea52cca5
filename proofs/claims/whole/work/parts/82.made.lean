/-! what is made -/
/-- what was made before stays -/
def Kp (X Y : Mem) : Prop := X.1 ≤ Y.1 ∧ ∀ b k, b ≤ X.1 → mI Y b k = mI X b k ∧ mL Y b k = mL X b k ∧ (mB X b k = true → mB Y b k = true)
theorem Kp.rf {X : Mem} : Kp X X := ⟨Nat.le_refl _, fun _ _ _ => ⟨rfl, rfl, id⟩⟩
theorem Kp.tr {X Y Z : Mem} (h : Kp X Y) (h2 : Kp Y Z) : Kp X Z := ⟨Nat.le_trans h.1 h2.1, fun b k hb => ⟨((h2.2 b k (Nat.le_trans hb h.1)).1).trans (h.2 b k hb).1, ((h2.2 b k (Nat.le_trans hb h.1)).2.1).trans (h.2 b k hb).2.1, fun q => (h2.2 b k (Nat.le_trans hb h.1)).2.2 ((h.2 b k hb).2.2 q)⟩⟩
theorem Kp.mN {X : Mem} : Kp X (mN X) := ⟨Nat.le_succ _, fun b k hb => by
  have e : b ≠ X.1 + 1 := by omega
  exact ⟨if_neg e, if_neg e, fun q => by
    show (if b = X.1 + 1 then false else X.2.1 b k) = true
    rw [if_neg e]; exact q⟩⟩
theorem Kp.uB {X : Mem} {a j : Nat} : Kp X (uB X a j) := ⟨Nat.le_refl _, fun b k _ => ⟨rfl, rfl, fun q => by
  show (if b = a ∧ k = j then true else X.2.1 b k) = true
  by_cases e : b = a ∧ k = j
  · rw [if_pos e]
  · rw [if_neg e]; exact q⟩⟩
theorem Kp.I {X Y : Mem} {a j : Nat} {v : Int32} (h : Kp X Y) (ha : X.1 < a) : Kp X (uI Y a j v) := ⟨h.1, fun b k hb => ⟨by rw [mI_uI_ne (by omega)]; exact (h.2 b k hb).1, (h.2 b k hb).2.1, (h.2 b k hb).2.2⟩⟩
theorem Kp.L {X Y : Mem} {a j : Nat} {v : Int64} (h : Kp X Y) (ha : X.1 < a) : Kp X (uL Y a j v) := ⟨h.1, fun b k hb => ⟨(h.2 b k hb).1, by rw [mL_uL_ne (by omega)]; exact (h.2 b k hb).2.1, (h.2 b k hb).2.2⟩⟩
theorem uB_t {X : Mem} {a j : Nat} : mB (uB X a j) a j = true := by
  show (if a = a ∧ j = j then true else _) = true
  rw [if_pos ⟨rfl, rfl⟩]
/-- a new Fact, put into an array -/
theorem stp {Q : Mem} {K a j x : Nat} (h : Q.1 = K) (hx : x = K + 1) : (uB (f_X1_init (mN Q) x) a j).1 = K + 1 ∧ Kp Q (uB (f_X1_init (mN Q) x) a j) ∧ gC (uB (f_X1_init (mN Q) x) a j) x = AL ∧ mB (uB (f_X1_init (mN Q) x) a j) a j = true := by
  subst h
  subst hx
  refine ⟨rfl, ((((Kp.mN).L (by omega)).L (by omega)).L (by omega)).tr Kp.uB, ?_, uB_t⟩
  have z : ∀ k, mI (mN Q) (Q.1 + 1) k = 0 ∧ mL (mN Q) (Q.1 + 1) k = 0 := fun k => ⟨if_pos rfl, if_pos rfl⟩
  show (mI (mN Q) (Q.1 + 1) 0, mL (uL (uL (uL (mN Q) (Q.1 + 1) 1 (-9223372036854775808)) (Q.1 + 1) 2 9223372036854775807) (Q.1 + 1) 5 1) (Q.1 + 1) 1, mL (uL (uL (uL (mN Q) (Q.1 + 1) 1 (-9223372036854775808)) (Q.1 + 1) 2 9223372036854775807) (Q.1 + 1) 5 1) (Q.1 + 1) 2, mL (uL (uL (uL (mN Q) (Q.1 + 1) 1 (-9223372036854775808)) (Q.1 + 1) 2 9223372036854775807) (Q.1 + 1) 5 1) (Q.1 + 1) 3, mL (uL (uL (uL (mN Q) (Q.1 + 1) 1 (-9223372036854775808)) (Q.1 + 1) 2 9223372036854775807) (Q.1 + 1) 5 1) (Q.1 + 1) 4, mL (uL (uL (uL (mN Q) (Q.1 + 1) 1 (-9223372036854775808)) (Q.1 + 1) 2 9223372036854775807) (Q.1 + 1) 5 1) (Q.1 + 1) 5, mL (uL (uL (uL (mN Q) (Q.1 + 1) 1 (-9223372036854775808)) (Q.1 + 1) 2 9223372036854775807) (Q.1 + 1) 5 1) (Q.1 + 1) 6) = AL
  rw [(z 0).1, mL_uL_nk (by decide), mL_uL_nk (by decide), mL_uL, mL_uL_nk (by decide), mL_uL, mL_uL_nk (by decide), mL_uL_nk (by decide), mL_uL_nk (by decide), (z 3).2, mL_uL_nk (by decide), mL_uL_nk (by decide), mL_uL_nk (by decide), (z 4).2, mL_uL, mL_uL_nk (by decide), mL_uL_nk (by decide), mL_uL_nk (by decide), (z 6).2]
  rfl
theorem i3_99 {n : Nat} {B1 : Mem} (h1 : B1.1 = 74 + 271 * n + 14) : ∀ (q k j : Nat) (Q : Mem), j + q = 256 → q < k → Q.1 = 74 + 271 * n + 14 + j → Kp B1 Q → (∀ p, p < j → mB Q (74 + 271 * n + 5) p = true) →
    ∃ Q', f_X3_init_99 n k j Q = Q' ∧ Q'.1 = 74 + 271 * n + 270 ∧ Kp B1 Q' ∧ (∀ p, p < 256 → mB Q' (74 + 271 * n + 5) p = true) := by
  intro q
  induction q with
  | zero =>
    intro k j Q hj hk hQ hK hp
    obtain ⟨k, rfl⟩ : ∃ z, k = z + 1 := ⟨k - 1, by omega⟩
    rw [f_X3_init_99, if_pos (show (256 : Int32) ≤ nI j from nI_le (a := 256) (by omega) (by omega))]
    exact ⟨Q, rfl, by omega, hK, fun p h => hp p (by omega)⟩
  | succ q ih =>
    intro k j Q hj hk hQ hK hp
    obtain ⟨k, rfl⟩ : ∃ z, k = z + 1 := ⟨k - 1, by omega⟩
    rw [f_X3_init_99, if_neg (show ¬ (256 : Int32) ≤ nI j from nI_ge (b := 256) (by omega) (by decide)), ix_n (by omega)]
    obtain ⟨s1, s2, s3, s4⟩ := stp (Q := Q) (K := 74 + 271 * n + 14 + j) (a := 74 + 271 * n + 5) (j := j) (x := 74 + 271 * n + 14 + j + 1) hQ rfl
    refine ih k (j + 1) _ (by omega) (by omega) (by rw [s1]; omega) (hK.tr s2) (fun p h => ?_)
    by_cases e : p = j
    · rw [e]; exact s4
    · exact (s2.2 _ _ (by omega)).2.2 (hp p (by omega))
theorem i3_72 {n : Nat} {B0 : Mem} (h0 : B0.1 = 74 + 271 * n + 6) : ∀ (q k j : Nat) (Q : Mem), j + q = 8 → q < k → Q.1 = 74 + 271 * n + 6 + j → Kp B0 Q → (∀ p, p < j → mB Q (74 + 271 * n + 4) p = true ∧ gC Q (74 + 271 * n + 7 + p) = AL) →
    ∃ Q', f_X3_init_72 n k j Q = Q' ∧ Q'.1 = 74 + 271 * n + 270 ∧ Kp B0 Q' ∧ (∀ p, p < 8 → mB Q' (74 + 271 * n + 4) p = true ∧ gC Q' (74 + 271 * n + 7 + p) = AL) ∧ (∀ p, p < 256 → mB Q' (74 + 271 * n + 5) p = true) := by
  intro q
  induction q with
  | zero =>
    intro k j Q hj hk hQ hK hp
    obtain ⟨k, rfl⟩ : ∃ z, k = z + 1 := ⟨k - 1, by omega⟩
    rw [f_X3_init_72, if_pos (show (8 : Int32) ≤ nI j from nI_le (a := 8) (by omega) (by omega))]
    obtain ⟨Q', e1, e2, e3, e4⟩ := i3_99 (n := n) (B1 := Q) (by omega) 256 257 0 Q rfl (by omega) (by omega) Kp.rf (fun p h => by omega)
    refine ⟨Q', e1, e2, hK.tr e3, fun p h => ?_, e4⟩
    obtain ⟨p1, p2⟩ := hp p (by omega)
    refine ⟨(e3.2 _ _ (by omega)).2.2 p1, ?_⟩
    rw [← p2]
    exact gC_sm (fun i => ⟨(e3.2 _ _ (by omega)).1, (e3.2 _ _ (by omega)).2.1⟩)
  | succ q ih =>
    intro k j Q hj hk hQ hK hp
    obtain ⟨k, rfl⟩ : ∃ z, k = z + 1 := ⟨k - 1, by omega⟩
    rw [f_X3_init_72, if_neg (show ¬ (8 : Int32) ≤ nI j from nI_ge (b := 8) (by omega) (by decide)), ix_n (by omega)]
    obtain ⟨s1, s2, s3, s4⟩ := stp (Q := Q) (K := 74 + 271 * n + 6 + j) (a := 74 + 271 * n + 4) (j := j) (x := 74 + 271 * n + 6 + j + 1) hQ rfl
    refine ih k (j + 1) _ (by omega) (by omega) (by rw [s1]; omega) (hK.tr s2) (fun p h => ?_)
    by_cases e : p = j
    · rw [e]; exact ⟨s4, by rw [show 74 + 271 * n + 7 + j = 74 + 271 * n + 6 + j + 1 by omega]; exact s3⟩
    · obtain ⟨p1, p2⟩ := hp p (by omega)
      refine ⟨(s2.2 _ _ (by omega)).2.2 p1, ?_⟩
      rw [← p2]
      exact gC_sm (fun i => ⟨(s2.2 _ _ (by omega)).1, (s2.2 _ _ (by omega)).2.1⟩)
/-- a new ROUTINE -/
theorem i3_all {n : Nat} {M : Mem} (hM : M.1 = 73 + 271 * n) : ∃ N, f_X3_init (mN M) n = N ∧ N.1 = 74 + 271 * n + 270 ∧ Kp M N ∧ (∀ k, k < 7 → ¬ k = 3 → mB N (74 + 271 * n) k = true) ∧ mI N (74 + 271 * n) 3 = 0 ∧ mI N (74 + 271 * n) 7 = 0 ∧ (∀ p, p < 8 → mB N (74 + 271 * n + 4) p = true ∧ gC N (74 + 271 * n + 7 + p) = AL) ∧ (∀ p, p < 256 → mB N (74 + 271 * n + 5) p = true) := by
  have er : M.1 + 1 = 74 + 271 * n := by omega
  generalize hr : 74 + 271 * n = r at *
  have e1 : f_X3_init (mN M) n = f_X3_init_72 n 9 0 (uI (uI (uB (mN (uB (mN (uB (mN (uI (uB (mN (uB (mN (uB (mN (mN M)) r 0)) r 1)) r 2) r 3 0)) r 4)) r 5)) r 6) r 7 0) r 8 0) := by rw [← hr]; rfl
  rw [e1]
  generalize hB : uI (uI (uB (mN (uB (mN (uB (mN (uI (uB (mN (uB (mN (uB (mN (mN M)) r 0)) r 1)) r 2) r 3 0)) r 4)) r 5)) r 6) r 7 0) r 8 0 = B0
  have t0 : B0.1 = r + 6 := by
    rw [← hB]
    show M.1 + 1 + 1 + 1 + 1 + 1 + 1 + 1 = r + 6
    omega
  -- one after another
  have c0 : (mN M).1 = r := er
  have k1 : Kp (mN M) (uB (mN (mN M)) r 0) := Kp.mN.tr Kp.uB
  have k2 : Kp (uB (mN (mN M)) r 0) (uB (mN (uB (mN (mN M)) r 0)) r 1) := Kp.mN.tr Kp.uB
  have k3 : Kp (uB (mN (uB (mN (mN M)) r 0)) r 1) (uB (mN (uB (mN (uB (mN (mN M)) r 0)) r 1)) r 2) := Kp.mN.tr Kp.uB
  generalize hX3 : uB (mN (uB (mN (uB (mN (mN M)) r 0)) r 1)) r 2 = X3 at hB k3
  have x30 : mB X3 r 0 = true := (k3.2 r 0 (by show r ≤ M.1 + 1 + 1 + 1; omega)).2.2 ((k2.2 r 0 (by show r ≤ M.1 + 1 + 1; omega)).2.2 uB_t)
  have x31 : mB X3 r 1 = true := (k3.2 r 1 (by show r ≤ M.1 + 1 + 1 + 1; omega)).2.2 uB_t
  have x32 : mB X3 r 2 = true := by rw [← hX3]; exact uB_t
  have x3s : X3.1 = r + 3 := by rw [← hX3]; show M.1 + 1 + 1 + 1 + 1 = r + 3; omega
  have x3k : Kp M X3 := Kp.mN.tr (k1.tr (k2.tr k3))
  have m3 : Kp M (uI X3 r 3 0) := x3k.I (by omega)
  have v3 : mI (uI X3 r 3 0) r 3 = 0 := mI_uI
  have bb : ∀ k, mB (uI X3 r 3 0) r k = mB X3 r k := fun _ => rfl
  have s4 : (uI X3 r 3 0).1 = r + 3 := x3s
  generalize uI X3 r 3 0 = X4 at hB m3 v3 bb s4
  have k5 : Kp X4 (uB (mN X4) r 4) := Kp.mN.tr Kp.uB
  have k6 : Kp (uB (mN X4) r 4) (uB (mN (uB (mN X4) r 4)) r 5) := Kp.mN.tr Kp.uB
  have k7 : Kp (uB (mN (uB (mN X4) r 4)) r 5) (uB (mN (uB (mN (uB (mN X4) r 4)) r 5)) r 6) := Kp.mN.tr Kp.uB
  generalize hX7 : uB (mN (uB (mN (uB (mN X4) r 4)) r 5)) r 6 = X7 at hB k7
  have kk : Kp X4 X7 := k5.tr (k6.tr k7)
  have y4 : mB X7 r 4 = true := (k7.2 r 4 (by show r ≤ X4.1 + 1 + 1; omega)).2.2 ((k6.2 r 4 (by show r ≤ X4.1 + 1; omega)).2.2 uB_t)
  have y5 : mB X7 r 5 = true := (k7.2 r 5 (by show r ≤ X4.1 + 1 + 1; omega)).2.2 uB_t
  have y6 : mB X7 r 6 = true := by rw [← hX7]; exact uB_t
  have y0 : mB X7 r 0 = true := (kk.2 r 0 (by omega)).2.2 ((bb 0).trans x30)
  have y1 : mB X7 r 1 = true := (kk.2 r 1 (by omega)).2.2 ((bb 1).trans x31)
  have y2 : mB X7 r 2 = true := (kk.2 r 2 (by omega)).2.2 ((bb 2).trans x32)
  have u3 : mI X7 r 3 = 0 := (kk.2 r 3 (by omega)).1.trans v3
  have ub : ∀ k, mB B0 r k = mB X7 r k := fun k => by rw [← hB]; rfl
  have w3 : mI B0 r 3 = 0 := by rw [← hB, mI_uI_nk (by decide), mI_uI_nk (by decide)]; exact u3
  have w7 : mI B0 r 7 = 0 := by rw [← hB, mI_uI_nk (by decide), mI_uI]
  have kB : Kp M B0 := by rw [← hB]; exact ((m3.tr kk).I (by omega)).I (by omega)
  have loop := i3_72 (n := n) (B0 := B0) (by rw [hr]; exact t0) 8 9 0 B0 rfl (by omega) (by rw [hr]; omega) Kp.rf (fun p h => by omega)
  rw [hr] at loop
  obtain ⟨N, n1, n2, n3, n4, n5⟩ := loop
  refine ⟨N, n1, n2, kB.tr n3, fun k hk h3 => ?_, ((n3.2 r 3 (by omega)).1).trans w3, ((n3.2 r 7 (by omega)).1).trans w7, n4, n5⟩
  refine (n3.2 r k (by omega)).2.2 ((ub k).trans ?_)
  rcases (show k = 0 ∨ k = 1 ∨ k = 2 ∨ k = 4 ∨ k = 5 ∨ k = 6 by omega) with rfl | rfl | rfl | rfl | rfl | rfl
  · exact y0
  · exact y1
  · exact y2
  · exact y4
  · exact y5
  · exact y6
/-! method -/
theorem Me.kp {m : Nat} {A B A' B' : Mem} (h : Me m A B) (ha : ∀ b j, rT m ≤ b → b ≤ rT m + 270 → sm A A' b j) (hb : ∀ b j, MB m b j → sm B B' b j) : Me m A' B' := h.fr ha hb
theorem ag_method {c : Nat} {A B : Mem} (hR : Rl c A B) (hA : A.1 = 73 + 271 * c) :
    (f_X6_method A c).1 = (f_X7_method B).1 ∧ (c = 6 ∧ (f_X6_method A c).2 = A ∧ (f_X7_method B).2 = B ∨ c < 6 ∧ Rl (c + 1) (f_X6_method A c).2 (f_X7_method B).2 ∧ (f_X6_method A c).2.1 = 73 + 271 * (c + 1) ∧ (∀ b k, 52 ≤ b → b ≤ 73 → sm A (f_X6_method A c).2 b k) ∧ (∀ b k, b ≤ 73 + 271 * c → mB A b k = true → mB (f_X6_method A c).2 b k = true) ∧ mB (f_X6_method A c).2 3 c = true ∧ (∀ k, k < 7 → ¬ k = 3 → mB (f_X6_method A c).2 (74 + 271 * c) k = true) ∧ (∀ p, p < 8 → mB (f_X6_method A c).2 (74 + 271 * c + 4) p = true) ∧ (∀ p, p < 256 → mB (f_X6_method A c).2 (74 + 271 * c + 5) p = true) ∧ RK B (f_X7_method B).2) := by
  have hR' := hR
  obtain ⟨h1, h2, h3, h4⟩ := hR'
  have hc := h2.1
  unfold f_X6_method f_X7_method f_X7_method_c42
  rw [h2.2.1, h2.2.2.1, ix_n (show c < 2 ^ 31 by omega)]
  by_cases c6 : c = 6
  · rw [if_neg (show ¬ nI c < 6 by rw [show (6 : Int32) = nI 6 from rfl, nI_ltI (by omega) (by omega)]; omega), if_pos (show nI c = 6 by rw [c6]; rfl)]
    exact ⟨rfl, Or.inl ⟨c6, rfl, rfl⟩⟩
  · have cl : c < 6 := by omega
    rw [if_pos (show nI c < 6 by rw [show (6 : Int32) = nI 6 from rfl, nI_ltI (by omega) (by omega)]; omega), if_neg (show ¬ nI c = 6 by rw [show (6 : Int32) = nI 6 from rfl, nI_inj (by omega) (by omega)]; omega)]
    obtain ⟨N, n1, n2, n3, n4, n5, n6, n7, n8⟩ := i3_all (n := c) hA
    rw [n1]
    have e2 : mI (uB N 3 c) 1 2 = nI c := by
      show mI N 1 2 = nI c
      rw [(n3.2 1 2 (by omega)).1]; exact h2.2.1
    rw [e2, nI_s1]
    have e9 : mI (uI B 60 c 0) 52 9 = nI c := by rw [mI_uI_ne (by decide)]; exact h2.2.2.1
    rw [e9, ix_n (show c < 2 ^ 31 by omega)]
    have e9' : mI (uI (uI B 60 c 0) 66 c 0) 52 9 = nI c := by rw [mI_uI_ne (by decide)]; exact e9
    rw [e9', nI_s1, mI_uI, mI_uI, nI_p1]
    have er : ∀ m, rT m = 74 + 271 * m := fun _ => rfl
    have ka : ∀ b j, b ≤ 73 + 271 * c → (b ≠ 1 ∨ j ≠ 2) → sm A (uI (uB N 3 c) 1 2 (nI (c + 1))) b j := fun b j z z2 => by
      refine ⟨?_, (n3.2 b j (by omega)).2.1⟩
      rw [r_I, if_neg (by omega)]
      exact (n3.2 b j (by omega)).1
    have kb : ∀ b j, (b ≠ 60 ∨ j ≠ c) → (b ≠ 66 ∨ j ≠ c) → (b ≠ 52 ∨ j ≠ 9) → sm B (uI (uI (uI B 60 c 0) 66 c 0) 52 9 (nI (c + 1))) b j := fun b j z1 z2 z3 => by
      refine ⟨?_, rfl⟩
      rw [r_I, if_neg (by omega), r_I, if_neg (by omega), r_I, if_neg (by omega)]
    have kB : ∀ b k, b ≤ 73 + 271 * c → mB A b k = true → mB (uI (uB N 3 c) 1 2 (nI (c + 1))) b k = true := fun b k hb q => (Kp.uB.2 b k (by omega)).2.2 ((n3.2 b k (by omega)).2.2 q)
    have nB : ∀ b k, b ≤ 74 + 271 * c + 270 → mB N b k = true → mB (uI (uB N 3 c) 1 2 (nI (c + 1))) b k = true := fun b k hb q => (Kp.uB.2 b k (by omega)).2.2 q
    have nI0 : ∀ b j, (b ≠ 1 ∨ j ≠ 2) → mI (uI (uB N 3 c) 1 2 (nI (c + 1))) b j = mI N b j := fun b j z => by rw [r_I, if_neg (by omega)]; rfl
    refine ⟨rfl, Or.inr ⟨cl, ⟨?_, ?_, fun m hm => ?_, ?_⟩, n2.trans (by omega), fun b k z1 z2 => ka b k (by omega) (by omega), kB, uB_t, fun k hk h3' => nB _ k (by omega) (n4 k hk h3'), fun p hp => nB _ p (by omega) (n7 p hp).1, fun p hp => nB _ p (by omega) (n8 p hp), ⟨rfl, rfl, fun b j z => kb b j (by omega) (by omega) (by omega)⟩⟩⟩
    · exact h1.fr (fun b j z1 z2 => ka b j (by omega) (by omega)) (fun b j z1 z2 z3 => kb b j (by omega) (by omega) (by omega))
    · obtain ⟨s1, s2, s3, s4, s5, s6, s7, s8, s9⟩ := h2
      refine ⟨by omega, mI_uI, mI_uI, ?_, ?_, ?_, fun m hm hm6 p hp => ?_, fun k hk => ?_, fun k => ?_⟩
      · rw [gC_sm (fun j => ka 12 j (by omega) (by omega))]; exact s4
      · rw [gC_sm (fun j => ka 16 j (by omega) (by omega))]; exact s5
      · exact s6.fr (fun b j z1 z2 => ka b j (by omega) (by omega)) (fun b j z1 z2 => kb b j (by omega) (by omega) (by omega))
      · rw [gR_sm (fun b z1 z2 => kb b _ (by omega) (by omega) (by omega))]; exact s7 m (by omega) hm6 p hp
      · rw [(kb 60 k (by omega) (by omega) (by omega)).1]; exact s8 k (by omega)
      · rw [(kb 61 k (by omega) (by omega) (by omega)).1, (kb 62 k (by omega) (by omega) (by omega)).1, (kb 63 k (by omega) (by omega) (by omega)).1]; exact s9 k
    · by_cases e : m = c
      · subst e
        have v6 : mI (uI (uI (uI B 60 m 0) 66 m 0) 52 9 (nI (m + 1))) 66 m = 0 := by rw [mI_uI_ne (by decide), mI_uI]
        refine ⟨0, by omega, ?_, ?_, fun l hl => by omega, fun p hp => ?_, ?_, fun z => absurd v6 z⟩
        · rw [nI0 _ _ (by rw [er]; omega)]; exact n5
        · rw [mI_uI_ne (by decide), mI_uI_ne (by decide), mI_uI]; rfl
        · have eg : gC (uI (uB N 3 m) 1 2 (nI (m + 1))) (rT m + 7 + p) = AL := by
            rw [gC_uI (by rw [er]; omega)]
            exact (n7 p hp).2
          rw [eg, gR_sm (fun b z1 z2 => kb b _ (by omega) (by omega) (by omega)), h2.2.2.2.2.2.2.1 m (Nat.le_refl m) cl p hp]
          exact ⟨Gd_AL, rfl, rfl⟩
        · rw [nI0 _ _ (by rw [er]; omega), v6]; exact n6
      · have er' := er m
        refine (h3 m (by omega)).fr (fun b j z1 z2 => ka b j (by omega) (by omega)) (fun b j z => ?_)
        unfold MB at z
        exact kb b j (by omega) (by omega) (by omega)
    · exact h4.fr (fun b j z1 z2 => ka b j (by omega) (by omega)) (fun b j z => kb b j (by omega) (by omega) (by omega))
