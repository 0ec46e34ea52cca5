/-! THE START -/
def M00 : Mem := (0, fun a _ => decide (a = 0), fun _ _ => 0, fun _ _ => 0)
set_option maxRecDepth 100000 in
theorem z_1 : ((List.range 16).all fun i => decide (gC (f_X6_init (mN M00)) (36 + i) = AL)) = true := by decide +kernel
set_option maxRecDepth 100000 in
theorem z_2 : (decide (gC (f_X6_init (mN M00)) 12 = cst 0) && decide (gC (f_X6_init (mN M00)) 16 = cst 0) && decide (mI (f_X6_init (mN M00)) 1 2 = 0) && decide (mI (f_X6_init (mN M00)) 31 1 = 0) && decide (mI (f_X6_init (mN M00)) 31 2 = 0) && decide (mI (f_X6_init (mN M00)) 31 3 = -1) && ((List.range 4).all fun t => decide (mI (f_X6_init (mN M00)) 10 t = 0)) && ((List.range 8).all fun p => decide (mL (f_X6_init (mN M00)) 33 p = 0) && decide (mL (f_X6_init (mN M00)) 32 p = 0))) = true := by decide +kernel
theorem i7_lp {B : Mem} : ∀ (q k j : Nat) (Q : Mem), j + q = 1648 → q < k → Q.1 = B.1 → Q.2.1 = B.2.1 → (∀ b i, b < 53 ∨ 59 < b → sm B Q b i) → (∀ f, f < j → gR Q f = AL) →
    ∃ Q', f_X7_init_191 k j Q = Q' ∧ Q'.1 = B.1 ∧ Q'.2.1 = B.2.1 ∧ (∀ b i, b < 53 ∨ 59 < b → sm B Q' b i) ∧ (∀ f, f < 1648 → gR Q' f = AL) := by
  intro q
  induction q with
  | zero =>
    intro k j Q hj hk s1 s2 h1 h2
    obtain ⟨k, rfl⟩ : ∃ z, k = z + 1 := ⟨k - 1, by omega⟩
    rw [f_X7_init_191, if_pos (show (1648 : Int32) ≤ nI j from nI_le (a := 1648) (by omega) (by omega))]
    exact ⟨Q, rfl, s1, s2, h1, fun f hf => h2 f (by omega)⟩
  | succ q ih =>
    intro k j Q hj hk s1 s2 h1 h2
    obtain ⟨k, rfl⟩ : ∃ z, k = z + 1 := ⟨k - 1, by omega⟩
    rw [f_X7_init_191, if_neg (show ¬ (1648 : Int32) ≤ nI j from nI_ge (b := 1648) (by omega) (by decide)), al_R', ix_n (by omega)]
    refine ih k (j + 1) _ (by omega) (by omega) s1 s2 (fun b i hb => ⟨by rw [qdoI hb]; exact (h1 b i hb).1, by rw [qdoL hb]; exact (h1 b i hb).2⟩) (fun f hf => ?_)
    by_cases e : f = j
    · rw [e, gR_p]
    · rw [gR_n e]; exact h2 f (by omega)
/-- the reference's own, before its FACTS are set -/
def bs7 (M : Mem) : Mem := uI (uB (mN (uB (mN (uB (mN (uB (mN (uB (mN (uB (mN (uB (mN (uB (mN (uB (mN (uB (mN (uB (mN (uB (mN (uB (mN (uB (mN (uB (mN (uB (mN (uB (mN (uB (mN (uB (mN (uB (mN (uB (mN M) 52 0)) 52 1)) 52 2)) 52 3)) 52 4)) 52 5)) 52 6)) 52 10)) 52 11)) 52 12)) 52 13)) 52 14)) 52 15)) 52 16)) 52 17)) 52 18)) 52 19)) 52 20)) 52 21)) 52 22)) 52 23) 52 26 (-1)
def l52 : List Nat := [0, 1, 2, 3, 4, 5, 6, 10, 11, 12, 13, 14, 15, 16, 17, 18, 19, 20, 21, 22, 23]
theorem bs7_new {b : Nat → Nat → Bool} {i : Nat → Nat → Int32} {l : Nat → Nat → Int64} (a k : Nat) (h1 : 60 ≤ a) (h2 : a ≤ 73) : mI (bs7 (52, b, i, l)) a k = 0 ∧ mL (bs7 (52, b, i, l)) a k = 0 := by
  rcases (show a = 60 ∨ a = 61 ∨ a = 62 ∨ a = 63 ∨ a = 64 ∨ a = 65 ∨ a = 66 ∨ a = 67 ∨ a = 68 ∨ a = 69 ∨ a = 70 ∨ a = 71 ∨ a = 72 ∨ a = 73 by omega) with rfl | rfl | rfl | rfl | rfl | rfl | rfl | rfl | rfl | rfl | rfl | rfl | rfl | rfl <;> exact ⟨rfl, rfl⟩
theorem bs7_kp {M : Mem} (h : M.1 = 52) : (bs7 M).1 = 73 ∧ (∀ b k, b ≤ 52 → (b ≠ 52 ∨ k ≠ 26) → sm M (bs7 M) b k) ∧ (∀ b k, b ≤ 52 → mB M b k = true → mB (bs7 M) b k = true) := by
  have kp : Kp M (uB (mN (uB (mN (uB (mN (uB (mN (uB (mN (uB (mN (uB (mN (uB (mN (uB (mN (uB (mN (uB (mN (uB (mN (uB (mN (uB (mN (uB (mN (uB (mN (uB (mN (uB (mN (uB (mN (uB (mN (uB (mN M) 52 0)) 52 1)) 52 2)) 52 3)) 52 4)) 52 5)) 52 6)) 52 10)) 52 11)) 52 12)) 52 13)) 52 14)) 52 15)) 52 16)) 52 17)) 52 18)) 52 19)) 52 20)) 52 21)) 52 22)) 52 23) := by
    repeat (first | exact Kp.mN.tr Kp.uB | refine Kp.tr ?_ (Kp.mN.tr Kp.uB))
  unfold bs7
  refine ⟨?_, fun b k hb hk => ⟨?_, (kp.2 b k (by omega)).2.1⟩, fun b k hb q => (kp.2 b k (by omega)).2.2 q⟩
  · show M.1 + 1 + 1 + 1 + 1 + 1 + 1 + 1 + 1 + 1 + 1 + 1 + 1 + 1 + 1 + 1 + 1 + 1 + 1 + 1 + 1 + 1 = 73
    omega
  · rw [r_I, if_neg (by omega)]
    exact (kp.2 b k (by omega)).1
theorem bs7_52 {b : Nat → Nat → Bool} {i : Nat → Nat → Int32} {l : Nat → Nat → Int64} : ∀ k ∈ l52, mB (bs7 (52, b, i, l)) 52 k = true := by
  intro k hk
  simp only [l52, List.mem_cons, List.not_mem_nil, or_false] at hk
  rcases hk with rfl | rfl | rfl | rfl | rfl | rfl | rfl | rfl | rfl | rfl | rfl | rfl | rfl | rfl | rfl | rfl | rfl | rfl | rfl | rfl | rfl <;> rfl
/-- what both constructors leave -/
theorem start_all {A1 : Mem} (h51 : A1.1 = 51) (hF : ∀ i, i < 16 → gC A1 (36 + i) = AL) (h12 : gC A1 12 = cst 0) (h16 : gC A1 16 = cst 0) (hc : mI A1 1 2 = 0) (hr1 : mI A1 31 1 = 0) (hr2 : mI A1 31 2 = 0) (hr3 : mI A1 31 3 = -1) (hT : ∀ t, t < 4 → mI A1 10 t = 0) (hp : ∀ p, p < 8 → mL A1 33 p = 0 ∧ mL A1 32 p = 0) :
    ∃ N, f_X7_init (mN A1) = N ∧ Rl 0 N N ∧ N.1 = 73 ∧ (∀ f, f < 1648 → ¬ mL N 58 f = 0) ∧ (∀ b k, b ≤ 51 → mB A1 b k = true → mB N b k = true) ∧ (∀ k ∈ l52, mB N 52 k = true) := by
  have z52 : ∀ k, mI (mN A1) 52 k = 0 := fun k => if_pos (by omega)
  have kA : Kp A1 (mN A1) := Kp.mN
  have h52 : (mN A1).1 = 52 := by show A1.1 + 1 = 52; omega
  generalize mN A1 = A at z52 kA h52
  obtain ⟨b1, b2, b3⟩ := bs7_kp h52
  have b4 : (∀ a k, 60 ≤ a → a ≤ 73 → mI (bs7 A) a k = 0 ∧ mL (bs7 A) a k = 0) ∧ (∀ k ∈ l52, mB (bs7 A) 52 k = true) := by
    obtain ⟨x1, x2, x3, x4⟩ := A
    have : x1 = 52 := h52
    subst this
    exact ⟨fun a k g1 g2 => bs7_new a k g1 g2, bs7_52⟩
  obtain ⟨b4, b5⟩ := b4
  have b6 : mI (bs7 A) 52 26 = -1 := mI_uI
  have e : f_X7_init A = f_X7_init_191 1649 0 (bs7 A) := rfl
  rw [e]
  generalize bs7 A = B at b1 b2 b3 b4 b5 b6
  obtain ⟨N, n1, n2, n3, n4, n5⟩ := i7_lp (B := B) 1648 1649 0 B rfl (by omega) rfl rfl (fun _ _ _ => ⟨rfl, rfl⟩) (fun f hf => by omega)
  have old : ∀ b k, b ≤ 51 → sm A1 N b k := fun b k hb => by
    have q1 := n4 b k (by omega)
    have q2 := b2 b k (by omega) (by omega)
    have q3 := kA.2 b k (by omega)
    exact ⟨q1.1.trans (q2.1.trans q3.1), q1.2.trans (q2.2.trans q3.2.1)⟩
  have new : ∀ a k, 60 ≤ a → a ≤ 73 → mI N a k = 0 ∧ mL N a k = 0 := fun a k g1 g2 => ⟨(n4 a k (by omega)).1.trans (b4 a k g1 g2).1, (n4 a k (by omega)).2.trans (b4 a k g1 g2).2⟩
  have n52 : ∀ k, k ≠ 26 → mI N 52 k = 0 := fun k hk => (n4 52 k (by omega)).1.trans ((b2 52 k (by omega) (by omega)).1.trans (z52 k))
  have m26 : mI N 52 26 = -1 := (n4 52 26 (by omega)).1.trans b6
  refine ⟨N, n1, ⟨fun i hi => ?_, ⟨by omega, ?_, n52 9 (by decide), ?_, ?_, fun t ht => ⟨0, by omega, ?_, (new 64 t (by omega) (by omega)).1, fun i hi => by omega⟩, fun m _ hm p hp => n5 _ (by omega), fun k _ => (new 60 k (by omega) (by omega)).1, fun k => ?_⟩, fun m hm => by omega, ⟨fun p h8 => ?_, fun p h8 => ?_, ?_, ?_, ?_⟩⟩, n2.trans b1, fun f hf => ?_, fun b k hb q => ?_, fun k hk => ?_⟩
  · rw [gC_sm (fun j => old (36 + i) j (by omega)), hF i hi, n5 i (by omega)]
    exact ⟨Gd_AL, rfl⟩
  · exact (old 1 2 (by omega)).1.trans hc
  · rw [gC_sm (fun j => old 12 j (by omega))]; exact h12
  · rw [gC_sm (fun j => old 16 j (by omega))]; exact h16
  · exact (old 10 t (by omega)).1.trans (hT t ht)
  · rw [(new 61 k (by omega) (by omega)).1, (new 62 k (by omega) (by omega)).1, (new 63 k (by omega) (by omega)).1]
    exact ⟨by decide, by decide, ⟨0, by decide, rfl⟩, fun _ => ⟨0, by decide, rfl⟩, fun h => absurd h (by decide), fun h => absurd h (by decide), fun h => absurd h (by decide)⟩
  · rw [(old 33 p (by omega)).2, (new 72 p (by omega) (by omega)).2]; exact (hp p h8).1
  · rw [(old 32 p (by omega)).2, (new 73 p (by omega) (by omega)).2]; exact (hp p h8).2
  · rw [(old 31 1 (by omega)).1, hr1]; exact (n52 24 (by decide)).symm
  · rw [(old 31 2 (by omega)).1, hr2]; exact (n52 25 (by decide)).symm
  · rw [(old 31 3 (by omega)).1, hr3, m26]
  · have : mL N 58 f = AL.2.2.2.2.2.1 := by rw [← n5 f hf]; rfl
    rw [this]; decide
  · show N.2.1 b k = true
    rw [n3]
    exact b3 b k (by omega) ((kA.2 b k (by omega)).2.2 q)
  · show N.2.1 52 k = true
    rw [n3]
    exact b5 k hk
theorem start_law : ∃ N, f_X7_init (mN (f_X6_init (mN M00))) = N ∧ Rl 0 N N ∧ N.1 = 73 ∧ (∀ f, f < 1648 → ¬ mL N 58 f = 0) ∧ (∀ b k, b ≤ 51 → mB (f_X6_init (mN M00)) b k = true → mB N b k = true) ∧ (∀ k ∈ l52, mB N 52 k = true) := by
  have h1 := z_1
  have h2 := z_2
  have h0 : (f_X6_init (mN M00)).1 = 51 := by decide +kernel
  generalize f_X6_init (mN M00) = A at h1 h2 h0
  simp only [List.all_eq_true, List.mem_range, decide_eq_true_eq, Bool.and_eq_true] at h1 h2
  obtain ⟨⟨⟨⟨⟨⟨⟨g1, g2⟩, g3⟩, g4⟩, g5⟩, g6⟩, g7⟩, g8⟩ := h2
  exact start_all h0 h1 g1 g2 g3 g4 g5 g6 g7 g8
