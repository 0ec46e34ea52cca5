/-! THE RELATION of class and reference, and what leaves it -/
def Me (m : Nat) (A B : Mem) : Prop := ∃ n, n ≤ 32 ∧ mI A (rT m) 3 = nI n ∧ mI B 60 m = nI n ∧ (∀ l, l < n → mI A (rT m + 1) l = mI B 61 (32 * m + l) ∧ mI A (rT m + 2) l = mI B 62 (32 * m + l) ∧ mI A (rT m + 3) l = mI B 63 (32 * m + l)) ∧ GV m A B ∧ mI A (rT m) 7 = mI B 66 m ∧ (¬ mI B 66 m = 0 → Fi m n A B)
def Sx (c : Nat) (A B : Mem) : Prop := c ≤ 6 ∧ mI A 1 2 = nI c ∧ mI B 52 9 = nI c ∧ gC A 12 = cst 0 ∧ gC A 16 = cst 0 ∧ TBr A B ∧ (∀ m, c ≤ m → m < 6 → ∀ p, p < 8 → gR B (64 + 8 * m + p) = AL) ∧ (∀ k, c ≤ k → mI B 60 k = 0) ∧ (∀ k, LnG (mI B 61 k) (mI B 62 k) (mI B 63 k))
def Rn (A B : Mem) : Prop := (∀ p, p < 8 → mL A 33 p = mL B 72 p) ∧ (∀ p, p < 8 → mL A 32 p = mL B 73 p) ∧ mI A 31 1 = mI B 52 24 ∧ mI A 31 2 = mI B 52 25 ∧ mI A 31 3 = mI B 52 26
def Rl (c : Nat) (A B : Mem) : Prop := RF A B ∧ Sx c A B ∧ (∀ m, m < c → Me m A B) ∧ Rn A B
/-- the same in both memories -/
def sm (A A' : Mem) (b j : Nat) : Prop := mI A' b j = mI A b j ∧ mL A' b j = mL A b j
theorem gC_sm {A A' : Mem} {b : Nat} (h : ∀ j, sm A A' b j) : gC A' b = gC A b := by
  unfold gC
  rw [(h 0).1, (h 1).2, (h 2).2, (h 3).2, (h 4).2, (h 5).2, (h 6).2]
theorem gR_sm {B B' : Mem} {f : Nat} (h : ∀ b, 53 ≤ b → b ≤ 59 → sm B B' b f) : gR B' f = gR B f := by
  unfold gR
  rw [(h 53 (by decide) (by decide)).1, (h 54 (by decide) (by decide)).2, (h 55 (by decide) (by decide)).2, (h 56 (by decide) (by decide)).2, (h 57 (by decide) (by decide)).2, (h 58 (by decide) (by decide)).2, (h 59 (by decide) (by decide)).2]
theorem RF.fr {A B A' B' : Mem} (h : RF A B) (ha : ∀ b j, 36 ≤ b → b ≤ 51 → sm A A' b j) (hb : ∀ b j, 53 ≤ b → b ≤ 59 → j < 16 → sm B B' b j) : RF A' B' :=
  h.cong (fun i hi => gC_sm (fun j => ha _ j (by omega) (by omega))) (fun i hi => gR_sm (fun b h1 h2 => hb b i h1 h2 hi))
def MB (m b j : Nat) : Prop := (53 ≤ b ∧ b ≤ 59 ∧ ((64 + 8 * m ≤ j ∧ j < 72 + 8 * m) ∨ (112 + 256 * m ≤ j ∧ j < 368 + 256 * m))) ∨ ((b = 60 ∨ b = 66 ∨ b = 68) ∧ j = m) ∨ (((61 ≤ b ∧ b ≤ 63) ∨ b = 67) ∧ 32 * m ≤ j ∧ j < 32 * m + 32)
theorem GV.fr {m : Nat} {A B A' B' : Mem} (h : GV m A B) (ha : ∀ b j, rT m + 7 ≤ b → b ≤ rT m + 14 → sm A A' b j) (hb : ∀ b j, 53 ≤ b → b ≤ 59 → 64 + 8 * m ≤ j → j < 72 + 8 * m → sm B B' b j) : GV m A' B' := fun p hp => by
  rw [gC_sm (fun j => ha (rT m + 7 + p) j (by omega) (by omega)), gR_sm (fun b h1 h2 => hb b (64 + 8 * m + p) h1 h2 (by omega) (by omega))]
  exact h p hp
theorem Fi.fr {m n : Nat} {A B A' B' : Mem} (h : Fi m n A B) (hn : n ≤ 32) (h8 : mI A' (rT m) 8 = mI A (rT m) 8) (ha : ∀ b j, b = rT m + 6 ∨ (rT m + 15 ≤ b ∧ b ≤ rT m + 270) → sm A A' b j) (h6 : mI B' 68 m = mI B 68 m) (hb : ∀ b j, (53 ≤ b ∧ b ≤ 59 ∧ 112 + 256 * m ≤ j ∧ j < 368 + 256 * m) ∨ (b = 67 ∧ 32 * m ≤ j ∧ j < 32 * m + 32) → sm B B' b j) : Fi m n A' B' := by
  obtain ⟨f1, f2, f3⟩ := h
  have e67 : ∀ l, l < n → mI B' 67 (32 * m + l) = mI B 67 (32 * m + l) := fun l hl => (hb 67 _ (Or.inr ⟨rfl, by omega, by omega⟩)).1
  refine ⟨fun l hl => ?_, fun l hl hr p hp => ?_, by rw [h8, h6]; exact f3⟩
  · rw [(ha _ _ (Or.inl rfl)).1, e67 l hl]; exact f1 l hl
  · rw [e67 l hl] at hr
    unfold PL
    rw [gC_sm (fun j => ha (rT m + 15 + (8 * l + p)) j (Or.inr ⟨by omega, by omega⟩)), gR_sm (fun b h1 h2 => hb b (112 + 8 * (32 * m + l) + p) (Or.inl ⟨h1, h2, by omega, by omega⟩))]
    exact f2 l hl hr p hp
theorem Me.fr {m : Nat} {A B A' B' : Mem} (h : Me m A B) (ha : ∀ b j, rT m ≤ b → b ≤ rT m + 270 → sm A A' b j) (hb : ∀ b j, MB m b j → sm B B' b j) : Me m A' B' := by
  obtain ⟨n, h1, h2, h3, h4, h5, h6, h7⟩ := h
  refine ⟨n, h1, ?_, ?_, fun l hl => ?_, ?_, ?_, fun q => ?_⟩
  · rw [(ha _ _ (by omega) (by omega)).1]; exact h2
  · rw [(hb 60 m (Or.inr (Or.inl ⟨by omega, rfl⟩))).1]; exact h3
  · rw [(ha (rT m + 1) l (by omega) (by omega)).1, (ha (rT m + 2) l (by omega) (by omega)).1, (ha (rT m + 3) l (by omega) (by omega)).1, (hb 61 (32 * m + l) (Or.inr (Or.inr ⟨by omega, by omega⟩))).1, (hb 62 (32 * m + l) (Or.inr (Or.inr ⟨by omega, by omega⟩))).1, (hb 63 (32 * m + l) (Or.inr (Or.inr ⟨by omega, by omega⟩))).1]
    exact h4 l hl
  · exact h5.fr (fun b j h1 h2 => ha b j (by omega) (by omega)) (fun b j h1 h2 h3 h4 => hb b j (Or.inl ⟨h1, h2, Or.inl ⟨h3, h4⟩⟩))
  · rw [(ha _ _ (by omega) (by omega)).1, (hb 66 m (Or.inr (Or.inl ⟨by omega, rfl⟩))).1]; exact h6
  · rw [(hb 66 m (Or.inr (Or.inl ⟨by omega, rfl⟩))).1] at q
    refine (h7 q).fr h1 (ha _ _ (by omega) (by omega)).1 (fun b j z => ha b j (by omega) (by omega)) (hb 68 m (Or.inr (Or.inl ⟨by omega, rfl⟩))).1 (fun b j z => hb b j ?_)
    rcases z with z | z
    · exact Or.inl ⟨z.1, z.2.1, Or.inr z.2.2⟩
    · exact Or.inr (Or.inr ⟨Or.inr z.1, z.2⟩)
def SA (b : Nat) : Prop := b = 1 ∨ b = 12 ∨ b = 16 ∨ (6 ≤ b ∧ b ≤ 10)
def SB (b j : Nat) : Prop := (b = 52 ∧ j = 9) ∨ (60 ≤ b ∧ b ≤ 65) ∨ (53 ≤ b ∧ b ≤ 59 ∧ 64 ≤ j ∧ j < 112)
theorem TBr.fr {A B A' B' : Mem} (h : TBr A B) (ha : ∀ b j, 6 ≤ b → b ≤ 10 → sm A A' b j) (hb : ∀ b j, 64 ≤ b → b ≤ 65 → sm B B' b j) : TBr A' B' := fun t ht => by
  obtain ⟨n, h1, h2, h3, h4⟩ := h t ht
  refine ⟨n, h1, ?_, ?_, fun i hi => ?_⟩
  · rw [(ha 10 t (by omega) (by omega)).1]; exact h2
  · rw [(hb 64 t (by omega) (by omega)).1]; exact h3
  · rw [(ha (6 + t) i (by omega) (by omega)).2, (hb 65 _ (by omega) (by omega)).2]; exact h4 i hi
theorem Sx.fr {c : Nat} {A B A' B' : Mem} (h : Sx c A B) (ha : ∀ b j, SA b → sm A A' b j) (hb : ∀ b j, SB b j → sm B B' b j) : Sx c A' B' := by
  obtain ⟨h1, h2, h3, h4, h5, h6, h7, h8, h9⟩ := h
  refine ⟨h1, ?_, ?_, ?_, ?_, ?_, fun m hm hm6 p hp => ?_, fun k hk => ?_, fun k => ?_⟩
  · rw [(ha 1 2 (Or.inl rfl)).1]; exact h2
  · rw [(hb 52 9 (Or.inl ⟨rfl, rfl⟩)).1]; exact h3
  · rw [gC_sm (fun j => ha 12 j (Or.inr (Or.inl rfl)))]; exact h4
  · rw [gC_sm (fun j => ha 16 j (Or.inr (Or.inr (Or.inl rfl))))]; exact h5
  · exact h6.fr (fun b j z1 z2 => ha b j (Or.inr (Or.inr (Or.inr ⟨z1, z2⟩)))) (fun b j z1 z2 => hb b j (Or.inr (Or.inl ⟨by omega, by omega⟩)))
  · rw [gR_sm (fun b z1 z2 => hb b _ (Or.inr (Or.inr ⟨z1, z2, by omega, by omega⟩)))]; exact h7 m hm hm6 p hp
  · rw [(hb 60 k (Or.inr (Or.inl ⟨by omega, by omega⟩))).1]; exact h8 k hk
  · rw [(hb 61 k (Or.inr (Or.inl ⟨by omega, by omega⟩))).1, (hb 62 k (Or.inr (Or.inl ⟨by omega, by omega⟩))).1, (hb 63 k (Or.inr (Or.inl ⟨by omega, by omega⟩))).1]; exact h9 k
theorem Rn.fr {A B A' B' : Mem} (h : Rn A B) (ha : ∀ b j, 31 ≤ b → b ≤ 33 → sm A A' b j) (hb : ∀ b j, (b = 52 ∧ 24 ≤ j ∧ j ≤ 26) ∨ b = 72 ∨ b = 73 → sm B B' b j) : Rn A' B' := by
  obtain ⟨h1, h2, h3, h4, h5⟩ := h
  refine ⟨fun p hp => ?_, fun p hp => ?_, ?_, ?_, ?_⟩
  · rw [(ha 33 p (by omega) (by omega)).2, (hb 72 p (by omega)).2]; exact h1 p hp
  · rw [(ha 32 p (by omega) (by omega)).2, (hb 73 p (by omega)).2]; exact h2 p hp
  · rw [(ha 31 1 (by omega) (by omega)).1, (hb 52 24 (by omega)).1]; exact h3
  · rw [(ha 31 2 (by omega) (by omega)).1, (hb 52 25 (by omega)).1]; exact h4
  · rw [(ha 31 3 (by omega) (by omega)).1, (hb 52 26 (by omega)).1]; exact h5
/-- the reference's part stays; the class's part stays -/
def CK (A A' : Mem) : Prop := A'.1 = A.1 ∧ A'.2.1 = A.2.1 ∧ ∀ b j, 52 ≤ b → b ≤ 73 → sm A A' b j
def RK (B B' : Mem) : Prop := B'.1 = B.1 ∧ B'.2.1 = B.2.1 ∧ ∀ b j, b < 52 ∨ 73 < b → sm B B' b j
theorem CK.rf {A : Mem} : CK A A := ⟨rfl, rfl, fun _ _ _ _ => ⟨rfl, rfl⟩⟩
theorem RK.rf {A : Mem} : RK A A := ⟨rfl, rfl, fun _ _ _ => ⟨rfl, rfl⟩⟩
theorem ER.ck {S : Nat → Nat → Bool} {A A' : Mem} (h : ER S A A') (hs : ∀ b j, 52 ≤ b → b ≤ 73 → S b j = false) : CK A A' := ⟨h.1, h.2.1, fun b j h1 h2 => h.2.2 b j (hs b j h1 h2)⟩
theorem EC.ck {S : Nat → Bool} {A A' : Mem} (h : EC S A A') (hs : ∀ b, 52 ≤ b → b ≤ 73 → S b = false) : CK A A' := ⟨h.1, h.2.1, fun b j h1 h2 => h.2.2 b (hs b h1 h2) j⟩
theorem ER.rk {S : Nat → Nat → Bool} {A A' : Mem} (h : ER S A A') (hs : ∀ b j, b < 52 ∨ 73 < b → S b j = false) : RK A A' := ⟨h.1, h.2.1, fun b j h1 => h.2.2 b j (hs b j h1)⟩
theorem rT_e {m : Nat} : rT m = 74 + 271 * m := rfl
theorem Rl.cg {c : Nat} {A B A' B' : Mem} (h : Rl c A B) (ha : ∀ b j, b < 52 ∨ 73 < b → sm A A' b j) (hb : ∀ b j, 52 ≤ b → b ≤ 73 → sm B B' b j) : Rl c A' B' := by
  obtain ⟨h1, h2, h3, h4⟩ := h
  have hc := h2.1
  refine ⟨h1.fr (fun b j z1 z2 => ha b j (by omega)) (fun b j z1 z2 _ => hb b j (by omega) (by omega)), h2.fr (fun b j z => ha b j (by unfold SA at z; omega)) (fun b j z => by unfold SB at z; exact hb b j (by omega) (by omega)), fun m hm => (h3 m hm).fr (fun b j z1 z2 => ha b j (by rw [rT_e] at z1; omega)) (fun b j z => by unfold MB at z; exact hb b j (by omega) (by omega)), h4.fr (fun b j z1 z2 => ha b j (by omega)) (fun b j z => hb b j (by omega) (by omega))⟩
/-- between class's call and reference's -/
theorem Rl.mid {c : Nat} {A A' : Mem} (h : Rl c A A) (k : CK A A') : Rl c A A' := h.cg (fun _ _ _ => ⟨rfl, rfl⟩) k.2.2
theorem Rl.aft {c : Nat} {A B : Mem} (h : Rl c A B) {A' : Mem} (k : RK A' B) (e : A' = A) : Rl c B B := by
  subst e
  exact h.cg (fun b j z => k.2.2 b j z) (fun _ _ _ _ => ⟨rfl, rfl⟩)
/-- what a call gives and leaves -/
def Tk {α : Type} (c : Nat) (A B : Mem) (x y : α × Mem) : Prop := x.1 = y.1 ∧ Rl c x.2 y.2 ∧ CK A x.2 ∧ RK B y.2
theorem fo_n {b : Nat} (h : b < 34 ∨ 51 < b) (h2 : b ≠ 13) : fo b = false := by
  cases e : fo b with
  | false => rfl
  | true => simp only [fo, Bool.or_eq_true, Bool.and_eq_true, decide_eq_true_eq] at e; omega
theorem ro_n {b k : Nat} (h : b < 52 ∨ 59 < b ∨ (b = 52 ∧ k ≠ 7 ∧ k ≠ 8) ∨ (53 ≤ b ∧ 26 < k)) : ro b k = false := by
  cases e : ro b k with
  | false => rfl
  | true => simp only [ro, Bool.or_eq_true, Bool.and_eq_true, decide_eq_true_eq] at e; omega
theorem Rl.facts {c : Nat} {A B A' B' : Mem} (h : Rl c A B) (hF : RF A' B') (ha : EC fo A A') (hb : ER ro B B') : Rl c A' B' ∧ CK A A' ∧ RK B B' := by
  obtain ⟨h1, h2, h3, h4⟩ := h
  have hc := h2.1
  have ka : ∀ b j, (b < 34 ∨ 51 < b) → b ≠ 13 → sm A A' b j := fun b j z z2 => ha.2.2 b (fo_n z z2) j
  have kb : ∀ b j, (b < 52 ∨ 59 < b ∨ (b = 52 ∧ j ≠ 7 ∧ j ≠ 8) ∨ (53 ≤ b ∧ 26 < j)) → sm B B' b j := fun b j z => hb.2.2 b j (ro_n z)
  refine ⟨⟨hF, h2.fr (fun b j z => ka b j (by unfold SA at z; omega) (by unfold SA at z; omega)) (fun b j z => kb b j (by unfold SB at z; omega)), fun m hm => (h3 m hm).fr (fun b j z1 z2 => ka b j (by rw [rT_e] at z1; omega) (by rw [rT_e] at z1; omega)) (fun b j z => kb b j (by unfold MB at z; omega)), h4.fr (fun b j z1 z2 => ka b j (by omega) (by omega)) (fun b j z => kb b j (by omega))⟩, ha.ck (fun b z1 z2 => fo_n (by omega) (by omega)), hb.rk (fun b j z => ro_n (by omega))⟩
/-! facts' calls -/
theorem ag_fact {c : Nat} {A B : Mem} {f : Int32} {l h : Int64} (hR : Rl c A B) : Tk c A B (f_X6_fact A f l h) (f_X7_fact B f l h) := by
  obtain ⟨t1, t2, t3, t4⟩ := t_fact (f := f) (l := l) (h := h) hR.1
  exact ⟨t1, hR.facts t2 t3 t4⟩
theorem ag_bits {c : Nat} {A B : Mem} {f : Int32} {l h : Int64} (hR : Rl c A B) : Tk c A B (f_X6_bits A f l h) (f_X7_bits B f l h) := by
  obtain ⟨t1, t2, t3, t4⟩ := t_bits (f := f) (k := l) (v := h) hR.1
  exact ⟨t1, hR.facts t2 t3 t4⟩
theorem ag_rest {c : Nat} {A B : Mem} {f m : Int32} {r : Int64} (hR : Rl c A B) : Tk c A B (f_X6_rest A f m r) (f_X7_rest B f m r) := by
  obtain ⟨t1, t2, t3, t4⟩ := t_rest (f := f) (m := m) (r := r) hR.1
  exact ⟨t1, hR.facts t2 t3 t4⟩
theorem ag_act {c : Nat} {A B : Mem} {op a b t : Int32} (hR : Rl c A B) : Tk c A B (f_X6_act A op a b t) (f_X7_act B op a b t) := by
  obtain ⟨t1, t2, t3, t4⟩ := t_act (op := op) (a := a) (b := b) (t := t) hR.1 hR.2.1.2.2.2.1
  exact ⟨t1, hR.facts t2 t3 t4⟩
/-! numbers of METHODS, of places -/
theorem meth_cases {c : Nat} {A B : Mem} (m : Int32) (h : Sx c A B) : (∃ i, i < c ∧ i < 6 ∧ m = nI i ∧ ix m = i ∧ f_X6_routineAt A m = some (rT i) ∧ ¬ f_X7_isMethod B m = 0) ∨ (f_X6_routineAt A m = none ∧ f_X7_isMethod B m = 0) := by
  obtain ⟨hc, h1, h2, -⟩ := h
  have e0 : (0 : Int64).toInt = 0 := rfl
  have ec : ((Int32.toInt64 (nI c)) - 1).toInt = (c : Int) - 1 := by
    have : c = 0 ∨ c = 1 ∨ c = 2 ∨ c = 3 ∨ c = 4 ∨ c = 5 ∨ c = 6 := by omega
    rcases this with rfl | rfl | rfl | rfl | rfl | rfl | rfl <;> decide
  unfold f_X7_isMethod f_X6_routineAt f_X6_routineAt_12
  rw [h1, h2]
  rcases idx_cases m c (by omega) with ⟨i, g1, g2, g3, g4, g5⟩ | g
  · left
    refine ⟨i, g1, by omega, g2, g3, ?_, ?_⟩
    · rw [if_neg g4, if_pos (by rw [Int32.lt_iff_toInt_lt, nI_toInt (by omega)]; omega), g3]
    · rw [i32_64, e0, ec]; omega
  · right
    refine ⟨?_, ?_⟩
    · by_cases q : m < 0
      · rw [if_pos q]
      · rw [if_neg q, if_neg]
        rw [Int32.lt_iff_toInt_lt] at q ⊢
        rw [Int32.toInt_zero] at q
        rw [nI_toInt (by omega)]
        omega
    · rw [i32_64, e0, ec]; omega
theorem pl_cases (p : Int32) : (∃ i, i < 8 ∧ p = nI i ∧ ix p = i ∧ ¬ f_X6_isPlace p = 0 ∧ ¬ f_X7_isPlace p = 0) ∨ (f_X6_isPlace p = 0 ∧ f_X7_isPlace p = 0) := by
  have e0 : (0 : Int64).toInt = 0 := rfl
  have e7 : (7 : Int64).toInt = 7 := rfl
  have e8 : (8 : Int32).toInt = 8 := rfl
  unfold f_X7_isPlace f_X6_isPlace f_X6_isPlace_14 f_X6_isPlace_15
  rcases idx_cases p 8 (by decide) with ⟨i, h1, h2, h3, h4, h5⟩ | h
  · left
    refine ⟨i, h1, h2, h3, ?_, ?_⟩
    · rw [if_neg h4, if_neg (by rw [Int32.le_iff_toInt_le, e8]; omega)]; decide
    · rw [i32_64, e0, e7]; omega
  · right
    refine ⟨?_, ?_⟩
    · by_cases q : p < 0
      · rw [if_pos q]
      · rw [if_neg q, if_pos]
        rw [Int32.lt_iff_toInt_lt, Int32.toInt_zero] at q
        rw [Int32.le_iff_toInt_le, e8]
        omega
    · rw [i32_64, e0, e7]; omega
theorem Me.st {c m : Nat} {A B : Mem} (hS : Sx c A B) (h : Me m A B) : ∃ n, St m n A B ∧ GV m A B ∧ mI A (rT m) 7 = mI B 66 m ∧ (¬ mI B 66 m = 0 → Fi m n A B) := by
  obtain ⟨n, h1, h2, h3, h4, h5, h6, h7⟩ := h
  exact ⟨n, ⟨h1, h2, h3, hS.2.2.2.2.1, fun l hl => ⟨(h4 l hl).1, (h4 l hl).2.1, (h4 l hl).2.2, hS.2.2.2.2.2.2.2.2 _⟩, hS.2.2.2.2.2.1⟩, h5, h6, h7⟩
/-! find -/
theorem ag_find {c : Nat} {A B : Mem} {m : Int32} (hR : Rl c A B) : Tk c A B (f_X6_find A m) (f_X7_find B m) := by
  have hR' := hR
  obtain ⟨h1, h2, h3, h4⟩ := hR'
  have hc := h2.1
  unfold f_X6_find f_X7_find
  rcases meth_cases m h2 with ⟨i, hi, hi6, em, ex, e1, e2⟩ | ⟨e1, e2⟩
  · rw [e1, if_neg e2]
    rw [Option.elim_some]
    unfold f_X6_find_c20
    rw [ex, em]
    obtain ⟨n, hS, hG, -, -⟩ := (h3 i hi).st h2
    have hn := hS.1
    have hM : mI B 60 i = nI n := hS.2.2.1
    obtain ⟨A1, B1, b1, b2, b3, b4, b5, b6⟩ := beg_all (M := B) hi6 hM hS hG
    obtain ⟨v, A2, B2, r1, r2, r3, r4, r5, r6⟩ := rs_all (M := B) (M2 := A) hi6 hM hS.2.1 30 31 0 A1 B1 rfl (by omega) b3 b4 b5 b6
    rw [b1, b2, r1, r2]
    have er : rT i = 74 + 271 * i := rfl
    have ka : ∀ b j, b ≠ 17 → (b < 19 ∨ 30 < b) → (b ≠ rT i ∨ (j ≠ 7 ∧ j ≠ 8)) → b ≠ rT i + 6 → (b < rT i + 15 ∨ rT i + 270 < b) → sm A A2 b j := fun b j z1 z2 z3 z4 z5 => r5.2.2 b j (wfC_f z1 z2 z3 z4 z5)
    have kb : ∀ b j, ¬ (b = 66 ∧ j = i) → wfR i b j = false → sm B B2 b j := fun b j z z2 => by
      have := r6.2.2 b j z2
      refine ⟨this.1.trans ?_, this.2.trans mL_uI⟩
      rw [r_I, if_neg z]
    have k66 : mI B2 66 i = 1 := by
      rw [(r6.2.2 66 i (wfR_f (scr_n (by omega) (by omega)) (by omega) (by omega) (by omega) (by omega) (by omega))).1, mI_uI]
    refine ⟨rfl, ⟨?_, ?_, fun m' hm' => ?_, ?_⟩, r5.ck (fun b j z1 z2 => wfC_f (by omega) (by omega) (by omega) (by omega) (by omega)), ⟨r6.1, r6.2.1, fun b j z => kb b j (by omega) (wfR_f (scr_n (by omega) (by omega)) (by omega) (by omega) (by omega) (by omega) (by omega))⟩⟩
    · exact h1.fr (fun b j z1 z2 => ka b j (by omega) (by omega) (by omega) (by omega) (by omega)) (fun b j z1 z2 z3 => kb b j (by omega) (wfR_f (scr_n (by omega) (by omega)) (by omega) (by omega) (by omega) (by omega) (by omega)))
    · refine h2.fr (fun b j z => ?_) (fun b j z => ?_)
      · unfold SA at z; exact ka b j (by omega) (by omega) (by omega) (by omega) (by omega)
      · unfold SB at z; exact kb b j (by omega) (wfR_f (scr_n (by omega) (by omega)) (by omega) (by omega) (by omega) (by omega) (by omega))
    · by_cases e : m' = i
      · subst e
        refine ⟨n, hn, ?_, ?_, fun l hl => ?_, ?_, by rw [r4, k66], fun _ => r3⟩
        · rw [(ka (rT m') 3 (by omega) (by omega) (by omega) (by omega) (by omega)).1]; exact hS.2.1
        · rw [(kb 60 m' (by omega) (wfR_f (scr_n (by omega) (by omega)) (by omega) (by omega) (by omega) (by omega) (by omega))).1]; exact hM
        · have g : ∀ b, 61 ≤ b → b ≤ 63 → mI B2 b (32 * m' + l) = mI B b (32 * m' + l) := fun b z1 z2 => (kb b _ (by omega) (wfR_f (scr_n (by omega) (by omega)) (by omega) (by omega) (by omega) (by omega) (by omega))).1
          have g' : ∀ b, rT m' + 1 ≤ b → b ≤ rT m' + 3 → mI A2 b l = mI A b l := fun b z1 z2 => (ka b l (by omega) (by omega) (by omega) (by omega) (by omega)).1
          rw [g 61 (by omega) (by omega), g 62 (by omega) (by omega), g 63 (by omega) (by omega), g' _ (by omega) (by omega), g' _ (by omega) (by omega), g' _ (by omega) (by omega)]
          obtain ⟨q1, q2, q3, -⟩ := hS.2.2.2.2.1 l hl
          exact ⟨q1, q2, q3⟩
        · exact hG.fr (fun b j z1 z2 => ka b j (by omega) (by omega) (by omega) (by omega) (by omega)) (fun b j z1 z2 z3 z4 => kb b j (by omega) (wfR_f (scr_n (by omega) (by omega)) (by omega) (by omega) (by omega) (by omega) (by omega)))
      · have er' : rT m' = 74 + 271 * m' := rfl
        refine (h3 m' hm').fr (fun b j z1 z2 => ka b j (by omega) (by omega) (by omega) (by omega) (by omega)) (fun b j z => ?_)
        unfold MB at z
        exact kb b j (by omega) (wfR_f (scr_n (by omega) (by omega)) (by omega) (by omega) (by omega) (by omega) (by omega))
    · exact h4.fr (fun b j z1 z2 => ka b j (by omega) (by omega) (by omega) (by omega) (by omega)) (fun b j z => kb b j (by omega) (wfR_f (scr_n (by omega) (by omega)) (by omega) (by omega) (by omega) (by omega) (by omega)))
  · rw [e1, if_pos e2]
    exact ⟨rfl, hR, CK.rf, RK.rf⟩
