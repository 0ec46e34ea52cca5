/-- the class's labels that a call about facts may change; the reference's places -/
def fo (b : Nat) : Bool := (decide (34 ≤ b) && decide (b ≤ 51)) || decide (b = 13)
def ro (b k : Nat) : Bool := (decide (53 ≤ b) && decide (b ≤ 59) && decide (k ≤ 26)) || (decide (b = 52) && (decide (k = 7) || decide (k = 8)))
def EC (S : Nat → Bool) (M N : Mem) : Prop := N.1 = M.1 ∧ N.2.1 = M.2.1 ∧ ∀ b, S b = false → ∀ k, mI N b k = mI M b k ∧ mL N b k = mL M b k
def ER (S : Nat → Nat → Bool) (M N : Mem) : Prop := N.1 = M.1 ∧ N.2.1 = M.2.1 ∧ ∀ b k, S b k = false → mI N b k = mI M b k ∧ mL N b k = mL M b k
theorem EC.rf {S : Nat → Bool} {M : Mem} : EC S M M := ⟨rfl, rfl, fun _ _ _ => ⟨rfl, rfl⟩⟩
theorem EC.tr {S : Nat → Bool} {M N O : Mem} (h : EC S M N) (h2 : EC S N O) : EC S M O := ⟨h2.1.trans h.1, h2.2.1.trans h.2.1, fun b q k => ⟨(h2.2.2 b q k).1.trans (h.2.2 b q k).1, (h2.2.2 b q k).2.trans (h.2.2 b q k).2⟩⟩
theorem EC.mono {S T : Nat → Bool} {M N : Mem} (h : EC S M N) (hs : ∀ b, S b = true → T b = true) : EC T M N := ⟨h.1, h.2.1, fun b q k => h.2.2 b (by cases e : S b with | false => rfl | true => rw [hs b e] at q; cases q) k⟩
theorem EC.pC {S : Nat → Bool} {M N : Mem} {a : Nat} {x : Fk} (h : EC S M N) (ha : S a = true) : EC S M (pC N a x) := ⟨h.1, h.2.1, fun b q k => by
  have : b ≠ a := fun z => by rw [z, ha] at q; cases q
  rw [qcnI this, qcnL this]
  exact h.2.2 b q k⟩
theorem EC.uL {S : Nat → Bool} {M N : Mem} {a j : Nat} {v : Int64} (h : EC S M N) (ha : S a = true) : EC S M (uL N a j v) := ⟨h.1, h.2.1, fun b q k => by
  have : b ≠ a := fun z => by rw [z, ha] at q; cases q
  rw [mI_uL, mL_uL_ne this]
  exact h.2.2 b q k⟩
theorem EC.uI {S : Nat → Bool} {M N : Mem} {a j : Nat} {v : Int32} (h : EC S M N) (ha : S a = true) : EC S M (uI N a j v) := ⟨h.1, h.2.1, fun b q k => by
  have : b ≠ a := fun z => by rw [z, ha] at q; cases q
  rw [mL_uI, mI_uI_ne this]
  exact h.2.2 b q k⟩
theorem EC.g {S : Nat → Bool} {M N : Mem} {b : Nat} (h : EC S M N) (hb : S b = false) : gC N b = gC M b := by
  unfold gC
  rw [(h.2.2 b hb 0).1, (h.2.2 b hb 1).2, (h.2.2 b hb 2).2, (h.2.2 b hb 3).2, (h.2.2 b hb 4).2, (h.2.2 b hb 5).2, (h.2.2 b hb 6).2]
theorem On2.EC {S : Nat → Bool} {t u : Nat} {M N : Mem} (h : On2 t u M N) (h1 : S t = true) (h2 : S u = true) : EC S M N := ⟨h.1, h.2.1, fun b q k => h.2.2 b k (fun z => by rw [z, h1] at q; cases q) (fun z => by rw [z, h2] at q; cases q)⟩
theorem ER.rf {S : Nat → Nat → Bool} {M : Mem} : ER S M M := ⟨rfl, rfl, fun _ _ _ => ⟨rfl, rfl⟩⟩
theorem ER.tr {S : Nat → Nat → Bool} {M N O : Mem} (h : ER S M N) (h2 : ER S N O) : ER S M O := ⟨h2.1.trans h.1, h2.2.1.trans h.2.1, fun b k q => ⟨(h2.2.2 b k q).1.trans (h.2.2 b k q).1, (h2.2.2 b k q).2.trans (h.2.2 b k q).2⟩⟩
theorem ER.uI {S : Nat → Nat → Bool} {M N : Mem} {b j : Nat} {v : Int32} (h : ER S M N) (q : S b j = true) : ER S M (uI N b j v) := ⟨h.1, h.2.1, fun b' j' q' => ⟨by
  rw [r_I, if_neg (fun z => by rw [z.1, z.2, q] at q'; cases q')]; exact (h.2.2 b' j' q').1, (h.2.2 b' j' q').2⟩⟩
theorem ER.uL {S : Nat → Nat → Bool} {M N : Mem} {b j : Nat} {v : Int64} (h : ER S M N) (q : S b j = true) : ER S M (uL N b j v) := ⟨h.1, h.2.1, fun b' j' q' => ⟨(h.2.2 b' j' q').1, by
  rw [r_L, if_neg (fun z => by rw [z.1, z.2, q] at q'; cases q')]; exact (h.2.2 b' j' q').2⟩⟩
theorem ER.pR {S : Nat → Nat → Bool} {M N : Mem} {f : Nat} {x : Fk} (h : ER S M N) (q : ∀ b, 53 ≤ b → b ≤ 59 → S b f = true) : ER S M (pR N f x) :=
  ((((((h.uI (q 53 (by decide) (by decide))).uL (q 54 (by decide) (by decide))).uL (q 55 (by decide) (by decide))).uL (q 56 (by decide) (by decide))).uL (q 57 (by decide) (by decide))).uL (q 58 (by decide) (by decide))).uL (q 59 (by decide) (by decide))
theorem ER.g {S : Nat → Nat → Bool} {M N : Mem} {f : Nat} (h : ER S M N) (q : ∀ b, 53 ≤ b → b ≤ 59 → S b f = false) : gR N f = gR M f := by
  unfold gR
  rw [(h.2.2 53 f (q 53 (by decide) (by decide))).1, (h.2.2 54 f (q 54 (by decide) (by decide))).2, (h.2.2 55 f (q 55 (by decide) (by decide))).2, (h.2.2 56 f (q 56 (by decide) (by decide))).2, (h.2.2 57 f (q 57 (by decide) (by decide))).2, (h.2.2 58 f (q 58 (by decide) (by decide))).2, (h.2.2 59 f (q 59 (by decide) (by decide))).2]
theorem Sc.ER {S : Nat → Nat → Bool} {M N : Mem} (h : Sc M N) (hs : ∀ b k, scr b k = true → S b k = true) : ER S M N := ⟨h.1, h.2.1, fun b k q => h.2.2 b k (by cases e : scr b k with | false => rfl | true => rw [hs b k e] at q; cases q)⟩
theorem scr_ro : ∀ b k, scr b k = true → ro b k = true := by
  intro b k h
  simp only [scr, ro, Bool.or_eq_true, Bool.and_eq_true, decide_eq_true_eq] at h ⊢
  rcases h with h | h
  · exact Or.inl ⟨h.1.1, h.2⟩
  · exact Or.inr h
theorem ro_f {f b : Nat} (hf : f ≤ 26) (h1 : 53 ≤ b) (h2 : b ≤ 59) : ro b f = true := by simp [ro, hf, h1, h2]
/-- FACTS 0 .. 15 are alike -/
def RF (A B : Mem) : Prop := ∀ i, i < 16 → Gd (gC A (36 + i)) ∧ gR B i = toR (gC A (36 + i))
theorem RF.set {A B : Mem} {i : Nat} {x : Fk} (h : RF A B) (hx : Gd x) (hi : i < 16) : RF (pC A (36 + i) x) (pR B i (toR x)) := by
  intro j hj
  by_cases e : j = i
  · subst e
    rw [gC_p, gR_p]
    exact ⟨hx, rfl⟩
  · rw [gC_n (by omega), gR_n e]
    exact h j hj
theorem RF.cong {A A' B B' : Mem} (h : RF A B) (ha : ∀ i, i < 16 → gC A' (36 + i) = gC A (36 + i)) (hb : ∀ i, i < 16 → gR B' i = gR B i) : RF A' B' := fun i hi => by
  rw [ha i hi, hb i hi]; exact h i hi
theorem i32_64 {x : Int32} {a b : Int64} : (f_X7_in (Int32.toInt64 x) a b = 0) ↔ ¬ (a.toInt ≤ x.toInt ∧ x.toInt ≤ b.toInt) := by
  have h := in_iff (v := Int32.toInt64 x) (a := a) (b := b)
  rw [Int64.le_iff_toInt_le, Int64.le_iff_toInt_le, Int32.toInt_toInt64] at h
  constructor
  · intro z q; exact h.mpr q z
  · intro z
    exact Classical.byContradiction (fun q => z (h.mp q))
/-- a number below n, or not -/
theorem idx_cases (f : Int32) (n : Nat) (hn : n < 2 ^ 31) : (∃ i, i < n ∧ f = nI i ∧ ix f = i ∧ ¬ f < 0 ∧ f.toInt = i) ∨ (f.toInt < 0 ∨ (n : Int) ≤ f.toInt) := by
  by_cases h0 : f.toInt < 0
  · exact Or.inr (Or.inl h0)
  · by_cases h1 : (n : Int) ≤ f.toInt
    · exact Or.inr (Or.inr h1)
    · refine Or.inl ⟨f.toInt.toNat, by omega, ?_, rfl, ?_, by omega⟩
      · apply Int32.toInt_inj.mp
        rw [nI_toInt (by omega)]
        omega
      · rw [Int32.lt_iff_toInt_lt, Int32.toInt_zero]; exact h0
theorem fact_cases (f : Int32) : (∃ i, i < 16 ∧ ix f = i ∧ f_X6_factAt f = some (36 + i) ∧ ¬ f_X7_isFact f = 0) ∨ (f_X6_factAt f = none ∧ f_X7_isFact f = 0) := by
  have e0 : (0 : Int64).toInt = 0 := rfl
  have e15 : (15 : Int64).toInt = 15 := rfl
  have e16 : (16 : Int32).toInt = 16 := rfl
  unfold f_X7_isFact f_X6_factAt f_X6_factAt_10
  rcases idx_cases f 16 (by decide) with ⟨i, h1, h2, h3, h4, h5⟩ | h
  · left
    refine ⟨i, h1, h3, ?_, ?_⟩
    · rw [if_neg h4, if_pos (by rw [Int32.lt_iff_toInt_lt, e16]; omega), h3]
    · rw [i32_64, e0, e15]; omega
  · right
    refine ⟨?_, ?_⟩
    · by_cases q : f < 0
      · rw [if_pos q]
      · rw [if_neg q, if_neg]
        rw [Int32.lt_iff_toInt_lt] at q ⊢
        rw [Int32.toInt_zero] at q
        omega
    · rw [i32_64, e0, e15]; omega
def ouN (x : Fk) : Int32 := if x.1 = 0 then 1 else 0
theorem toR_1 {x : Fk} : (toR x).1 = 0 ↔ x.1 = 0 := by
  unfold toR
  by_cases h : x.1 = 0
  · rw [if_pos h]
  · rw [if_neg h]; exact ⟨fun z => absurd z (by decide), fun z => absurd z h⟩
theorem fo_f {i : Nat} (hi : i < 16) : fo (36 + i) = true := by simp [fo]; omega
/-! fact -/
theorem t_fact {A B : Mem} {f : Int32} {l h : Int64} (hF : RF A B) : (f_X6_fact A f l h).1 = (f_X7_fact B f l h).1 ∧ RF (f_X6_fact A f l h).2 (f_X7_fact B f l h).2 ∧ EC fo A (f_X6_fact A f l h).2 ∧ ER ro B (f_X7_fact B f l h).2 := by
  rcases fact_cases f with ⟨i, hi, e1, e2, e3⟩ | ⟨e2, e3⟩
  · unfold f_X6_fact f_X7_fact
    rw [e2, if_neg e3]
    have hp : Pf (0, l, h, 0, 0, 1, 0) := Pf_mk (Pd_1 (by decide))
    have hA : f_X6_fact_c19 l h (36 + i) (f_X1_makeAll A (36 + i)) = (ouN (shF (0, l, h, 0, 0, 1, 0)), pC A (36 + i) (shF (0, l, h, 0, 0, 1, 0))) := by
      unfold f_X6_fact_c19 f_X6_fact_c37
      rw [ma_C']
      unfold AL
      rw [wc1, wc2, shF_C hp]
      unfold f_X6_oneUnlessNone f_X6_oneUnlessNone_12 ouN
      rw [rc0]
    have hB : ∃ j, f_X7_fact_c19 f l h (f_X7_put B f l h 0 0) = (ouN (shF (0, l, h, 0, 0, 1, 0)), uI (pR B i (toR (shF (0, l, h, 0, 0, 1, 0)))) 52 7 j) := by
      have key : ∀ Q : Mem, (∃ j, f_X7_sharpen Q f = uI (pR B i (toR (shF (0, l, h, 0, 0, 1, 0)))) 52 7 j) → ∃ j, f_X7_fact_31 f Q = (ouN (shF (0, l, h, 0, 0, 1, 0)), uI (pR B i (toR (shF (0, l, h, 0, 0, 1, 0)))) 52 7 j) := fun Q ⟨j, hj⟩ => by
        refine ⟨j, ?_⟩
        unfold f_X7_fact_31 f_X7_fact_c36 f_X7_fact_50 ouN
        rw [hj, e1, mI_uI_ne (by decide), rr0]
        by_cases q : (shF (0, l, h, 0, 0, 1, 0)).1 = 0
        · rw [if_pos (toR_1.mpr q), if_pos q]
        · rw [if_neg (fun z => q (toR_1.mp z)), if_neg q]
      have ep : f_X7_put B f l h 0 0 = pR B i (0, l, h, 0, 0, 1, 0) := by rw [← e1]; rfl
      unfold f_X7_fact_c19 f_X7_fact_c31
      rw [ep]
      by_cases q : l ≤ h
      · rw [if_pos q]
        refine key _ ?_
        have := shF_R (M := B) (t := f) hp
        rw [e1] at this
        exact this
      · rw [if_neg q]
        have hz : shF (0, l, h, 0, 0, 1, 0) = ZC := sh_over (Int64.not_le.mp q)
        rw [no_R', e1, pR_p]
        refine key _ ?_
        have := sG_R (M := B) (t := f) Gd_Z
        rw [e1, toR_Z] at this
        rw [hz, toR_Z]
        exact this
    obtain ⟨j, hB⟩ := hB
    rw [hB]
    show (f_X6_fact_c19 l h (36 + i) (f_X1_makeAll A (36 + i))).1 = _ ∧ RF (f_X6_fact_c19 l h (36 + i) (f_X1_makeAll A (36 + i))).2 _ ∧ EC fo A (f_X6_fact_c19 l h (36 + i) (f_X1_makeAll A (36 + i))).2 ∧ _
    rw [hA]
    refine ⟨rfl, ?_, EC.rf.pC (fo_f hi), (ER.rf.pR (fun b h1 h2 => ro_f (by omega) h1 h2)).uI rfl⟩
    exact (hF.set (Gd_shF hp) hi).cong (fun _ _ => rfl) (fun k _ => gR_u)
  · unfold f_X6_fact f_X7_fact
    rw [e2, if_pos e3]
    exact ⟨rfl, hF, EC.rf, ER.rf⟩
theorem mB_C {A : Mem} {i : Nat} {z : Fk} (hi : i < 16) (hp : Pf z) : f_X6_meetBesides (pC A 34 z) (36 + i) = (ouN (mtF (gC A (36 + i)) (shF z)), pC (pC A 34 (shF z)) (36 + i) (mtF (gC A (36 + i)) (shF z))) := by
  unfold f_X6_meetBesides f_X6_meetBesides_c7 f_X6_meetBesides_c16
  rw [shF_C hp, mt_C, gC_n (by omega), gC_p]
  unfold f_X6_oneUnlessNone f_X6_oneUnlessNone_12 ouN
  rw [rc0]
theorem mB_R {A B : Mem} {f : Int32} {i : Nat} {z : Fk} (hi : i < 16) (e1 : ix f = i) (hp : Pf z) (hF : RF A B) : ∃ j, f_X7_meet (f_X7_sharpen (pR B 17 z) 17) f 17 f = uI (pR (pR B 17 (toR (shF z))) i (toR (mtF (gC A (36 + i)) (shF z)))) 52 7 j := by
  obtain ⟨j1, h1⟩ := shF_R (M := B) (t := 17) hp
  rw [ix17] at h1
  rw [h1]
  obtain ⟨j2, h2⟩ := mt_R (M := uI (pR B 17 (toR (shF z))) 52 7 j1) (a := f) (b := 17) (t := f) (hF i hi).1 (Gd_shF hp) (by rw [gR_u, e1, gR_n (by omega)]; exact (hF i hi).2) (by rw [gR_u, ix17, gR_p])
  exact ⟨j2, by rw [h2, e1, pR_u, u_u]⟩
theorem t_meet {A B : Mem} {i : Nat} {z : Fk} {j : Int32} (hi : i < 16) (hp : Pf z) (hF : RF A B) : RF (pC (pC A 34 (shF z)) (36 + i) (mtF (gC A (36 + i)) (shF z))) (uI (pR (pR B 17 (toR (shF z))) i (toR (mtF (gC A (36 + i)) (shF z)))) 52 7 j) ∧ EC fo A (pC (pC A 34 (shF z)) (36 + i) (mtF (gC A (36 + i)) (shF z))) ∧ ER ro B (uI (pR (pR B 17 (toR (shF z))) i (toR (mtF (gC A (36 + i)) (shF z)))) 52 7 j) := by
  have h1 : RF (pC A 34 (shF z)) (pR B 17 (toR (shF z))) := hF.cong (fun k hk => gC_n (by omega)) (fun k hk => gR_n (by omega))
  refine ⟨(h1.set (Gd_mt (hF i hi).1 (Gd_shF hp)) hi).cong (fun _ _ => rfl) (fun _ _ => gR_u), (EC.rf.pC rfl).pC (fo_f hi), ?_⟩
  exact ((ER.rf.pR (fun b h1 h2 => ro_f (by omega) h1 h2)).pR (fun b h1 h2 => ro_f (by omega) h1 h2)).uI rfl
theorem ou_R {B : Mem} {i : Nat} {x : Fk} {j : Int32} : mI (uI (pR B i (toR x)) 52 7 j) 53 i = (toR x).1 := by rw [mI_uI_ne (by decide), rr0]
theorem t_bits {A B : Mem} {f : Int32} {k v : Int64} (hF : RF A B) : (f_X6_bits A f k v).1 = (f_X7_bits B f k v).1 ∧ RF (f_X6_bits A f k v).2 (f_X7_bits B f k v).2 ∧ EC fo A (f_X6_bits A f k v).2 ∧ ER ro B (f_X7_bits B f k v).2 := by
  unfold f_X6_bits f_X7_bits
  rcases fact_cases f with ⟨i, hi, e1, e2, e3⟩ | ⟨e2, e3⟩
  · rw [e2, if_neg e3]
    have hp : Pf (0, -9223372036854775808, 9223372036854775807, k, v &&& k, 1, 0) := Pf_mk (Pd_1 (tb_ext fun p hp => by rw [tb_and, tb_and, Bool.and_assoc, Bool.and_self]))
    show (f_X6_bits_c21 k v (36 + i) (f_X1_makeAll A 34)).1 = _ ∧ RF (f_X6_bits_c21 k v (36 + i) (f_X1_makeAll A 34)).2 _ ∧ EC fo A (f_X6_bits_c21 k v (36 + i) (f_X1_makeAll A 34)).2 ∧ _
    unfold f_X6_bits_c21 f_X6_bits_c46
    rw [ma_C']
    unfold AL
    rw [wc3, wc4, mB_C hi hp]
    have ep : f_X7_put B 17 (-9223372036854775808) 9223372036854775807 k (v &&& k) = pR B 17 (0, -9223372036854775808, 9223372036854775807, k, v &&& k, 1, 0) := rfl
    rw [ep]
    unfold f_X7_bits_c26 f_X7_bits_c32
    obtain ⟨j, hj⟩ := mB_R hi e1 hp hF
    rw [hj]
    unfold f_X7_bits_c40 f_X7_bits_54
    rw [e1, ou_R]
    have ht := t_meet (j := j) hi hp hF
    unfold ouN
    by_cases q : (mtF (gC A (36 + i)) (shF (0, -9223372036854775808, 9223372036854775807, k, v &&& k, 1, 0))).1 = 0
    · rw [if_pos (toR_1.mpr q), if_pos q]; exact ⟨rfl, ht⟩
    · rw [if_neg (fun z => q (toR_1.mp z)), if_neg q]; exact ⟨rfl, ht⟩
  · rw [e2, if_pos e3]
    exact ⟨rfl, hF, EC.rf, ER.rf⟩
theorem m_odd {m : Int32} (h1 : ¬ m ≤ 0) (h2 : ¬ irem m 2 = 0) : mOK (Int32.toInt64 m) := by
  have hm : 0 < m.toInt := by
    rw [Int32.le_iff_toInt_le, Int32.toInt_zero] at h1
    omega
  have hlt : m.toInt < 2 ^ 31 := Int32.toInt_lt m
  have e := Int32.toInt_toInt64 m
  refine ⟨?_, ?_, ?_⟩
  · rw [Int64.le_iff_toInt_le, e]; show (1 : Int) ≤ _; omega
  · rw [Int64.le_iff_toInt_le, e]; show _ ≤ (2147483647 : Int); omega
  · have h0 : 0 ≤ Int32.toInt64 m := by rw [Int64.le_iff_toInt_le, e]; show (0 : Int) ≤ _; omega
    have hu := uN_i h0
    rw [e] at hu
    rw [tb_uN, Nat.testBit_zero]
    have hodd : m.toInt % 2 = 1 := by
      apply Classical.byContradiction
      intro q
      apply h2
      have hev : m.toInt % 2 = 0 := by omega
      apply Int32.toInt_inj.mp
      unfold irem
      have hd : (m / 2).toInt = m.toInt / 2 := by
        rw [Int32.toInt_div]
        show (m.toInt.tdiv 2).bmod (2 ^ 32) = _
        rw [Int.tdiv_eq_ediv_of_nonneg (by omega)]
        exact Int.bmod_eq_of_le (by omega) (by omega)
      rw [Int32.toInt_sub, Int32.toInt_mul, hd]
      show (m.toInt - (m.toInt / 2 * 2).bmod (2 ^ 32)).bmod (2 ^ 32) = 0
      rw [show m.toInt / 2 * 2 = m.toInt by omega, Int.sub_bmod_bmod, Int.sub_self]
      rfl
    simp
    omega
theorem t_rest {A B : Mem} {f m : Int32} {r : Int64} (hF : RF A B) : (f_X6_rest A f m r).1 = (f_X7_rest B f m r).1 ∧ RF (f_X6_rest A f m r).2 (f_X7_rest B f m r).2 ∧ EC fo A (f_X6_rest A f m r).2 ∧ ER ro B (f_X7_rest B f m r).2 := by
  unfold f_X6_rest f_X7_rest
  have hl : m ≤ 0 ↔ m < 1 := by
    rw [Int32.le_iff_toInt_le, Int32.lt_iff_toInt_lt, Int32.toInt_zero]
    show m.toInt ≤ 0 ↔ m.toInt < 1
    omega
  rcases fact_cases f with ⟨i, hi, e1, e2, e3⟩ | ⟨e2, e3⟩
  · rw [e2, if_neg e3]
    simp only [Option.elim]
    by_cases q1 : m ≤ 0
    · rw [if_pos q1, if_pos (hl.mp q1)]; exact ⟨rfl, hF, EC.rf, ER.rf⟩
    · rw [if_neg q1, if_neg (fun z => q1 (hl.mpr z))]
      by_cases q2 : irem m 2 = 0
      · rw [if_pos q2, if_pos q2]; exact ⟨rfl, hF, EC.rf, ER.rf⟩
      · rw [if_neg q2, if_neg q2]
        have hm := m_odd q1 q2
        have hp : Pf (0, -9223372036854775808, 9223372036854775807, 0, 0, Int32.toInt64 m, f_X6_restBy r (Int32.toInt64 m)) := Pf_mk ⟨by decide, hm, rest_rng hm.1⟩
        unfold f_X6_rest_c31 f_X6_rest_c59
        rw [ma_C']
        unfold AL
        rw [wc5, wc6, mB_C hi hp]
        unfold f_X7_rest_c26 f_X7_rest_c35 f_X7_rest_c41
        have ep : f_X7_setRest (f_X7_all B 17) 17 (Int32.toInt64 m) r = pR B 17 (0, -9223372036854775808, 9223372036854775807, 0, 0, Int32.toInt64 m, f_X6_restBy r (Int32.toInt64 m)) := by
          rw [al_R']
          unfold f_X7_setRest AL
          rw [ix17, wr5, wr6, ← rest_rem hm.1]
        rw [ep]
        obtain ⟨j, hj⟩ := mB_R hi e1 hp hF
        rw [hj]
        unfold f_X7_rest_c49 f_X7_rest_63
        rw [e1, ou_R]
        have ht := t_meet (j := j) hi hp hF
        unfold ouN
        by_cases q : (mtF (gC A (36 + i)) (shF (0, -9223372036854775808, 9223372036854775807, 0, 0, Int32.toInt64 m, f_X6_restBy r (Int32.toInt64 m)))).1 = 0
        · rw [if_pos (toR_1.mpr q), if_pos q]; exact ⟨rfl, ht⟩
        · rw [if_neg (fun z => q (toR_1.mp z)), if_neg q]; exact ⟨rfl, ht⟩
  · rw [e2, if_pos e3]
    exact ⟨rfl, hF, EC.rf, ER.rf⟩
