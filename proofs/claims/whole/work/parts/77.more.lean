theorem nI_inj {a b : Nat} (ha : a < 2 ^ 31) (hb : b < 2 ^ 31) : nI a = nI b ↔ a = b := by
  constructor
  · intro h
    have := congrArg Int32.toInt h
    rw [nI_toInt ha, nI_toInt hb] at this
    omega
  · intro h; rw [h]
theorem nI_s1 {n : Nat} : nI n + 1 = nI (n + 1) := nI_add n 1
theorem nI_p1 {n : Nat} : nI (n + 1) - 1 = nI n := by
  rw [← nI_s1]
  exact Int32.add_sub_cancel _ _
/-- a METHOD, once its LINES or what is given change: it is not found -/
theorem ag_op {c : Nat} {A B : Mem} {m op a b : Int32} (hR : Rl c A B) : Tk c A B (f_X6_op A m op a b) (f_X7_op B m op a b) := by
  have hR' := hR
  obtain ⟨h1, h2, h3, h4⟩ := hR'
  have hc := h2.1
  have same : ∀ v : Int32, Tk c A B (v, A) (v, B) := fun v => ⟨rfl, hR, CK.rf, RK.rf⟩
  unfold f_X6_op f_X7_op
  rcases meth_cases m h2 with ⟨i, hi, hi6, em, ex, e1, e2⟩ | ⟨e1, e2⟩
  · rw [e1, if_neg e2, Option.elim_some]
    by_cases o0 : op < 0 ∨ 27 < op
    · rw [if_pos ((i28 op).mpr o0)]
      have : f_X6_isLine op a b = 0 := by
        unfold f_X6_isLine f_X6_isLine_17
        rcases o0 with z | z
        · rw [if_pos z]
        · by_cases y : op < 0
          · rw [if_pos y]
          · rw [if_neg y, if_pos z]
      rw [if_pos this]; exact same _
    · rw [if_neg (fun z => o0 ((i28 op).mp z))]
      obtain ⟨k1, k2⟩ := line_eq op a b (fun z => o0 (Or.inl z)) (fun z => o0 (Or.inr z))
      by_cases q : f_X6_isLine op a b = 0
      · rw [if_pos q, if_pos (k1.mp q)]; exact same _
      · rw [if_neg q, if_neg (fun z => q (k1.mpr z))]
        have hL := k2 q
        obtain ⟨n, n1, n2, n3, n4, n5, n6, n7⟩ := h3 i hi
        rw [ex, n3, n2]
        by_cases nn : n = 32
        · rw [if_neg (show ¬ nI n < 32 by rw [show (32 : Int32) = nI 32 from rfl, nI_ltI (by omega) (by omega)]; omega), if_pos (show nI n = 32 by rw [nn]; rfl)]
          exact same _
        · have nl : n < 32 := by omega
          rw [if_pos (show nI n < 32 by rw [show (32 : Int32) = nI 32 from rfl, nI_ltI (by omega) (by omega)]; omega), if_neg (show ¬ nI n = 32 by rw [show (32 : Int32) = nI 32 from rfl, nI_inj (by omega) (by omega)]; omega)]
          have er : rT i = 74 + 271 * i := rfl
          have xn : ix (nI n) = n := ix_n (by omega)
          have x1 : ix (32 * m + nI n) = 32 * i + n := by rw [em]; exact x_ml hi6 (by omega)
          have eA : f_X3_addLine A (rT i) op a b = uI (uI (uI (uI (uI A (rT i + 1) n op) (rT i + 2) n a) (rT i + 3) n b) (rT i) 3 (nI (n + 1))) (rT i) 7 0 := by
            unfold f_X3_addLine
            rw [mI_uI_ne (show rT i ≠ rT i + 3 by omega), mI_uI_ne (show rT i ≠ rT i + 2 by omega), mI_uI_ne (show rT i ≠ rT i + 1 by omega), n2, xn, nI_s1]
          have eB : (mI (uI (uI (uI B 61 (32 * i + n) op) 62 (32 * i + n) a) 63 (32 * i + n) b) 60 i) + 1 = nI (n + 1) := by
            rw [mI_uI_ne (by decide), mI_uI_ne (by decide), mI_uI_ne (by decide), n3, nI_s1]
          rw [eA, x1, eB]
          unfold f_X6_op_c46
          rw [mI_uI_nk (by decide), mI_uI, nI_p1]
          generalize hA' : uI (uI (uI (uI (uI A (rT i + 1) n op) (rT i + 2) n a) (rT i + 3) n b) (rT i) 3 (nI (n + 1))) (rT i) 7 0 = A'
          generalize hB' : uI (uI (uI (uI (uI B 61 (32 * i + n) op) 62 (32 * i + n) a) 63 (32 * i + n) b) 60 i (nI (n + 1))) 66 i 0 = B'
          have ka : ∀ z j, (z < rT i ∨ rT i + 3 < z ∨ (rT i < z ∧ j ≠ n) ∨ (z = rT i ∧ j ≠ 3 ∧ j ≠ 7)) → sm A A' z j := fun z j hz => by
            rw [← hA']
            refine ⟨?_, rfl⟩
            rw [r_I, if_neg (by omega), r_I, if_neg (by omega), r_I, if_neg (by omega), r_I, if_neg (by omega), r_I, if_neg (by omega)]
          have kb : ∀ z j, (z < 60 ∨ (63 < z ∧ z ≠ 66) ∨ (z = 60 ∧ j ≠ i) ∨ (z = 66 ∧ j ≠ i) ∨ (61 ≤ z ∧ z ≤ 63 ∧ j ≠ 32 * i + n)) → sm B B' z j := fun z j hz => by
            rw [← hB']
            refine ⟨?_, rfl⟩
            rw [r_I, if_neg (by omega), r_I, if_neg (by omega), r_I, if_neg (by omega), r_I, if_neg (by omega), r_I, if_neg (by omega)]
          have w3 : mI A' (rT i) 3 = nI (n + 1) := by rw [← hA', mI_uI_nk (by decide), mI_uI]
          have w7 : mI A' (rT i) 7 = 0 := by rw [← hA', mI_uI]
          have a1 : mI A' (rT i + 1) n = op := by rw [← hA', mI_uI_ne (by omega), mI_uI_ne (by omega), mI_uI_ne (by omega), mI_uI_ne (by omega), mI_uI]
          have a2 : mI A' (rT i + 2) n = a := by rw [← hA', mI_uI_ne (by omega), mI_uI_ne (by omega), mI_uI_ne (by omega), mI_uI]
          have a3 : mI A' (rT i + 3) n = b := by rw [← hA', mI_uI_ne (by omega), mI_uI_ne (by omega), mI_uI]
          have v0 : mI B' 60 i = nI (n + 1) := by rw [← hB', mI_uI_ne (by decide), mI_uI]
          have v6 : mI B' 66 i = 0 := by rw [← hB', mI_uI]
          have b1 : mI B' 61 (32 * i + n) = op := by rw [← hB', mI_uI_ne (by decide), mI_uI_ne (by decide), mI_uI_ne (by decide), mI_uI_ne (by decide), mI_uI]
          have b2 : mI B' 62 (32 * i + n) = a := by rw [← hB', mI_uI_ne (by decide), mI_uI_ne (by decide), mI_uI_ne (by decide), mI_uI]
          have b3 : mI B' 63 (32 * i + n) = b := by rw [← hB', mI_uI_ne (by decide), mI_uI_ne (by decide), mI_uI]
          have sA : A'.1 = A.1 ∧ A'.2.1 = A.2.1 := by rw [← hA']; exact ⟨rfl, rfl⟩
          have sB : B'.1 = B.1 ∧ B'.2.1 = B.2.1 := by rw [← hB']; exact ⟨rfl, rfl⟩
          clear hA' hB' eA eB
          refine ⟨rfl, ⟨h1.fr (fun b j z1 z2 => ka b j (by omega)) (fun b j z1 z2 z3 => kb b j (by omega)), ?_, fun m' hm' => ?_, h4.fr (fun b j z1 z2 => ka b j (by omega)) (fun b j z => kb b j (by omega))⟩, ⟨sA.1, sA.2, fun b j z1 z2 => ka b j (by omega)⟩, ⟨sB.1, sB.2, fun b j z => kb b j (by omega)⟩⟩
          · refine h2.fr2 (fun b j z => ka b j (by omega)) (h2.2.2.2.2.2.1.fr (fun b j z1 z2 => ka b j (by omega)) (fun b j z1 z2 => kb b j (by omega))) (fun b j z => kb b j (by unfold SC2 at z; omega)) (fun k => ?_)
            by_cases ek : k = 32 * i + n
            · rw [ek, b1, b2, b3]; exact hL
            · rw [(kb 61 k (by omega)).1, (kb 62 k (by omega)).1, (kb 63 k (by omega)).1]
              exact h2.2.2.2.2.2.2.2.2 k
          · by_cases e : m' = i
            · subst e
              refine ⟨n + 1, by omega, w3, v0, fun l hl => ?_, n5.fr (fun b j z1 z2 => ka b j (by omega)) (fun b j z1 z2 z3 z4 => kb b j (by omega)), by rw [w7, v6], fun z => absurd v6 z⟩
              by_cases el : l = n
              · rw [el, a1, a2, a3, b1, b2, b3]; exact ⟨rfl, rfl, rfl⟩
              · rw [(ka (rT m' + 1) l (by omega)).1, (ka (rT m' + 2) l (by omega)).1, (ka (rT m' + 3) l (by omega)).1, (kb 61 _ (by omega)).1, (kb 62 _ (by omega)).1, (kb 63 _ (by omega)).1]
                exact n4 l (by omega)
            · have er' : rT m' = 74 + 271 * m' := rfl
              exact (h3 m' hm').fr (fun b j z1 z2 => ka b j (by omega)) (fun b j z => kb b j (by unfold MB at z; omega))
  · rw [e1, if_pos e2, Option.elim_none]
    exact same _
/-! table -/
theorem tc40 {c : Nat} {A : Mem} {t : Int32} (hc : c ≤ 6) : ∀ (q k j : Nat) (Q : Mem), j + q = c → q < k → mI Q 1 2 = nI c → Q.1 = A.1 → Q.2.1 = A.2.1 → (∀ m, m < j → mI Q (rT m) 7 = 0) → (∀ b i, (∀ m, m < c → ¬ (b = rT m ∧ i = 7)) → sm A Q b i) →
    ∃ Q', f_X6_table_40 t k j Q = (mI Q' 10 (ix t), Q') ∧ Q'.1 = A.1 ∧ Q'.2.1 = A.2.1 ∧ (∀ m, m < c → mI Q' (rT m) 7 = 0) ∧ (∀ b i, (∀ m, m < c → ¬ (b = rT m ∧ i = 7)) → sm A Q' b i) := by
  intro q
  induction q with
  | zero =>
    intro k j Q hj hk h1 s1 s2 h2 h3
    obtain ⟨k, rfl⟩ : ∃ z, k = z + 1 := ⟨k - 1, by omega⟩
    rw [f_X6_table_40, h1, if_pos (nI_le (by omega) (by omega))]
    exact ⟨Q, rfl, s1, s2, fun m hm => h2 m (by omega), h3⟩
  | succ q ih =>
    intro k j Q hj hk h1 s1 s2 h2 h3
    obtain ⟨k, rfl⟩ : ∃ z, k = z + 1 := ⟨k - 1, by omega⟩
    have e : 74 + 271 * ix (nI j) = rT j := by rw [ix_n (by omega)]
    rw [f_X6_table_40, h1, if_neg (nI_ge (by omega) (by omega)), e]
    have er : rT j = 74 + 271 * j := rfl
    refine ih k (j + 1) _ (by omega) (by omega) (by rw [mI_uI_ne (by omega)]; exact h1) s1 s2 (fun m hm => ?_) (fun b i hb => ?_)
    · by_cases em : m = j
      · rw [em, mI_uI]
      · have er' : rT m = 74 + 271 * m := rfl
        rw [mI_uI_ne (by omega)]; exact h2 m (by omega)
    · have := h3 b i hb
      refine ⟨?_, this.2⟩
      rw [r_I, if_neg (hb j (by omega))]; exact this.1
theorem tr58 {B : Mem} {t : Int32} : ∀ (q k j : Nat) (Q : Mem), j + q = 6 → q < k → Q.1 = B.1 → Q.2.1 = B.2.1 → (∀ m, m < j → mI Q 66 m = 0) → (∀ b i, b ≠ 66 → sm B Q b i) →
    ∃ Q', f_X7_table_58 t k j Q = (mI Q' 64 (ix t), Q') ∧ Q'.1 = B.1 ∧ Q'.2.1 = B.2.1 ∧ (∀ m, m < 6 → mI Q' 66 m = 0) ∧ (∀ b i, b ≠ 66 → sm B Q' b i) := by
  intro q
  induction q with
  | zero =>
    intro k j Q hj hk s1 s2 h2 h3
    obtain ⟨k, rfl⟩ : ∃ z, k = z + 1 := ⟨k - 1, by omega⟩
    rw [f_X7_table_58, if_pos (show (6 : Int32) ≤ nI j from nI_le (a := 6) (by omega) (by omega))]
    exact ⟨Q, rfl, s1, s2, fun m hm => h2 m (by omega), h3⟩
  | succ q ih =>
    intro k j Q hj hk s1 s2 h2 h3
    obtain ⟨k, rfl⟩ : ∃ z, k = z + 1 := ⟨k - 1, by omega⟩
    rw [f_X7_table_58, if_neg (show ¬ (6 : Int32) ≤ nI j from nI_ge (b := 6) (by omega) (by decide)), ix_n (by omega)]
    refine ih k (j + 1) _ (by omega) (by omega) s1 s2 (fun m hm => ?_) (fun b i hb => ?_)
    · by_cases em : m = j
      · rw [em, mI_uI]
      · rw [mI_uI_nk em]; exact h2 m (by omega)
    · have := h3 b i hb
      exact ⟨by rw [mI_uI_ne hb]; exact this.1, this.2⟩
theorem ag_table {c : Nat} {A B : Mem} {t : Int32} {v : Int64} (hR : Rl c A B) : Tk c A B (f_X6_table A t v) (f_X7_table B t v) := by
  have hR' := hR
  obtain ⟨h1, h2, h3, h4⟩ := hR'
  have hc := h2.1
  have same : ∀ v : Int32, Tk c A B (v, A) (v, B) := fun v => ⟨rfl, hR, CK.rf, RK.rf⟩
  unfold f_X6_table f_X7_table
  rcases iB t 4 3 4 (by decide) rfl rfl with ⟨i, t1, t2, t3, t4, t5⟩ | ⟨t4, t5⟩
  · have t4' : t < 4 := Int32.not_le.mp t4
    have xt : ix t = i := by rw [t2, ix_n (by omega)]
    rw [if_neg t3, if_pos t4', if_neg t5, xt]
    obtain ⟨n, n1, n2, n3, n4⟩ := h2.2.2.2.2.2.1 i t1
    rw [n2, n3]
    by_cases nn : n = 16
    · rw [if_neg (show ¬ nI n < 16 by rw [show (16 : Int32) = nI 16 from rfl, nI_ltI (by omega) (by omega)]; omega), if_pos (show nI n = 16 by rw [nn]; rfl)]
      exact same _
    · have nl : n < 16 := by omega
      rw [if_pos (show nI n < 16 by rw [show (16 : Int32) = nI 16 from rfl, nI_ltI (by omega) (by omega)]; omega), if_neg (show ¬ nI n = 16 by rw [show (16 : Int32) = nI 16 from rfl, nI_inj (by omega) (by omega)]; omega)]
      have xn : ix (nI n) = n := ix_n (by omega)
      have x1 : ix (16 * t + nI n) = 16 * i + n := by
        rw [t2, show (16 : Int32) * nI i + nI n = nI (16 * i + n) from by rw [show (16 : Int32) = nI 16 from rfl, nI_mul, nI_add], ix_n (by omega)]
      have eA : f_X5_addNumber A t v = uI (uL A (6 + i) n v) 10 i (nI (n + 1)) := by
        unfold f_X5_addNumber
        rw [mI_uL, xt, n2, xn, nI_s1, show 5 + 1 + i = 6 + i by omega]
      rw [eA, x1, mI_uL, n3, nI_s1]
      unfold f_X6_table_c37
      rw [h2.2.1, ix_n (show c < 2 ^ 31 by omega)]
      have er : ∀ m, rT m = 74 + 271 * m := fun _ => rfl
      obtain ⟨A', a1, a2, a3, a4, a5⟩ := tc40 (A := uI (uL A (6 + i) n v) 10 i (nI (n + 1))) (t := t) hc c (c + 1) 0 _ (by omega) (by omega) (by rw [mI_uI_ne (by omega), mI_uL]; exact h2.2.1) rfl rfl (fun m hm => by omega) (fun _ _ _ => ⟨rfl, rfl⟩)
      obtain ⟨B', b1, b2, b3, b4, b5⟩ := tr58 (B := uI (uL B 65 (16 * i + n) v) 64 i (nI (n + 1))) (t := t) 6 7 0 _ rfl (by omega) rfl rfl (fun m hm => by omega) (fun _ _ _ => ⟨rfl, rfl⟩)
      rw [a1, b1, xt]
      have ka0 : ∀ b j, (b < 74 ∨ j ≠ 7) → sm (uI (uL A (6 + i) n v) 10 i (nI (n + 1))) A' b j := fun b j z => a5 b j (fun m hm hz => by rw [er] at hz; omega)
      have ka : ∀ b j, (b ≠ 6 + i ∨ j ≠ n) → (b ≠ 10 ∨ j ≠ i) → (b < 74 ∨ j ≠ 7) → sm A A' b j := fun b j z1 z2 z3 => by
        have := ka0 b j z3
        refine ⟨this.1.trans ?_, this.2.trans ?_⟩
        · rw [r_I, if_neg (by omega)]; rfl
        · show mL (uL A (6 + i) n v) b j = mL A b j
          rw [r_L, if_neg (by omega)]
      have kb : ∀ b j, b ≠ 66 → (b ≠ 65 ∨ j ≠ 16 * i + n) → (b ≠ 64 ∨ j ≠ i) → sm B B' b j := fun b j z1 z2 z3 => by
        have := b5 b j z1
        refine ⟨this.1.trans ?_, this.2.trans ?_⟩
        · rw [r_I, if_neg (by omega)]; rfl
        · show mL (uL B 65 (16 * i + n) v) b j = mL B b j
          rw [r_L, if_neg (by omega)]
      have g1 : mI A' 10 i = nI (n + 1) := by rw [(ka0 10 i (by omega)).1, mI_uI]
      have g2 : mI B' 64 i = nI (n + 1) := by rw [(b5 64 i (by decide)).1, mI_uI]
      have g3 : mL A' (6 + i) n = v := by rw [(ka0 (6 + i) n (by omega)).2, mL_uI, mL_uL]
      have g4 : mL B' 65 (16 * i + n) = v := by rw [(b5 65 _ (by decide)).2, mL_uI, mL_uL]
      refine ⟨by rw [g1, g2], ⟨h1.fr (fun b j z1 z2 => ka b j (by omega) (by omega) (by omega)) (fun b j z1 z2 z3 => kb b j (by omega) (by omega) (by omega)), ?_, fun m' hm' => ?_, h4.fr (fun b j z1 z2 => ka b j (by omega) (by omega) (by omega)) (fun b j z => kb b j (by omega) (by omega) (by omega))⟩, ⟨a2, a3, fun b j z1 z2 => ka b j (by omega) (by omega) (by omega)⟩, ⟨b2, b3, fun b j z => kb b j (by omega) (by omega) (by omega)⟩⟩
      · refine h2.fr2 (fun b j z => ka b j (by omega) (by omega) (by omega)) (fun t' ht' => ?_) (fun b j z => kb b j (by unfold SC2 at z; omega) (by unfold SC2 at z; omega) (by unfold SC2 at z; omega)) (fun k => ?_)
        · by_cases e : t' = i
          · subst e
            refine ⟨n + 1, by omega, g1, g2, fun k hk => ?_⟩
            by_cases ek : k = n
            · rw [ek, g3, g4]
            · rw [(ka (6 + t') k (by omega) (by omega) (by omega)).2, (kb 65 _ (by omega) (by omega) (by omega)).2]; exact n4 k (by omega)
          · obtain ⟨w, w1, w2, w3, w4⟩ := h2.2.2.2.2.2.1 t' ht'
            refine ⟨w, w1, ?_, ?_, fun k hk => ?_⟩
            · rw [(ka 10 t' (by omega) (by omega) (by omega)).1]; exact w2
            · rw [(kb 64 t' (by omega) (by omega) (by omega)).1]; exact w3
            · rw [(ka (6 + t') k (by omega) (by omega) (by omega)).2, (kb 65 _ (by omega) (by omega) (by omega)).2]; exact w4 k hk
        · rw [(kb 61 k (by omega) (by omega) (by omega)).1, (kb 62 k (by omega) (by omega) (by omega)).1, (kb 63 k (by omega) (by omega) (by omega)).1]
          exact h2.2.2.2.2.2.2.2.2 k
      · have er' := er m'
        obtain ⟨w, w1, w2, w3, w4, w5, w6, w7⟩ := h3 m' hm'
        have v6 : mI B' 66 m' = 0 := b4 m' (by omega)
        have hla : ∀ b l, rT m' + 1 ≤ b → b ≤ rT m' + 3 → mI A' b l = mI A b l := fun b l z1 z2 => by
          have := a5 b l (fun m hm hz => by rw [er] at hz; omega)
          refine this.1.trans ?_
          rw [r_I, if_neg (by omega)]; rfl
        refine ⟨w, w1, ?_, ?_, fun l hl => ?_, ?_, by rw [a4 m' hm', v6], fun z => absurd v6 z⟩
        · rw [(ka (rT m') 3 (by omega) (by omega) (by omega)).1]; exact w2
        · rw [(kb 60 m' (by omega) (by omega) (by omega)).1]; exact w3
        · rw [hla _ l (by omega) (by omega), hla _ l (by omega) (by omega), hla _ l (by omega) (by omega), (kb 61 _ (by omega) (by omega) (by omega)).1, (kb 62 _ (by omega) (by omega) (by omega)).1, (kb 63 _ (by omega) (by omega) (by omega)).1]
          exact w4 l hl
        · refine w5.fr (fun b j z1 z2 => ?_) (fun b j z1 z2 z3 z4 => kb b j (by omega) (by omega) (by omega))
          have := a5 b j (fun m hm hz => by rw [er] at hz; omega)
          refine ⟨this.1.trans ?_, this.2.trans ?_⟩
          · rw [r_I, if_neg (by omega)]; rfl
          · show mL (uL A (6 + i) n v) b j = mL A b j
            rw [r_L, if_neg (by omega)]
  · rw [if_pos t5]
    have : ∀ X : Int32 × Mem, (if t < 0 then f_X6_table_9 A else if t < 4 then X else f_X6_table_9 A) = ((-1), A) := fun X => by
      rcases t4 with t4 | t4
      · rw [if_pos t4]; rfl
      · by_cases z : t < 0
        · rw [if_pos z]; rfl
        · rw [if_neg z, if_neg (Int32.not_lt.mpr t4)]; rfl
    rw [this]
    exact same _
