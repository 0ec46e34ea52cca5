/-! LINES are added, TABLES grow, FACTS are given -/
def SC2 (c b j : Nat) : Prop := (b = 52 ∧ j = 9) ∨ (b = 60 ∧ c ≤ j) ∨ (53 ≤ b ∧ b ≤ 59 ∧ 64 + 8 * c ≤ j ∧ j < 112)
theorem Sx.fr2 {c : Nat} {A B A' B' : Mem} (h : Sx c A B) (ha : ∀ b j, b = 1 ∨ b = 12 ∨ b = 16 → sm A A' b j) (hT : TBr A' B') (hb : ∀ b j, SC2 c b j → sm B B' b j) (hl : ∀ k, LnG (mI B' 61 k) (mI B' 62 k) (mI B' 63 k)) : Sx c A' B' := by
  obtain ⟨h1, h2, h3, h4, h5, h6, h7, h8, h9⟩ := h
  refine ⟨h1, ?_, ?_, ?_, ?_, hT, fun m hm hm6 p hp => ?_, fun k hk => ?_, hl⟩
  · rw [(ha 1 2 (Or.inl rfl)).1]; exact h2
  · rw [(hb 52 9 (Or.inl ⟨rfl, rfl⟩)).1]; exact h3
  · rw [gC_sm (fun j => ha 12 j (Or.inr (Or.inl rfl)))]; exact h4
  · rw [gC_sm (fun j => ha 16 j (Or.inr (Or.inr rfl)))]; exact h5
  · rw [gR_sm (fun b z1 z2 => hb b _ (Or.inr (Or.inr ⟨z1, z2, by omega, by omega⟩)))]; exact h7 m hm hm6 p hp
  · rw [(hb 60 k (Or.inr (Or.inl ⟨rfl, hk⟩))).1]; exact h8 k hk
theorem ag_given {c : Nat} {A B : Mem} {m p f : Int32} (hR : Rl c A B) : Tk c A B (f_X6_given A m p f) (f_X7_given B m p f) := by
  have hR' := hR
  obtain ⟨h1, h2, h3, h4⟩ := hR'
  have hc := h2.1
  have same : ∀ v : Int32, Tk c A B (v, A) (v, B) := fun v => ⟨rfl, hR, CK.rf, RK.rf⟩
  unfold f_X6_given f_X7_given
  rcases meth_cases m h2 with ⟨i, hi, hi6, em, ex, e1, e2⟩ | ⟨e1, e2⟩
  · rw [e1, if_neg e2, Option.elim_some]
    rcases fact_cases f with ⟨q, hq, g1, g2, g3⟩ | ⟨g2, g3⟩
    · rw [g2, Option.elim_some]
      rcases pl_cases p with ⟨p', hp, ep, xp, j1, j2⟩ | ⟨j1, j2⟩
      · rw [if_neg j1, if_neg j2, if_neg g3, g1]
        obtain ⟨gg, gt⟩ := h1 q hq
        have hz : mI B 53 q = 0 ↔ mI A (36 + q) 0 = 0 := by
          have a1 : mI B 53 q = (toR (gC A (36 + q))).1 := by rw [← gt]; rfl
          rw [a1]; exact toR_1
        by_cases q0 : mI A (36 + q) 0 = 0
        · rw [if_pos q0, if_pos (hz.mpr q0)]
          have x2 : ix (64 + 8 * m + p) = 64 + 8 * i + p' := by rw [em, ep]; exact x_gv hi6 hp
          unfold f_X6_given_c56 f_X7_given_c50
          have e7 : rT i + 4 + 3 + ix p = rT i + 7 + p' := by rw [xp]
          rw [cp_C, cp_R, x2, ex, g1, e7, gt, toR_eq (x := gC A (36 + q)) q0]
          have er : rT i = 74 + 271 * i := rfl
          have ka : ∀ b j, b ≠ rT i + 7 + p' → (b ≠ rT i ∨ j ≠ 7) → sm A (uI (pC A (rT i + 7 + p') (gC A (36 + q))) (rT i) 7 0) b j := fun b j z1 z2 => by
            refine ⟨?_, ?_⟩
            · rw [r_I, if_neg (by omega), qcnI z1]
            · rw [mL_uI, qcnL z1]
          have kb : ∀ b j, (b < 53 ∨ 59 < b ∨ j ≠ 64 + 8 * i + p') → (b ≠ 66 ∨ j ≠ i) → sm B (uI (pR B (64 + 8 * i + p') (gC A (36 + q))) 66 i 0) b j := fun b j z1 z2 => by
            refine ⟨?_, ?_⟩
            · rw [r_I, if_neg (by omega)]
              by_cases e : b < 53 ∨ 59 < b
              · rw [qdoI e]
              · rw [qdnI (by omega)]
            · rw [mL_uI]
              by_cases e : b < 53 ∨ 59 < b
              · rw [qdoL e]
              · rw [qdnL (by omega)]
          refine ⟨rfl, ⟨h1.fr (fun b j z1 z2 => ka b j (by omega) (by omega)) (fun b j z1 z2 z3 => kb b j (by omega) (by omega)), ?_, fun m' hm' => ?_, h4.fr (fun b j z1 z2 => ka b j (by omega) (by omega)) (fun b j z => kb b j (by omega) (by omega))⟩, ⟨rfl, rfl, fun b j z1 z2 => ka b j (by omega) (by omega)⟩, ⟨rfl, rfl, fun b j z => kb b j (by omega) (by omega)⟩⟩
          · refine h2.fr2 (fun b j z => ka b j (by omega) (by omega)) (h2.2.2.2.2.2.1.fr (fun b j z1 z2 => ka b j (by omega) (by omega)) (fun b j z1 z2 => kb b j (by omega) (by omega))) (fun b j z => kb b j (by unfold SC2 at z; omega) (by unfold SC2 at z; omega)) (fun k => ?_)
            rw [(kb 61 k (by omega) (by omega)).1, (kb 62 k (by omega) (by omega)).1, (kb 63 k (by omega) (by omega)).1]
            exact h2.2.2.2.2.2.2.2.2 k
          · by_cases e : m' = i
            · subst e
              obtain ⟨n, n1, n2, n3, n4, n5, n6, n7⟩ := h3 m' hm'
              refine ⟨n, n1, ?_, ?_, fun l hl => ?_, fun p2 hp2 => ?_, ?_, fun z => ?_⟩
              · rw [(ka (rT m') 3 (by omega) (by omega)).1]; exact n2
              · rw [(kb 60 m' (by omega) (by omega)).1]; exact n3
              · rw [(ka (rT m' + 1) l (by omega) (by omega)).1, (ka (rT m' + 2) l (by omega) (by omega)).1, (ka (rT m' + 3) l (by omega) (by omega)).1, (kb 61 _ (by omega) (by omega)).1, (kb 62 _ (by omega) (by omega)).1, (kb 63 _ (by omega) (by omega)).1]
                exact n4 l hl
              · rw [gC_uI (by omega), gR_uo (by decide)]
                by_cases e : p2 = p'
                · rw [e, gC_p, gR_p]; exact ⟨gg, q0, rfl⟩
                · rw [gC_n (by omega), gR_n (by omega)]; exact n5 p2 hp2
              · rw [mI_uI, mI_uI]
              · exact absurd mI_uI z
            · have er' : rT m' = 74 + 271 * m' := rfl
              exact (h3 m' hm').fr (fun b j z1 z2 => ka b j (by omega) (by omega)) (fun b j z => kb b j (by unfold MB at z; omega) (by unfold MB at z; omega))
        · rw [if_neg q0, if_neg (fun z => q0 (hz.mp z))]; exact same _
      · rw [if_pos j1, if_pos j2]; exact same _
    · rw [g2, Option.elim_none, if_pos g3]
      unfold f_X6_given_31y2 f_X7_given_22
      split
      all_goals exact same _
  · rw [e1, if_pos e2, Option.elim_none]
    rcases fact_cases f with ⟨q, hq, g1, g2, g3⟩ | ⟨g2, g3⟩
    · rw [g2]; exact same _
    · rw [g2]; exact same _
/-! op -/
theorem i28 (op : Int32) : (f_X7_in (Int32.toInt64 op) 0 27 = 0) ↔ (op < 0 ∨ 27 < op) := by
  rw [i32_64, Int32.lt_iff_toInt_lt, Int32.lt_iff_toInt_lt, Int32.toInt_zero]
  have e0 : (0 : Int64).toInt = 0 := rfl
  have e1 : (27 : Int64).toInt = 27 := rfl
  have e2 : (27 : Int32).toInt = 27 := rfl
  rw [e0, e1, e2]; omega
theorem iB (b : Int32) (n : Nat) (N : Int64) (N' : Int32) (hn : n < 2 ^ 31) (e1 : N.toInt = (n : Int) - 1) (e2 : N'.toInt = n) : (∃ i, i < n ∧ b = nI i ∧ ¬ b < 0 ∧ ¬ N' ≤ b ∧ ¬ f_X7_in (Int32.toInt64 b) 0 N = 0) ∨ ((b < 0 ∨ N' ≤ b) ∧ f_X7_in (Int32.toInt64 b) 0 N = 0) := by
  have e0 : (0 : Int64).toInt = 0 := rfl
  rcases idx_cases b n hn with ⟨i, h1, h2, h3, h4, h5⟩ | h
  · left
    refine ⟨i, h1, h2, h4, ?_, ?_⟩
    · rw [Int32.le_iff_toInt_le, e2]; omega
    · rw [i32_64, e0, e1]; omega
  · right
    refine ⟨?_, ?_⟩
    · rcases h with h | h
      · left; rw [Int32.lt_iff_toInt_lt, Int32.toInt_zero]; exact h
      · right; rw [Int32.le_iff_toInt_le, e2]; exact h
    · rw [i32_64, e0, e1]; omega
/-- LINES that 'op' takes -/
theorem line_eq (op a b : Int32) (h0 : ¬ op < 0) (h27 : ¬ 27 < op) : (f_X6_isLine op a b = 0 ↔ f_X7_isLine op a b = 0) ∧ (¬ f_X6_isLine op a b = 0 → LnG op a b) := by
  have g0 : 0 ≤ op := Int32.not_lt.mp h0
  have g27 : op ≤ 27 := Int32.not_lt.mp h27
  unfold f_X6_isLine f_X7_isLine f_X6_isLine_17 f_X6_isLine_83 f_X6_isLine_84 f_X6_isLine_99 f_X6_isLine_100 f_X6_isLine_119 f_X6_isLine_120 f_X6_isLine_133 f_X6_isLine_134 f_X7_isLine_26 f_X7_isLine_27 f_X7_isLine_46 f_X7_isLine_47 f_X7_isLine_103 f_X7_isLine_107 f_X7_isLine_108 f_X7_isLine_124 f_X7_isLine_125
  rw [if_neg h0, if_neg h27]
  by_cases o26 : op = 26
  · subst o26
    rw [if_neg (show ¬ (26 : Int32) = 20 by decide), if_neg (show ¬ (26 : Int32) = 22 by decide), if_neg (show ¬ (26 : Int32) = 25 by decide), if_pos (show (26 : Int32) = 26 from rfl), if_pos (show (26 : Int32) = 26 from rfl)]
    by_cases a0 : a = 0
    · subst a0
      rw [if_neg (show ¬ f_X6_isPlace 0 = 0 by decide), if_pos rfl, if_pos rfl]
      rcases iB b 33 32 33 (by decide) rfl rfl with ⟨i, b1, b2, b3, b4, b5⟩ | ⟨b4, b5⟩
      · have b4' : ¬ 32 < b := by
          rw [Int32.le_iff_toInt_le] at b4
          rw [Int32.lt_iff_toInt_lt]
          have e1 : (33 : Int32).toInt = 33 := rfl
          have e2 : (32 : Int32).toInt = 32 := rfl
          rw [e1] at b4; rw [e2]; omega
        rw [if_neg b3, if_neg b4', if_neg b5]
        exact ⟨Iff.rfl, fun _ => ⟨by decide, by decide, ⟨0, by decide, rfl⟩, fun h => absurd h (by decide), fun h => absurd h (by decide), fun h => absurd h (by decide), fun _ => ⟨i, by omega, b2⟩⟩⟩
      · rw [if_pos b5]
        have : (if b < 0 then (0 : Int32) else if 32 < b then 0 else 1) = 0 := by
          rcases b4 with b4 | b4
          · rw [if_pos b4]
          · by_cases z : b < 0
            · rw [if_pos z]
            · rw [if_neg z, if_pos]
              rw [Int32.le_iff_toInt_le] at b4
              rw [Int32.lt_iff_toInt_lt]
              have e1 : (33 : Int32).toInt = 33 := rfl
              have e2 : (32 : Int32).toInt = 32 := rfl
              rw [e1] at b4; rw [e2]; omega
        rw [this]
        exact ⟨Iff.rfl, fun h => absurd rfl h⟩
    · rw [if_neg a0, if_neg a0]
      have : (if f_X6_isPlace a = 0 then (0 : Int32) else 0) = 0 := by split <;> rfl
      rw [this]
      exact ⟨Iff.rfl, fun h => absurd rfl h⟩
  · rw [if_neg o26, if_neg o26]
    by_cases o27 : op = 27
    · subst o27
      rw [if_neg (show ¬ (27 : Int32) = 20 by decide), if_neg (show ¬ (27 : Int32) = 22 by decide), if_neg (show ¬ (27 : Int32) = 25 by decide), if_pos (show (27 : Int32) = 27 from rfl), if_pos (show (27 : Int32) = 27 from rfl)]
      by_cases a0 : a = 0
      · subst a0
        rw [if_neg (show ¬ f_X6_isPlace 0 = 0 by decide), if_pos rfl]
        by_cases b0 : b = 0
        · rw [if_pos b0]
          exact ⟨Iff.rfl, fun _ => ⟨by decide, by decide, ⟨0, by decide, rfl⟩, fun h => absurd h (by decide), fun h => absurd h (by decide), fun h => absurd h (by decide), fun h => absurd h (by decide)⟩⟩
        · rw [if_neg b0]
          exact ⟨Iff.rfl, fun h => absurd rfl h⟩
      · rw [if_neg a0]
        have : (if f_X6_isPlace a = 0 then (0 : Int32) else 0) = 0 := by split <;> rfl
        rw [this]
        exact ⟨Iff.rfl, fun h => absurd rfl h⟩
    · rw [if_neg o27, if_neg o27]
      rcases pl_cases a with ⟨ia, ha, ea, xa, j1, j2⟩ | ⟨j1, j2⟩
      · rw [if_neg j1, if_neg j2, if_neg j2, if_neg (show ¬ (1 : Int32) = 0 by decide), if_pos (show (0 : Int32) = 0 from rfl)]
        have mk : ((op < 20 ∨ op = 21 ∨ op = 23 ∨ op = 24) → ∃ i, i < 8 ∧ b = nI i) → (op = 22 → ∃ i, i < 4 ∧ b = nI i) → (op = 25 → ∃ i, i < 64 ∧ b = nI i) → LnG op a b := fun z1 z2 z3 => ⟨g0, g27, ⟨ia, ha, ea⟩, z1, z2, z3, fun z => absurd z o26⟩
        by_cases o20 : op = 20
        · rw [if_pos o20, if_pos o20]
          exact ⟨Iff.rfl, fun _ => mk (fun z => absurd z (by rw [o20]; decide)) (fun z => absurd z (by rw [o20]; decide)) (fun z => absurd z (by rw [o20]; decide))⟩
        · rw [if_neg o20, if_neg o20]
          by_cases o22 : op = 22
          · rw [if_pos o22, if_pos o22]
            rcases iB b 4 3 4 (by decide) rfl rfl with ⟨i, b1, b2, b3, b4, b5⟩ | ⟨b4, b5⟩
            · rw [if_neg b3, if_neg b4, if_neg b5]
              exact ⟨Iff.rfl, fun _ => mk (fun z => absurd z (by rw [o22]; decide)) (fun _ => ⟨i, b1, b2⟩) (fun z => absurd z (by rw [o22]; decide))⟩
            · rw [if_pos b5]
              have : (if b < 0 then (0 : Int32) else if 4 ≤ b then 0 else 1) = 0 := by
                rcases b4 with b4 | b4
                · rw [if_pos b4]
                · rw [if_pos b4]; split <;> rfl
              rw [this]
              exact ⟨Iff.rfl, fun h => absurd rfl h⟩
          · rw [if_neg o22, if_neg o22]
            by_cases o25 : op = 25
            · rw [if_pos o25, if_pos o25]
              rcases iB b 64 63 64 (by decide) rfl rfl with ⟨i, b1, b2, b3, b4, b5⟩ | ⟨b4, b5⟩
              · rw [if_neg b3, if_neg b4, if_neg b5]
                exact ⟨Iff.rfl, fun _ => mk (fun z => absurd z (by rw [o25]; decide)) (fun z => absurd z o22) (fun _ => ⟨i, b1, b2⟩)⟩
              · rw [if_pos b5]
                have : (if b < 0 then (0 : Int32) else if 64 ≤ b then 0 else 1) = 0 := by
                  rcases b4 with b4 | b4
                  · rw [if_pos b4]
                  · rw [if_pos b4]; split <;> rfl
                rw [this]
                exact ⟨Iff.rfl, fun h => absurd rfl h⟩
            · rw [if_neg o25, if_neg o25]
              rcases pl_cases b with ⟨ib, hb, eb, xb, k1, k2⟩ | ⟨k1, k2⟩
              · rw [if_neg k2]
                exact ⟨⟨fun z => absurd z k1, fun z => absurd z (by decide)⟩, fun _ => mk (fun _ => ⟨ib, hb, eb⟩) (fun z => absurd z o22) (fun z => absurd z o25)⟩
              · rw [if_pos k2, k1]
                exact ⟨Iff.rfl, fun h => absurd rfl h⟩
      · rw [if_pos j1, if_pos j2]
        refine ⟨⟨fun _ => ?_, fun _ => rfl⟩, fun h => absurd rfl h⟩
        repeat' split
        all_goals rfl
