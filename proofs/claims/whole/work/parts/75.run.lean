/-! the other calls -/
theorem i64s {n : Nat} (hn : n ≤ 32) : ((Int32.toInt64 (nI n)) - 1).toInt = (n : Int) - 1 := by
  rw [Int64.toInt_sub, Int32.toInt_toInt64, nI_toInt (by omega)]
  have : (1 : Int64).toInt = 1 := rfl
  rw [this]
  apply Int.bmod_eq_of_le <;> omega
theorem ln_cases (ln : Int32) {n : Nat} (hn : n ≤ 32) : (∃ l, l < n ∧ ln = nI l ∧ ix ln = l ∧ ¬ ln < 0 ∧ ¬ nI n ≤ ln ∧ ¬ f_X7_in (Int32.toInt64 ln) 0 ((Int32.toInt64 (nI n)) - 1) = 0) ∨ ((ln < 0 ∨ nI n ≤ ln) ∧ f_X7_in (Int32.toInt64 ln) 0 ((Int32.toInt64 (nI n)) - 1) = 0) := by
  have e0 : (0 : Int64).toInt = 0 := rfl
  rcases idx_cases ln n (by omega) with ⟨i, h1, h2, h3, h4, h5⟩ | h
  · left
    refine ⟨i, h1, h2, h3, h4, ?_, ?_⟩
    · rw [Int32.le_iff_toInt_le, nI_toInt (by omega)]; omega
    · rw [i32_64, e0, i64s hn]; omega
  · right
    refine ⟨?_, ?_⟩
    · rcases h with h | h
      · left; rw [Int32.lt_iff_toInt_lt, Int32.toInt_zero]; exact h
      · right; rw [Int32.le_iff_toInt_le, nI_toInt (by omega)]; exact h
    · rw [i32_64, e0, i64s hn]; omega
/-! found -/
theorem ag_found {c : Nat} {A B : Mem} {m ln p f : Int32} (hR : Rl c A B) : Tk c A B (f_X6_found A m ln p f) (f_X7_found B m ln p f) := by
  have hR' := hR
  obtain ⟨h1, h2, h3, h4⟩ := hR'
  have hc := h2.1
  have same : ∀ v : Int32, Tk c A B (v, A) (v, B) := fun v => ⟨rfl, hR, CK.rf, RK.rf⟩
  unfold f_X6_found f_X7_found
  rcases meth_cases m h2 with ⟨i, hi, hi6, em, ex, e1, e2⟩ | ⟨e1, e2⟩
  · rw [e1, if_neg e2, Option.elim_some]
    obtain ⟨n, hS, hG, h7, hFi⟩ := (h3 i hi).st h2
    have hn := hS.1
    rw [ex, hS.2.2.1, hS.2.1]
    rcases fact_cases f with ⟨q, hq, g1, g2, g3⟩ | ⟨g2, g3⟩
    · rw [g2, Option.elim_some]
      rcases ln_cases ln hn with ⟨l, hl, el, xl, k1, k2, k3⟩ | ⟨k1, k3⟩
      · rw [if_neg k1, if_neg k2, if_neg k3]
        rcases pl_cases p with ⟨p', hp, ep, xp, j1, j2⟩ | ⟨j1, j2⟩
        · rw [if_neg j1, if_neg j2, if_neg g3, h7]
          by_cases q7 : mI B 66 i = 0
          · rw [if_pos q7, if_pos q7]; exact same _
          · rw [if_neg q7, if_neg q7]
            obtain ⟨f1, f2, f3⟩ := hFi q7
            have x1 : ix (32 * m + ln) = 32 * i + l := by rw [em, el]; exact x_ml hi6 (by omega)
            have x2 : ix (ln * 8 + p) = 8 * l + p' := by rw [el, ep]; exact x_lp (by omega) hp
            rw [x1, xl, f1 l hl, x2]
            have e15 : rT i + 5 + 10 + (8 * l + p') = rT i + 15 + (8 * l + p') := by omega
            by_cases r0 : mI B 67 (32 * i + l) = 0
            · rw [if_pos r0, if_pos r0]
              unfold f_X6_found_c93 f_X6_found_93 f_X6_oneUnlessNone f_X6_oneUnlessNone_12 f_X7_found_c75
              rw [mn_C', no_R', rc0, g1, if_neg (by decide)]
              exact ⟨rfl, hR.facts (by rw [← toR_Z]; exact h1.set Gd_Z hq) (EC.rf.pC (fo_f hq)) (ER.rf.pR (fun b b1 b2 => ro_f (by omega) b1 b2))⟩
            · rw [if_neg r0, if_neg r0]
              obtain ⟨z1, z2, z3⟩ := f2 l hl r0 p' hp
              have x3 : ix (f_X7_cell m ln p) = 112 + 8 * (32 * i + l) + p' := by rw [em, el, ep]; exact x_cell hi6 (by omega) hp
              unfold f_X6_found_c85 f_X6_found_93 f_X6_oneUnlessNone f_X6_oneUnlessNone_12 f_X7_found_c90
              rw [cp_C, cp_R, rc0, g1, x3, e15, z3, if_pos z2]
              exact ⟨rfl, hR.facts (by
                have := h1.set z1 hq
                rwa [toR_eq z2] at this) (EC.rf.pC (fo_f hq)) (ER.rf.pR (fun b b1 b2 => ro_f (by omega) b1 b2))⟩
        · rw [if_pos j1, if_pos j2]; exact same _
      · rw [if_pos k3]
        rcases k1 with k1 | k1
        · rw [if_pos k1]; exact same _
        · by_cases k0 : ln < 0
          · rw [if_pos k0]; exact same _
          · rw [if_neg k0, if_pos k1]; exact same _
    · rw [g2, Option.elim_none, if_pos g3]
      unfold f_X6_found_45y2 f_X7_found_41
      repeat' split
      all_goals exact same _
  · rw [e1, if_pos e2, Option.elim_none]
    rcases fact_cases f with ⟨q, hq, g1, g2, g3⟩ | ⟨g2, g3⟩
    · rw [g2]; exact same _
    · rw [g2]; exact same _
/-! readers -/
theorem ag_told {c : Nat} {A B : Mem} {f w : Int32} (hR : Rl c A B) : f_X6_told A f w = f_X7_told B f w := t_told hR.1
theorem ag_isOf {c : Nat} {A B : Mem} {f : Int32} {v : Int64} (hR : Rl c A B) : f_X6_isOf A f v = f_X7_isOf B f v := t_isOf hR.1
theorem ag_now {c : Nat} {A B : Mem} {p : Int32} (hR : Rl c A B) : f_X6_now A p = f_X7_now B p := by
  unfold f_X6_now f_X7_now f_X6_now_20 f_X7_now_17
  rcases pl_cases p with ⟨p', hp, ep, xp, j1, j2⟩ | ⟨j1, j2⟩
  · rw [if_neg j1, if_neg j2, xp, hR.2.2.2.2.1 p' hp]
  · rw [if_pos j1, if_pos j2]
theorem ag_ran {c : Nat} {A B : Mem} {w : Int32} (hR : Rl c A B) : f_X6_ran A w = f_X7_ran B w := by
  obtain ⟨-, -, -, -, -, r1, r2, r3⟩ := hR
  unfold f_X6_ran f_X7_ran f_X7_ran_36
  rw [r1, r2, r3]
theorem ag_put {c : Nat} {A B : Mem} {p : Int32} {v : Int64} (hR : Rl c A B) : Tk c A B (f_X6_put A p v) (f_X7_put_ B p v) := by
  have hR' := hR
  obtain ⟨h1, h2, h3, h4⟩ := hR'
  have hc := h2.1
  unfold f_X6_put f_X7_put_
  rcases pl_cases p with ⟨p', hp, ep, xp, j1, j2⟩ | ⟨j1, j2⟩
  · rw [if_neg j1, if_neg j2, xp]
    have ka : ∀ b j, b ≠ 33 → sm A (uL A 33 p' v) b j := fun b j z => ⟨mI_uL, mL_uL_ne z⟩
    have kb : ∀ b j, b ≠ 72 → sm B (uL B 72 p' v) b j := fun b j z => ⟨mI_uL, mL_uL_ne z⟩
    refine ⟨h4.1 p' hp, ⟨h1.fr (fun b j z1 z2 => ka b j (by omega)) (fun b j z1 z2 _ => kb b j (by omega)), h2.fr (fun b j z => ka b j (by unfold SA at z; omega)) (fun b j z => kb b j (by unfold SB at z; omega)), fun m hm => (h3 m hm).fr (fun b j z1 z2 => ka b j (by rw [rT_e] at z1; omega)) (fun b j z => kb b j (by unfold MB at z; omega)), ?_⟩, ⟨rfl, rfl, fun b j z1 z2 => ka b j (by omega)⟩, ⟨rfl, rfl, fun b j z => kb b j (by omega)⟩⟩
    obtain ⟨r1, r2, r3, r4, r5⟩ := h4
    refine ⟨fun q hq => ?_, fun q hq => ?_, r3, r4, r5⟩
    · by_cases e : q = p'
      · rw [e, mL_uL, mL_uL]
      · rw [mL_uL_nk e, mL_uL_nk e]; exact r1 q hq
    · rw [mL_uL_ne (by decide), mL_uL_ne (by decide)]; exact r2 q hq
  · rw [if_pos j1, if_pos j2]; exact ⟨rfl, hR, CK.rf, RK.rf⟩
