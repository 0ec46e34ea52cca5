theorem wk0 {i : Nat} {K : Int32} {B : Mem} : ∀ (q k j : Nat), j + q = 8 → q < k → f_X7_walk_32 (nI i) K k 0 j B = ((-3), B) := by
  intro q
  induction q with
  | zero =>
    intro k j hj hk
    obtain ⟨k, rfl⟩ : ∃ z, k = z + 1 := ⟨k - 1, by omega⟩
    rw [f_X7_walk_32, if_pos (show (8 : Int32) ≤ nI j from nI_le (a := 8) (by omega) (by omega)), if_pos rfl]
  | succ q ih =>
    intro k j hj hk
    obtain ⟨k, rfl⟩ : ∃ z, k = z + 1 := ⟨k - 1, by omega⟩
    rw [f_X7_walk_32, if_neg (show ¬ (8 : Int32) ≤ nI j from nI_ge (b := 8) (by omega) (by decide)), if_pos rfl]
    exact ih k (j + 1) (by omega) (by omega)
theorem wk1 {i : Nat} {K : Int32} {A B : Mem} (hi : i < 6) (hG : GV i A B) (hp : ∀ p, p < 8 → mL A 33 p = mL B 72 p) : ∀ (q k k' j : Nat) (y : Int32), j + q = 8 → q < k → q < k' → ¬ y = 0 → f_X7_walk_32 (nI i) K k y j B = (if f_X3_allows_2 (rT i) A k' j = 0 then ((-3), B) else f_X7_walk_89 (nI i) K 9 0 B) := by
  intro q
  induction q with
  | zero =>
    intro k k' j y hj hk hk' hy
    obtain ⟨k, rfl⟩ : ∃ z, k = z + 1 := ⟨k - 1, by omega⟩
    obtain ⟨k', rfl⟩ : ∃ z, k' = z + 1 := ⟨k' - 1, by omega⟩
    rw [f_X7_walk_32, f_X3_allows_2, if_pos (show (8 : Int32) ≤ nI j from nI_le (a := 8) (by omega) (by omega)), if_pos (show (8 : Int32) ≤ nI j from nI_le (a := 8) (by omega) (by omega)), if_neg hy, if_neg (by decide)]
  | succ q ih =>
    intro k k' j y hj hk hk' hy
    obtain ⟨k, rfl⟩ : ∃ z, k = z + 1 := ⟨k - 1, by omega⟩
    obtain ⟨k', rfl⟩ : ∃ z, k' = z + 1 := ⟨k' - 1, by omega⟩
    have hj8 : j < 8 := by omega
    obtain ⟨g1, g2, g3⟩ := hG j hj8
    have hh : f_X1_holds A (rT i + 4 + 3 + j) (mL B 72 j) = f_X7_isIn B ((64 + (8 * nI i)) + nI j) (mL B 72 j) := hold_eq (x := gC A (rT i + 7 + j)) g1 rfl (by rw [x_gv hi hj8, toR_eq g2]; exact g3)
    rw [f_X7_walk_32, f_X3_allows_2, if_neg (show ¬ (8 : Int32) ≤ nI j from nI_ge (b := 8) hj8 (by decide)), if_neg (show ¬ (8 : Int32) ≤ nI j from nI_ge (b := 8) hj8 (by decide)), if_neg hy, ix_n (show j < 2 ^ 31 by omega), hp j hj8, hh]
    unfold f_X7_walk_71 f_X7_walk_72
    by_cases z : f_X7_isIn B ((64 + (8 * nI i)) + nI j) (mL B 72 j) = 0
    · rw [if_pos z, if_pos z, if_pos rfl]
      exact wk0 q k (j + 1) (by omega) (by omega)
    · rw [if_neg z, if_neg z]
      exact ih k k' (j + 1) 1 (by omega) (by omega) (by omega) (by decide)
theorem cpA {i : Nat} {K : Int32} {A : Mem} : ∀ (q k j : Nat) (Q : Mem), j + q = 8 → q < k → ER eA A Q → (∀ p, p < j → mL Q 32 p = mL A 33 p) → ∃ Q', f_X4_begin_3 (rT i) K k j Q = f_X4_begin_43 (rT i) K (ix K + 2) 0 1 (uI (uI Q' 31 2 0) 31 3 (-1)) ∧ ER eA A Q' ∧ ∀ p, p < 8 → mL Q' 32 p = mL A 33 p := by
  intro q
  induction q with
  | zero =>
    intro k j Q hj hk ha hp
    obtain ⟨k, rfl⟩ : ∃ z, k = z + 1 := ⟨k - 1, by omega⟩
    rw [f_X4_begin_3, if_pos (show (8 : Int32) ≤ nI j from nI_le (a := 8) (by omega) (by omega))]
    exact ⟨Q, rfl, ha, fun p h => hp p (by omega)⟩
  | succ q ih =>
    intro k j Q hj hk ha hp
    obtain ⟨k, rfl⟩ : ∃ z, k = z + 1 := ⟨k - 1, by omega⟩
    rw [f_X4_begin_3, if_neg (show ¬ (8 : Int32) ≤ nI j from nI_ge (b := 8) (by omega) (by decide)), ix_n (by omega), (ha.2.2 33 j (eA_n (by omega))).2]
    refine ih k (j + 1) _ (by omega) (by omega) (ha.uL rfl) (fun p h => ?_)
    by_cases e : p = j
    · rw [e, mL_uL]
    · rw [mL_uL_nk e]; exact hp p (by omega)
theorem cpB {i : Nat} {K : Int32} {B : Mem} : ∀ (q k j : Nat) (Q : Mem), j + q = 8 → q < k → ER eB B Q → (∀ p, p < j → mL Q 73 p = mL B 72 p) → ∃ Q', f_X7_walk_89 (nI i) K k j Q = f_X7_walk_134 (nI i) K (ix K + 2) 0 (uI (uI (uI Q' 52 26 (-1)) 52 24 0) 52 25 0) ∧ ER eB B Q' ∧ ∀ p, p < 8 → mL Q' 73 p = mL B 72 p := by
  intro q
  induction q with
  | zero =>
    intro k j Q hj hk ha hp
    obtain ⟨k, rfl⟩ : ∃ z, k = z + 1 := ⟨k - 1, by omega⟩
    rw [f_X7_walk_89, if_pos (show (8 : Int32) ≤ nI j from nI_le (a := 8) (by omega) (by omega))]
    exact ⟨Q, rfl, ha, fun p h => hp p (by omega)⟩
  | succ q ih =>
    intro k j Q hj hk ha hp
    obtain ⟨k, rfl⟩ : ∃ z, k = z + 1 := ⟨k - 1, by omega⟩
    rw [f_X7_walk_89, if_neg (show ¬ (8 : Int32) ≤ nI j from nI_ge (b := 8) (by omega) (by decide)), ix_n (by omega), (ha.2.2 72 j (eB_n (by omega) (by omega))).2]
    refine ih k (j + 1) _ (by omega) (by omega) (ha.uL rfl) (fun p h => ?_)
    by_cases e : p = j
    · rw [e, mL_uL]
    · rw [mL_uL_nk e]; exact hp p (by omega)
theorem ag_walk {c : Nat} {A B : Mem} {m k : Int32} (hR : Rl c A B) : Tk c A B (f_X6_walk A m k) (f_X7_walk B m k) := by
  have hR' := hR
  obtain ⟨h1, h2, h3, h4⟩ := hR'
  have hc := h2.1
  have same : ∀ v : Int32, Tk c A B (v, A) (v, B) := fun v => ⟨rfl, hR, CK.rf, RK.rf⟩
  unfold f_X6_walk f_X7_walk
  rcases meth_cases m h2 with ⟨i, hi, hi6, em, ex, e1, e2⟩ | ⟨e1, e2⟩
  · rw [e1, if_neg e2, Option.elim_some]
    rcases iB k 1001 1000 1001 (by decide) rfl rfl with ⟨K, k1, k2, k3, k4, k5⟩ | ⟨k4, k5⟩
    · have k4' : k ≤ 1000 := by
        rw [Int32.le_iff_toInt_le] at k4 ⊢
        have a1 : (1001 : Int32).toInt = 1001 := rfl
        have a2 : (1000 : Int32).toInt = 1000 := rfl
        omega
      rw [if_neg k3, if_pos k4', if_neg k5]
      obtain ⟨n, hS, hG, h7, hFi⟩ := (h3 i hi).st h2
      have hn := hS.1
      rw [ex, h7, em]
      by_cases q7 : mI B 66 i = 0
      · rw [if_pos q7, q7, wk0 8 9 0 rfl (by omega)]; exact same _
      · rw [if_neg q7, wk1 hi6 hG h4.1 8 9 9 0 _ rfl (by omega) (by omega) q7]
        have ea : f_X3_allows A (rT i) = f_X3_allows_2 (rT i) A 9 0 := rfl
        rw [ea]
        by_cases z : f_X3_allows_2 (rT i) A 9 0 = 0
        · rw [if_pos z, if_pos z]; exact same _
        · rw [if_neg z, if_neg z]
          have hF := hFi q7
          obtain ⟨Q1, a1, a2, a3⟩ := cpA (i := i) (K := k) (A := A) 8 9 0 A rfl (by omega) ER.rf (fun p h => by omega)
          obtain ⟨P1, b1, b2, b3⟩ := cpB (i := i) (K := k) (B := B) 8 9 0 B rfl (by omega) ER.rf (fun p h => by omega)
          have eb : f_X4_begin A (rT i) k = f_X4_begin_3 (rT i) k 9 0 A := rfl
          rw [eb, a1, b1, k2, ix_n (show K < 2 ^ 31 by omega)]
          obtain ⟨v, Q2, P2, r1, r2, ⟨v1, v2, v3, v4⟩, r4, r5⟩ := rn_eq (K := K) hi6 (by omega) hS hF K 0 0 (K + 2) (K + 2) (uI (uI Q1 31 2 0) 31 3 (-1)) (uI (uI (uI P1 52 26 (-1)) 52 24 0) 52 25 0) (by omega) (by omega) (by omega) (by omega) ⟨by rw [mI_uI_nk (by decide), mI_uI, Nat.min_eq_left (by omega)]; rfl, mI_uI, fun p hp => by
            show mL Q1 32 p = mL P1 73 p
            rw [a3 p hp, b3 p hp]; exact h4.1 p hp, by rw [mI_uI, mI_uI_nk (by decide), mI_uI_nk (by decide), mI_uI], by rw [mI_uI_nk (by decide), mI_uI]⟩ ((a2.uI rfl).uI rfl) (((b2.uI rfl).uI rfl).uI rfl)
          have r1' : f_X4_begin_43 (rT i) (nI K) (K + 2) 0 1 (uI (uI Q1 31 2 0) 31 3 (-1)) = (v, Q2) := r1
          have r2' : f_X7_walk_134 (nI i) (nI K) (K + 2) 0 (uI (uI (uI P1 52 26 (-1)) 52 24 0) 52 25 0) = (v, P2) := r2
          rw [r1', r2']
          unfold f_X6_walk_c61
          have ka : ∀ b j, (b < 31 ∨ 32 < b) → sm A Q2 b j := fun b j z => r4.2.2 b j (eA_n z)
          have kb : ∀ b j, b ≠ 73 → (b ≠ 52 ∨ j < 24 ∨ 26 < j) → sm B P2 b j := fun b j z z2 => r5.2.2 b j (eB_n z z2)
          refine ⟨rfl, ⟨h1.fr (fun b j z1 z2 => ka b j (by omega)) (fun b j z1 z2 z3 => kb b j (by omega) (by omega)), h2.fr (fun b j z => ka b j (by unfold SA at z; omega)) (fun b j z => kb b j (by unfold SB at z; omega) (by unfold SB at z; omega)), fun m' hm' => (h3 m' hm').fr (fun b j z1 z2 => ka b j (by rw [rT_e] at z1; omega)) (fun b j z => kb b j (by unfold MB at z; omega) (by unfold MB at z; omega)), ⟨fun p hp => ?_, v1, v2, v3, v4⟩⟩, ⟨r4.1, r4.2.1, fun b j z1 z2 => ka b j (by omega)⟩, ⟨r5.1, r5.2.1, fun b j z => kb b j (by omega) (by omega)⟩⟩
          show mL Q2 33 p = mL P2 72 p
          rw [(ka 33 p (by omega)).2, (kb 72 p (by omega) (by omega)).2]; exact h4.1 p hp
    · rw [if_pos k5]
      have : ∀ X : Int32 × Mem, (if k < 0 then f_X6_walk_21y1 A else if k ≤ 1000 then X else f_X6_walk_21y1 A) = ((-1), A) := fun X => by
        rcases k4 with k4 | k4
        · rw [if_pos k4]; rfl
        · by_cases z : k < 0
          · rw [if_pos z]; rfl
          · rw [if_neg z, if_neg]
            · rfl
            · intro z2
              rw [Int32.le_iff_toInt_le] at k4 z2
              have a1 : (1001 : Int32).toInt = 1001 := rfl
              have a2 : (1000 : Int32).toInt = 1000 := rfl
              omega
      rw [this]
      exact same _
  · rw [e1, if_pos e2, Option.elim_none]
    exact same _
