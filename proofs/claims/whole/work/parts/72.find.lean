/-! ROUNDS -/
theorem sw_loop {A : Mem} : ∀ (q n j : Nat), j + q = 32 → q < n → (f_X2_someWait_2 A n j = 0 ↔ ∀ l, j ≤ l → l < 32 → mI A 20 l = 0) := by
  intro q
  induction q with
  | zero =>
    intro n j hj hn
    obtain ⟨n, rfl⟩ : ∃ z, n = z + 1 := ⟨n - 1, by omega⟩
    rw [f_X2_someWait_2, if_pos (show (32 : Int32) ≤ nI j from nI_le (a := 32) (by omega) (by omega))]
    exact ⟨fun _ l h1 h2 => by omega, fun _ => rfl⟩
  | succ q ih =>
    intro n j hj hn
    obtain ⟨n, rfl⟩ : ∃ z, n = z + 1 := ⟨n - 1, by omega⟩
    rw [f_X2_someWait_2, if_neg (show ¬ (32 : Int32) ≤ nI j from nI_ge (b := 32) (by omega) (by decide)), ix_n (by omega)]
    by_cases q0 : mI A 20 j = 0
    · rw [if_pos q0, ih n (j + 1) (by omega) (by omega)]
      exact ⟨fun h l h1 h2 => by
        by_cases e : l = j
        · rw [e]; exact q0
        · exact h l (by omega) h2, fun h l h1 h2 => h l (by omega) h2⟩
    · rw [if_neg q0]
      exact ⟨fun z => absurd z (by decide), fun h => absurd (h j (by omega) (by omega)) q0⟩
theorem so_loop {B : Mem} {n : Nat} (hn : n ≤ 32) : ∀ (q k j : Nat) (y : Int32), j + q = n → q < k → (y = 0 ∨ y = 1) → (f_X7_some_4 (nI n) B k y j = 0 ↔ (y = 0 ∧ ∀ l, j ≤ l → l < n → mI B 69 l = 0)) := by
  intro q
  induction q with
  | zero =>
    intro k j y hj hk hy
    obtain ⟨k, rfl⟩ : ∃ z, k = z + 1 := ⟨k - 1, by omega⟩
    rw [f_X7_some_4, if_pos (nI_le (by omega) (by omega))]
    exact ⟨fun h => ⟨h, fun l h1 h2 => by omega⟩, fun h => h.1⟩
  | succ q ih =>
    intro k j y hj hk hy
    obtain ⟨k, rfl⟩ : ∃ z, k = z + 1 := ⟨k - 1, by omega⟩
    rw [f_X7_some_4, if_neg (nI_ge (by omega) (by omega)), ix_n (by omega)]
    unfold f_X7_some_22 f_X7_some_27
    have one : f_X7_some_4 (nI n) B k 1 (j + 1) = 0 ↔ False := by
      rw [ih k (j + 1) 1 (by omega) (by omega) (Or.inr rfl)]
      exact ⟨fun h => absurd h.1 (by decide), False.elim⟩
    by_cases y0 : y = 0
    · rw [if_pos y0]
      by_cases q0 : mI B 69 j = 0
      · rw [if_pos q0, ih k (j + 1) 0 (by omega) (by omega) (Or.inl rfl)]
        exact ⟨fun h => ⟨y0, fun l h1 h2 => by
          by_cases e : l = j
          · rw [e]; exact q0
          · exact h.2 l (by omega) h2⟩, fun h => ⟨rfl, fun l h1 h2 => h.2 l (by omega) h2⟩⟩
      · rw [if_neg q0, one]
        exact ⟨False.elim, fun h => q0 (h.2 j (by omega) (by omega))⟩
    · rw [if_neg y0, one]
      exact ⟨False.elim, fun h => y0 h.1⟩
theorem some_eq {m n : Nat} {A B : Mem} (hn : n ≤ 32) (hD : Dy m n A B) : f_X2_someWait A = 0 ↔ f_X7_some B (nI n) = 0 := by
  have h1 := sw_loop (A := A) 32 33 0 rfl (by omega)
  have h2 := so_loop (B := B) hn n (n + 1) 0 0 (by omega) (by omega) (Or.inl rfl)
  have e : f_X7_some B (nI n) = f_X7_some_4 (nI n) B (n + 1) 0 0 := by unfold f_X7_some; rw [ix_n (by omega)]
  rw [e, h2]
  show f_X2_someWait_2 A 33 0 = 0 ↔ _
  rw [h1]
  constructor
  · intro h
    exact ⟨rfl, fun l _ hl => by rw [← (hD.1 l hl).1]; exact h l (by omega) (by omega)⟩
  · intro h l _ hl
    by_cases q : l < n
    · rw [(hD.1 l q).1]; exact h.2 l (by omega) q
    · exact hD.2.1 l (by omega) hl
theorem w20 {m j : Nat} : wfC m 20 j = true := by simp [wfC]
theorem w69 {m j : Nat} : wfR m 69 j = true := by simp [wfR]
/-- one LINE of a ROUND -/
theorem rl_1 {m n l : Nat} {A B : Mem} (hm : m < 6) (hl : l < n) (hS : St m n A B) (hD : Dy m n A B) :
    Dy m n (f_X2_workLine A (rT m) (nI l)) (if mI B 69 l = 0 then B else f_X7_work (uI B 69 l 0) (nI m) (nI l)) ∧ ER (wfC m) A (f_X2_workLine A (rT m) (nI l)) ∧ ER (wfR m) B (if mI B 69 l = 0 then B else f_X7_work (uI B 69 l 0) (nI m) (nI l)) := by
  have er : rT m = 74 + 271 * m := rfl
  have hn := hS.1
  have xl : ix (nI l) = l := ix_n (by omega)
  unfold f_X2_workLine
  rw [xl, (hD.1 l hl).1]
  by_cases q : mI B 69 l = 0
  · rw [if_pos q, if_pos q]; exact ⟨hD, ER.rf, ER.rf⟩
  · rw [if_neg q, if_neg q]
    have hr := hD.2.2.2.2.2.2 l hl (by rw [(hD.1 l hl).1]; exact q)
    have wa : ER (wfC m) A (uI A 20 l 0) := ER.rf.uI w20
    have wb : ER (wfR m) B (uI B 69 l 0) := ER.rf.uI w69
    have S1 := hS.w hm wa wb
    have D1 : Dy m n (uI A 20 l 0) (uI B 69 l 0) := by
      obtain ⟨d1, d2, d3, d4, d5, d6, d7⟩ := hD
      refine ⟨fun l' hl' => ?_, fun l' h1 h2 => ?_, fun l' hl' => ?_, fun l' hl' hr' p hp => ?_, fun k hk => ?_, ?_, fun l' hl' hw => ?_⟩
      · by_cases e : l' = l
        · rw [e, mI_uI, mI_uI]; exact ⟨rfl, Or.inl rfl⟩
        · rw [mI_uI_nk e, mI_uI_nk e]; exact d1 l' hl'
      · rw [mI_uI_nk (by omega)]; exact d2 l' h1 h2
      · rw [mI_uI_ne (by omega), mI_uI_ne (by decide)]; exact d3 l' hl'
      · rw [mI_uI_ne (by decide)] at hr'
        exact (d4 l' hl' hr' p hp).u (Or.inl (by decide)) (Or.inl (by decide))
      · unfold CT2
        rw [mI_uI_ne (by decide), mI_uI_ne (by decide), mI_uI_ne (by decide), mI_uI_ne (by decide)]; exact d5 k hk
      · rw [mI_uI_ne (by omega), mI_uI_ne (by decide)]; exact d6
      · rw [mI_uI_ne (by decide)]
        by_cases e : l' = l
        · rw [e, mI_uI] at hw; exact absurd rfl hw
        · rw [mI_uI_nk e] at hw; exact d7 l' hl' hw
    obtain ⟨r1, r2, r3⟩ := wl_all hm hl S1 D1 (by rw [mI_uI_ne (by decide)]; exact hr)
    exact ⟨r1, wa.tr r2, wb.tr r3⟩
theorem ml3 {m n : Nat} {A B : Mem} (h : St m n A B) : mI A (rT m) 3 = nI n := h.2.1
/-- a ROUND -/
theorem rd_all {m n : Nat} {A0 B0 M : Mem} {r : Nat} {Rc Rr : Nat → Mem → Int32 × Mem} (hm : m < 6) (hM : mI M 60 m = nI n) : ∀ (q k j : Nat) (A B : Mem), j + q = n → q < k → St m n A B → Dy m n A B → ER (wfC m) A0 A → ER (wfR m) B0 B →
    ∃ A' B', f_X6_find_44 (rT m) r Rc k j A = Rc (r + 1) A' ∧ f_X7_find_186 (nI m) M r Rr k j B = Rr (r + 1) B' ∧ St m n A' B' ∧ Dy m n A' B' ∧ ER (wfC m) A0 A' ∧ ER (wfR m) B0 B' := by
  have xm : ix (nI m) = m := ix_n (by omega)
  intro q
  induction q with
  | zero =>
    intro k j A B hj hk hS hD ha hb
    have hn := hS.1
    obtain ⟨k, rfl⟩ : ∃ z, k = z + 1 := ⟨k - 1, by omega⟩
    rw [f_X6_find_44, f_X7_find_186, xm, hM, ml3 hS, if_pos (nI_le (by omega) (by omega)), if_pos (nI_le (by omega) (by omega))]
    exact ⟨A, B, rfl, rfl, hS, hD, ha, hb⟩
  | succ q ih =>
    intro k j A B hj hk hS hD ha hb
    have hn := hS.1
    obtain ⟨k, rfl⟩ : ∃ z, k = z + 1 := ⟨k - 1, by omega⟩
    rw [f_X6_find_44, f_X7_find_186, xm, hM, ml3 hS, if_neg (nI_ge (by omega) (by omega)), if_neg (nI_ge (by omega) (by omega)), ix_n (by omega)]
    unfold f_X6_find_c67 f_X7_find_c217 f_X7_find_217
    obtain ⟨r1, r2, r3⟩ := rl_1 (l := j) hm (by omega) hS hD
    have S1 := hS.w hm r2 r3
    obtain ⟨A', B', i1, i2, i3⟩ := ih k (j + 1) _ _ (by omega) (by omega) S1 r1 (ha.tr r2) (hb.tr r3)
    refine ⟨A', B', i1, ?_, i3⟩
    rw [← i2]
    by_cases q0 : mI B 69 j = 0
    · rw [if_pos q0, if_pos q0]
    · rw [if_neg q0, if_neg q0]
/-- what finding leaves of a METHOD -/
def Fi (m n : Nat) (A B : Mem) : Prop := (∀ l, l < n → mI A (rT m + 6) l = mI B 67 (32 * m + l)) ∧ (∀ l, l < n → ¬ mI B 67 (32 * m + l) = 0 → ∀ p, p < 8 → PL A B m l p) ∧ mI A (rT m) 8 = mI B 68 m
theorem Dy.fi {m n : Nat} {A B : Mem} (h : Dy m n A B) : Fi m n A B := ⟨h.2.2.1, h.2.2.2.1, h.2.2.2.2.2.1⟩
/-! all that is reached, of which nothing is known -/
theorem wcell {m k j : Nat} (hk : k < 256) : wfC m (rT m + 15 + k) j = true := by
  have h1 : rT m + 15 + k ≤ rT m + 270 := by omega
  simp [wfC, h1]
theorem w6 {m j : Nat} : wfC m (rT m + 6) j = true := by simp [wfC]
theorem ra25 {m n : Nat} {A : Mem} (hm : m < 6) (hn : n ≤ 32) (h3 : mI A (rT m) 3 = nI n) : ∀ (q k j : Nat) (Q : Mem), j + q = 8 * n → q < k → ER (wfC m) A Q → (∀ i, i < j → gC Q (rT m + 15 + i) = AL) →
    (∀ i, i < 8 * n → gC (f_X2_reachAll_25 (rT m) k j Q) (rT m + 15 + i) = AL) ∧ ER (wfC m) A (f_X2_reachAll_25 (rT m) k j Q) ∧ (∀ b i, b < rT m + 15 → mI (f_X2_reachAll_25 (rT m) k j Q) b i = mI Q b i) := by
  have er : rT m = 74 + 271 * m := rfl
  intro q
  induction q with
  | zero =>
    intro k j Q hj hk hE hp
    obtain ⟨k, rfl⟩ : ∃ z, k = z + 1 := ⟨k - 1, by omega⟩
    have e : mI Q (rT m) 3 * 8 = nI (n * 8) := by
      rw [(hE.2.2 (rT m) 3 (wfC_f (by omega) (by omega) (by omega) (by omega) (by omega))).1, h3, show (8 : Int32) = nI 8 from rfl, nI_mul]
    rw [f_X2_reachAll_25, e, if_pos (nI_le (by omega) (by omega))]
    exact ⟨fun i hi => hp i (by omega), hE, fun _ _ _ => rfl⟩
  | succ q ih =>
    intro k j Q hj hk hE hp
    obtain ⟨k, rfl⟩ : ∃ z, k = z + 1 := ⟨k - 1, by omega⟩
    have e : mI Q (rT m) 3 * 8 = nI (n * 8) := by
      rw [(hE.2.2 (rT m) 3 (wfC_f (by omega) (by omega) (by omega) (by omega) (by omega))).1, h3, show (8 : Int32) = nI 8 from rfl, nI_mul]
    have e15 : rT m + 5 + 10 + ix (nI j) = rT m + 15 + j := by rw [ix_n (by omega)]
    rw [f_X2_reachAll_25, e, if_neg (nI_ge (by omega) (by omega))]
    unfold f_X2_reachAll_c45
    rw [ma_C', e15]
    obtain ⟨i1, i2, i3⟩ := ih k (j + 1) (pC Q (rT m + 15 + j) AL) (by omega) (by omega) (hE.pC (fun _ => wcell (by omega))) (fun i hi => by
      by_cases e : i = j
      · rw [e, gC_p]
      · rw [gC_n (by omega)]; exact hp i (by omega))
    exact ⟨i1, i2, fun b i hb => by rw [i3 b i hb, qcnI (by omega)]⟩
theorem ra2 {m n : Nat} {A : Mem} (hm : m < 6) (hn : n ≤ 32) (h3 : mI A (rT m) 3 = nI n) : ∀ (q k j : Nat) (Q : Mem), j + q = n → q < k → ER (wfC m) A Q → (∀ l, l < j → mI Q (rT m + 6) l = 1) → mI Q (rT m) 8 = mI A (rT m) 8 →
    (∀ l, l < n → mI (f_X2_reachAll_2 (rT m) A k j Q) (rT m + 6) l = 1) ∧ (∀ i, i < 8 * n → gC (f_X2_reachAll_2 (rT m) A k j Q) (rT m + 15 + i) = AL) ∧ mI (f_X2_reachAll_2 (rT m) A k j Q) (rT m) 8 = mI A (rT m) 8 ∧ ER (wfC m) A (f_X2_reachAll_2 (rT m) A k j Q) := by
  have er : rT m = 74 + 271 * m := rfl
  intro q
  induction q with
  | zero =>
    intro k j Q hj hk hE hp h8
    obtain ⟨k, rfl⟩ : ∃ z, k = z + 1 := ⟨k - 1, by omega⟩
    have e : mI Q (rT m) 3 = nI n := by
      rw [(hE.2.2 (rT m) 3 (wfC_f (by omega) (by omega) (by omega) (by omega) (by omega))).1, h3]
    rw [f_X2_reachAll_2, e, if_pos (nI_le (by omega) (by omega)), h3, ix_n (by omega)]
    obtain ⟨i1, i2, i3⟩ := ra25 (A := A) hm hn h3 (8 * n) (n * 8 + 1) 0 Q (by omega) (by omega) hE (fun i hi => by omega)
    exact ⟨fun l hl => by rw [i3 _ _ (by omega)]; exact hp l (by omega), i1, by rw [i3 _ _ (by omega)]; exact h8, i2⟩
  | succ q ih =>
    intro k j Q hj hk hE hp h8
    obtain ⟨k, rfl⟩ : ∃ z, k = z + 1 := ⟨k - 1, by omega⟩
    have e : mI Q (rT m) 3 = nI n := by
      rw [(hE.2.2 (rT m) 3 (wfC_f (by omega) (by omega) (by omega) (by omega) (by omega))).1, h3]
    rw [f_X2_reachAll_2, e, if_neg (nI_ge (by omega) (by omega)), ix_n (by omega)]
    refine ih k (j + 1) _ (by omega) (by omega) (hE.uI w6) (fun l hl => ?_) (by rw [mI_uI_ne (by omega)]; exact h8)
    by_cases e : l = j
    · rw [e, mI_uI]
    · rw [mI_uI_nk e]; exact hp l (by omega)
theorem wrc {m l p b : Nat} (hl : l < 32) (hp : p < 8) (h1 : 53 ≤ b) (h2 : b ≤ 59) : wfR m b (112 + 8 * (32 * m + l) + p) = true := by
  simp only [wfR, Bool.or_eq_true, Bool.and_eq_true, decide_eq_true_eq]
  exact Or.inl (Or.inl (Or.inl (Or.inl (Or.inl (Or.inl (Or.inr ⟨⟨h1, h2⟩, Or.inr ⟨by omega, by omega⟩⟩))))))
theorem w67 {m l : Nat} (hl : l < 32) : wfR m 67 (32 * m + l) = true := by
  simp only [wfR, Bool.or_eq_true, Bool.and_eq_true, decide_eq_true_eq]
  exact Or.inl (Or.inl (Or.inl (Or.inl (Or.inr ⟨⟨trivial, by omega⟩, by omega⟩))))
theorem rb259 {m l : Nat} {B : Mem} {R : Nat → Mem → Int32 × Mem} (hm : m < 6) (hl : l < 32) : ∀ (q k j : Nat) (Q : Mem), j + q = 8 → q < k → ER (wfR m) B Q → (∀ p, p < j → gR Q (112 + 8 * (32 * m + l) + p) = AL) →
    ∃ Q', f_X7_find_259 (nI m) l R k j Q = R (l + 1) Q' ∧ (∀ p, p < 8 → gR Q' (112 + 8 * (32 * m + l) + p) = AL) ∧ ER (wfR m) B Q' ∧ (∀ b i, 59 < b → mI Q' b i = mI Q b i) ∧ (∀ f, (f < 112 + 8 * (32 * m + l) ∨ 112 + 8 * (32 * m + l) + 8 ≤ f) → gR Q' f = gR Q f) := by
  intro q
  induction q with
  | zero =>
    intro k j Q hj hk hE hp
    obtain ⟨k, rfl⟩ : ∃ z, k = z + 1 := ⟨k - 1, by omega⟩
    rw [f_X7_find_259, if_pos (show (8 : Int32) ≤ nI j from nI_le (a := 8) (by omega) (by omega))]
    exact ⟨Q, rfl, fun p h => hp p (by omega), hE, fun _ _ _ => rfl, fun _ _ => rfl⟩
  | succ q ih =>
    intro k j Q hj hk hE hp
    obtain ⟨k, rfl⟩ : ∃ z, k = z + 1 := ⟨k - 1, by omega⟩
    rw [f_X7_find_259, if_neg (show ¬ (8 : Int32) ≤ nI j from nI_ge (b := 8) (by omega) (by decide))]
    unfold f_X7_find_c279
    rw [al_R', x_cell hm (by omega) (by omega)]
    obtain ⟨Q', i1, i2, i3, i4, i5⟩ := ih k (j + 1) (pR Q (112 + 8 * (32 * m + l) + j) AL) (by omega) (by omega) (hE.pR (fun b h1 h2 => wrc hl (by omega) h1 h2)) (fun p h => by
      by_cases e : p = j
      · rw [e, gR_p]
      · rw [gR_n (by omega)]; exact hp p (by omega))
    exact ⟨Q', i1, i2, i3, fun b i hb => by rw [i4 b i hb, qdoI (by omega)], fun f hf => by rw [i5 f hf, gR_n (by omega)]⟩
theorem rb237 {m n r : Nat} {B M : Mem} (hm : m < 6) (hn : n ≤ 32) (hM : mI M 60 m = nI n) : ∀ (q k j : Nat) (Q : Mem), j + q = n → q < k → ER (wfR m) B Q → (∀ l, l < j → mI Q 67 (32 * m + l) = 1 ∧ ∀ p, p < 8 → gR Q (112 + 8 * (32 * m + l) + p) = AL) → mI Q 68 m = mI B 68 m →
    ∃ Q', f_X7_find_237 (nI m) M r k j Q = (nI r, Q') ∧ (∀ l, l < n → mI Q' 67 (32 * m + l) = 1 ∧ ∀ p, p < 8 → gR Q' (112 + 8 * (32 * m + l) + p) = AL) ∧ ER (wfR m) B Q' ∧ mI Q' 68 m = mI B 68 m := by
  have xm : ix (nI m) = m := ix_n (by omega)
  intro q
  induction q with
  | zero =>
    intro k j Q hj hk hE hp h8
    obtain ⟨k, rfl⟩ : ∃ z, k = z + 1 := ⟨k - 1, by omega⟩
    rw [f_X7_find_237, xm, hM, if_pos (nI_le (by omega) (by omega))]
    exact ⟨Q, rfl, fun l hl => hp l (by omega), hE, h8⟩
  | succ q ih =>
    intro k j Q hj hk hE hp h8
    obtain ⟨k, rfl⟩ : ∃ z, k = z + 1 := ⟨k - 1, by omega⟩
    rw [f_X7_find_237, xm, hM, if_neg (nI_ge (by omega) (by omega)), x_ml hm (by omega)]
    obtain ⟨Q1, i1, i2, i3, i4, i5⟩ := rb259 (R := f_X7_find_237 (nI m) M r k) (B := B) hm (show j < 32 by omega) 8 9 0 (uI Q 67 (32 * m + j) 1) rfl (by omega) (hE.uI (w67 (by omega))) (fun p h => by omega)
    rw [i1]
    refine ih k (j + 1) Q1 (by omega) (by omega) i3 (fun l hl => ?_) (by rw [i4 _ _ (by decide), mI_uI_ne (by decide)]; exact h8)
    by_cases e : l = j
    · rw [e]
      exact ⟨by rw [i4 _ _ (by decide), mI_uI], i2⟩
    · obtain ⟨h1, h2⟩ := hp l (by omega)
      exact ⟨by rw [i4 _ _ (by decide), mI_uI_nk (by omega)]; exact h1, fun p hpp => by rw [i5 _ (by omega), gR_uo (by decide)]; exact h2 p hpp⟩
theorem Gd_AL0 : Gd AL ∧ AL.1 = 0 := ⟨Gd_AL, rfl⟩
theorem w7 {m : Nat} : wfC m (rT m) 7 = true := by simp [wfC]
/-- the end of finding -/
theorem en_all {m n r : Nat} {A0 B0 A B M : Mem} (hm : m < 6) (hM : mI M 60 m = nI n) (hS : St m n A B) (hD : Dy m n A B) (ha : ER (wfC m) A0 A) (hb : ER (wfR m) B0 B) :
    ∃ A' B', f_X6_find_76 (rT m) r A = (nI r, A') ∧ f_X7_find_226 (nI m) M r B = (nI r, B') ∧ Fi m n A' B' ∧ mI A' (rT m) 7 = 1 ∧ ER (wfC m) A0 A' ∧ ER (wfR m) B0 B' := by
  have er : rT m = 74 + 271 * m := rfl
  have hn := hS.1
  have xm : ix (nI m) = m := ix_n (by omega)
  unfold f_X6_find_76 f_X6_find_c84 f_X2_end f_X2_end_11 f_X2_end_c11 f_X2_end_11 f_X7_find_226 f_X7_find_291
  rw [xm, hM]
  have hso := some_eq hn hD
  by_cases q : f_X2_someWait A = 0
  · rw [if_pos q, if_pos (hso.mp q)]
    refine ⟨_, _, rfl, rfl, ?_, mI_uI, ha.uI w7, hb⟩
    obtain ⟨f1, f2, f3⟩ := hD.fi
    exact ⟨fun l hl => by rw [mI_uI_ne (by omega)]; exact f1 l hl, fun l hl hr p hp => by
      unfold PL
      rw [gC_uI (by omega)]
      exact f2 l hl hr p hp, by rw [mI_uI_nk (by decide)]; exact f3⟩
  · rw [if_neg q, if_neg (fun z => q (hso.mpr z)), ix_n (show n < 2 ^ 31 by omega)]
    obtain ⟨B', b1, b2, b3, b4⟩ := rb237 (r := r) (B := B) (M := M) hm hn hM n (n + 1) 0 B (by omega) (by omega) ER.rf (fun l hl => by omega) rfl
    have er2 : f_X2_reachAll A (rT m) = f_X2_reachAll_2 (rT m) A (n + 1) 0 A := by
      unfold f_X2_reachAll; rw [ml3 hS, ix_n (by omega)]
    obtain ⟨a1, a2, a3, a4⟩ := ra2 (A := A) hm hn (ml3 hS) n (n + 1) 0 A (by omega) (by omega) ER.rf (fun l hl => by omega) rfl
    rw [← er2] at a1 a2 a3 a4
    refine ⟨_, B', rfl, b1, ?_, mI_uI, (ha.tr a4).uI w7, hb.tr b3⟩
    refine ⟨fun l hl => by rw [mI_uI_ne (by omega), a1 l hl, (b2 l hl).1], fun l hl hr p hp => ?_, by rw [mI_uI_nk (by decide), a3, b4]; exact hD.2.2.2.2.2.1⟩
    unfold PL
    rw [gC_uI (by omega), a2 (8 * l + p) (by omega), (b2 l hl).2 p hp]
    exact ⟨Gd_AL, rfl, rfl⟩
/-- ROUND after ROUND -/
theorem rs_all {m n : Nat} {A0 B0 M M2 : Mem} (hm : m < 6) (hM : mI M 60 m = nI n) (hM2 : mI M2 (rT m) 3 = nI n) : ∀ (q k r : Nat) (A B : Mem), r + q = 30 → q < k → St m n A B → Dy m n A B → ER (wfC m) A0 A → ER (wfR m) B0 B →
    ∃ v A' B', f_X6_find_22 M2 (rT m) k r A = (v, A') ∧ f_X7_find_166 (nI m) M k r B = (v, B') ∧ Fi m n A' B' ∧ mI A' (rT m) 7 = 1 ∧ ER (wfC m) A0 A' ∧ ER (wfR m) B0 B' := by
  have xm : ix (nI m) = m := ix_n (by omega)
  intro q
  induction q with
  | zero =>
    intro k r A B hr hk hS hD ha hb
    obtain ⟨k, rfl⟩ : ∃ z, k = z + 1 := ⟨k - 1, by omega⟩
    rw [f_X6_find_22, f_X7_find_166, if_pos (show (30 : Int32) ≤ nI r from nI_le (a := 30) (by omega) (by omega)), if_pos (show (30 : Int32) ≤ nI r from nI_le (a := 30) (by omega) (by omega))]
    obtain ⟨A', B', h⟩ := en_all (r := r) hm hM hS hD ha hb
    exact ⟨_, A', B', h⟩
  | succ q ih =>
    intro k r A B hr hk hS hD ha hb
    have hn := hS.1
    obtain ⟨k, rfl⟩ : ∃ z, k = z + 1 := ⟨k - 1, by omega⟩
    rw [f_X6_find_22, f_X7_find_166, if_neg (show ¬ (30 : Int32) ≤ nI r from nI_ge (b := 30) (by omega) (by decide)), if_neg (show ¬ (30 : Int32) ≤ nI r from nI_ge (b := 30) (by omega) (by decide)), xm, hM, hM2, ix_n (show n < 2 ^ 31 by omega)]
    have hso := some_eq hn hD
    by_cases q0 : f_X2_someWait A = 0
    · rw [if_pos q0, if_pos (hso.mp q0)]
      obtain ⟨A', B', h⟩ := en_all (r := r) hm hM hS hD ha hb
      exact ⟨_, A', B', h⟩
    · rw [if_neg q0, if_neg (fun z => q0 (hso.mpr z))]
      obtain ⟨A', B', h1, h2, h3, h4, h5, h6⟩ := rd_all (r := r) (Rc := f_X6_find_22 M2 (rT m) k) (Rr := f_X7_find_166 (nI m) M k) hm hM n (n + 1) 0 A B (by omega) (by omega) hS hD ha hb
      rw [h1, h2]
      exact ih k (r + 1) A' B' (by omega) (by omega) h3 h4 h5 h6
