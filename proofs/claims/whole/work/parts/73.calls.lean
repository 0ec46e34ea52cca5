/-! the BEGIN of finding -/
theorem wC21 {m j : Nat} : wfC m 21 j = true := by simp [wfC]
theorem wC22 {m j : Nat} : wfC m 22 j = true := by simp [wfC]
theorem wC8 {m : Nat} : wfC m (rT m) 8 = true := by simp [wfC]
theorem wC23 {m p j : Nat} (hp : p < 8) : wfC m (23 + p) j = true := by
  have h1 : 23 + p ≤ 30 := by omega
  simp [wfC, h1]
theorem wR70 {m j : Nat} : wfR m 70 j = true := by simp [wfR]
theorem wR71 {m j : Nat} : wfR m 71 j = true := by simp [wfR]
theorem wR68 {m : Nat} : wfR m 68 m = true := by simp [wfR]
/-- nothing waits, nothing is reached -/
def Z1 (m : Nat) (Q : Mem) : Prop := ∀ l, l < 32 → mI Q 20 l = 0 ∧ mI Q (rT m + 6) l = 0
def Z2 (Q : Mem) : Prop := ∀ k, k < 256 → mI Q 21 k = 0 ∧ mI Q 22 k = 0
theorem bg7 {m : Nat} {A : Mem} : ∀ (q k j : Nat) (Q : Mem), j + q = 32 → q < k → ER (wfC m) A Q → (∀ l, l < j → mI Q 20 l = 0 ∧ mI Q (rT m + 6) l = 0) → mI Q (rT m) 8 = 0 →
    ∃ Q', f_X2_begin_7 (rT m) k j Q = f_X2_begin_35 (rT m) 257 0 Q' ∧ ER (wfC m) A Q' ∧ Z1 m Q' ∧ mI Q' (rT m) 8 = 0 := by
  have er : rT m = 74 + 271 * m := rfl
  intro q
  induction q with
  | zero =>
    intro k j Q hj hk hE hp h8
    obtain ⟨k, rfl⟩ : ∃ z, k = z + 1 := ⟨k - 1, by omega⟩
    rw [f_X2_begin_7, if_pos (show (32 : Int32) ≤ nI j from nI_le (a := 32) (by omega) (by omega))]
    exact ⟨Q, rfl, hE, fun l hl => hp l (by omega), h8⟩
  | succ q ih =>
    intro k j Q hj hk hE hp h8
    obtain ⟨k, rfl⟩ : ∃ z, k = z + 1 := ⟨k - 1, by omega⟩
    rw [f_X2_begin_7, if_neg (show ¬ (32 : Int32) ≤ nI j from nI_ge (b := 32) (by omega) (by decide)), ix_n (by omega)]
    refine ih k (j + 1) _ (by omega) (by omega) ((hE.uI w20).uI w6) (fun l hl => ?_) (by rw [mI_uI_ne (by omega), mI_uI_ne (by omega)]; exact h8)
    by_cases e : l = j
    · rw [e]
      exact ⟨by rw [mI_uI_ne (by omega), mI_uI], mI_uI⟩
    · rw [mI_uI_nk e, mI_uI_nk e, mI_uI_nk e, mI_uI_nk e]; exact hp l (by omega)
theorem bg35 {m : Nat} {A : Mem} : ∀ (q k j : Nat) (Q : Mem), j + q = 256 → q < k → ER (wfC m) A Q → (∀ l, l < j → mI Q 21 l = 0 ∧ mI Q 22 l = 0) → mI Q (rT m) 8 = 0 → Z1 m Q →
    ∃ Q', f_X2_begin_35 (rT m) k j Q = f_X2_begin_64 (rT m) 9 0 Q' ∧ ER (wfC m) A Q' ∧ Z1 m Q' ∧ Z2 Q' ∧ mI Q' (rT m) 8 = 0 := by
  have er : rT m = 74 + 271 * m := rfl
  intro q
  induction q with
  | zero =>
    intro k j Q hj hk hE hp h8 hz
    obtain ⟨k, rfl⟩ : ∃ z, k = z + 1 := ⟨k - 1, by omega⟩
    rw [f_X2_begin_35, if_pos (show (256 : Int32) ≤ nI j from nI_le (a := 256) (by omega) (by omega))]
    exact ⟨Q, rfl, hE, hz, fun l hl => hp l (by omega), h8⟩
  | succ q ih =>
    intro k j Q hj hk hE hp h8 hz
    obtain ⟨k, rfl⟩ : ∃ z, k = z + 1 := ⟨k - 1, by omega⟩
    rw [f_X2_begin_35, if_neg (show ¬ (256 : Int32) ≤ nI j from nI_ge (b := 256) (by omega) (by decide)), ix_n (by omega)]
    refine ih k (j + 1) _ (by omega) (by omega) ((hE.uI wC21).uI wC22) (fun l hl => ?_) (by rw [mI_uI_ne (by omega), mI_uI_ne (by omega)]; exact h8) (fun l hl => ?_)
    · by_cases e : l = j
      · rw [e]
        exact ⟨by rw [mI_uI_ne (by omega), mI_uI], mI_uI⟩
      · rw [mI_uI_nk e, mI_uI_nk e, mI_uI_nk e, mI_uI_nk e]; exact hp l (by omega)
    · rw [mI_uI_ne (by omega), mI_uI_ne (by omega), mI_uI_ne (by omega), mI_uI_ne (by omega)]; exact hz l hl
theorem bg64 {m : Nat} {A : Mem} : ∀ (q k j : Nat) (Q : Mem), j + q = 8 → q < k → ER (wfC m) A Q → (∀ p, p < j → gC Q (23 + p) = gC A (rT m + 7 + p)) → mI Q (rT m) 8 = 0 → Z1 m Q → Z2 Q →
    ∃ Q', f_X2_begin_64 (rT m) k j Q = f_X2_send Q' (rT m) 0 ∧ ER (wfC m) A Q' ∧ Z1 m Q' ∧ Z2 Q' ∧ mI Q' (rT m) 8 = 0 ∧ ∀ p, p < 8 → gC Q' (23 + p) = gC A (rT m + 7 + p) := by
  have er : rT m = 74 + 271 * m := rfl
  intro q
  induction q with
  | zero =>
    intro k j Q hj hk hE hp h8 hz hz2
    obtain ⟨k, rfl⟩ : ∃ z, k = z + 1 := ⟨k - 1, by omega⟩
    rw [f_X2_begin_64, if_pos (show (8 : Int32) ≤ nI j from nI_le (a := 8) (by omega) (by omega))]
    exact ⟨Q, rfl, hE, hz, hz2, h8, fun p hp8 => hp p (by omega)⟩
  | succ q ih =>
    intro k j Q hj hk hE hp h8 hz hz2
    obtain ⟨k, rfl⟩ : ∃ z, k = z + 1 := ⟨k - 1, by omega⟩
    have e7 : rT m + 4 + 3 + ix (nI j) = rT m + 7 + j := by rw [ix_n (by omega)]
    have e23 : 18 + 5 + ix (nI j) = 23 + j := by rw [ix_n (by omega)]
    rw [f_X2_begin_64, if_neg (show ¬ (8 : Int32) ≤ nI j from nI_ge (b := 8) (by omega) (by decide)), e7, e23]
    unfold f_X2_begin_c85
    rw [cp_C]
    have eg : gC Q (rT m + 7 + j) = gC A (rT m + 7 + j) := hE.cg (fun _ => wfC_f (by omega) (by omega) (by omega) (by omega) (by omega))
    rw [eg]
    refine ih k (j + 1) _ (by omega) (by omega) (hE.pC (fun _ => wC23 (by omega))) (fun p hp8 => ?_) (by rw [qcnI (by omega)]; exact h8) (fun l hl => ?_) (fun l hl => ?_)
    · by_cases e : p = j
      · rw [e, gC_p]
      · rw [gC_n (by omega)]; exact hp p (by omega)
    · rw [qcnI (by omega), qcnI (by omega)]; exact hz l hl
    · rw [qcnI (by omega), qcnI (by omega)]; exact hz2 l hl
/-- the first LINE is reached: what comes is kept -/
theorem sd41 {m : Nat} {A : Mem} {G : Nat → Fk} : ∀ (q k j : Nat) (Q : Mem), j + q = 8 → q < k → ER (wfC m) A Q → (∀ p, p < 8 → gC Q (23 + p) = G p) → (∀ p, p < j → gC Q (rT m + 15 + p) = G p) → mI Q (rT m) 8 = 0 → Z1 m Q → Z2 Q →
    ∃ Q', f_X2_send_41 (rT m) 0 1 k 1 j Q = uI (uI Q' (rT m + 6) 0 1) 20 0 1 ∧ ER (wfC m) A Q' ∧ Z1 m Q' ∧ Z2 Q' ∧ mI Q' (rT m) 8 = 0 ∧ ∀ p, p < 8 → gC Q' (rT m + 15 + p) = G p := by
  have er : rT m = 74 + 271 * m := rfl
  intro q
  induction q with
  | zero =>
    intro k j Q hj hk hE hg hp h8 hz hz2
    obtain ⟨k, rfl⟩ : ∃ z, k = z + 1 := ⟨k - 1, by omega⟩
    rw [f_X2_send_41, if_pos (show (8 : Int32) ≤ nI j from nI_le (a := 8) (by omega) (by omega)), if_neg (by decide)]
    exact ⟨Q, rfl, hE, hz, hz2, h8, fun p hp8 => hp p (by omega)⟩
  | succ q ih =>
    intro k j Q hj hk hE hg hp h8 hz hz2
    obtain ⟨k, rfl⟩ : ∃ z, k = z + 1 := ⟨k - 1, by omega⟩
    have e23 : 18 + 5 + ix (nI j) = 23 + j := by rw [ix_n (by omega)]
    have e15 : rT m + 5 + 10 + ix ((0 * 8) + nI j) = rT m + 15 + j := by
      rw [show (0 : Int32) * 8 + nI j = nI j from by rw [show (0 : Int32) * 8 = nI 0 from rfl, nI_add, Nat.zero_add], ix_n (by omega)]
    rw [f_X2_send_41, if_neg (show ¬ (8 : Int32) ≤ nI j from nI_ge (b := 8) (by omega) (by decide)), if_neg (by decide), e23, e15]
    unfold f_X2_send_c78 f_X2_send_101
    rw [cp_C, hg j (by omega)]
    refine ih k (j + 1) _ (by omega) (by omega) (hE.pC (fun _ => wcell (by omega))) (fun p hp8 => by rw [gC_n (by omega)]; exact hg p hp8) (fun p hp8 => ?_) (by rw [qcnI (by omega)]; exact h8) (fun l hl => ?_) (fun l hl => ?_)
    · by_cases e : p = j
      · rw [e, gC_p]
      · rw [gC_n (by omega)]; exact hp p (by omega)
    · rw [qcnI (by omega), qcnI (by omega)]; exact hz l hl
    · rw [qcnI (by omega), qcnI (by omega)]; exact hz2 l hl
/-! of the reference -/
def Y1 (m : Nat) (Q : Mem) : Prop := ∀ l, l < 32 → mI Q 69 l = 0 ∧ mI Q 67 (32 * m + l) = 0
def Y2 (Q : Mem) : Prop := ∀ k, k < 256 → mI Q 70 k = 0 ∧ mI Q 71 k = 0
theorem br33 {m : Nat} {B M : Mem} (hm : m < 6) : ∀ (q k j : Nat) (Q : Mem), j + q = 32 → q < k → ER (wfR m) B Q → (∀ l, l < j → mI Q 69 l = 0 ∧ mI Q 67 (32 * m + l) = 0) → mI Q 68 m = 0 → mI Q 66 m = 1 →
    ∃ Q', f_X7_find_33 (nI m) M k j Q = f_X7_find_66 (nI m) M 257 0 Q' ∧ ER (wfR m) B Q' ∧ Y1 m Q' ∧ mI Q' 68 m = 0 ∧ mI Q' 66 m = 1 := by
  intro q
  induction q with
  | zero =>
    intro k j Q hj hk hE hp h8 h6
    obtain ⟨k, rfl⟩ : ∃ z, k = z + 1 := ⟨k - 1, by omega⟩
    rw [f_X7_find_33, if_pos (show (32 : Int32) ≤ nI j from nI_le (a := 32) (by omega) (by omega))]
    exact ⟨Q, rfl, hE, fun l hl => hp l (by omega), h8, h6⟩
  | succ q ih =>
    intro k j Q hj hk hE hp h8 h6
    obtain ⟨k, rfl⟩ : ∃ z, k = z + 1 := ⟨k - 1, by omega⟩
    rw [f_X7_find_33, if_neg (show ¬ (32 : Int32) ≤ nI j from nI_ge (b := 32) (by omega) (by decide)), ix_n (by omega), x_ml hm (by omega)]
    refine ih k (j + 1) _ (by omega) (by omega) ((hE.uI w69).uI (w67 (by omega))) (fun l hl => ?_) (by rw [mI_uI_ne (by omega), mI_uI_ne (by omega)]; exact h8) (by rw [mI_uI_ne (by omega), mI_uI_ne (by omega)]; exact h6)
    by_cases e : l = j
    · rw [e]
      exact ⟨by rw [mI_uI_ne (by omega), mI_uI], mI_uI⟩
    · rw [mI_uI_ne (by decide), mI_uI_nk e, mI_uI_nk (by omega), mI_uI_ne (by decide)]; exact hp l (by omega)
theorem br66 {m : Nat} {B M : Mem} : ∀ (q k j : Nat) (Q : Mem), j + q = 256 → q < k → ER (wfR m) B Q → (∀ l, l < j → mI Q 70 l = 0 ∧ mI Q 71 l = 0) → mI Q 68 m = 0 → mI Q 66 m = 1 → Y1 m Q →
    ∃ Q', f_X7_find_66 (nI m) M k j Q = f_X7_find_95 (nI m) M 9 0 Q' ∧ ER (wfR m) B Q' ∧ Y1 m Q' ∧ Y2 Q' ∧ mI Q' 68 m = 0 ∧ mI Q' 66 m = 1 := by
  intro q
  induction q with
  | zero =>
    intro k j Q hj hk hE hp h8 h6 hz
    obtain ⟨k, rfl⟩ : ∃ z, k = z + 1 := ⟨k - 1, by omega⟩
    rw [f_X7_find_66, if_pos (show (256 : Int32) ≤ nI j from nI_le (a := 256) (by omega) (by omega))]
    exact ⟨Q, rfl, hE, hz, fun l hl => hp l (by omega), h8, h6⟩
  | succ q ih =>
    intro k j Q hj hk hE hp h8 h6 hz
    obtain ⟨k, rfl⟩ : ∃ z, k = z + 1 := ⟨k - 1, by omega⟩
    rw [f_X7_find_66, if_neg (show ¬ (256 : Int32) ≤ nI j from nI_ge (b := 256) (by omega) (by decide)), ix_n (by omega)]
    refine ih k (j + 1) _ (by omega) (by omega) ((hE.uI wR70).uI wR71) (fun l hl => ?_) (by rw [mI_uI_ne (by omega), mI_uI_ne (by omega)]; exact h8) (by rw [mI_uI_ne (by omega), mI_uI_ne (by omega)]; exact h6) (fun l hl => ?_)
    · by_cases e : l = j
      · rw [e]
        exact ⟨by rw [mI_uI_ne (by omega), mI_uI], mI_uI⟩
      · rw [mI_uI_nk e, mI_uI_nk e, mI_uI_nk e, mI_uI_nk e]; exact hp l (by omega)
    · rw [mI_uI_ne (by omega), mI_uI_ne (by omega), mI_uI_ne (by omega), mI_uI_ne (by omega)]; exact hz l hl
theorem x_gv {m p : Nat} (hm : m < 6) (hp : p < 8) : ix ((64 + (8 * nI m)) + nI p) = 64 + 8 * m + p := by
  have : (64 : Int32) + 8 * nI m + nI p = nI (64 + 8 * m + p) := by
    rw [show (64 : Int32) = nI 64 from rfl, show (8 : Int32) = nI 8 from rfl, nI_mul, nI_add, nI_add]
  rw [this, ix_n (by omega)]
theorem gvR {m b f p : Nat} (hm : m < 6) (hp : p < 8) (hf : f = 64 + 8 * m + p) (h1 : 53 ≤ b) (h2 : b ≤ 59) : wfR m b f = false :=
  wfR_f (scr_n (by omega) (by omega)) (by omega) (by omega) (by omega) (by omega) (by omega)
theorem br95 {m n : Nat} {B M : Mem} (hm : m < 6) (hn : n ≤ 32) (h0 : 0 < n) (hM : mI M 60 m = nI n) : ∀ (q k j : Nat) (Q : Mem), j + q = 8 → q < k → ER (wfR m) B Q → (∀ p, p < j → gR Q (112 + 8 * (32 * m + 0) + p) = gR B (64 + 8 * m + p)) → mI Q 68 m = 0 → mI Q 66 m = 1 → Y1 m Q → Y2 Q →
    ∃ Q', f_X7_find_95 (nI m) M k j Q = f_X7_find_131 (nI m) M Q' ∧ ER (wfR m) B Q' ∧ Y1 m Q' ∧ Y2 Q' ∧ mI Q' 68 m = 0 ∧ mI Q' 66 m = 1 ∧ ∀ p, p < 8 → gR Q' (112 + 8 * (32 * m + 0) + p) = gR B (64 + 8 * m + p) := by
  have xm : ix (nI m) = m := ix_n (by omega)
  intro q
  induction q with
  | zero =>
    intro k j Q hj hk hE hp h8 h6 hz hz2
    obtain ⟨k, rfl⟩ : ∃ z, k = z + 1 := ⟨k - 1, by omega⟩
    rw [f_X7_find_95, if_pos (show (8 : Int32) ≤ nI j from nI_le (a := 8) (by omega) (by omega))]
    exact ⟨Q, rfl, hE, hz, hz2, h8, h6, fun p hp8 => hp p (by omega)⟩
  | succ q ih =>
    intro k j Q hj hk hE hp h8 h6 hz hz2
    obtain ⟨k, rfl⟩ : ∃ z, k = z + 1 := ⟨k - 1, by omega⟩
    rw [f_X7_find_95, if_neg (show ¬ (8 : Int32) ≤ nI j from nI_ge (b := 8) (by omega) (by decide)), xm, hM, if_neg (show ¬ nI n ≤ (0 : Int32) from nI_ge (a := 0) h0 (by omega))]
    unfold f_X7_find_c125
    rw [cp_R, show f_X7_cell (nI m) 0 (nI j) = f_X7_cell (nI m) (nI 0) (nI j) from rfl, x_cell hm (by omega) (by omega), x_gv hm (by omega)]
    have eg : gR Q (64 + 8 * m + j) = gR B (64 + 8 * m + j) := hE.g (fun b h1 h2 => gvR (p := j) hm (by omega) rfl h1 h2)
    rw [eg]
    refine ih k (j + 1) _ (by omega) (by omega) (hE.pR (fun b h1 h2 => wrc (by omega) (by omega) h1 h2)) (fun p hp8 => ?_) (by rw [qdoI (by omega)]; exact h8) (by rw [qdoI (by omega)]; exact h6) (fun l hl => ?_) (fun l hl => ?_)
    · by_cases e : p = j
      · rw [e, gR_p]
      · rw [gR_n (by omega)]; exact hp p (by omega)
    · rw [qdoI (by omega), qdoI (by omega)]; exact hz l hl
    · rw [qdoI (by omega), qdoI (by omega)]; exact hz2 l hl
theorem br95_0 {m : Nat} {M : Mem} {Q : Mem} (hM : mI M 60 (ix (nI m)) = nI 0) : f_X7_find_95 (nI m) M 9 0 Q = f_X7_find_131 (nI m) M Q := by
  rw [f_X7_find_95, if_neg (by decide), hM, if_pos (by decide)]
/-- what is GIVEN is alike -/
def GV (m : Nat) (A B : Mem) : Prop := ∀ p, p < 8 → Gd (gC A (rT m + 7 + p)) ∧ (gC A (rT m + 7 + p)).1 = 0 ∧ gR B (64 + 8 * m + p) = gC A (rT m + 7 + p)
theorem x_m0 {m : Nat} (hm : m < 6) : ix (32 * nI m) = 32 * m := by
  rw [show (32 : Int32) * nI m = nI (32 * m) from by rw [show (32 : Int32) = nI 32 from rfl, nI_mul], ix_n (by omega)]
/-- the BEGIN -/
theorem beg_all {m n : Nat} {A B M : Mem} (hm : m < 6) (hM : mI M 60 m = nI n) (hS : St m n A B) (hG : GV m A B) :
    ∃ A' B', f_X2_begin A (rT m) = A' ∧ f_X7_find_33 (nI m) M 33 0 (uI (uI B 66 m 1) 68 m 0) = f_X7_find_166 (nI m) M 31 0 B' ∧ St m n A' B' ∧ Dy m n A' B' ∧ ER (wfC m) A A' ∧ ER (wfR m) (uI B 66 m 1) B' := by
  have er : rT m = 74 + 271 * m := rfl
  have hn := hS.1
  replace hS : St m n A (uI B 66 m 1) := by
    obtain ⟨s1, s2, s3, s4, s5, s6⟩ := hS
    refine ⟨s1, s2, by rw [mI_uI_ne (by decide)]; exact s3, s4, fun l hl => ?_, fun t ht => ?_⟩
    · rw [mI_uI_ne (by decide), mI_uI_ne (by decide), mI_uI_ne (by decide)]; exact s5 l hl
    · obtain ⟨z, z1, z2, z3, z4⟩ := s6 t ht
      exact ⟨z, z1, z2, by rw [mI_uI_ne (by decide)]; exact z3, fun i hi => by rw [mL_uI]; exact z4 i hi⟩
  have xm : ix (nI m) = m := ix_n (by omega)
  obtain ⟨A1, a1, a2, a3, a4⟩ := bg7 (m := m) (A := A) 32 33 0 (uI A (rT m) 8 0) rfl (by omega) (ER.rf.uI wC8) (fun l hl => by omega) mI_uI
  obtain ⟨A2, b1, b2, b3, b4, b5⟩ := bg35 (m := m) (A := A) 256 257 0 A1 rfl (by omega) a2 (fun l hl => by omega) a4 a3
  obtain ⟨A3, c1, c2, c3, c4, c5, c6⟩ := bg64 (m := m) (A := A) 8 9 0 A2 rfl (by omega) b2 (fun l hl => by omega) b5 b3 b4
  have eA : f_X2_begin A (rT m) = f_X2_send A3 (rT m) 0 := by unfold f_X2_begin; rw [a1, b1, c1]
  obtain ⟨B1, d1, d2, d3, d4, d5⟩ := br33 (m := m) (B := uI B 66 m 1) (M := M) hm 32 33 0 (uI (uI B 66 m 1) 68 m 0) rfl (by omega) (ER.rf.uI wR68) (fun l hl => by omega) mI_uI (by rw [mI_uI_ne (by decide), mI_uI])
  obtain ⟨B2, e1, e2, e3, e4, e5, e6⟩ := br66 (m := m) (B := uI B 66 m 1) (M := M) 256 257 0 B1 rfl (by omega) d2 (fun l hl => by omega) d4 d5 d3
  have h3 : mI A3 (rT m) 3 = nI n := by rw [(c2.2.2 (rT m) 3 (wfC_f (by omega) (by omega) (by omega) (by omega) (by omega))).1]; exact hS.2.1
  rcases Nat.eq_zero_or_pos n with h0 | h0
  · subst h0
    have eB : f_X7_find_33 (nI m) M 33 0 (uI (uI B 66 m 1) 68 m 0) = f_X7_find_166 (nI m) M 31 0 (uI (uI B2 67 (32 * m) 0) 69 0 0) := by
      rw [d1, e1, br95_0 (by rw [xm]; exact hM)]
      unfold f_X7_find_131 f_X7_find_148 f_X7_find_163
      rw [xm, hM, if_pos (by decide), if_pos (by decide), x_m0 hm]
      rfl
    have eA' : f_X2_send A3 (rT m) 0 = A3 := by
      unfold f_X2_send f_X2_send_19
      rw [if_neg (by decide), h3, if_pos (by decide)]
    have hb : ER (wfR m) (uI B 66 m 1) (uI (uI B2 67 (32 * m) 0) 69 0 0) := (e2.uI (show wfR m 67 (32 * m + 0) = true from w67 (by omega))).uI w69
    refine ⟨A3, _, eA.trans eA', eB, hS.w hm c2 hb, ?_, c2, hb⟩
    refine ⟨fun l hl => by omega, fun l _ hl => (c3 l hl).1, fun l hl => by omega, fun l hl => by omega, fun k hk => ?_, ?_, fun l hl => by omega⟩
    · unfold CT2
      rw [mI_uI_ne (by decide), mI_uI_ne (by decide), mI_uI_ne (by decide), mI_uI_ne (by decide), (c4 k hk).1, (c4 k hk).2, (e4 k hk).1, (e4 k hk).2]
      exact ⟨rfl, rfl⟩
    · rw [c5, mI_uI_ne (by decide), mI_uI_ne (by decide), e5]
  · obtain ⟨B3, f1, f2, f3, f4, f5, f6, f7⟩ := br95 (m := m) (n := n) (B := uI B 66 m 1) (M := M) hm hn h0 hM 8 9 0 B2 rfl (by omega) e2 (fun l hl => by omega) e5 e6 e3 e4
    have eB : f_X7_find_33 (nI m) M 33 0 (uI (uI B 66 m 1) 68 m 0) = f_X7_find_166 (nI m) M 31 0 (uI (uI B3 67 (32 * m) 1) 69 0 1) := by
      rw [d1, e1, f1]
      unfold f_X7_find_131 f_X7_find_148 f_X7_find_163
      have hne : ¬ nI n ≤ (0 : Int32) := nI_ge (a := 0) h0 (by omega)
      rw [xm, hM, if_neg hne, if_neg hne, x_m0 hm]
      rfl
    have hsc := (scn_loop (A := A3) 8 9 0 rfl (by omega)).mpr (fun p _ hp => by rw [c6 p hp]; exact (hG p hp).2.1)
    obtain ⟨A4, g1, g2, g3, g4, g5, g6⟩ := sd41 (m := m) (A := A) (G := fun p => gC A (rT m + 7 + p)) 8 9 0 A3 rfl (by omega) c2 c6 (fun p hp => by omega) c5 c3 c4
    have eA' : f_X2_send A3 (rT m) 0 = uI (uI A4 (rT m + 6) 0 1) 20 0 1 := by
      unfold f_X2_send
      have hne : ¬ nI n ≤ (0 : Int32) := nI_ge (a := 0) h0 (by omega)
      have hsc' : f_X2_someComeToNone A3 = 0 := hsc
      have hr : mI A3 (rT m + 6) (ix 0) = 0 := (c3 0 (by omega)).2
      rw [if_neg (by decide), h3, if_neg hne, if_pos hsc', if_pos hr]
      unfold f_X2_send_34
      exact g1
    have ha : ER (wfC m) A (uI (uI A4 (rT m + 6) 0 1) 20 0 1) := (g2.uI w6).uI w20
    have hb : ER (wfR m) (uI B 66 m 1) (uI (uI B3 67 (32 * m) 1) 69 0 1) := (f2.uI (show wfR m 67 (32 * m + 0) = true from w67 (by omega))).uI w69
    refine ⟨_, _, eA.trans eA', eB, hS.w hm ha hb, ?_, ha, hb⟩
    have i67 : ∀ l, l < 32 → ¬ l = 0 → mI (uI (uI B3 67 (32 * m) 1) 69 0 1) 67 (32 * m + l) = 0 := fun l hl h => by
      rw [mI_uI_ne (by decide), mI_uI_nk (by omega)]; exact (f3 l hl).2
    have i67z : mI (uI (uI B3 67 (32 * m) 1) 69 0 1) 67 (32 * m + 0) = 1 := by
      rw [mI_uI_ne (by decide)]; exact mI_uI
    have iA : ∀ l, l < 32 → ¬ l = 0 → mI (uI (uI A4 (rT m + 6) 0 1) 20 0 1) (rT m + 6) l = 0 := fun l hl h => by
      rw [mI_uI_ne (by omega), mI_uI_nk h]; exact (g3 l hl).2
    have iAz : mI (uI (uI A4 (rT m + 6) 0 1) 20 0 1) (rT m + 6) 0 = 1 := by
      rw [mI_uI_ne (by omega), mI_uI]
    have i20 : ∀ l, l < 32 → ¬ l = 0 → mI (uI (uI A4 (rT m + 6) 0 1) 20 0 1) 20 l = 0 := fun l hl h => by
      rw [mI_uI_nk h, mI_uI_ne (by omega)]; exact (g3 l hl).1
    have i69 : ∀ l, l < 32 → ¬ l = 0 → mI (uI (uI B3 67 (32 * m) 1) 69 0 1) 69 l = 0 := fun l hl h => by
      rw [mI_uI_nk h, mI_uI_ne (by decide)]; exact (f3 l hl).1
    refine ⟨fun l hl => ?_, fun l h1 hl => i20 l hl (by omega), fun l hl => ?_, fun l hl hr p hp => ?_, fun k hk => ?_, ?_, fun l hl hw => ?_⟩
    · by_cases e : l = 0
      · rw [e, mI_uI, mI_uI]; exact ⟨rfl, Or.inr rfl⟩
      · rw [i20 l (by omega) e, i69 l (by omega) e]; exact ⟨rfl, Or.inl rfl⟩
    · by_cases e : l = 0
      · rw [e, iAz, i67z]
      · rw [iA l (by omega) e, i67 l (by omega) e]
    · by_cases e : l = 0
      · rw [e]
        unfold PL
        rw [gC_uI (by omega), gC_uI (by omega), gR_uo (by decide), gR_uo (by decide), f7 p hp, gR_uo (by decide), show rT m + 15 + (8 * 0 + p) = rT m + 15 + p by omega, g6 p hp]
        exact hG p hp
      · exact absurd (i67 l (by omega) e) hr
    · unfold CT2
      rw [mI_uI_ne (by decide), mI_uI_ne (by omega), mI_uI_ne (by decide), mI_uI_ne (by decide), mI_uI_ne (by decide), mI_uI_ne (by omega), mI_uI_ne (by decide), mI_uI_ne (by decide), (g4 k hk).1, (g4 k hk).2, (f4 k hk).1, (f4 k hk).2]
      exact ⟨rfl, rfl⟩
    · rw [mI_uI_ne (by omega), mI_uI_ne (by omega), g5, mI_uI_ne (by decide), mI_uI_ne (by decide), f5]
    · by_cases e : l = 0
      · rw [e, i67z]; decide
      · exact absurd (i20 l (by omega) e) hw
