/-! FETCHING a LINE's facts -/
theorem ft_C {m l : Nat} {A : Mem} (hl : l < 64) : ∀ (q n j : Nat) (Q : Mem), j + q = 8 → q < n → ER cmC A Q → (∀ p, p < j → gC Q (23 + p) = gC A (rT m + 15 + (8 * l + p))) →
    (∀ p, p < 8 → gC (f_X2_fetch_2 (rT m) (nI l) n j Q) (23 + p) = gC A (rT m + 15 + (8 * l + p))) ∧ ER cmC A (f_X2_fetch_2 (rT m) (nI l) n j Q) := by
  have er : rT m = 74 + 271 * m := rfl
  intro q
  induction q with
  | zero =>
    intro n j Q hj hn hE hp
    obtain ⟨n, rfl⟩ : ∃ z, n = z + 1 := ⟨n - 1, by omega⟩
    rw [f_X2_fetch_2, if_pos (show (8 : Int32) ≤ nI j from nI_le (a := 8) (by omega) (by omega))]
    exact ⟨fun p h => hp p (by omega), hE⟩
  | succ q ih =>
    intro n j Q hj hn hE hp
    obtain ⟨n, rfl⟩ : ∃ z, n = z + 1 := ⟨n - 1, by omega⟩
    have hg : ∀ p, gC Q (rT m + 15 + (8 * l + p)) = gC A (rT m + 15 + (8 * l + p)) := fun p => hE.cg (fun jj => by
      have a2 : ¬ 74 + 271 * m + 15 + (8 * l + p) ≤ 30 := by omega
      simp only [cmC, er, a2, decide_false, Bool.and_false])
    rw [f_X2_fetch_2, if_neg (show ¬ (8 : Int32) ≤ nI j from nI_ge (b := 8) (by omega) (by decide))]
    unfold f_X2_fetch_c28
    rw [x_23 (by omega), x_15 hl (by omega), cp_C, hg]
    refine ih n (j + 1) _ (by omega) (by omega) (hE.pC (fun _ => cm_f (by omega))) (fun p h => ?_)
    by_cases e : p = j
    · rw [e, gC_p]
    · rw [gC_n (by omega)]; exact hp p (by omega)
def hrR (b j : Nat) : Bool := decide (53 ≤ b) && decide (b ≤ 59) && decide (40 ≤ j) && decide (j ≤ 55)
theorem rd_R {B : Mem} : ∀ (q n j : Nat) (Q : Mem), j + q = 8 → q < n → ER hrR B Q → (∀ p, p < 8 → gR Q (40 + p) = gR B (40 + p)) → (∀ p, p < j → gR Q (48 + p) = gR B (40 + p)) →
    (∀ p, p < 8 → gR (f_X7_ready_2 n j Q) (48 + p) = gR B (40 + p) ∧ gR (f_X7_ready_2 n j Q) (40 + p) = gR B (40 + p)) ∧ ER hrR B (f_X7_ready_2 n j Q) := by
  intro q
  induction q with
  | zero =>
    intro n j Q hj hn hE h40 hp
    obtain ⟨n, rfl⟩ : ∃ z, n = z + 1 := ⟨n - 1, by omega⟩
    rw [f_X7_ready_2, if_pos (show (8 : Int32) ≤ nI j from nI_le (a := 8) (by omega) (by omega))]
    exact ⟨fun p h => ⟨hp p (by omega), h40 p h⟩, hE⟩
  | succ q ih =>
    intro n j Q hj hn hE h40 hp
    obtain ⟨n, rfl⟩ : ∃ z, n = z + 1 := ⟨n - 1, by omega⟩
    rw [f_X7_ready_2, if_neg (show ¬ (8 : Int32) ≤ nI j from nI_ge (b := 8) (by omega) (by decide))]
    unfold f_X7_ready_c20
    rw [cp_R, x_48 (by omega), x_40 (by omega), h40 j (by omega)]
    refine ih n (j + 1) _ (by omega) (by omega) (hE.pR (fun b h1 h2 => ?_)) (fun p h => ?_) (fun p h => ?_)
    · have a1 : 48 + j ≤ 55 := by omega
      have a2 : 40 ≤ 48 + j := by omega
      simp [hrR, h1, h2, a1, a2]
    · rw [gR_n (by omega)]; exact h40 p h
    · by_cases e : p = j
      · rw [e, gR_p]
      · rw [gR_n (by omega)]; exact hp p (by omega)
theorem rdy_R (B : Mem) : (∀ p, p < 8 → gR (f_X7_ready B) (48 + p) = gR B (40 + p) ∧ gR (f_X7_ready B) (40 + p) = gR B (40 + p)) ∧ ER hrR B (f_X7_ready B) :=
  rd_R 8 9 0 B rfl (by omega) ER.rf (fun _ _ => rfl) (fun p h => by omega)
/-- the reference's loop ahead of the work -/
theorem hr_R {m l : Nat} {M B : Mem} (hm : m < 6) (hl : l < 32) : ∀ (q n j : Nat) (Q : Mem), j + q = 8 → q < n → ER hrR B Q → (∀ p, p < j → gR Q (40 + p) = gR B (112 + 8 * (32 * m + l) + p)) →
    ∃ Q', f_X7_work_41 (nI m) (nI l) M n j Q = f_X7_work_c75 (nI m) (nI l) M (f_X7_ready Q') ∧ (∀ p, p < 8 → gR Q' (40 + p) = gR B (112 + 8 * (32 * m + l) + p)) ∧ ER hrR B Q' := by
  intro q
  induction q with
  | zero =>
    intro n j Q hj hn hE hp
    obtain ⟨n, rfl⟩ : ∃ z, n = z + 1 := ⟨n - 1, by omega⟩
    rw [f_X7_work_41, if_pos (show (8 : Int32) ≤ nI j from nI_le (a := 8) (by omega) (by omega))]
    exact ⟨Q, rfl, fun p h => hp p (by omega), hE⟩
  | succ q ih =>
    intro n j Q hj hn hE hp
    obtain ⟨n, rfl⟩ : ∃ z, n = z + 1 := ⟨n - 1, by omega⟩
    have hg : gR Q (112 + 8 * (32 * m + l) + j) = gR B (112 + 8 * (32 * m + l) + j) := hE.g (fun b h1 h2 => by
      have a2 : ¬ 112 + 8 * (32 * m + l) + j ≤ 55 := by omega
      simp only [hrR, a2, decide_false, Bool.and_false])
    rw [f_X7_work_41, if_neg (show ¬ (8 : Int32) ≤ nI j from nI_ge (b := 8) (by omega) (by decide))]
    unfold f_X7_work_c65
    rw [cp_R, x_40 (by omega), x_cell hm (by omega) (by omega), hg]
    refine ih n (j + 1) _ (by omega) (by omega) (hE.pR (fun b h1 h2 => ?_)) (fun p h => ?_)
    · have a1 : 40 + j ≤ 55 := by omega
      simp [hrR, h1, h2, a1]
    · by_cases e : p = j
      · rw [e, gR_p]
      · rw [gR_n (by omega)]; exact hp p (by omega)
/-! what is static, what moves, under effects elsewhere -/
def eC (b j : Nat) : Bool := decide (b = 17) || decide (b = 19) || cmC b j
def eR (b j : Nat) : Bool := scr b j || hrR b j
theorem eC_f {b j : Nat} (h1 : b ≠ 17) (h2 : b ≠ 19) (h3 : b < 23 ∨ 30 < b) : eC b j = false := by
  cases e : eC b j with
  | false => rfl
  | true =>
    simp only [eC, cmC, Bool.or_eq_true, Bool.and_eq_true, decide_eq_true_eq] at e
    omega
theorem eR_f {b j : Nat} (h0 : scr b j = false) (h1 : b < 53 ∨ 59 < b ∨ j < 40 ∨ 55 < j) : eR b j = false := by
  cases e : eR b j with
  | false => rfl
  | true =>
    simp only [eR, hrR, h0, Bool.or_eq_true, Bool.and_eq_true, decide_eq_true_eq] at e
    simp only [Bool.false_eq_true, false_or] at e
    omega
theorem Dy.e {m n : Nat} {A B A' B' : Mem} (hm : m < 6) (hn : n ≤ 32) (h : Dy m n A B) (ha : ER eC A A') (hb : ER eR B B') : Dy m n A' B' := by
  have er : rT m = 74 + 271 * m := rfl
  obtain ⟨d1, d2, d3, d4, d5, d6, d7⟩ := h
  have a20 : ∀ l, mI A' 20 l = mI A 20 l := fun l => (ha.2.2 20 l (eC_f (by omega) (by omega) (by omega))).1
  have b69 : ∀ l, mI B' 69 l = mI B 69 l := fun l => (hb.2.2 69 l (eR_f (scr_n (by omega) (by omega)) (by omega))).1
  have b67 : ∀ l, mI B' 67 l = mI B 67 l := fun l => (hb.2.2 67 l (eR_f (scr_n (by omega) (by omega)) (by omega))).1
  refine ⟨fun l hl => by rw [a20, b69]; exact d1 l hl, fun l h1 h2 => by rw [a20]; exact d2 l h1 h2, fun l hl => ?_, fun l hl hr p hp => ?_, fun k hk => ?_, ?_, fun l hl hw => by rw [a20] at hw; rw [b67]; exact d7 l hl hw⟩
  · rw [(ha.2.2 (rT m + 6) l (eC_f (by omega) (by omega) (by omega))).1, b67]; exact d3 l hl
  · rw [b67] at hr
    unfold PL
    rw [ha.cg (fun j => eC_f (by omega) (by omega) (by omega)), hb.g (fun b h1 h2 => eR_f (scr_n (by omega) (by omega)) (by omega))]
    exact d4 l hl hr p hp
  · unfold CT2
    rw [(ha.2.2 21 k (eC_f (by omega) (by omega) (by omega))).1, (ha.2.2 22 k (eC_f (by omega) (by omega) (by omega))).1, (hb.2.2 70 k (eR_f (scr_n (by omega) (by omega)) (by omega))).1, (hb.2.2 71 k (eR_f (scr_n (by omega) (by omega)) (by omega))).1]
    exact d5 k hk
  · rw [(ha.2.2 (rT m) 8 (eC_f (by omega) (by omega) (by omega))).1, (hb.2.2 68 m (eR_f (scr_n (by omega) (by omega)) (by omega))).1]; exact d6
theorem St.w {m n : Nat} {A B A' B' : Mem} (hm : m < 6) (h : St m n A B) (ha : ER (wfC m) A A') (hb : ER (wfR m) B B') : St m n A' B' := by
  have er : rT m = 74 + 271 * m := rfl
  obtain ⟨s1, s2, s3, s4, s5, s6⟩ := h
  refine ⟨s1, ?_, ?_, ?_, fun l hl => ?_, fun t ht => ?_⟩
  · rw [(ha.2.2 (rT m) 3 (wfC_f (by omega) (by omega) (by omega) (by omega) (by omega))).1]; exact s2
  · rw [(hb.2.2 60 m (wfR_f (scr_n (by omega) (by omega)) (by omega) (by omega) (by omega) (by omega) (by omega))).1]; exact s3
  · rw [ha.cg (fun j => wfC_f (by omega) (by omega) (by omega) (by omega) (by omega))]; exact s4
  · have b61 : ∀ b, 61 ≤ b → b ≤ 63 → mI B' b (32 * m + l) = mI B b (32 * m + l) := fun b h1 h2 => (hb.2.2 b _ (wfR_f (scr_n (by omega) (by omega)) (by omega) (by omega) (by omega) (by omega) (by omega))).1
    have a1 : ∀ o, 1 ≤ o → o ≤ 3 → mI A' (rT m + o) l = mI A (rT m + o) l := fun o h1 h2 => (ha.2.2 _ _ (wfC_f (by omega) (by omega) (by omega) (by omega) (by omega))).1
    rw [b61 61 (by omega) (by omega), b61 62 (by omega) (by omega), b61 63 (by omega) (by omega), a1 1 (by omega) (by omega), a1 2 (by omega) (by omega), a1 3 (by omega) (by omega)]
    exact s5 l hl
  · obtain ⟨k, k1, k2, k3, k4⟩ := s6 t ht
    refine ⟨k, k1, ?_, ?_, fun i hi => ?_⟩
    · rw [(ha.2.2 10 t (wfC_f (by omega) (by omega) (by omega) (by omega) (by omega))).1]; exact k2
    · rw [(hb.2.2 64 t (wfR_f (scr_n (by omega) (by omega)) (by omega) (by omega) (by omega) (by omega) (by omega))).1]; exact k3
    · rw [(ha.2.2 (6 + t) i (wfC_f (by omega) (by omega) (by omega) (by omega) (by omega))).2, (hb.2.2 65 _ (wfR_f (scr_n (by omega) (by omega)) (by omega) (by omega) (by omega) (by omega) (by omega))).2]; exact k4 i hi
theorem eC_w {m : Nat} : ∀ b j, eC b j = true → wfC m b j = true := by
  intro b j h
  simp only [eC, cmC, wfC, Bool.or_eq_true, Bool.and_eq_true, decide_eq_true_eq] at h ⊢
  omega
theorem eR_w {m : Nat} : ∀ b j, eR b j = true → wfR m b j = true := by
  intro b j h
  simp only [eR, hrR, wfR, Bool.or_eq_true, Bool.and_eq_true, decide_eq_true_eq] at h ⊢
  rcases h with h | h
  · exact Or.inl (Or.inl (Or.inl (Or.inl (Or.inl (Or.inl (Or.inl h))))))
  · exact Or.inl (Or.inl (Or.inl (Or.inl (Or.inl (Or.inl (Or.inr ⟨h.1.1, Or.inl ⟨h.1.2, h.2⟩⟩))))))
theorem cm_e : ∀ b j, cmC b j = true → eC b j = true := fun b j h => by simp [eC, h]
theorem th_e : ∀ b j, thR b j = true → eR b j = true := by
  intro b j h
  simp only [thR, eR, hrR, Bool.or_eq_true, Bool.and_eq_true, decide_eq_true_eq] at h ⊢
  rcases h with h | h
  · exact Or.inl h
  · exact Or.inr ⟨⟨h.1.1, by omega⟩, h.2⟩
theorem hr_e : ∀ b j, hrR b j = true → eR b j = true := fun b j h => by simp [eR, h]
theorem sc_e : ∀ b j, scr b j = true → eR b j = true := fun b j h => by simp [eR, h]
