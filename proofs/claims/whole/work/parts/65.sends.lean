/-- a LINE as 'op' takes it -/
def LnG (op a b : Int32) : Prop := 0 ≤ op ∧ op ≤ 27 ∧ (∃ i, i < 8 ∧ a = nI i) ∧ ((op < 20 ∨ op = 21 ∨ op = 23 ∨ op = 24) → ∃ i, i < 8 ∧ b = nI i) ∧ (op = 22 → ∃ i, i < 4 ∧ b = nI i) ∧ (op = 25 → ∃ i, i < 64 ∧ b = nI i) ∧ (op = 26 → ∃ i, i ≤ 32 ∧ b = nI i)
/-- TABLES are alike -/
def TBr (A B : Mem) : Prop := ∀ t, t < 4 → ∃ n, n ≤ 16 ∧ mI A 10 t = nI n ∧ mI B 64 t = nI n ∧ ∀ i, i < n → mL A (6 + t) i = mL B 65 (16 * t + i)
def St (m n : Nat) (A B : Mem) : Prop := n ≤ 32 ∧ mI A (rT m) 3 = nI n ∧ mI B 60 m = nI n ∧ gC A 16 = cst 0 ∧ (∀ l, l < n → mI A (rT m + 1) l = mI B 61 (32 * m + l) ∧ mI A (rT m + 2) l = mI B 62 (32 * m + l) ∧ mI A (rT m + 3) l = mI B 63 (32 * m + l) ∧ LnG (mI B 61 (32 * m + l)) (mI B 62 (32 * m + l)) (mI B 63 (32 * m + l))) ∧ TBr A B
def Dy (m n : Nat) (A B : Mem) : Prop := (∀ l, l < n → mI A 20 l = mI B 69 l ∧ (mI A 20 l = 0 ∨ mI A 20 l = 1)) ∧ (∀ l, n ≤ l → l < 32 → mI A 20 l = 0) ∧ (∀ l, l < n → mI A (rT m + 6) l = mI B 67 (32 * m + l)) ∧ (∀ l, l < n → ¬ mI B 67 (32 * m + l) = 0 → ∀ p, p < 8 → PL A B m l p) ∧ (∀ k, k < 256 → CT2 A B k) ∧ mI A (rT m) 8 = mI B 68 m ∧ (∀ l, l < n → ¬ mI A 20 l = 0 → ¬ mI B 67 (32 * m + l) = 0)
/-- all that finding may change -/
def wfC (m b j : Nat) : Bool := decide (b = 17) || decide (b = 19) || decide (b = 20) || decide (b = 21) || decide (b = 22) || (decide (23 ≤ b) && decide (b ≤ 30)) || (decide (b = rT m) && (decide (j = 7) || decide (j = 8))) || decide (b = rT m + 6) || (decide (rT m + 15 ≤ b) && decide (b ≤ rT m + 270))
def wfR (m b j : Nat) : Bool := scr b j || (decide (53 ≤ b) && decide (b ≤ 59) && ((decide (40 ≤ j) && decide (j ≤ 55)) || (decide (112 + 256 * m ≤ j) && decide (j < 112 + 256 * m + 256)))) || (decide (b = 66) && decide (j = m + 6)) || (decide (b = 67) && decide (32 * m ≤ j) && decide (j < 32 * m + 32)) || (decide (b = 68) && decide (j = m)) || decide (b = 69) || decide (b = 70) || decide (b = 71)
theorem wfC_f {m b j : Nat} (h1 : b ≠ 17) (h2 : b < 19 ∨ 30 < b) (h3 : b ≠ rT m ∨ (j ≠ 7 ∧ j ≠ 8)) (h4 : b ≠ rT m + 6) (h5 : b < rT m + 15 ∨ rT m + 270 < b) : wfC m b j = false := by
  cases e : wfC m b j with
  | false => rfl
  | true =>
    simp only [wfC, Bool.or_eq_true, Bool.and_eq_true, decide_eq_true_eq] at e
    omega
theorem wfR_f {m b j : Nat} (h0 : scr b j = false) (h1 : b < 53 ∨ 59 < b ∨ ((j < 40 ∨ 55 < j) ∧ (j < 112 + 256 * m ∨ 112 + 256 * m + 256 ≤ j))) (h2 : b ≠ 66 ∨ j ≠ m + 6) (h3 : b ≠ 67 ∨ j < 32 * m ∨ 32 * m + 32 ≤ j) (h4 : b ≠ 68 ∨ j ≠ m) (h5 : b < 69 ∨ 71 < b) : wfR m b j = false := by
  cases e : wfR m b j with
  | false => rfl
  | true =>
    simp only [wfR, h0, Bool.or_eq_true, Bool.and_eq_true, decide_eq_true_eq] at e
    simp only [Bool.false_eq_true, false_or] at e
    omega
theorem sdC_w {m l : Nat} (hl : l < 32) : ∀ b j, sdC m l b j = true → wfC m b j = true := by
  intro b j h
  have er : rT m = 74 + 271 * m := rfl
  simp only [sdC, wfC, Bool.or_eq_true, Bool.and_eq_true, decide_eq_true_eq] at h ⊢
  omega
theorem sdR_w {m l : Nat} (hl : l < 32) : ∀ b j, sdR m l b j = true → wfR m b j = true := by
  intro b j h
  simp only [sdR, wfR, Bool.or_eq_true, Bool.and_eq_true, decide_eq_true_eq] at h ⊢
  rcases h with ((((h | h) | h) | h) | h) | h
  · exact Or.inl (Or.inl (Or.inl (Or.inl (Or.inl (Or.inl (Or.inl h))))))
  · exact Or.inl (Or.inl (Or.inl (Or.inl (Or.inl (Or.inl (Or.inr ⟨h.1.1, Or.inr ⟨by omega, by omega⟩⟩))))))
  · exact Or.inl (Or.inl (Or.inl (Or.inl (Or.inr ⟨⟨h.1, by omega⟩, by omega⟩))))
  · exact Or.inl (Or.inl (Or.inl (Or.inr h)))
  · exact Or.inl (Or.inl (Or.inr h.1))
  · rcases h.1.1 with h | h
    · exact Or.inl (Or.inr h)
    · exact Or.inr h
theorem scn_loop {A : Mem} : ∀ (q n j : Nat), j + q = 8 → q < n → (f_X2_someComeToNone_2 A n j = 0 ↔ ∀ p, j ≤ p → p < 8 → (gC A (23 + p)).1 = 0) := by
  intro q
  induction q with
  | zero =>
    intro n j hj hn
    obtain ⟨n, rfl⟩ : ∃ z, n = z + 1 := ⟨n - 1, by omega⟩
    rw [f_X2_someComeToNone_2, if_pos (show (8 : Int32) ≤ nI j from nI_le (a := 8) (by omega) (by omega))]
    exact ⟨fun _ p h1 h2 => by omega, fun _ => rfl⟩
  | succ q ih =>
    intro n j hj hn
    obtain ⟨n, rfl⟩ : ∃ z, n = z + 1 := ⟨n - 1, by omega⟩
    have e : mI A (18 + 5 + ix (nI j)) 0 = (gC A (23 + j)).1 := by rw [ix_n (by omega)]; rfl
    rw [f_X2_someComeToNone_2, if_neg (show ¬ (8 : Int32) ≤ nI j from nI_ge (b := 8) (by omega) (by decide)), e]
    by_cases q0 : (gC A (23 + j)).1 = 0
    · rw [if_pos q0, ih n (j + 1) (by omega) (by omega)]
      constructor
      · intro h p h1 h2
        by_cases e : p = j
        · rw [e]; exact q0
        · exact h p (by omega) h2
      · intro h p h1 h2; exact h p (by omega) h2
    · rw [if_neg q0]
      exact ⟨fun z => absurd z (by decide), fun h => absurd (h j (by omega) (by omega)) q0⟩
theorem g19_0 {m ln : Int32} : ∀ (q n j : Nat) (B : Mem), j + q = 8 → q < n → f_X7_goTo_19 m ln n 0 j B = B := by
  intro q
  induction q with
  | zero =>
    intro n j B hj hn
    obtain ⟨n, rfl⟩ : ∃ z, n = z + 1 := ⟨n - 1, by omega⟩
    rw [f_X7_goTo_19, if_pos (show (8 : Int32) ≤ nI j from nI_le (a := 8) (by omega) (by omega)), if_pos rfl]
  | succ q ih =>
    intro n j B hj hn
    obtain ⟨n, rfl⟩ : ∃ z, n = z + 1 := ⟨n - 1, by omega⟩
    rw [f_X7_goTo_19, if_neg (show ¬ (8 : Int32) ≤ nI j from nI_ge (b := 8) (by omega) (by decide)), if_pos rfl]
    exact ih n (j + 1) B (by omega) (by omega)
theorem g19_1 {m ln : Int32} : ∀ (q n j : Nat) (B : Mem), j + q = 8 → q < n → ((∀ p, j ≤ p → p < 8 → mI B 53 (48 + p) = 0) → f_X7_goTo_19 m ln n 1 j B = f_X7_goTo_71 m ln 9 0 B) ∧ ((¬ ∀ p, j ≤ p → p < 8 → mI B 53 (48 + p) = 0) → f_X7_goTo_19 m ln n 1 j B = B) := by
  intro q
  induction q with
  | zero =>
    intro n j B hj hn
    obtain ⟨n, rfl⟩ : ∃ z, n = z + 1 := ⟨n - 1, by omega⟩
    rw [f_X7_goTo_19, if_pos (show (8 : Int32) ≤ nI j from nI_le (a := 8) (by omega) (by omega)), if_neg (by decide)]
    exact ⟨fun _ => rfl, fun h => absurd (fun p h1 h2 => by omega) h⟩
  | succ q ih =>
    intro n j B hj hn
    obtain ⟨n, rfl⟩ : ∃ z, n = z + 1 := ⟨n - 1, by omega⟩
    rw [f_X7_goTo_19, if_neg (show ¬ (8 : Int32) ≤ nI j from nI_ge (b := 8) (by omega) (by decide)), if_neg (by decide), x_48 (by omega)]
    unfold f_X7_goTo_47 f_X7_goTo_48
    by_cases q0 : mI B 53 (48 + j) = 0
    · rw [if_pos q0]
      obtain ⟨i1, i2⟩ := ih n (j + 1) B (by omega) (by omega)
      exact ⟨fun h => i1 (fun p h1 h2 => h p (by omega) h2), fun h => i2 (fun h' => h (fun p h1 h2 => by
        by_cases e : p = j
        · rw [e]; exact q0
        · exact h' p (by omega) h2))⟩
    · rw [if_neg q0]
      exact ⟨fun h => absurd (h j (by omega) (by omega)) q0, fun _ => g19_0 q n (j + 1) B (by omega) (by omega)⟩
/-- SENDING to a LINE -/
theorem snd_all {m n l : Nat} {A B : Mem} (hm : m < 6) (hl : l < 64) (hS : St m n A B) (hD : Dy m n A B) (hC : Cm A B) :
    Dy m n (f_X2_send A (rT m) (nI l)) (f_X7_goTo B (nI m) (nI l)) ∧ (f_X2_send A (rT m) (nI l) = A ∨ l < 32) ∧ ER (fun b j => decide (l < n) && sdC m l b j) A (f_X2_send A (rT m) (nI l)) ∧ ER (fun b j => decide (l < n) && sdR m l b j) B (f_X7_goTo B (nI m) (nI l)) := by
  obtain ⟨s1, s2, s3, s4, s5, s6⟩ := hS
  have er : rT m = 74 + 271 * m := rfl
  have xm : ix (nI m) = m := ix_n (by omega)
  have xl : ix (nI l) = l := ix_n (by omega)
  unfold f_X2_send f_X7_goTo f_X7_goTo_15
  rw [if_neg (nI_pos (by omega)), s2, xm, s3]
  by_cases hn : n ≤ l
  · rw [if_pos (nI_le hn (by omega)), if_pos (nI_le hn (by omega)), g19_0 8 9 0 B rfl (by omega)]
    exact ⟨hD, Or.inl rfl, ER.rf, ER.rf⟩
  · have hln : l < n := by omega
    rw [if_neg (nI_ge hln (by omega)), if_neg (nI_ge hln (by omega)), xl]
    have hsc := scn_loop (A := A) 8 9 0 rfl (by omega)
    have hgo := g19_1 (m := nI m) (ln := nI l) 8 9 0 B rfl (by omega)
    have hiff : (∀ p, 0 ≤ p → p < 8 → mI B 53 (48 + p) = 0) ↔ ∀ p, 0 ≤ p → p < 8 → (gC A (23 + p)).1 = 0 := by
      have e : ∀ p, p < 8 → (mI B 53 (48 + p) = 0 ↔ (gC A (23 + p)).1 = 0) := fun p hp => by
        have : mI B 53 (48 + p) = (toR (gC A (23 + p))).1 := by rw [← (hC p hp).2]; rfl
        rw [this]; exact toR_1
      exact ⟨fun h p h0 hp => (e p hp).mp (h p h0 hp), fun h p h0 hp => (e p hp).mpr (h p h0 hp)⟩
    by_cases hz : f_X2_someComeToNone A = 0
    · have hall := hsc.mp hz
      rw [if_pos hz, hgo.1 (hiff.mpr hall)]
      obtain ⟨d1, d2, d3, d4, d5, d6, d7⟩ := hD
      have hLI : ∀ y r, mI A (rT m + 6) l = r → (y = if r = 0 then 1 else 0) → LI m l A B A B 0 (mI A 20 l) y r := fun y r hr hy => by
        refine ⟨ER.rf, ER.rf, fun p hp hq => ?_, fun p hp => d5 _ (by omega), d6, hr, (d3 l hln).symm.trans hr, rfl, ?_⟩
        · rcases hq with hq | hq
          · exact d4 l hln (by rw [← d3 l hln, hr]; exact hq) p hp
          · omega
        · rw [← (d1 l hln).1]
          by_cases q : r = 0
          · rw [if_pos q]
          · rw [if_neg q]
            rw [if_neg q] at hy
            unfold orW
            rcases (d1 l hln).2 with h | h
            · rw [h, if_pos rfl, hy]
            · rw [h, if_neg (by decide)]
      have key : SE m l A B (if mI A (rT m + 6) l = 0 then f_X2_send_34 (rT m) (nI l) 1 A else f_X2_send_34 (rT m) (nI l) 0 A) (f_X7_goTo_71 (nI m) (nI l) 9 0 B) := by
        unfold f_X2_send_34
        by_cases q : mI A (rT m + 6) l = 0
        · rw [if_pos q]
          have h := sd_loop (r := 0) hm (by omega) hC (fun p hp => hall p (by omega) hp) (d1 l hln).2 8 9 0 A B 1 rfl (by omega) (Or.inr rfl) (fun _ => rfl) (hLI 1 0 q rfl)
          rw [if_pos rfl] at h
          exact h
        · rw [if_neg q]
          have h := sd_loop (r := mI A (rT m + 6) l) hm (by omega) hC (fun p hp => hall p (by omega) hp) (d1 l hln).2 8 9 0 A B 0 rfl (by omega) (Or.inl rfl) (fun z => absurd z q) (hLI 0 _ rfl (by rw [if_neg q]))
          rw [if_neg q] at h
          exact h
      generalize (if mI A (rT m + 6) l = 0 then f_X2_send_34 (rT m) (nI l) 1 A else f_X2_send_34 (rT m) (nI l) 0 A) = A' at key
      generalize f_X7_goTo_71 (nI m) (nI l) 9 0 B = B' at key
      obtain ⟨k1, k2, k3, k4, k5, k6, k7, k8, k9⟩ := key
      have fC : ∀ b j, b ≠ 19 → (b ≠ 20 ∨ j ≠ l) → ((b ≠ 21 ∧ b ≠ 22) ∨ j < 8 * l ∨ 8 * l + 8 ≤ j) → (b ≠ rT m ∨ j ≠ 8) → (b ≠ rT m + 6 ∨ j ≠ l) → (b < rT m + 15 + 8 * l ∨ rT m + 15 + 8 * l + 8 ≤ b) → sdC m l b j = false := by
        intro b j a1 a2 a3 a4 a5 a6
        cases e : sdC m l b j with
        | false => rfl
        | true =>
          simp only [sdC, Bool.or_eq_true, Bool.and_eq_true, decide_eq_true_eq] at e
          omega
      have fR : ∀ b j, scr b j = false → (b < 53 ∨ 59 < b ∨ j < 112 + 8 * (32 * m + l) ∨ 112 + 8 * (32 * m + l) + 8 ≤ j) → (b ≠ 67 ∨ j ≠ 32 * m + l) → (b ≠ 68 ∨ j ≠ m) → (b ≠ 69 ∨ j ≠ l) → ((b ≠ 70 ∧ b ≠ 71) ∨ j < 8 * l ∨ 8 * l + 8 ≤ j) → sdR m l b j = false := by
        intro b j a0 a1 a2 a3 a4 a5
        cases e : sdR m l b j with
        | false => rfl
        | true =>
          simp only [sdR, a0, Bool.or_eq_true, Bool.and_eq_true, decide_eq_true_eq] at e
          simp only [Bool.false_eq_true, false_or] at e
          omega
      refine ⟨⟨fun l' hl' => ?_, fun l' h1 h2 => ?_, fun l' hl' => ?_, fun l' hl' hr p hp => ?_, fun k hk => ?_, k5, fun l' hl' hw => ?_⟩, Or.inr (by omega), k1.mono (fun b j h => by simp [hln, h]), k2.mono (fun b j h => by simp [hln, h])⟩
      · by_cases e : l' = l
        · rw [e]; exact ⟨k8, k9⟩
        · rw [(k1.2.2 20 l' (fC 20 l' (by omega) (by omega) (by omega) (by omega) (by omega) (by omega))).1, (k2.2.2 69 l' (fR 69 l' (scr_n (by omega) (by omega)) (by omega) (by omega) (by omega) (by omega) (by omega))).1]
          exact d1 l' hl'
      · rw [(k1.2.2 20 l' (fC 20 l' (by omega) (by omega) (by omega) (by omega) (by omega) (by omega))).1]
        exact d2 l' h1 h2
      · by_cases e : l' = l
        · rw [e, k6, k7]
        · rw [(k1.2.2 (rT m + 6) l' (fC _ l' (by omega) (by omega) (by omega) (by omega) (by omega) (by omega))).1, (k2.2.2 67 (32 * m + l') (fR 67 _ (scr_n (by omega) (by omega)) (by omega) (by omega) (by omega) (by omega) (by omega))).1]
          exact d3 l' hl'
      · by_cases e : l' = l
        · rw [e]; exact k3 p hp
        · rw [(k2.2.2 67 (32 * m + l') (fR 67 _ (scr_n (by omega) (by omega)) (by omega) (by omega) (by omega) (by omega) (by omega))).1] at hr
          have hpp := d4 l' hl' hr p hp
          unfold PL
          rw [k1.cg (fun j => fC _ j (by omega) (by omega) (by omega) (by omega) (by omega) (by omega)), k2.g (fun b b1 b2 => fR b _ (scr_n (by omega) (by omega)) (by omega) (by omega) (by omega) (by omega) (by omega))]
          exact hpp
      · by_cases e : 8 * l ≤ k ∧ k < 8 * l + 8
        · have := k4 (k - 8 * l) (by omega)
          rw [show 8 * l + (k - 8 * l) = k by omega] at this
          exact this
        · unfold CT2
          rw [(k1.2.2 21 k (fC 21 k (by omega) (by omega) (by omega) (by omega) (by omega) (by omega))).1, (k1.2.2 22 k (fC 22 k (by omega) (by omega) (by omega) (by omega) (by omega) (by omega))).1, (k2.2.2 70 k (fR 70 k (scr_n (by omega) (by omega)) (by omega) (by omega) (by omega) (by omega) (by omega))).1, (k2.2.2 71 k (fR 71 k (scr_n (by omega) (by omega)) (by omega) (by omega) (by omega) (by omega) (by omega))).1]
          exact d5 k hk
      · by_cases e : l' = l
        · rw [e, k7]; decide
        · rw [(k1.2.2 20 l' (fC 20 l' (by omega) (by omega) (by omega) (by omega) (by omega) (by omega))).1] at hw
          rw [(k2.2.2 67 (32 * m + l') (fR 67 _ (scr_n (by omega) (by omega)) (by omega) (by omega) (by omega) (by omega) (by omega))).1]
          exact d7 l' hl' hw
    · rw [if_neg hz, hgo.2 (fun h => hz (hsc.mpr (hiff.mp h)))]
      exact ⟨hD, Or.inl rfl, ER.rf, ER.rf⟩
