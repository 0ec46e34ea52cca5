theorem nI_mul (a b : Nat) : nI a * nI b = nI (a * b) := (Int32.ofNat_mul a b).symm
theorem x_lp {l j : Nat} (hl : l < 64) (hj : j < 8) : ix ((nI l * 8) + nI j) = 8 * l + j := by
  have : (nI l * 8) + nI j = nI (l * 8 + j) := by rw [show (8 : Int32) = nI 8 from rfl, nI_mul, nI_add]
  rw [this, ix_n (by omega)]; omega
theorem x_pl {l j : Nat} (hl : l < 64) (hj : j < 8) : ix ((8 * nI l) + nI j) = 8 * l + j := by
  have : (8 * nI l) + nI j = nI (8 * l + j) := by rw [show (8 : Int32) = nI 8 from rfl, nI_mul, nI_add]
  rw [this, ix_n (by omega)]
theorem x_ml {m l : Nat} (hm : m < 6) (hl : l < 64) : ix ((32 * nI m) + nI l) = 32 * m + l := by
  have : (32 * nI m) + nI l = nI (32 * m + l) := by rw [show (32 : Int32) = nI 32 from rfl, nI_mul, nI_add]
  rw [this, ix_n (by omega)]
theorem x_cell {m l j : Nat} (hm : m < 6) (hl : l < 64) (hj : j < 8) : ix (f_X7_cell (nI m) (nI l) (nI j)) = 112 + 8 * (32 * m + l) + j := by
  have : f_X7_cell (nI m) (nI l) (nI j) = nI (112 + 8 * (32 * m + l) + j) := by
    unfold f_X7_cell
    rw [show (32 : Int32) = nI 32 from rfl, show (8 : Int32) = nI 8 from rfl, show (112 : Int32) = nI 112 from rfl, nI_mul, nI_add, nI_mul, nI_add, nI_add]
  rw [this, ix_n (by omega)]
theorem x_48 {j : Nat} (hj : j < 8) : ix (48 + nI j) = 48 + j := by
  have : (48 : Int32) + nI j = nI (48 + j) := by rw [show (48 : Int32) = nI 48 from rfl, nI_add]
  rw [this, ix_n (by omega)]
theorem x_40 {j : Nat} (hj : j < 8) : ix (40 + nI j) = 40 + j := by
  have : (40 : Int32) + nI j = nI (40 + j) := by rw [show (40 : Int32) = nI 40 from rfl, nI_add]
  rw [this, ix_n (by omega)]
/-- a METHOD's label -/
abbrev rT (m : Nat) : Nat := 74 + 271 * m
def sdC (m l b j : Nat) : Bool := decide (b = 19) || (decide (b = 20) && decide (j = l)) || ((decide (b = 21) || decide (b = 22)) && decide (8 * l ≤ j) && decide (j < 8 * l + 8)) || (decide (b = rT m) && decide (j = 8)) || (decide (b = rT m + 6) && decide (j = l)) || (decide (rT m + 15 + 8 * l ≤ b) && decide (b < rT m + 15 + 8 * l + 8))
def sdR (m l b j : Nat) : Bool := scr b j || (decide (53 ≤ b) && decide (b ≤ 59) && decide (112 + 8 * (32 * m + l) ≤ j) && decide (j < 112 + 8 * (32 * m + l) + 8)) || (decide (b = 67) && decide (j = 32 * m + l)) || (decide (b = 68) && decide (j = m)) || (decide (b = 69) && decide (j = l)) || ((decide (b = 70) || decide (b = 71)) && decide (8 * l ≤ j) && decide (j < 8 * l + 8))
theorem ER.mono {S T : Nat → Nat → Bool} {M N : Mem} (h : ER S M N) (hs : ∀ b k, S b k = true → T b k = true) : ER T M N := ⟨h.1, h.2.1, fun b k q => h.2.2 b k (by cases e : S b k with | false => rfl | true => rw [hs b k e] at q; cases q)⟩
theorem mSC_sd {m l j : Nat} (hj : j < 8) : ∀ b k, mSC (rT m) (rT m + 15 + (8 * l + j)) (8 * l + j) b k = true → sdC m l b k = true := by
  intro b k h
  simp only [mSC, sdC, Bool.or_eq_true, Bool.and_eq_true, decide_eq_true_eq] at h ⊢
  omega
theorem mSR_sd {m l j : Nat} (hj : j < 8) : ∀ b k, mSR m (112 + 8 * (32 * m + l) + j) (8 * l + j) l b k = true → sdR m l b k = true := by
  intro b k h
  simp only [mSR, sdR, Bool.or_eq_true, Bool.and_eq_true, decide_eq_true_eq] at h ⊢
  rcases h with ((((h | h) | h) | h) | h) | h
  · exact Or.inl (Or.inl (Or.inl (Or.inl (Or.inl h))))
  · exact Or.inl (Or.inl (Or.inl (Or.inl (Or.inr ⟨⟨h.1, by omega⟩, by omega⟩))))
  · exact Or.inr ⟨⟨Or.inl h.1, by omega⟩, by omega⟩
  · exact Or.inr ⟨⟨Or.inr h.1, by omega⟩, by omega⟩
  · exact Or.inl (Or.inl (Or.inr h))
  · exact Or.inl (Or.inr h)
theorem mSC_f {rt c kk b j : Nat} (h1 : b ≠ 19) (h2 : b ≠ c) (h3 : b ≠ 21 ∨ j ≠ kk) (h4 : b ≠ 22 ∨ j ≠ kk) (h5 : b ≠ rt ∨ j ≠ 8) : mSC rt c kk b j = false := by
  cases e : mSC rt c kk b j with
  | false => rfl
  | true =>
    simp only [mSC, Bool.or_eq_true, Bool.and_eq_true, decide_eq_true_eq] at e
    omega
theorem mSR_f {mm cN kk l b j : Nat} (h0 : scr b j = false) (h1 : b < 53 ∨ 59 < b ∨ j ≠ cN) (h2 : b ≠ 70 ∨ j ≠ kk) (h3 : b ≠ 71 ∨ j ≠ kk) (h4 : b ≠ 68 ∨ j ≠ mm) (h5 : b ≠ 69 ∨ j ≠ l) : mSR mm cN kk l b j = false := by
  cases e : mSR mm cN kk l b j with
  | false => rfl
  | true =>
    simp only [mSR, h0, Bool.or_eq_true, Bool.and_eq_true, decide_eq_true_eq] at e
    simp only [Bool.false_eq_true, false_or] at e
    omega
theorem scr_n {b j : Nat} (h1 : b < 53 ∨ 59 < b ∨ 26 < j ∨ j < 16) (h2 : b ≠ 52 ∨ (j ≠ 7 ∧ j ≠ 8)) : scr b j = false := by
  cases e : scr b j with
  | false => rfl
  | true =>
    simp only [scr, Bool.or_eq_true, Bool.and_eq_true, decide_eq_true_eq] at e
    omega
/-- a place's fact, of both -/
def PL (A B : Mem) (m l p : Nat) : Prop := Gd (gC A (rT m + 15 + (8 * l + p))) ∧ (gC A (rT m + 15 + (8 * l + p))).1 = 0 ∧ gR B (112 + 8 * (32 * m + l) + p) = gC A (rT m + 15 + (8 * l + p))
def CT2 (A B : Mem) (k : Nat) : Prop := mI A 21 k = mI B 70 k ∧ mI A 22 k = mI B 71 k
/-- what comes -/
def Cm (A B : Mem) : Prop := ∀ p, p < 8 → Gd (gC A (23 + p)) ∧ gR B (48 + p) = toR (gC A (23 + p))
def LI (m l : Nat) (A0 B0 A B : Mem) (j : Nat) (wt y r : Int32) : Prop :=
  ER (sdC m l) A0 A ∧ ER (sdR m l) B0 B ∧ (∀ p, p < 8 → (¬ r = 0 ∨ p < j) → PL A B m l p) ∧ (∀ p, p < 8 → CT2 A B (8 * l + p)) ∧ mI A (rT m) 8 = mI B 68 m ∧ mI A (rT m + 6) l = r ∧ mI B 67 (32 * m + l) = r ∧ mI A 20 l = wt ∧ mI B 69 l = (if r = 0 then wt else orW wt y)
theorem sdC_23 {m l p j : Nat} (hp : p < 8) : sdC m l (23 + p) j = false := by
  have h1 : ¬ 23 + p = 19 := by omega
  have h2 : ¬ 23 + p = 20 := by omega
  have h3 : ¬ 23 + p = 21 := by omega
  have h4 : ¬ 23 + p = 22 := by omega
  have h5 : ¬ 23 + p = rT m := by show ¬ 23 + p = 74 + 271 * m; omega
  have h6 : ¬ 23 + p = rT m + 6 := by show ¬ 23 + p = 74 + 271 * m + 6; omega
  have h7 : ¬ rT m + 15 + 8 * l ≤ 23 + p := by show ¬ 74 + 271 * m + 15 + 8 * l ≤ 23 + p; omega
  simp only [sdC, h1, h2, h3, h4, h5, h6, h7, decide_false, Bool.false_and, Bool.or_false, Bool.or_self, Bool.false_or, Bool.and_false]
theorem sdR_48 {m l p b : Nat} (hp : p < 8) (hb : 53 ≤ b) (hb2 : b ≤ 59) : sdR m l b (48 + p) = false := by
  have h1 : ¬ 48 + p ≤ 26 := by omega
  have h2 : ¬ b = 52 := by omega
  have h3 : ¬ 112 + 8 * (32 * m + l) ≤ 48 + p := by omega
  have h4 : ¬ b = 67 := by omega
  have h5 : ¬ b = 68 := by omega
  have h6 : ¬ b = 69 := by omega
  have h7 : ¬ b = 70 := by omega
  have h8 : ¬ b = 71 := by omega
  simp only [sdR, scr, h1, h2, h3, h4, h5, h6, h7, h8, decide_false, Bool.false_and, Bool.or_false, Bool.or_self, Bool.false_or, Bool.and_false]
theorem ER.cg {S : Nat → Nat → Bool} {M N : Mem} {b : Nat} (h : ER S M N) (q : ∀ j, S b j = false) : gC N b = gC M b := by
  unfold gC
  rw [(h.2.2 b 0 (q 0)).1, (h.2.2 b 1 (q 1)).2, (h.2.2 b 2 (q 2)).2, (h.2.2 b 3 (q 3)).2, (h.2.2 b 4 (q 4)).2, (h.2.2 b 5 (q 5)).2, (h.2.2 b 6 (q 6)).2]
theorem y_01 {old z : Fk} {a b : Int32} : mgC old z a b = 0 ∨ mgC old z a b = 1 := by
  unfold mgC chg
  repeat' split
  all_goals first | exact Or.inl rfl | exact Or.inr rfl
theorem orW_y {wt y ch : Int32} (hy : y = 0 ∨ y = 1) (hc : ch = 0 ∨ ch = 1) : orW (orW wt y) ch = orW wt (if ch = 0 then y else 1) := by
  unfold orW
  by_cases q : wt = 0
  · rw [if_pos q, if_pos q]
    rcases hy with rfl | rfl <;> rcases hc with rfl | rfl <;> decide
  · rw [if_neg q, if_neg q, if_neg (by decide)]
/-- what SENDING leaves at a LINE -/
def SE (m l : Nat) (A0 B0 A B : Mem) : Prop := ER (sdC m l) A0 A ∧ ER (sdR m l) B0 B ∧ (∀ p, p < 8 → PL A B m l p) ∧ (∀ p, p < 8 → CT2 A B (8 * l + p)) ∧ mI A (rT m) 8 = mI B 68 m ∧ mI A (rT m + 6) l = 1 ∧ mI B 67 (32 * m + l) = 1 ∧ mI A 20 l = mI B 69 l ∧ (mI A 20 l = 0 ∨ mI A 20 l = 1)
theorem sd_s6 {m l : Nat} : sdC m l (rT m + 6) l = true := by simp [sdC]
theorem sd_s20 {m l : Nat} : sdC m l 20 l = true := by simp [sdC]
theorem sd_r67 {m l : Nat} : sdR m l 67 (32 * m + l) = true := by simp [sdR]
theorem sd_r69 {m l : Nat} : sdR m l 69 l = true := by simp [sdR]
theorem PL.u {A B : Mem} {m l p b1 j1 b2 j2 : Nat} {v1 v2 : Int32} (h : PL A B m l p) (h1 : b1 < 74 ∨ b1 = rT m + 6) (h2 : 59 < b2 ∨ b2 < 53) : PL (uI A b1 j1 v1) (uI B b2 j2 v2) m l p := by
  unfold PL
  have h1' : b1 < 74 ∨ b1 = 74 + 271 * m + 6 := h1
  have e : rT m + 15 + (8 * l + p) ≠ b1 := by show 74 + 271 * m + 15 + (8 * l + p) ≠ b1; omega
  rw [gC_uI e, gR_uo (by omega)]
  exact h
theorem SE.end1 {m l : Nat} {A0 B0 A B : Mem} {wt r v w : Int32} {j : Nat} {y : Int32} (h : LI m l A0 B0 A B j wt y r) (hp : ∀ p, p < 8 → PL A B m l p) (ew : v = w) (hv : v = 0 ∨ v = 1) : SE m l A0 B0 (uI (uI A (rT m + 6) l 1) 20 l v) (uI (uI B 69 l w) 67 (32 * m + l) 1) := by
  obtain ⟨h1, h2, h3, h4, h5, h6, h7, h8, h9⟩ := h
  have n1 : rT m ≠ 20 := by show 74 + 271 * m ≠ 20; omega
  have n2 : rT m ≠ rT m + 6 := by omega
  have n3 : rT m + 6 ≠ 20 := by show 74 + 271 * m + 6 ≠ 20; omega
  refine ⟨(h1.uI sd_s6).uI sd_s20, (h2.uI sd_r69).uI sd_r67, fun p hp8 => ((hp p hp8).u (Or.inr rfl) (Or.inl (by decide))).u (Or.inl (by decide)) (Or.inl (by decide)), fun p hp8 => ?_, ?_, ?_, ?_, ?_, ?_⟩
  · unfold CT2
    rw [mI_uI_ne (by decide), mI_uI_ne (show (21 : Nat) ≠ rT m + 6 by show 21 ≠ 74 + 271 * m + 6; omega), mI_uI_ne (by decide), mI_uI_ne (by decide), mI_uI_ne (by decide), mI_uI_ne (show (22 : Nat) ≠ rT m + 6 by show 22 ≠ 74 + 271 * m + 6; omega), mI_uI_ne (by decide), mI_uI_ne (by decide)]
    exact h4 p hp8
  · rw [mI_uI_ne n1, mI_uI_ne n2, mI_uI_ne (by decide), mI_uI_ne (by decide)]; exact h5
  · rw [mI_uI_ne n3, mI_uI]
  · rw [mI_uI]
  · rw [mI_uI, mI_uI_ne (by decide), mI_uI]; exact ew
  · rw [mI_uI]; exact hv
theorem LI.CM {m l : Nat} {A0 B0 A B : Mem} {j : Nat} {wt y r : Int32} (h : LI m l A0 B0 A B j wt y r) (hc : Cm A0 B0) : Cm A B := fun p hp => by
  rw [h.1.cg (fun _ => sdC_23 hp), h.2.1.g (fun b h1 h2 => sdR_48 hp h1 h2)]
  exact hc p hp
theorem sd_loop {m l : Nat} {A0 B0 : Mem} {wt r : Int32} (hm : m < 6) (hl : l < 32) (hc : Cm A0 B0) (hcn : ∀ p, p < 8 → (gC A0 (23 + p)).1 = 0) (hw : wt = 0 ∨ wt = 1) : ∀ (q n j : Nat) (A B : Mem) (y : Int32), j + q = 8 → q < n → (y = 0 ∨ y = 1) → (r = 0 → y = 1) → LI m l A0 B0 A B j wt y r →
    SE m l A0 B0 (f_X2_send_41 (rT m) (nI l) (if r = 0 then 1 else 0) n y j A) (f_X7_goTo_71 (nI m) (nI l) n j B) := by
  intro q
  induction q with
  | zero =>
    intro n j A B y hj hn hy hry h
    obtain ⟨n, rfl⟩ : ∃ z, n = z + 1 := ⟨n - 1, by omega⟩
    have hp : ∀ p, p < 8 → PL A B m l p := fun p hp => h.2.2.1 p hp (Or.inr (by omega))
    have exl : ix (nI l) = l := ix_n (by omega)
    have w69 := h.2.2.2.2.2.2.2.2
    have w20 := h.2.2.2.2.2.2.2.1
    have r67 := h.2.2.2.2.2.2.1
    have xm : ix (32 * nI m + nI l) = 32 * m + l := x_ml hm (by omega)
    rw [f_X2_send_41, f_X7_goTo_71, if_pos (show (8 : Int32) ≤ nI j from nI_le (a := 8) (by omega) (by omega)), if_pos (show (8 : Int32) ≤ nI j from nI_le (a := 8) (by omega) (by omega)), exl, xm, w69, r67]
    unfold f_X2_send_126 f_X7_goTo_236 f_X7_goTo_241
    rw [exl, xm]
    have idA : ∀ v : Int32, v = wt → uI A (rT m + 6) l 1 = uI (uI A (rT m + 6) l 1) 20 l v := fun v hv => by
      have e : mI (uI A (rT m + 6) l 1) 20 l = v := by
        rw [mI_uI_ne (show (20 : Nat) ≠ rT m + 6 by show 20 ≠ 74 + 271 * m + 6; omega), w20, hv]
      rw [← e, u_self]
    by_cases hr : r = 0
    · have hy1 := hry hr
      have e1 : (if (if r = 0 then wt else orW wt y) = 0 then (if r = 0 then uI (uI B 69 l 1) 67 (32 * m + l) 1 else uI (uI B 69 l 0) 67 (32 * m + l) 1) else uI (uI B 69 l 1) 67 (32 * m + l) 1) = uI (uI B 69 l 1) 67 (32 * m + l) 1 := by
        rw [if_pos hr, if_pos hr]
        split <;> rfl
      rw [e1, if_neg (by rw [hy1]; decide)]
      exact SE.end1 h hp rfl (Or.inr rfl)
    · have e2 : (if (if r = 0 then wt else orW wt y) = 0 then (if r = 0 then uI (uI B 69 l 1) 67 (32 * m + l) 1 else uI (uI B 69 l 0) 67 (32 * m + l) 1) else uI (uI B 69 l 1) 67 (32 * m + l) 1) = uI (uI B 69 l (if orW wt y = 0 then 0 else 1)) 67 (32 * m + l) 1 := by
        rw [if_neg hr, if_neg hr]
        by_cases q : orW wt y = 0
        · rw [if_pos q, if_pos q]
        · rw [if_neg q, if_neg q]
      rw [e2]
      rcases hy with rfl | rfl
      · rw [if_pos rfl, idA wt rfl]
        refine SE.end1 h hp ?_ hw
        rcases hw with rfl | rfl <;> rfl
      · rw [if_neg (by decide)]
        refine SE.end1 h hp ?_ (Or.inr rfl)
        rcases hw with rfl | rfl <;> rfl
  | succ q ih =>
    intro n j A B y hj hn hy hry h
    obtain ⟨n, rfl⟩ : ∃ z, n = z + 1 := ⟨n - 1, by omega⟩
    have hj8 : j < 8 := by omega
    have hcm := h.CM hc j hj8
    have hcz : (gC A (23 + j)).1 = 0 := by rw [h.1.cg (fun _ => sdC_23 hj8)]; exact hcn j hj8
    have xj : ix (nI j) = j := ix_n (by omega)
    have xk := x_lp (l := l) (by omega) hj8
    have xm : ix (32 * nI m + nI l) = 32 * m + l := x_ml hm (by omega)
    have r67 := h.2.2.2.2.2.2.1
    have e23 : 18 + 5 + ix (nI j) = 23 + j := by rw [xj]
    have e15 : rT m + 5 + 10 + ix ((nI l * 8) + nI j) = rT m + 15 + (8 * l + j) := by rw [xk]
    rw [f_X2_send_41, f_X7_goTo_71, if_neg (show ¬ (8 : Int32) ≤ nI j from nI_ge (b := 8) hj8 (by decide)), if_neg (show ¬ (8 : Int32) ≤ nI j from nI_ge (b := 8) hj8 (by decide)), xm, r67, e23, e15]
    by_cases hr : r = 0
    · -- new: the facts go in as they come
      have ew : (if r = 0 then (1 : Int32) else 0) = 1 := if_pos hr
      rw [ew, if_neg (by decide), if_pos hr]
      unfold f_X2_send_c78 f_X2_send_101 f_X7_goTo_c109 f_X7_goTo_206
      rw [cp_C, cp_R, x_cell hm (by omega) hj8, x_48 hj8, hcm.2, toR_eq hcz]
      rw [← ew]
      refine ih n (j + 1) _ _ y (by omega) (by omega) hy hry ?_
      obtain ⟨h1, h2, h3, h4, h5, h6, h7, h8, h9⟩ := h
      have nc : ∀ z : Nat, z < 74 → z ≠ rT m + 15 + (8 * l + j) := fun z hz => by show z ≠ 74 + 271 * m + 15 + (8 * l + j); omega
      refine ⟨h1.pC (fun _ => by simp only [sdC, Bool.or_eq_true, Bool.and_eq_true, decide_eq_true_eq]; exact Or.inr ⟨by omega, by omega⟩), h2.pR (fun b b1 b2 => by simp only [sdR, Bool.or_eq_true, Bool.and_eq_true, decide_eq_true_eq]; exact Or.inl (Or.inl (Or.inl (Or.inl (Or.inr ⟨⟨⟨b1, b2⟩, by omega⟩, by omega⟩))))), fun p hp hq => ?_, fun p hp => ?_, ?_, ?_, ?_, ?_, ?_⟩
      · by_cases e : p = j
        · subst e
          unfold PL
          rw [gC_p, gR_p]
          exact ⟨hcm.1, hcz, rfl⟩
        · have hq' : p < j := by
            rcases hq with hq | hq
            · exact absurd hr hq
            · omega
          unfold PL
          rw [gC_n (by omega), gR_n (by omega)]
          exact h3 p hp (Or.inr hq')
      · unfold CT2
        rw [qcnI (nc 21 (by decide)), qcnI (nc 22 (by decide)), qdoI (by decide), qdoI (by decide)]
        exact h4 p hp
      · rw [qcnI (show rT m ≠ rT m + 15 + (8 * l + j) by omega), qdoI (by decide)]; exact h5
      · rw [qcnI (show rT m + 6 ≠ rT m + 15 + (8 * l + j) by omega)]; exact h6
      · rw [qdoI (by decide)]; exact h7
      · rw [qcnI (nc 20 (by decide))]; exact h8
      · rw [qdoI (by decide)]; exact h9
    · -- reached before: they come together
      have ew : (if r = 0 then (1 : Int32) else 0) = 0 := if_neg hr
      rw [ew, if_pos rfl, if_neg hr]
      obtain ⟨h1, h2, h3, h4, h5, h6, h7, h8, h9⟩ := h
      have hpl := h3 j hj8 (Or.inl hr)
      have hct := h4 j hj8
      have gz : Gd (jn (gC A (rT m + 15 + (8 * l + j))) (gC A (23 + j))) := Gd_jn hpl.1 hcm.1
      have hMO := mg_C (rt := rT m) (c := rT m + 15 + (8 * l + j)) (kk := 8 * l + j) (A := A) (k := (nI l * 8) + nI j) (x := 23 + j) (by show 73 < 74 + 271 * m + 15 + (8 * l + j); omega) (by show 73 < 74 + 271 * m; omega) (by omega) e15 xk rfl rfl gz rfl rfl rfl
      obtain ⟨Q', hQ, hMR⟩ := mg_R (mm := m) (cN := 112 + 8 * (32 * m + l) + j) (kk := 8 * l + j) (l := l) (B := B) (old := gC A (rT m + 15 + (8 * l + j))) (m := nI m) (ln := nI l) (j := j) (R := f_X7_goTo_71 (nI m) (nI l) n) (more := gC A (23 + j)) (by omega) (x_cell hm (by omega) hj8) (ix_n (by omega)) (ix_n (by omega)) (x_pl (by omega) hj8) (by rw [x_48 hj8]; omega) hpl.1 hcm.1 hpl.2.1 hpl.2.2 (by rw [x_48 hj8]; exact hcm.2) hct.1.symm hct.2.symm rfl rfl
      rw [hQ]
      generalize f_X2_merge A (rT m) ((nI l * 8) + nI j) (23 + j) = res at hMO
      obtain ⟨m1, m2, m3, m4, m5, m6⟩ := hMO
      obtain ⟨k1, k2, k3, k4, k5, k6, k7⟩ := hMR
      have hch := y_01 (old := gC A (rT m + 15 + (8 * l + j))) (z := jn (gC A (rT m + 15 + (8 * l + j))) (gC A (23 + j))) (a := mI A 21 (8 * l + j)) (b := mI A 22 (8 * l + j))
      have gmg := Gd_mg (a := mI A 21 (8 * l + j)) (b := mI A 22 (8 * l + j)) hpl.1 gz hpl.2.1
      generalize hnew : mgF (gC A (rT m + 15 + (8 * l + j))) (jn (gC A (rT m + 15 + (8 * l + j))) (gC A (23 + j))) (mI A 21 (8 * l + j)) (mI A 22 (8 * l + j)) = new at m2 k2 gmg
      generalize hchg : mgC (gC A (rT m + 15 + (8 * l + j))) (jn (gC A (rT m + 15 + (8 * l + j))) (gC A (23 + j))) (mI A 21 (8 * l + j)) (mI A 22 (8 * l + j)) = ch at m1 k6 hch
      have er : rT m = 74 + 271 * m := rfl
      have nLI : LI m l A0 B0 res.2 Q' (j + 1) wt (if ch = 0 then y else 1) r := by
        refine ⟨h1.tr (m6.mono (mSC_sd hj8)), h2.tr (k7.mono (mSR_sd hj8)), fun p hp _ => ?_, fun p hp => ?_, ?_, ?_, ?_, ?_, ?_⟩
        · by_cases e : p = j
          · subst e
            unfold PL
            rw [m2, k2]
            exact ⟨gmg.1, gmg.2, rfl⟩
          · have hpp := h3 p hp (Or.inl hr)
            unfold PL
            have f1 : ∀ i, mSC (rT m) (rT m + 15 + (8 * l + j)) (8 * l + j) (rT m + 15 + (8 * l + p)) i = false := fun i => mSC_f (by omega) (by omega) (by omega) (by omega) (by omega)
            have f2 : ∀ b, 53 ≤ b → b ≤ 59 → mSR m (112 + 8 * (32 * m + l) + j) (8 * l + j) l b (112 + 8 * (32 * m + l) + p) = false := fun b b1 b2 => mSR_f (scr_n (by omega) (by omega)) (by omega) (by omega) (by omega) (by omega) (by omega)
            rw [m6.cg f1, k7.g f2]
            exact hpp
        · by_cases e : p = j
          · subst e
            exact ⟨m3.trans k3.symm, m4.trans k4.symm⟩
          · have hpp := h4 p hp
            have g1 : ∀ b, b = 21 ∨ b = 22 → mSC (rT m) (rT m + 15 + (8 * l + j)) (8 * l + j) b (8 * l + p) = false := fun b hb => mSC_f (by omega) (by omega) (by omega) (by omega) (by omega)
            have g2 : ∀ b, b = 70 ∨ b = 71 → mSR m (112 + 8 * (32 * m + l) + j) (8 * l + j) l b (8 * l + p) = false := fun b hb => mSR_f (scr_n (by omega) (by omega)) (by omega) (by omega) (by omega) (by omega) (by omega)
            exact ⟨((m6.2.2 21 _ (g1 21 (Or.inl rfl))).1.trans hpp.1).trans (k7.2.2 70 _ (g2 70 (Or.inl rfl))).1.symm, ((m6.2.2 22 _ (g1 22 (Or.inr rfl))).1.trans hpp.2).trans (k7.2.2 71 _ (g2 71 (Or.inr rfl))).1.symm⟩
        · rw [m5, k5, h5]
        · have e : mSC (rT m) (rT m + 15 + (8 * l + j)) (8 * l + j) (rT m + 6) l = false := mSC_f (by omega) (by omega) (by omega) (by omega) (by omega)
          rw [(m6.2.2 _ _ e).1]; exact h6
        · have e : mSR m (112 + 8 * (32 * m + l) + j) (8 * l + j) l 67 (32 * m + l) = false := mSR_f (scr_n (by omega) (by omega)) (by omega) (by omega) (by omega) (by omega) (by omega)
          rw [(k7.2.2 _ _ e).1]; exact h7
        · have e : mSC (rT m) (rT m + 15 + (8 * l + j)) (8 * l + j) 20 l = false := mSC_f (by omega) (by omega) (by omega) (by omega) (by omega)
          rw [(m6.2.2 _ _ e).1]; exact h8
        · rw [if_neg hr] at h9 ⊢
          rw [k6, h9, orW_y hy hch]
      unfold f_X2_send_c95 f_X2_send_101
      rw [m1]
      by_cases q0 : ch = 0
      · rw [if_pos q0, ← ew]
        rw [if_pos q0] at nLI
        exact ih n (j + 1) _ _ y (by omega) (by omega) hy hry nLI
      · rw [if_neg q0, ← ew]
        rw [if_neg q0] at nLI
        exact ih n (j + 1) _ _ 1 (by omega) (by omega) (Or.inr rfl) (fun _ => rfl) nLI
