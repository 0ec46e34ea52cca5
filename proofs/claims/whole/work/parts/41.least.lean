/-- leastWithBits, written with smr -/
theorem lwb_eq (a b c : Int64) : f_X6_leastWithBits a b c = if ((a ^^^ c) &&& b) = 0 then a else f_X6_leastWithBits_c91 a b c (smr ((a ^^^ c) &&& b)) := rfl
theorem uN_bits {x y : Int64} {p : Nat} (hp : p < 64) (h : ∀ q, p < q → tb x q = tb y q) (hx : tb x p = false) (hy : tb y p = true) : uN x < uN y := by
  have h1 : uN x / 2 ^ (p + 1) = uN y / 2 ^ (p + 1) := by
    apply Nat.eq_of_testBit_eq
    intro i
    rw [← Nat.shiftRight_eq_div_pow, ← Nat.shiftRight_eq_div_pow, Nat.testBit_shiftRight, Nat.testBit_shiftRight, ← tb_uN, ← tb_uN]
    exact h _ (by omega)
  have h2 : uN x / 2 ^ p % 2 = 0 := by
    have := hx
    rw [tb_uN, Nat.testBit_eq_decide_div_mod_eq] at this
    simp at this
    exact this
  have h3 : uN y / 2 ^ p % 2 = 1 := by
    have := hy
    rw [tb_uN, Nat.testBit_eq_decide_div_mod_eq] at this
    simpa using this
  have h4 : uN x / 2 ^ p / 2 = uN y / 2 ^ p / 2 := by
    rw [Nat.div_div_eq_div_mul, Nat.div_div_eq_div_mul, ← Nat.pow_succ, h1]
  have h5 : uN x / 2 ^ p < uN y / 2 ^ p := by omega
  exact Nat.lt_of_not_le fun q => absurd (Nat.div_le_div_right (c := 2 ^ p) q) (by omega)
/-- the place that the reference seeks -/
def plc (u w b : Int64) (p : Nat) : Prop := tb u p = false ∧ (tb b p = false ∨ tb w p = true) ∧ ∀ q, p < q → ((tb u q ^^ tb w q) && tb b q) = false
def rsd (u w : Int64) (p : Nat) : Int64 := (((u &&& ((jshl 1 (nI p) - 1) ^^^ (-1))) ||| jshl 1 (nI p)) ||| (w &&& (jshl 1 (nI p) - 1))) ^^^ (-9223372036854775808)
theorem tb_rsd {u w : Int64} {p q : Nat} (hp : p < 64) (hq : q < 64) : tb (rsd u w p) q = ((if p < q then tb u q else if q = p then true else tb w q) ^^ decide (q = 63)) := by
  unfold rsd
  rw [tb_xor, tb_least hq, tb_or, tb_or, tb_and, tb_and, tb_not _ hq, tb_mask hp, tb_b hp hq]
  congr 1
  by_cases h1 : p < q
  · have : ¬ q < p := by omega
    have h2 : ¬ q = p := by omega
    simp [h1, this, h2]
  · by_cases h2 : q = p
    · subst h2; simp
    · have : q < p := by omega
      simp [h1, h2, this]
section UP
variable (v b w : Int64)
theorem wr_bit {q : Nat} (hq : q < 64) : tb ((v ^^^ w) &&& b) q = ((tb (v ^^^ (-9223372036854775808)) q ^^ tb (w ^^^ (b &&& (-9223372036854775808))) q) && tb b q) := by
  rw [tb_and, tb_xor, tb_xor, tb_xor, tb_and, tb_least hq]
  by_cases h : q = 63
  · simp only [h, decide_true]
    cases tb v 63 <;> cases tb w 63 <;> cases tb b 63 <;> rfl
  · simp only [h, decide_false]
    cases tb v q <;> cases tb w q <;> cases tb b q <;> rfl
/-- the class's answer where some bit is wrong -/
theorem lwb_wrong (h : ¬ ((v ^^^ w) &&& b) = 0) :
    (∃ p, p < 64 ∧ plc (v ^^^ (-9223372036854775808)) (w ^^^ (b &&& (-9223372036854775808))) b p ∧ (∀ r, r < p → ¬ plc (v ^^^ (-9223372036854775808)) (w ^^^ (b &&& (-9223372036854775808))) b r) ∧ f_X6_leastWithBits v b w = rsd (v ^^^ (-9223372036854775808)) (w ^^^ (b &&& (-9223372036854775808))) p) ∨
    ((∀ p, p < 64 → ¬ plc (v ^^^ (-9223372036854775808)) (w ^^^ (b &&& (-9223372036854775808))) b p) ∧ f_X6_leastWithBits v b w = -9223372036854775808 ∧ ∃ q, q < 64 ∧ tb (v ^^^ (-9223372036854775808)) q = true) := by
  obtain ⟨t, ht, h1, h2⟩ := top_of h
  have hb := smr_bit ht h1 h2
  rw [lwb_eq, if_neg h]
  unfold f_X6_leastWithBits_c91
  rw [hb]
  have hw := fun (q : Nat) (hq : q < 64) => wr_bit v b w hq
  have htw := hw t ht
  rw [h1] at htw
  generalize hu : v ^^^ (-9223372036854775808) = u at hw htw ⊢
  generalize hx : w ^^^ (b &&& (-9223372036854775808)) = x at hw htw ⊢
  have hab : ∀ q, t < q → ((tb u q ^^ tb x q) && tb b q) = false := by
    intro q hq
    by_cases h64 : q < 64
    · rw [← hw q h64, h2 q hq]
    · rw [tb_ge (x := b) (by omega)]; simp
  have hlow : ∀ r, r < t → ¬ plc u x b r := by
    intro r hr ⟨_, _, h3⟩
    rw [h3 t hr] at htw
    cases htw
  by_cases h3 : (x &&& jshl 1 (nI t)) = 0
  · rw [if_pos h3]
    have h4 : tb x t = false := by
      have := eq0_iff.mp h3 t ht
      rw [tb_and, tb_b ht ht] at this
      simpa using this
    rw [h4] at htw
    have h5 : tb u t = true ∧ tb b t = true := by
      cases e1 : tb u t <;> cases e2 : tb b t <;> simp [e1, e2] at htw ⊢
    have hfr : ∀ q, q < 64 → tb (((u ^^^ (-1)) &&& (b ^^^ (-1))) &&& (smr ((v ^^^ w) &&& b) ^^^ (-1))) q = (!tb u q && !tb b q && decide (t < q)) := by
      intro q hq
      rw [tb_and, tb_and, tb_not _ hq, tb_not _ hq, tb_not _ hq, smr_top ht h1 h2]
      by_cases e : q ≤ t
      · have : ¬ t < q := by omega
        simp [e, this]
      · have : t < q := by omega
        simp [e, this]
    have hp_iff : ∀ p, p < 64 → t < p → (plc u x b p ↔ (!tb u p && !tb b p) = true) := by
      intro p hp htp
      constructor
      · rintro ⟨g1, g2, g3⟩
        have g4 := hab p htp
        rw [g1] at g4 ⊢
        cases e : tb b p with
        | false => rfl
        | true =>
          rw [e] at g4 g2
          rcases g2 with g2 | g2
          · cases g2
          · rw [g2] at g4
            cases g4
      · intro g
        cases e1 : tb u p <;> cases e2 : tb b p <;> simp [e1, e2] at g
        exact ⟨e1, Or.inl e2, fun q hq => hab q (by omega)⟩
    have hnt : ¬ plc u x b t := fun g => by rw [g.1] at h5; cases h5.1
    unfold f_X6_leastWithBits_c131
    by_cases h6 : (((u ^^^ (-1)) &&& (b ^^^ (-1))) &&& (smr ((v ^^^ w) &&& b) ^^^ (-1))) = 0
    · rw [h6]
      refine Or.inr ⟨fun p hp g => ?_, rfl, t, ht, h5.1⟩
      have h7 := eq0_iff.mp h6 p hp
      rw [hfr p hp] at h7
      by_cases e : t < p
      · have h8 := (hp_iff p hp e).mp g
        rw [h8] at h7
        simp [e] at h7
      · by_cases e2 : p = t
        · rw [e2] at g; exact hnt g
        · exact hlow p (by omega) g
    · obtain ⟨p, hp, g1, g2⟩ := low_of h6
      rw [neg_bit hp g1 g2]
      have hne : ¬ jshl 1 (nI p) = 0 := fun z => by
        have := eq0_iff.mp z p hp
        rw [tb_b hp hp] at this
        simp at this
      rw [if_neg hne]
      rw [hfr p hp] at g1
      have htp : t < p := by
        by_cases e : t < p
        · exact e
        · simp [e] at g1
      refine Or.inl ⟨p, hp, (hp_iff p hp htp).mpr (by simpa [htp] using g1), fun r hr g => ?_, ?_⟩
      · by_cases e : t < r
        · have h8 := (hp_iff r (by omega) e).mp g
          have h9 := g2 r hr
          rw [hfr r (by omega), h8] at h9
          simp [e] at h9
        · by_cases e2 : r = t
          · rw [e2] at g; exact hnt g
          · exact hlow r (by omega) g
      · unfold f_X6_leastWithBits_150
        rw [hu, hx]
        rfl
  · rw [if_neg h3]
    have h4 : tb x t = true := by
      cases e : tb x t with
      | true => rfl
      | false =>
        refine absurd (eq0_iff.mpr fun p hp => ?_) h3
        rw [tb_and, tb_b ht hp]
        by_cases e2 : p = t
        · rw [e2, e]; rfl
        · simp [e2]
    rw [h4] at htw
    have h5 : tb u t = false := by
      cases e1 : tb u t <;> cases e2 : tb b t <;> simp [e1, e2] at htw ⊢
    refine Or.inl ⟨t, ht, ⟨h5, Or.inr h4, hab⟩, hlow, ?_⟩
    unfold f_X6_leastWithBits_150
    rw [hu, hx]
    rfl
end UP
section UP2
variable (v b w : Int64)
theorem rsd_ref {u x : Int64} {p : Nat} (hp : p < 64) (ab : Int64) (hab : ∀ q, q < 64 → tb ab q = decide (p < q)) : (((u &&& ab) ||| jshl 1 (nI p)) ||| (x &&& (jshl 1 (nI p) - 1))) ^^^ (-9223372036854775808) = rsd u x p := by
  apply tb_ext
  intro q hq
  rw [tb_rsd hp hq, tb_xor, tb_least hq, tb_or, tb_or, tb_and, tb_and, tb_mask hp, tb_b hp hq, hab q hq]
  congr 1
  by_cases h1 : p < q
  · have : ¬ q < p := by omega
    have h2 : ¬ q = p := by omega
    simp [h1, this, h2]
  · by_cases h2 : q = p
    · subst h2; simp
    · have : q < p := by omega
      simp [h1, h2, this]
theorem plc_ab {u x : Int64} {p : Nat} (ab : Int64) (hab : ∀ q, q < 64 → tb ab q = decide (p < q)) : (((u ^^^ x) &&& b) &&& ab) = 0 ↔ ∀ q, p < q → ((tb u q ^^ tb x q) && tb b q) = false := by
  rw [eq0_iff]
  constructor
  · intro h q hq
    by_cases h64 : q < 64
    · have := h q h64
      rw [tb_and, tb_and, tb_xor, hab q h64] at this
      simpa [hq] using this
    · rw [tb_ge (x := b) (by omega)]; simp
  · intro h q hq
    rw [tb_and, tb_and, tb_xor, hab q hq]
    by_cases h1 : p < q
    · rw [h q h1]; rfl
    · simp [h1]
theorem up_111 {j : Nat} (hj : j < 64) (R : Nat → Mem → Int64 × Mem) (w0 w1 : Int32) (ab : Int64) (M : Mem) (hab : ∀ q, q < 64 → tb ab q = decide (j < q)) (C : Prop) (hC : C ↔ (¬ w0 = 0 ∧ ¬ w1 = 0 ∧ ∀ q, j < q → ((tb (v ^^^ (-9223372036854775808)) q ^^ tb (w ^^^ (b &&& (-9223372036854775808))) q) && tb b q) = false)) :
    (C → f_X7_up_111 v b w j R w0 w1 ab M = (rsd (v ^^^ (-9223372036854775808)) (w ^^^ (b &&& (-9223372036854775808))) j, M)) ∧ (¬ C → f_X7_up_111 v b w j R w0 w1 ab M = R (j + 1) M) := by
  unfold f_X7_up_111 f_X7_up_163
  by_cases e0 : w0 = 0
  · rw [if_pos e0]
    exact ⟨fun h => absurd e0 (hC.mp h).1, fun _ => rfl⟩
  · rw [if_neg e0]
    by_cases e1 : w1 = 0
    · rw [if_pos e1]
      exact ⟨fun h => absurd e1 (hC.mp h).2.1, fun _ => rfl⟩
    · rw [if_neg e1]
      by_cases e2 : ((((v ^^^ (-9223372036854775808)) ^^^ (w ^^^ (b &&& (-9223372036854775808)))) &&& b) &&& ab) = 0
      · rw [if_pos e2, rsd_ref hj ab hab]
        exact ⟨fun _ => rfl, fun h => absurd (hC.mpr ⟨e0, e1, (plc_ab b ab hab).mp e2⟩) h⟩
      · rw [if_neg e2]
        exact ⟨fun h => absurd ((plc_ab b ab hab).mpr (hC.mp h).2.2) e2, fun _ => rfl⟩
theorem up_90 {j : Nat} (hj : j < 64) (R : Nat → Mem → Int64 × Mem) (w0 w1 : Int32) (M : Mem) (C : Prop) (hC : C ↔ (¬ w0 = 0 ∧ ¬ w1 = 0 ∧ ∀ q, j < q → ((tb (v ^^^ (-9223372036854775808)) q ^^ tb (w ^^^ (b &&& (-9223372036854775808))) q) && tb b q) = false)) :
    (C → f_X7_up_90 v b w j R w0 w1 M = (rsd (v ^^^ (-9223372036854775808)) (w ^^^ (b &&& (-9223372036854775808))) j, M)) ∧ (¬ C → f_X7_up_90 v b w j R w0 w1 M = R (j + 1) M) := by
  unfold f_X7_up_90
  by_cases e : nI j = 63
  · have e2 : j = 63 := (nI_eq (b := 63) (by omega) (by decide)).mp e
    rw [if_pos e]
    exact up_111 v b w hj R w0 w1 0 M (fun q hq => by rw [tb_0]; simp; omega) C hC
  · have e2 : j < 63 := by
      have : j ≠ 63 := fun z => e (by rw [z]; rfl)
      omega
    rw [if_neg e]
    exact up_111 v b w hj R w0 w1 _ M (fun q hq => tb_above e2 hq) C hC
theorem up_60 {j : Nat} (hj : j < 64) (R : Nat → Mem → Int64 × Mem) (w0 : Int32) (M : Mem) (hw0 : ¬ w0 = 0 ↔ tb (v ^^^ (-9223372036854775808)) j = false) :
    (plc (v ^^^ (-9223372036854775808)) (w ^^^ (b &&& (-9223372036854775808))) b j → f_X7_up_60 v b w j R w0 M = (rsd (v ^^^ (-9223372036854775808)) (w ^^^ (b &&& (-9223372036854775808))) j, M)) ∧ (¬ plc (v ^^^ (-9223372036854775808)) (w ^^^ (b &&& (-9223372036854775808))) b j → f_X7_up_60 v b w j R w0 M = R (j + 1) M) := by
  have key : ∀ w1 : Int32, (¬ w1 = 0 ↔ (tb b j = false ∨ tb (w ^^^ (b &&& (-9223372036854775808))) j = true)) → (plc (v ^^^ (-9223372036854775808)) (w ^^^ (b &&& (-9223372036854775808))) b j → f_X7_up_90 v b w j R w0 w1 M = (rsd (v ^^^ (-9223372036854775808)) (w ^^^ (b &&& (-9223372036854775808))) j, M)) ∧ (¬ plc (v ^^^ (-9223372036854775808)) (w ^^^ (b &&& (-9223372036854775808))) b j → f_X7_up_90 v b w j R w0 w1 M = R (j + 1) M) := by
    intro w1 hw1
    exact up_90 v b w hj R w0 w1 M _ ⟨fun e => ⟨hw0.mpr e.1, hw1.mpr e.2.1, e.2.2⟩, fun h => ⟨hw0.mp h.1, hw1.mp h.2.1, h.2.2⟩⟩
  unfold f_X7_up_60 f_X7_up_85
  by_cases e1 : ((jushr b (nI j)) &&& 1) = 0
  · rw [if_pos e1]
    exact key 1 ⟨fun _ => Or.inl ((bit_0 b hj).mp e1), fun _ => by decide⟩
  · rw [if_neg e1]
    by_cases e2 : ((jushr (w ^^^ (b &&& (-9223372036854775808))) (nI j)) &&& 1) = 1
    · rw [if_pos e2]
      exact key 1 ⟨fun _ => Or.inr ((bit_1 _ hj).mp e2), fun _ => by decide⟩
    · rw [if_neg e2]
      exact key 0 ⟨fun h => absurd rfl h, fun h => by
        rcases h with h | h
        · exact absurd ((bit_0 b hj).mpr h) e1
        · exact absurd ((bit_1 _ hj).mpr h) e2⟩
theorem up_loop : ∀ (n j : Nat) (M : Mem), j ≤ 64 → 64 - j < n → (∀ r, r < j → ¬ plc (v ^^^ (-9223372036854775808)) (w ^^^ (b &&& (-9223372036854775808))) b r) →
    (∃ p, p < 64 ∧ plc (v ^^^ (-9223372036854775808)) (w ^^^ (b &&& (-9223372036854775808))) b p ∧ (∀ r, r < p → ¬ plc (v ^^^ (-9223372036854775808)) (w ^^^ (b &&& (-9223372036854775808))) b r) ∧ f_X7_up_36 v b w n j M = (rsd (v ^^^ (-9223372036854775808)) (w ^^^ (b &&& (-9223372036854775808))) p, M)) ∨
    ((∀ p, p < 64 → ¬ plc (v ^^^ (-9223372036854775808)) (w ^^^ (b &&& (-9223372036854775808))) b p) ∧ f_X7_up_36 v b w n j M = (v, uI M 52 7 0)) := by
  intro n
  induction n with
  | zero => intro j M _ h; omega
  | succ n ih =>
    intro j M hj hn hr
    by_cases e : 64 ≤ j
    · right
      refine ⟨fun p hp => hr p (by omega), ?_⟩
      rw [f_X7_up_36, if_pos (show (64 : Int32) ≤ nI j from nI_le (a := 64) e (by omega))]
    · have hj' : j < 64 := by omega
      have step : (plc (v ^^^ (-9223372036854775808)) (w ^^^ (b &&& (-9223372036854775808))) b j → f_X7_up_36 v b w (n + 1) j M = (rsd (v ^^^ (-9223372036854775808)) (w ^^^ (b &&& (-9223372036854775808))) j, M)) ∧ (¬ plc (v ^^^ (-9223372036854775808)) (w ^^^ (b &&& (-9223372036854775808))) b j → f_X7_up_36 v b w (n + 1) j M = f_X7_up_36 v b w n (j + 1) M) := by
        rw [f_X7_up_36, if_neg (show ¬ (64 : Int32) ≤ nI j from nI_ge (b := 64) hj' (by decide))]
        by_cases e1 : ((jushr (v ^^^ (-9223372036854775808)) (nI j)) &&& 1) = 0
        · rw [if_pos e1]
          exact up_60 v b w hj' _ 1 M ⟨fun _ => (bit_0 _ hj').mp e1, fun _ => by decide⟩
        · rw [if_neg e1]
          exact up_60 v b w hj' _ 0 M ⟨fun h => absurd rfl h, fun h => absurd ((bit_0 _ hj').mpr h) e1⟩
      by_cases e2 : plc (v ^^^ (-9223372036854775808)) (w ^^^ (b &&& (-9223372036854775808))) b j
      · left
        exact ⟨j, hj', e2, hr, step.1 e2⟩
      · rw [step.2 e2]
        exact ih (j + 1) M (by omega) (by omega) (fun r h => by
          by_cases e3 : r = j
          · rw [e3]; exact e2
          · exact hr r (by omega))
theorem and_eq_iff (hw : w &&& b = w) : (v &&& b) = w ↔ ((v ^^^ w) &&& b) = 0 := by
  rw [eq0_iff]
  constructor
  · intro h p hp
    rw [← h, tb_and, tb_xor, tb_and]
    cases tb v p <;> cases tb b p <;> rfl
  · intro h
    apply tb_ext
    intro p hp
    have h1 := h p hp
    have h2 : tb w p = (tb w p && tb b p) := by rw [← tb_and, hw]
    rw [tb_and, tb_xor] at h1
    rw [tb_and, h2]
    cases e1 : tb v p <;> cases e2 : tb w p <;> cases e3 : tb b p <;> simp [e1, e2, e3] at h1 h2 ⊢
/-- THE LEAST NUMBER WITH BITS: the reference's and the class's; where there is none the class answers one below -/
theorem up_lwb (hw : w &&& b = w) (M : Mem) :
    (f_X7_up M v b w = (f_X6_leastWithBits v b w, uI M 52 7 1) ∧ v ≤ f_X6_leastWithBits v b w) ∨
    (f_X7_up M v b w = (v, uI (uI M 52 7 1) 52 7 0) ∧ f_X6_leastWithBits v b w < v) := by
  unfold f_X7_up
  by_cases e : (v &&& b) = w
  · left
    have e2 := (and_eq_iff v b w hw).mp e
    rw [if_pos e, lwb_eq, if_pos e2]
    exact ⟨rfl, Int64.le_refl _⟩
  · have e2 : ¬ ((v ^^^ w) &&& b) = 0 := fun z => e ((and_eq_iff v b w hw).mpr z)
    rw [if_neg e]
    rcases lwb_wrong v b w e2 with ⟨p, hp, g1, g2, g3⟩ | ⟨g1, g2, q, hq, g3⟩
    · rcases up_loop v b w 65 0 (uI M 52 7 1) (by omega) (by omega) (fun r h => by omega) with ⟨p', hp', k1, k2, k3⟩ | ⟨k1, _⟩
      · left
        have : p = p' := by
          by_cases c1 : p < p'
          · exact absurd g1 (k2 p c1)
          · by_cases c2 : p' < p
            · exact absurd k1 (g2 p' c2)
            · omega
        subst this
        refine ⟨by rw [k3, g3], ?_⟩
        have h9 : uN (v ^^^ (-9223372036854775808)) < uN (f_X6_leastWithBits v b w ^^^ (-9223372036854775808)) := by
          refine uN_bits hp (fun r hr => ?_) g1.1 ?_
          · by_cases h64 : r < 64
            · rw [g3, tb_xor (rsd _ _ _) (-9223372036854775808), tb_rsd hp h64, if_pos hr, tb_least h64]
              rw [Bool.xor_assoc, Bool.xor_self, Bool.xor_false]
            · rw [tb_ge (by omega), tb_ge (by omega)]
          · rw [g3, tb_xor, tb_rsd hp hp, if_neg (by omega), if_pos rfl, tb_least hp, Bool.xor_assoc, Bool.xor_self, Bool.xor_false]
        have h8 := (uN_le _ _).mpr (Nat.le_of_lt h9)
        have xx : ∀ z : Int64, (z ^^^ (-9223372036854775808)) ^^^ (-9223372036854775808) = z := fun z => by
          apply tb_ext
          intro r hr
          rw [tb_xor, tb_xor, Bool.xor_assoc, Bool.xor_self, Bool.xor_false]
        rw [xx, xx] at h8
        exact h8
      · exact absurd g1 (k1 p hp)
    · rcases up_loop v b w 65 0 (uI M 52 7 1) (by omega) (by omega) (fun r h => by omega) with ⟨p', hp', k1, k2, k3⟩ | ⟨k1, k2⟩
      · exact absurd k1 (g1 p' hp')
      · right
        refine ⟨k2, ?_⟩
        rw [g2]
        have h9 : ¬ v = -9223372036854775808 := fun z => by
          rw [z, tb_xor, Bool.xor_self] at g3
          cases g3
        have h8 := Int64.minValue_le v
        have h7 : v.toInt ≠ (-9223372036854775808 : Int64).toInt := fun z => h9 (Int64.toInt_inj.mp z)
        have h6 : (-9223372036854775808 : Int64).toInt ≤ v.toInt := Int64.le_iff_toInt_le.mp h8
        rw [Int64.lt_iff_toInt_lt]
        omega
end UP2
