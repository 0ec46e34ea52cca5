def tb (x : Int64) (p : Nat) : Bool := x.toBitVec.getLsbD p
theorem tb_ext {x y : Int64} (h : ∀ p, p < 64 → tb x p = tb y p) : x = y := Int64.toBitVec_inj.mp (BitVec.eq_of_getLsbD_eq fun p hp => h p hp)
theorem tb_and (x y : Int64) (p : Nat) : tb (x &&& y) p = (tb x p && tb y p) := by unfold tb; rw [Int64.toBitVec_and, BitVec.getLsbD_and]
theorem tb_or (x y : Int64) (p : Nat) : tb (x ||| y) p = (tb x p || tb y p) := by unfold tb; rw [Int64.toBitVec_or, BitVec.getLsbD_or]
theorem tb_xor (x y : Int64) (p : Nat) : tb (x ^^^ y) p = (tb x p ^^ tb y p) := by unfold tb; rw [Int64.toBitVec_xor, BitVec.getLsbD_xor]
theorem tb_ge {x : Int64} {p : Nat} (h : 64 ≤ p) : tb x p = false := BitVec.getLsbD_of_ge _ _ h
theorem tb_lt {x : Int64} {p : Nat} (h : tb x p = true) : p < 64 := by
  by_cases q : p < 64
  · exact q
  · rw [tb_ge (by omega)] at h; cases h
theorem tb_m1 {p : Nat} (h : p < 64) : tb (-1) p = true := by
  show (BitVec.allOnes 64).getLsbD p = true
  rw [BitVec.getLsbD_allOnes]; simp [h]
theorem tb_0 (p : Nat) : tb 0 p = false := by
  show (0#64).getLsbD p = false
  simp
theorem tb_not (x : Int64) {p : Nat} (h : p < 64) : tb (x ^^^ (-1)) p = !(tb x p) := by rw [tb_xor, tb_m1 h]; simp
theorem tb_uN (x : Int64) (p : Nat) : tb x p = (uN x).testBit p := rfl
theorem js_n {k : Nat} (hk : k < 64) : (((nI k).toInt64 &&& 63).toBitVec.smod 64).toNat = k := by
  have : ∀ k, k < 64 → (((nI k).toInt64 &&& 63).toBitVec.smod 64).toNat = k := by decide +kernel
  exact this k hk
theorem tb_shl (x : Int64) {k : Nat} (hk : k < 64) {p : Nat} (hp : p < 64) : tb (jshl x (nI k)) p = (!decide (p < k) && tb x (p - k)) := by
  show (x.toBitVec <<< (((nI k).toInt64 &&& 63).toBitVec.smod 64).toNat).getLsbD p = _
  rw [js_n hk, BitVec.getLsbD_shiftLeft]
  simp [hp, tb]
theorem tb_shr (x : Int64) {k : Nat} (hk : k < 64) (p : Nat) : tb (jushr x (nI k)) p = tb x (p + k) := by
  rw [tb_uN, tb_uN, uN_js x hk, ← Nat.shiftRight_eq_div_pow, Nat.testBit_shiftRight, Nat.add_comm]
theorem tb_1 (p : Nat) : tb 1 p = decide (p = 0) := by
  show (1#64).getLsbD p = _
  rw [BitVec.getLsbD_one]; simp
theorem tb_b {k : Nat} (hk : k < 64) {p : Nat} (hp : p < 64) : tb (jshl 1 (nI k)) p = decide (p = k) := by
  rw [tb_shl 1 hk hp, tb_1]
  by_cases h : p = k
  · subst h; simp
  · by_cases h2 : p < k
    · simp [h, h2]
    · have : ¬ p - k = 0 := by omega
      simp [h, this]
theorem uN_b {k : Nat} (hk : k < 64) : uN (jshl 1 (nI k)) = 2 ^ k := by
  apply Nat.eq_of_testBit_eq
  intro p
  by_cases hp : p < 64
  · rw [← tb_uN, tb_b hk hp, Nat.testBit_two_pow]
    simp [eq_comm]
  · rw [← tb_uN, tb_ge (by omega), Nat.testBit_two_pow]
    simp; omega
theorem tb_mask {k : Nat} (hk : k < 64) {p : Nat} : tb (jshl 1 (nI k) - 1) p = decide (p < k) := by
  have h1 : uN (jshl 1 (nI k) - 1) = 2 ^ k - 1 := by
    rw [uN_sub, uN_b hk]
    have h2 : uN 1 = 1 := rfl
    have h3 : 2 ^ k < 2 ^ 64 := Nat.pow_lt_pow_right (by decide) hk
    have h4 : 0 < 2 ^ k := Nat.two_pow_pos k
    rw [h2]
    omega
  rw [tb_uN, h1, Nat.testBit_two_pow_sub_one]
theorem tb_least {p : Nat} (hp : p < 64) : tb (-9223372036854775808) p = decide (p = 63) := by
  have : ∀ p, p < 64 → tb (-9223372036854775808) p = decide (p = 63) := by decide +kernel
  exact this p hp
theorem bit_and1 (x : Int64) : (x &&& 1) = if tb x 0 then 1 else 0 := by
  apply tb_ext
  intro p hp
  rw [tb_and, tb_1]
  by_cases h : p = 0
  · subst h
    cases tb x 0 <;> simp [tb_0, tb_1]
  · simp [h]
    split
    · rw [tb_1]; simp [h]
    · rw [tb_0]
theorem bit_at (x : Int64) {k : Nat} (hk : k < 64) : (jushr x (nI k) &&& 1) = if tb x k then 1 else 0 := by
  rw [bit_and1, tb_shr x hk, Nat.zero_add]
theorem bit_0 (x : Int64) {k : Nat} (hk : k < 64) : (jushr x (nI k) &&& 1) = 0 ↔ tb x k = false := by
  rw [bit_at x hk]
  cases tb x k <;> simp
theorem bit_1 (x : Int64) {k : Nat} (hk : k < 64) : (jushr x (nI k) &&& 1) = 1 ↔ tb x k = true := by
  rw [bit_at x hk]
  cases tb x k <;> simp
theorem eq0_iff {x : Int64} : x = 0 ↔ ∀ p, p < 64 → tb x p = false := by
  constructor
  · intro h p _
    rw [h, tb_0]
  · intro h
    exact tb_ext fun p hp => by rw [h p hp, tb_0]
/-- all bits above p -/
theorem tb_above {k : Nat} (hk : k < 63) {p : Nat} (hp : p < 64) : tb (jshl (-1) (nI k + 1)) p = decide (k < p) := by
  rw [← nI_succ, tb_shl _ (by omega) hp]
  by_cases h : k < p
  · rw [tb_m1 (by omega)]; simp [h]; omega
  · have : p < k + 1 := by omega
    simp [h, this]
/-- bits below are smeared down -/
theorem sm_step {x y : Int64} {k : Nat} (hk : k < 64) (h : ∀ q, tb y q = true ↔ ∃ r, q ≤ r ∧ r < q + k ∧ tb x r = true) (q : Nat) : tb (y ||| jushr y (nI k)) q = true ↔ ∃ r, q ≤ r ∧ r < q + 2 * k ∧ tb x r = true := by
  rw [tb_or, tb_shr y hk, Bool.or_eq_true, h, h]
  constructor
  · rintro (⟨r, h1, h2, h3⟩ | ⟨r, h1, h2, h3⟩)
    · exact ⟨r, h1, by omega, h3⟩
    · exact ⟨r, by omega, by omega, h3⟩
  · rintro ⟨r, h1, h2, h3⟩
    by_cases h4 : r < q + k
    · exact Or.inl ⟨r, h1, h4, h3⟩
    · exact Or.inr ⟨r, by omega, by omega, h3⟩
def smr (x : Int64) : Int64 :=
  let a := x ||| jushr x 1
  let b := a ||| jushr a 2
  let c := b ||| jushr b 4
  let d := c ||| jushr c 8
  let e := d ||| jushr d 16
  e ||| jushr e 32
theorem tb_smr (x : Int64) (q : Nat) : tb (smr x) q = true ↔ ∃ r, q ≤ r ∧ tb x r = true := by
  have h0 : ∀ q, tb x q = true ↔ ∃ r, q ≤ r ∧ r < q + 1 ∧ tb x r = true := fun q => ⟨fun h => ⟨q, by omega, by omega, h⟩, fun ⟨r, h1, h2, h3⟩ => by rw [show q = r by omega]; exact h3⟩
  have h1 := fun q => sm_step (k := 1) (by decide) h0 q
  have h2 := fun q => sm_step (k := 2) (by decide) h1 q
  have h3 := fun q => sm_step (k := 4) (by decide) h2 q
  have h4 := fun q => sm_step (k := 8) (by decide) h3 q
  have h5 := fun q => sm_step (k := 16) (by decide) h4 q
  have h6 := fun q => sm_step (k := 32) (by decide) h5 q
  refine (h6 q).trans ⟨fun ⟨r, a, _, c⟩ => ⟨r, a, c⟩, fun ⟨r, a, c⟩ => ⟨r, a, ?_, c⟩⟩
  have := tb_lt c
  omega
/-- the highest bit that is set -/
theorem top_of {x : Int64} (h : ¬ x = 0) : ∃ t, t < 64 ∧ tb x t = true ∧ ∀ r, t < r → tb x r = false := by
  have h1 : ¬ ∀ p, p < 64 → tb x p = false := fun q => h (eq0_iff.mpr q)
  have key : ∀ n, n ≤ 64 → (∀ r, n ≤ r → tb x r = false) → (∃ p, p < n ∧ tb x p = true) → ∃ t, t < 64 ∧ tb x t = true ∧ ∀ r, t < r → tb x r = false := by
    intro n
    induction n with
    | zero => rintro _ _ ⟨p, h, _⟩; omega
    | succ n ih =>
      intro hn h2 h3
      cases e : tb x n with
      | true => exact ⟨n, by omega, e, fun r hr => h2 r (by omega)⟩
      | false =>
        refine ih (by omega) (fun r hr => ?_) ?_
        · by_cases e2 : r = n
          · rw [e2, e]
          · exact h2 r (by omega)
        · obtain ⟨p, h4, h5⟩ := h3
          refine ⟨p, ?_, h5⟩
          have : p ≠ n := fun z => by rw [z, e] at h5; cases h5
          omega
  refine key 64 (by omega) (fun r hr => tb_ge hr) ?_
  apply Classical.byContradiction
  intro q
  apply h1
  intro p hp
  cases e : tb x p with
  | false => rfl
  | true => exact absurd ⟨p, hp, e⟩ q
theorem smr_top {x : Int64} {t : Nat} (ht : t < 64) (h1 : tb x t = true) (h2 : ∀ r, t < r → tb x r = false) (q : Nat) : tb (smr x) q = decide (q ≤ t) := by
  by_cases h : q ≤ t
  · simp only [h, decide_true]
    exact (tb_smr x q).mpr ⟨t, h, h1⟩
  · simp only [h, decide_false]
    cases e : tb (smr x) q with
    | false => rfl
    | true =>
      obtain ⟨r, a, b⟩ := (tb_smr x q).mp e
      rw [h2 r (by omega)] at b
      cases b
theorem smr_bit {x : Int64} {t : Nat} (ht : t < 64) (h1 : tb x t = true) (h2 : ∀ r, t < r → tb x r = false) : smr x ^^^ jushr (smr x) 1 = jshl 1 (nI t) := by
  apply tb_ext
  intro p hp
  have e : jushr (smr x) 1 = jushr (smr x) (nI 1) := rfl
  rw [tb_xor, e, tb_shr _ (by decide), smr_top ht h1 h2, smr_top ht h1 h2, tb_b ht hp]
  by_cases h : p = t
  · subst h; simp
  · by_cases h3 : p ≤ t
    · have : p + 1 ≤ t := by omega
      simp [h, h3, this]
    · have : ¬ p + 1 ≤ t := by omega
      simp [h, h3, this]
/-- the lowest bit that is set -/
theorem low_of {x : Int64} (h : ¬ x = 0) : ∃ t, t < 64 ∧ tb x t = true ∧ ∀ r, r < t → tb x r = false := by
  obtain ⟨t, h1, h2, -⟩ := top_of h
  have key : ∀ n, ∀ t, t < n → t < 64 → tb x t = true → ∃ t, t < 64 ∧ tb x t = true ∧ ∀ r, r < t → tb x r = false := by
    intro n
    induction n with
    | zero => intro t h; omega
    | succ n ih =>
      intro t ht h64 htb
      by_cases q : ∃ r, r < t ∧ tb x r = true
      · obtain ⟨r, h3, h4⟩ := q
        exact ih r (by omega) (by omega) h4
      · refine ⟨t, h64, htb, fun r hr => ?_⟩
        cases e : tb x r with
        | false => rfl
        | true => exact absurd ⟨r, hr, e⟩ q
  exact key (t + 1) t (by omega) h1 h2
theorem neg_bit {x : Int64} {t : Nat} (ht : t < 64) (h1 : tb x t = true) (h2 : ∀ r, r < t → tb x r = false) : x &&& (-x) = jshl 1 (nI t) := by
  apply tb_ext
  intro p hp
  rw [tb_and, tb_b ht hp]
  have e : tb (-x) p = ((-x.toBitVec).getLsbD p) := by unfold tb; rw [Int64.toBitVec_neg]
  rw [e, BitVec.getLsbD_neg]
  by_cases h : p = t
  · subst h
    have : ¬ ∃ j, j < p ∧ x.toBitVec.getLsbD j = true := fun ⟨j, a, b⟩ => by
      have := h2 j a
      unfold tb at this
      rw [this] at b
      cases b
    have h9 : x.toBitVec.getLsbD p = true := h1
    simp [tb, hp, h9, this]
  · by_cases h3 : p < t
    · rw [h2 p h3]; simp [h]
    · have : ∃ j, j < p ∧ x.toBitVec.getLsbD j = true := ⟨t, by omega, h1⟩
      simp [tb, this, h, hp]
