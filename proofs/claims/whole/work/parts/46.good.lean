def toR (x : Fk) : Fk := if x.1 = 0 then x else ZR
theorem toR_0 {l h k v m r : Int64} : toR (0, l, h, k, v, m, r) = (0, l, h, k, v, m, r) := if_pos rfl
theorem toR_Z : toR ZC = ZR := if_neg (by decide)
def mOK (m : Int64) : Prop := 1 ≤ m ∧ m ≤ 2147483647 ∧ tb m 0 = true
/-- what holds of a fact before it is sharpened -/
def Pd (k v m r : Int64) : Prop := v &&& k = v ∧ mOK m ∧ 0 ≤ r ∧ r < m
/-- what holds of a fact that is kept: it is NONE, or .. -/
def Gd (x : Fk) : Prop := x = ZC ∨ ∃ l h k v m r, x = (0, l, h, k, v, m, r) ∧ Pd k v m r ∧ l ≤ h ∧ (l = h → x = cst l)
theorem shL_R : ∀ (n : Nat) (l h k v m r : Int64), shL ZR n l h k v m r = toR (shL ZC n l h k v m r) := by
  intro n
  induction n with
  | zero => intro l h k v m r; rfl
  | succ n ih =>
    intro l h k v m r
    unfold shL
    cases pass1 l h k v m r with
    | none => rfl
    | some q =>
      simp only [Option.elim]
      split
      · rfl
      · split
        · rfl
        · exact ih _ _ _ _ _ _
theorem mOK_1 : mOK 1 := ⟨by decide, by decide, by decide⟩
theorem Gd_Z : Gd ZC := Or.inl rfl
theorem Gd_cst (v : Int64) : Gd (cst v) := Or.inr ⟨v, v, -1, v, 1, 0, rfl, ⟨tb_ext fun p hp => by rw [tb_and, tb_m1 hp, Bool.and_true], mOK_1, by decide, by decide⟩, Int64.le_refl _, fun _ => rfl⟩
theorem Gd_AL : Gd AL := Or.inr ⟨_, _, _, _, _, _, rfl, ⟨by decide, mOK_1, by decide, by decide⟩, by decide, fun h => absurd h (by decide)⟩
theorem pass_le {l h k v m r : Int64} {q : Int64 × Int64 × Int64 × Int64} (hv : v &&& k = v) (e : pass1 l h k v m r = some q) : q.1 ≤ q.2.1 ∧ q.2.2.2 &&& q.2.2.1 = q.2.2.2 := by
  unfold pass1 pasR pasE at e
  split at e
  · cases e
  · split at e
    · cases e
    · split at e
      · cases e
      · split at e
        · cases e
        · split at e
          · split at e
            · cases e
            · rename_i h1
              split at e
              · cases e
                refine ⟨Int64.not_lt.mp h1, ?_⟩
                dsimp only
                generalize f_X6_leastWithBits l k v + upR (f_X6_leastWithBits l k v) m r = l2
                generalize hiB h k v - dnR (hiB h k v) m r = h2
                exact tb_ext fun p hp => by
                  have h2 : tb v p = (tb v p && tb k p) := by rw [← tb_and, hv]
                  simp only [tb_and, tb_or]
                  generalize tb (msk l2 _) p = x
                  cases e1 : tb v p <;> cases e2 : tb k p <;> cases e3 : tb l2 p <;> cases x <;> simp [e1, e2] at h2 ⊢
              · cases e
          · cases e
theorem Gd_sh : ∀ (n : Nat) (l h k v m r : Int64), Pd k v m r → (l ≤ h ∧ ¬ l = h ∨ 0 < n) → Gd (shL ZC n l h k v m r) := by
  intro n
  induction n with
  | zero =>
    intro l h k v m r hp hlh
    rcases hlh with ⟨h1, h2⟩ | h1
    · exact Or.inr ⟨l, h, k, v, m, r, rfl, hp, h1, fun z => absurd z h2⟩
    · omega
  | succ n ih =>
    intro l h k v m r hp _
    unfold shL
    cases e : pass1 l h k v m r with
    | none => exact Gd_Z
    | some q =>
      obtain ⟨h1, h2⟩ := pass_le hp.1 e
      simp only [Option.elim]
      split
      · exact Gd_cst _
      · rename_i h3
        have hp2 : Pd q.2.2.1 q.2.2.2 m r := ⟨h2, hp.2⟩
        split
        · exact Or.inr ⟨_, _, _, _, _, _, rfl, hp2, h1, fun z => absurd z h3⟩
        · exact ih _ _ _ _ _ _ hp2 (Or.inl ⟨h1, h3⟩)
theorem Gd_sh6 {l h k v m r : Int64} (hp : Pd k v m r) : Gd (shL ZC 6 l h k v m r) := Gd_sh 6 l h k v m r hp (Or.inr (by omega))
/-- a fact whose ends have passed each other is NONE -/
theorem sh_over {Z : Fk} {l h k v m r : Int64} {n : Nat} (hlt : h < l) : shL Z (n + 1) l h k v m r = Z := by
  unfold shL pass1
  by_cases e1 : f_X6_leastWithBits l k v < l
  · rw [if_pos e1]; rfl
  · rw [if_neg e1]
    by_cases e2 : h < hiB h k v
    · rw [if_pos e2]; rfl
    · rw [if_neg e2]
      have h1 := Int64.not_lt.mp e1
      have h2 := Int64.not_lt.mp e2
      rw [if_pos (Int64.lt_of_le_of_lt h2 (Int64.lt_of_lt_of_le hlt h1))]
      rfl
/-! numbers: constants, moduli, rests -/
def isC (x : Fk) : Prop := x.1 = 0 ∧ x.2.1 = x.2.2.1
def cmo (x : Fk) : Int64 := if x.1 = 0 then (if x.2.1 = x.2.2.1 then 0 else x.2.2.2.2.2.1) else x.2.2.2.2.2.1
def cre (x : Fk) : Int64 := if x.1 = 0 then (if x.2.1 = x.2.2.1 then x.2.1 else x.2.2.2.2.2.2) else x.2.2.2.2.2.2
theorem ic_C (M : Mem) (a : Nat) : f_X1_isConstant M a = if (gC M a).1 = 0 then (if (gC M a).2.1 = (gC M a).2.2.1 then 1 else 0) else 0 := rfl
theorem ic_0 {M : Mem} {a : Nat} : f_X1_isConstant M a = 0 ↔ ¬ isC (gC M a) := by
  rw [ic_C]
  unfold isC
  by_cases h1 : (gC M a).1 = 0
  · by_cases h2 : (gC M a).2.1 = (gC M a).2.2.1
    · simp [h1, h2]
    · simp [h1, h2]
  · simp [h1]
theorem in_R (M : Mem) (f : Int32) : f_X7_isNumber M f = if (gR M (ix f)).1 = 0 then (if (gR M (ix f)).2.1 = (gR M (ix f)).2.2.1 then 1 else 0) else 0 := rfl
theorem in_0 {M : Mem} {f : Int32} : f_X7_isNumber M f = 0 ↔ ¬ isC (gR M (ix f)) := by
  rw [in_R]
  unfold isC
  by_cases h1 : (gR M (ix f)).1 = 0
  · by_cases h2 : (gR M (ix f)).2.1 = (gR M (ix f)).2.2.1
    · simp [h1, h2]
    · simp [h1, h2]
  · simp [h1]
theorem cm_C {M : Mem} {a : Nat} : f_X1_countedModulus M a = cmo (gC M a) := by
  unfold f_X1_countedModulus f_X1_countedModulus_15 cmo
  rw [ic_C]
  by_cases h1 : (gC M a).1 = 0
  · by_cases h2 : (gC M a).2.1 = (gC M a).2.2.1
    · simp [h1, h2]
    · simp [h1, h2]; rfl
  · simp [h1]; rfl
theorem cr_C {M : Mem} {a : Nat} : f_X1_countedRest M a = cre (gC M a) := by
  unfold f_X1_countedRest f_X1_countedRest_18 cre
  rw [ic_C]
  by_cases h1 : (gC M a).1 = 0
  · by_cases h2 : (gC M a).2.1 = (gC M a).2.2.1
    · simp [h1, h2]; exact h2
    · simp [h1, h2]; rfl
  · simp [h1]; rfl
theorem bo_R {M : Mem} {f : Int32} : f_X7_byOf M f = cmo (gR M (ix f)) := by
  unfold f_X7_byOf f_X7_byOf_18 cmo
  rw [in_R]
  by_cases h1 : (gR M (ix f)).1 = 0
  · by_cases h2 : (gR M (ix f)).2.1 = (gR M (ix f)).2.2.1
    · simp [h1, h2]
    · simp [h1, h2]; rfl
  · simp [h1]; rfl
theorem ro_R {M : Mem} {f : Int32} : f_X7_restOf M f = cre (gR M (ix f)) := by
  unfold f_X7_restOf f_X7_restOf_23 cre
  rw [in_R]
  by_cases h1 : (gR M (ix f)).1 = 0
  · by_cases h2 : (gR M (ix f)).2.1 = (gR M (ix f)).2.2.1
    · simp [h1, h2]; exact h2
    · simp [h1, h2]; rfl
  · simp [h1]; rfl
theorem gcd_cong {g : Nat} {a b : Int} (h : (g : Int) ∣ a - b) : Nat.gcd g a.natAbs = Nat.gcd g b.natAbs := by
  have key : ∀ a b : Int, (g : Int) ∣ a - b → Nat.gcd g a.natAbs ∣ Nat.gcd g b.natAbs := by
    intro a b h
    apply Nat.dvd_gcd (Nat.gcd_dvd_left _ _)
    have h1 : ((Nat.gcd g a.natAbs : Nat) : Int) ∣ a := Int.ofNat_dvd_left.mpr (Nat.gcd_dvd_right _ _)
    have h2 : ((Nat.gcd g a.natAbs : Nat) : Int) ∣ a - b := Int.dvd_trans (Int.natCast_dvd_natCast.mpr (Nat.gcd_dvd_left _ _)) h
    have h3 := Int.dvd_sub h1 h2
    rw [show a - (a - b) = b by omega] at h3
    exact Int.ofNat_dvd_left.mp h3
  refine Nat.dvd_antisymm (key a b h) (key b a ?_)
  have := Int.dvd_neg.mpr h
  rwa [show -(a - b) = b - a by omega] at this
/-- how far two numbers are apart, without a sign -/
theorem uN_far {x y : Int64} (h : x ≤ y) : (uN (y - x) : Int) = y.toInt - x.toInt := by
  rw [Int64.le_iff_toInt_le] at h
  have h1 := uN_int x
  have h2 := uN_int y
  have h3 := uN_lt x
  have h4 := uN_lt y
  rw [uN_sub]
  split at h1 <;> split at h2 <;> omega
theorem uN_abs {x : Int64} (h : ¬ x = -9223372036854775808) : uN (jabs x) = x.toInt.natAbs ∧ 0 ≤ jabs x := by
  have h1 := inR_i x
  have h9 : x.toInt ≠ -9223372036854775808 := fun z => h (Int64.toInt_inj.mp z)
  have h0 : (0 : Int64).toInt = 0 := rfl
  have key : (jabs x).toInt = (x.toInt.natAbs : Int) := by
    unfold jabs
    by_cases e : 0 < x
    · rw [if_pos e]
      rw [Int64.lt_iff_toInt_lt] at e
      omega
    · rw [if_neg e, Int64.toInt_neg]
      rw [Int64.lt_iff_toInt_lt] at e
      have := h1.1
      have := h1.2
      rw [bm ⟨by omega, by omega⟩]
      omega
  have h2 : 0 ≤ jabs x := by rw [Int64.le_iff_toInt_le, key, h0]; omega
  have h3 := uN_i h2
  exact ⟨by omega, h2⟩
