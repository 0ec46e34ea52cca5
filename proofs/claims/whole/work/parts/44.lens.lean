/-- what is known of a number: none, low, high, known, values, modulus, rest -/
abbrev Fk : Type := Int32 × Int64 × Int64 × Int64 × Int64 × Int64 × Int64
def gC (M : Mem) (a : Nat) : Fk := (mI M a 0, mL M a 1, mL M a 2, mL M a 3, mL M a 4, mL M a 5, mL M a 6)
def pC (M : Mem) (a : Nat) (x : Fk) : Mem := uL (uL (uL (uL (uL (uL (uI M a 0 x.1) a 1 x.2.1) a 2 x.2.2.1) a 3 x.2.2.2.1) a 4 x.2.2.2.2.1) a 5 x.2.2.2.2.2.1) a 6 x.2.2.2.2.2.2
def gR (M : Mem) (f : Nat) : Fk := (mI M 53 f, mL M 54 f, mL M 55 f, mL M 56 f, mL M 57 f, mL M 58 f, mL M 59 f)
def pR (M : Mem) (f : Nat) (x : Fk) : Mem := uL (uL (uL (uL (uL (uL (uI M 53 f x.1) 54 f x.2.1) 55 f x.2.2.1) 56 f x.2.2.2.1) 57 f x.2.2.2.2.1) 58 f x.2.2.2.2.2.1) 59 f x.2.2.2.2.2.2
theorem mem_ext {M N : Mem} (h1 : M.1 = N.1) (h2 : M.2.1 = N.2.1) (h3 : ∀ b j, mI M b j = mI N b j) (h4 : ∀ b j, mL M b j = mL N b j) : M = N :=
  Prod.ext h1 (Prod.ext h2 (Prod.ext (funext fun b => funext fun j => h3 b j) (funext fun b => funext fun j => h4 b j)))
theorem r_I {M : Mem} {a k b j : Nat} {v : Int32} : mI (uI M a k v) b j = if b = a ∧ j = k then v else mI M b j := rfl
theorem r_L {M : Mem} {a k b j : Nat} {v : Int64} : mL (uL M a k v) b j = if b = a ∧ j = k then v else mL M b j := rfl
theorem r_IL {M : Mem} {a k b j : Nat} {v : Int64} : mI (uL M a k v) b j = mI M b j := rfl
theorem r_LI {M : Mem} {a k b j : Nat} {v : Int32} : mL (uI M a k v) b j = mL M b j := rfl
theorem r_B (M : Mem) (a k : Nat) (v : Int64) : (uL M a k v).2.1 = M.2.1 := rfl
/-! reading -/
theorem pC_L {M : Mem} {a : Nat} {x : Fk} {b j : Nat} : mL (pC M a x) b j = if b = a ∧ j = 1 then x.2.1 else if b = a ∧ j = 2 then x.2.2.1 else if b = a ∧ j = 3 then x.2.2.2.1 else if b = a ∧ j = 4 then x.2.2.2.2.1 else if b = a ∧ j = 5 then x.2.2.2.2.2.1 else if b = a ∧ j = 6 then x.2.2.2.2.2.2 else mL M b j := by
  unfold pC
  simp only [r_L, r_LI]
  by_cases hb : b = a
  · subst hb
    by_cases h1 : j = 1
    · subst h1; simp
    · by_cases h2 : j = 2
      · subst h2; simp
      · by_cases h3 : j = 3
        · subst h3; simp
        · by_cases h4 : j = 4
          · subst h4; simp
          · by_cases h5 : j = 5
            · subst h5; simp
            · by_cases h6 : j = 6
              · subst h6; simp
              · simp [h1, h2, h3, h4, h5, h6]
  · simp [hb]
theorem pC_I {M : Mem} {a : Nat} {x : Fk} {b j : Nat} : mI (pC M a x) b j = if b = a ∧ j = 0 then x.1 else mI M b j := rfl
theorem rc0 {M : Mem} {a : Nat} {x : Fk} : mI (pC M a x) a 0 = x.1 := by rw [pC_I, if_pos ⟨rfl, rfl⟩]
theorem rc1 {M : Mem} {a : Nat} {x : Fk} : mL (pC M a x) a 1 = x.2.1 := by rw [pC_L]; simp
theorem rc2 {M : Mem} {a : Nat} {x : Fk} : mL (pC M a x) a 2 = x.2.2.1 := by rw [pC_L]; simp
theorem rc3 {M : Mem} {a : Nat} {x : Fk} : mL (pC M a x) a 3 = x.2.2.2.1 := by rw [pC_L]; simp
theorem rc4 {M : Mem} {a : Nat} {x : Fk} : mL (pC M a x) a 4 = x.2.2.2.2.1 := by rw [pC_L]; simp
theorem rc5 {M : Mem} {a : Nat} {x : Fk} : mL (pC M a x) a 5 = x.2.2.2.2.2.1 := by rw [pC_L]; simp
theorem rc6 {M : Mem} {a : Nat} {x : Fk} : mL (pC M a x) a 6 = x.2.2.2.2.2.2 := by rw [pC_L]; simp
theorem qcnL {M : Mem} {a : Nat} {x : Fk} {b j : Nat} (h : b ≠ a) : mL (pC M a x) b j = mL M b j := by rw [pC_L]; simp [h]
theorem qcnI {M : Mem} {a : Nat} {x : Fk} {b j : Nat} (h : b ≠ a) : mI (pC M a x) b j = mI M b j := by rw [pC_I]; simp [h]
theorem gC_p {M : Mem} {a : Nat} {x : Fk} : gC (pC M a x) a = x := by unfold gC; rw [rc0, rc1, rc2, rc3, rc4, rc5, rc6]
theorem gC_n {M : Mem} {a : Nat} {x : Fk} {b : Nat} (h : b ≠ a) : gC (pC M a x) b = gC M b := by unfold gC; rw [qcnI h, qcnL h, qcnL h, qcnL h, qcnL h, qcnL h, qcnL h]
theorem pC_p {M : Mem} {a : Nat} {x y : Fk} : pC (pC M a x) a y = pC M a y := by
  refine mem_ext rfl rfl (fun b j => ?_) (fun b j => ?_)
  · simp only [pC_I]; by_cases h : b = a ∧ j = 0 <;> simp [h]
  · simp only [pC_L]
    by_cases h : b = a
    · by_cases h1 : j = 1
      · simp [h, h1]
      · by_cases h2 : j = 2
        · simp [h, h2]
        · by_cases h3 : j = 3
          · simp [h, h3]
          · by_cases h4 : j = 4
            · simp [h, h4]
            · by_cases h5 : j = 5
              · simp [h, h5]
              · by_cases h6 : j = 6
                · simp [h, h6]
                · simp [h1, h2, h3, h4, h5, h6]
    · simp [h]
theorem pC_g {M : Mem} {a : Nat} : pC M a (gC M a) = M := by
  refine mem_ext rfl rfl (fun b j => ?_) (fun b j => ?_)
  · simp only [pC_I]
    split
    · rename_i h; rw [h.1, h.2]; rfl
    · rfl
  · simp only [pC_L]
    repeat' split
    all_goals first | (rename_i h; rw [h.1, h.2]; rfl) | rfl
/-- what a write of one long leaves -/
theorem pC_w {M : Mem} {a : Nat} {x : Fk} {k : Nat} {v : Int64} {y : Fk} (h0 : y.1 = x.1) (h1 : y.2.1 = if k = 1 then v else x.2.1) (h2 : y.2.2.1 = if k = 2 then v else x.2.2.1) (h3 : y.2.2.2.1 = if k = 3 then v else x.2.2.2.1) (h4 : y.2.2.2.2.1 = if k = 4 then v else x.2.2.2.2.1) (h5 : y.2.2.2.2.2.1 = if k = 5 then v else x.2.2.2.2.2.1) (h6 : y.2.2.2.2.2.2 = if k = 6 then v else x.2.2.2.2.2.2) (hk : 1 ≤ k) (hk6 : k ≤ 6) : uL (pC M a x) a k v = pC M a y := by
  refine mem_ext rfl rfl (fun b j => ?_) (fun b j => ?_)
  · simp only [r_IL, pC_I, h0]
  · simp only [r_L, pC_L, h1, h2, h3, h4, h5, h6]
    by_cases h : b = a
    · by_cases e : j = k
      · subst e
        rcases (show j = 1 ∨ j = 2 ∨ j = 3 ∨ j = 4 ∨ j = 5 ∨ j = 6 by omega) with q | q | q | q | q | q <;> simp [h, q]
      · have e' : ¬ k = j := fun z => e z.symm
        rcases (show k = 1 ∨ k = 2 ∨ k = 3 ∨ k = 4 ∨ k = 5 ∨ k = 6 by omega) with q | q | q | q | q | q <;> subst q <;> simp [h, e]
    · simp [h]
theorem wc1 {M : Mem} {a : Nat} {n : Int32} {l h k v m r z : Int64} : uL (pC M a (n, l, h, k, v, m, r)) a 1 z = pC M a (n, z, h, k, v, m, r) := pC_w rfl rfl rfl rfl rfl rfl rfl (by decide) (by decide)
theorem wc2 {M : Mem} {a : Nat} {n : Int32} {l h k v m r z : Int64} : uL (pC M a (n, l, h, k, v, m, r)) a 2 z = pC M a (n, l, z, k, v, m, r) := pC_w rfl rfl rfl rfl rfl rfl rfl (by decide) (by decide)
theorem wc3 {M : Mem} {a : Nat} {n : Int32} {l h k v m r z : Int64} : uL (pC M a (n, l, h, k, v, m, r)) a 3 z = pC M a (n, l, h, z, v, m, r) := pC_w rfl rfl rfl rfl rfl rfl rfl (by decide) (by decide)
theorem wc4 {M : Mem} {a : Nat} {n : Int32} {l h k v m r z : Int64} : uL (pC M a (n, l, h, k, v, m, r)) a 4 z = pC M a (n, l, h, k, z, m, r) := pC_w rfl rfl rfl rfl rfl rfl rfl (by decide) (by decide)
theorem wc5 {M : Mem} {a : Nat} {n : Int32} {l h k v m r z : Int64} : uL (pC M a (n, l, h, k, v, m, r)) a 5 z = pC M a (n, l, h, k, v, z, r) := pC_w rfl rfl rfl rfl rfl rfl rfl (by decide) (by decide)
theorem wc6 {M : Mem} {a : Nat} {n : Int32} {l h k v m r z : Int64} : uL (pC M a (n, l, h, k, v, m, r)) a 6 z = pC M a (n, l, h, k, v, m, z) := pC_w rfl rfl rfl rfl rfl rfl rfl (by decide) (by decide)
theorem wc0 {M : Mem} {a : Nat} {n z : Int32} {l h k v m r : Int64} : uI (pC M a (n, l, h, k, v, m, r)) a 0 z = pC M a (z, l, h, k, v, m, r) := by
  refine mem_ext rfl rfl (fun b j => ?_) (fun b j => ?_)
  · simp only [r_I, pC_I]
    by_cases q : b = a ∧ j = 0 <;> simp [q]
  · simp only [r_LI, pC_L]
/-! the same of the reference's cells -/
theorem pR_L {M : Mem} {f : Nat} {x : Fk} {b j : Nat} : mL (pR M f x) b j = if b = 54 ∧ j = f then x.2.1 else if b = 55 ∧ j = f then x.2.2.1 else if b = 56 ∧ j = f then x.2.2.2.1 else if b = 57 ∧ j = f then x.2.2.2.2.1 else if b = 58 ∧ j = f then x.2.2.2.2.2.1 else if b = 59 ∧ j = f then x.2.2.2.2.2.2 else mL M b j := by
  unfold pR
  simp only [r_L, r_LI]
  by_cases hb : j = f
  · subst hb
    by_cases h1 : b = 54
    · subst h1; simp
    · by_cases h2 : b = 55
      · subst h2; simp
      · by_cases h3 : b = 56
        · subst h3; simp
        · by_cases h4 : b = 57
          · subst h4; simp
          · by_cases h5 : b = 58
            · subst h5; simp
            · by_cases h6 : b = 59
              · subst h6; simp
              · simp [h1, h2, h3, h4, h5, h6]
  · simp [hb]
theorem pR_I {M : Mem} {f : Nat} {x : Fk} {b j : Nat} : mI (pR M f x) b j = if b = 53 ∧ j = f then x.1 else mI M b j := rfl
theorem rr0 {M : Mem} {f : Nat} {x : Fk} : mI (pR M f x) 53 f = x.1 := by rw [pR_I, if_pos ⟨rfl, rfl⟩]
theorem rr1 {M : Mem} {f : Nat} {x : Fk} : mL (pR M f x) 54 f = x.2.1 := by rw [pR_L]; simp
theorem rr2 {M : Mem} {f : Nat} {x : Fk} : mL (pR M f x) 55 f = x.2.2.1 := by rw [pR_L]; simp
theorem rr3 {M : Mem} {f : Nat} {x : Fk} : mL (pR M f x) 56 f = x.2.2.2.1 := by rw [pR_L]; simp
theorem rr4 {M : Mem} {f : Nat} {x : Fk} : mL (pR M f x) 57 f = x.2.2.2.2.1 := by rw [pR_L]; simp
theorem rr5 {M : Mem} {f : Nat} {x : Fk} : mL (pR M f x) 58 f = x.2.2.2.2.2.1 := by rw [pR_L]; simp
theorem rr6 {M : Mem} {f : Nat} {x : Fk} : mL (pR M f x) 59 f = x.2.2.2.2.2.2 := by rw [pR_L]; simp
theorem qdnL {M : Mem} {f : Nat} {x : Fk} {b j : Nat} (h : j ≠ f) : mL (pR M f x) b j = mL M b j := by rw [pR_L]; simp [h]
theorem qdnI {M : Mem} {f : Nat} {x : Fk} {b j : Nat} (h : j ≠ f) : mI (pR M f x) b j = mI M b j := by rw [pR_I]; simp [h]
theorem qdoL {M : Mem} {f : Nat} {x : Fk} {b j : Nat} (h : b < 53 ∨ 59 < b) : mL (pR M f x) b j = mL M b j := by
  rw [pR_L]
  have h1 : b ≠ 54 := by omega
  have h2 : b ≠ 55 := by omega
  have h3 : b ≠ 56 := by omega
  have h4 : b ≠ 57 := by omega
  have h5 : b ≠ 58 := by omega
  have h6 : b ≠ 59 := by omega
  simp [h1, h2, h3, h4, h5, h6]
theorem qdoI {M : Mem} {f : Nat} {x : Fk} {b j : Nat} (h : b < 53 ∨ 59 < b) : mI (pR M f x) b j = mI M b j := by
  rw [pR_I, if_neg (fun q => by omega)]
theorem gR_p {M : Mem} {f : Nat} {x : Fk} : gR (pR M f x) f = x := by unfold gR; rw [rr0, rr1, rr2, rr3, rr4, rr5, rr6]
theorem gR_n {M : Mem} {f : Nat} {x : Fk} {g : Nat} (h : g ≠ f) : gR (pR M f x) g = gR M g := by unfold gR; rw [qdnI h, qdnL h, qdnL h, qdnL h, qdnL h, qdnL h, qdnL h]
theorem pR_p {M : Mem} {f : Nat} {x y : Fk} : pR (pR M f x) f y = pR M f y := by
  refine mem_ext rfl rfl (fun b j => ?_) (fun b j => ?_)
  · simp only [pR_I]; by_cases h : b = 53 ∧ j = f <;> simp [h]
  · simp only [pR_L]
    by_cases h : j = f
    · by_cases h1 : b = 54
      · simp [h, h1]
      · by_cases h2 : b = 55
        · simp [h, h2]
        · by_cases h3 : b = 56
          · simp [h, h3]
          · by_cases h4 : b = 57
            · simp [h, h4]
            · by_cases h5 : b = 58
              · simp [h, h5]
              · by_cases h6 : b = 59
                · simp [h, h6]
                · simp [h1, h2, h3, h4, h5, h6]
    · simp [h]
theorem pR_g {M : Mem} {f : Nat} : pR M f (gR M f) = M := by
  refine mem_ext rfl rfl (fun b j => ?_) (fun b j => ?_)
  · simp only [pR_I]
    split
    · rename_i h; rw [h.1, h.2]; rfl
    · rfl
  · simp only [pR_L]
    repeat' split
    all_goals first | (rename_i h; rw [h.1, h.2]; rfl) | rfl
theorem pR_w {M : Mem} {f : Nat} {x : Fk} {k : Nat} {v : Int64} {y : Fk} (h0 : y.1 = x.1) (h1 : y.2.1 = if k = 54 then v else x.2.1) (h2 : y.2.2.1 = if k = 55 then v else x.2.2.1) (h3 : y.2.2.2.1 = if k = 56 then v else x.2.2.2.1) (h4 : y.2.2.2.2.1 = if k = 57 then v else x.2.2.2.2.1) (h5 : y.2.2.2.2.2.1 = if k = 58 then v else x.2.2.2.2.2.1) (h6 : y.2.2.2.2.2.2 = if k = 59 then v else x.2.2.2.2.2.2) (hk : 54 ≤ k) (hk6 : k ≤ 59) : uL (pR M f x) k f v = pR M f y := by
  refine mem_ext rfl rfl (fun b j => ?_) (fun b j => ?_)
  · simp only [r_IL, pR_I, h0]
  · simp only [r_L, pR_L, h1, h2, h3, h4, h5, h6]
    by_cases h : j = f
    · by_cases e : b = k
      · subst e
        rcases (show b = 54 ∨ b = 55 ∨ b = 56 ∨ b = 57 ∨ b = 58 ∨ b = 59 by omega) with q | q | q | q | q | q <;> simp [h, q]
      · have e' : ¬ k = b := fun z => e z.symm
        rcases (show k = 54 ∨ k = 55 ∨ k = 56 ∨ k = 57 ∨ k = 58 ∨ k = 59 by omega) with q | q | q | q | q | q <;> subst q <;> simp [h, e]
    · simp [h]
theorem wr1 {M : Mem} {f : Nat} {n : Int32} {l h k v m r z : Int64} : uL (pR M f (n, l, h, k, v, m, r)) 54 f z = pR M f (n, z, h, k, v, m, r) := pR_w rfl rfl rfl rfl rfl rfl rfl (by decide) (by decide)
theorem wr2 {M : Mem} {f : Nat} {n : Int32} {l h k v m r z : Int64} : uL (pR M f (n, l, h, k, v, m, r)) 55 f z = pR M f (n, l, z, k, v, m, r) := pR_w rfl rfl rfl rfl rfl rfl rfl (by decide) (by decide)
theorem wr3 {M : Mem} {f : Nat} {n : Int32} {l h k v m r z : Int64} : uL (pR M f (n, l, h, k, v, m, r)) 56 f z = pR M f (n, l, h, z, v, m, r) := pR_w rfl rfl rfl rfl rfl rfl rfl (by decide) (by decide)
theorem wr4 {M : Mem} {f : Nat} {n : Int32} {l h k v m r z : Int64} : uL (pR M f (n, l, h, k, v, m, r)) 57 f z = pR M f (n, l, h, k, z, m, r) := pR_w rfl rfl rfl rfl rfl rfl rfl (by decide) (by decide)
theorem wr5 {M : Mem} {f : Nat} {n : Int32} {l h k v m r z : Int64} : uL (pR M f (n, l, h, k, v, m, r)) 58 f z = pR M f (n, l, h, k, v, z, r) := pR_w rfl rfl rfl rfl rfl rfl rfl (by decide) (by decide)
theorem wr6 {M : Mem} {f : Nat} {n : Int32} {l h k v m r z : Int64} : uL (pR M f (n, l, h, k, v, m, r)) 59 f z = pR M f (n, l, h, k, v, m, z) := pR_w rfl rfl rfl rfl rfl rfl rfl (by decide) (by decide)
theorem wr0 {M : Mem} {f : Nat} {n z : Int32} {l h k v m r : Int64} : uI (pR M f (n, l, h, k, v, m, r)) 53 f z = pR M f (z, l, h, k, v, m, r) := by
  refine mem_ext rfl rfl (fun b j => ?_) (fun b j => ?_)
  · simp only [r_I, pR_I]
    by_cases q : b = 53 ∧ j = f <;> simp [q]
  · simp only [r_LI, pR_L]
/-- the reference's own flags 'is' (7) and 'givenUp' (8) -/
theorem pR_u {M : Mem} {f : Nat} {x : Fk} {k : Nat} {i : Int32} : pR (uI M 52 k i) f x = uI (pR M f x) 52 k i := by
  refine mem_ext rfl rfl (fun b j => ?_) (fun b j => rfl)
  simp only [pR_I, r_I]
  by_cases q : b = 53
  · subst q; simp
  · simp [q]
theorem u_u {M : Mem} {a k : Nat} {i j : Int32} : uI (uI M a k i) a k j = uI M a k j := by
  refine mem_ext rfl rfl (fun b q => ?_) (fun b j => rfl)
  simp only [r_I]
  split <;> rfl
theorem gR_u {M : Mem} {f k : Nat} {i : Int32} : gR (uI M 52 k i) f = gR M f := by
  unfold gR
  simp [r_I, r_LI]
