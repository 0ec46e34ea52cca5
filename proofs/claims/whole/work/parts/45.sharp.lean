def ZC : Fk := (1, 0, 0, 0, 0, 0, 0)
def ZR : Fk := (1, -9223372036854775808, 9223372036854775807, 0, 0, 1, 0)
def AL : Fk := (0, -9223372036854775808, 9223372036854775807, 0, 0, 1, 0)
def cst (v : Int64) : Fk := (0, v, v, -1, v, 1, 0)
def hiB (h k v : Int64) : Int64 := f_X6_leastWithBits (h ^^^ (-1)) k (k &&& (v ^^^ (-1))) ^^^ (-1)
def upR (l m r : Int64) : Int64 := f_X6_restBy (r - f_X6_restBy l m) m
def dnR (h m r : Int64) : Int64 := f_X6_restBy (f_X6_restBy h m - r) m
def msk (l h : Int64) : Int64 := smr (l ^^^ h) ^^^ (-1)
/-- one time of sharpening: what comes of low, high, known, values -/
def pasE (l h k v : Int64) : Option (Int64 × Int64 × Int64 × Int64) := if (((l ^^^ v) &&& k) &&& msk l h) = 0 then some (l, h, k ||| msk l h, v ||| (l &&& msk l h)) else none
def pasR (l h k v m r : Int64) : Option (Int64 × Int64 × Int64 × Int64) :=
  if 9223372036854775807 - upR l m r < l then none else if -9223372036854775808 + dnR h m r ≤ h then (if h - dnR h m r < l + upR l m r then none else pasE (l + upR l m r) (h - dnR h m r) k v) else none
def pass1 (l h k v m r : Int64) : Option (Int64 × Int64 × Int64 × Int64) :=
  if f_X6_leastWithBits l k v < l then none else if h < hiB h k v then none else if hiB h k v < f_X6_leastWithBits l k v then none else pasR (f_X6_leastWithBits l k v) (hiB h k v) k v m r
def shL (Z : Fk) : Nat → Int64 → Int64 → Int64 → Int64 → Int64 → Int64 → Fk
  | 0, l, h, k, v, m, r => (0, l, h, k, v, m, r)
  | n + 1, l, h, k, v, m, r => (pass1 l h k v m r).elim Z (fun q => if q.1 = q.2.1 then cst q.1 else if q.1 = l ∧ q.2.1 = h ∧ q.2.2.1 = k then (0, q.1, q.2.1, q.2.2.1, q.2.2.2, m, r) else shL Z n q.1 q.2.1 q.2.2.1 q.2.2.2 m r)
section CL
variable {M : Mem} {a : Nat} {n : Int32} {l h k v m r : Int64}
theorem mn_C {x : Fk} : f_X1_makeNone (pC M a x) a = pC M a ZC := by
  show uI (pC (pC M a x) a (0, 0, 0, 0, 0, 0, 0)) a 0 1 = _
  rw [pC_p, wc0]
  rfl
theorem mc_C {x : Fk} {z : Int64} : f_X1_makeConstant (pC M a x) a z = pC M a (cst z) := by
  show pC (pC M a x) a (0, z, z, -1, z, 1, 0) = _
  rw [pC_p]
  rfl
theorem ma_C {x : Fk} : f_X1_makeAll (pC M a x) a = pC M a AL := by
  show pC (pC M a x) a AL = _
  rw [pC_p]
theorem fb_C : f_X1_fitBits (pC M a (n, l, h, k, v, m, r)) a = (if f_X6_leastWithBits l k v < l then 0 else if h < hiB h k v then 0 else if hiB h k v < f_X6_leastWithBits l k v then 0 else 1, pC M a (n, f_X6_leastWithBits l k v, hiB h k v, k, v, m, r)) := by
  unfold f_X1_fitBits f_X1_fitBits_c65 f_X1_fitBits_99 f_X1_fitBits_100
  simp only [rc1, rc2, rc3, rc4, wc1, wc2]
  show (if f_X6_leastWithBits l k v < l then (0, _) else if h < hiB h k v then (0, _) else if hiB h k v < f_X6_leastWithBits l k v then (0, _) else (1, _)) = _
  repeat' split
  all_goals rfl
theorem fr_C : f_X1_fitRest (pC M a (n, l, h, k, v, m, r)) a = if 9223372036854775807 - upR l m r < l then (0, pC M a (n, l, h, k, v, m, r)) else if -9223372036854775808 + dnR h m r ≤ h then (if h - dnR h m r < l + upR l m r then (0, pC M a (n, l + upR l m r, h - dnR h m r, k, v, m, r)) else (1, pC M a (n, l + upR l m r, h - dnR h m r, k, v, m, r))) else (0, pC M a (n, l, h, k, v, m, r)) := by
  unfold f_X1_fitRest f_X1_fitRest_c24 f_X1_fitRest_c48 f_X1_fitRest_74 f_X1_fitRest_113
  simp only [rc1, rc2, rc5, rc6, wc1, wc2]
  rfl
theorem lb_C : f_X1_learnBits (pC M a (n, l, h, k, v, m, r)) a = if (((l ^^^ v) &&& k) &&& msk l h) = 0 then (1, pC M a (n, l, h, k ||| msk l h, v ||| (l &&& msk l h), m, r)) else (0, pC M a (n, l, h, k, v, m, r)) := by
  unfold f_X1_learnBits f_X1_learnBits_c16 f_X1_learnBits_c28 f_X1_learnBits_c42 f_X1_learnBits_c103
  simp only [rc1, rc2, rc3, rc4, wc3, wc4]
  rfl
theorem sh_none (n : Nat) (j : Nat) : f_X1_sharpen_2 a n j (pC M a ZC) = pC M a ZC := by
  cases n with
  | zero => rfl
  | succ n =>
    rw [f_X1_sharpen_2, rc0]
    split
    · rfl
    · rw [if_neg (by decide)]; rfl
theorem sh_loop : ∀ (q n j : Nat) (l h k v : Int64), j + q = 6 → q < n → f_X1_sharpen_2 a n j (pC M a (0, l, h, k, v, m, r)) = pC M a (shL ZC q l h k v m r) := by
  intro q
  induction q with
  | zero =>
    intro n j l h k v hj hn
    obtain ⟨n, rfl⟩ : ∃ z, n = z + 1 := ⟨n - 1, by omega⟩
    rw [f_X1_sharpen_2, if_pos (show (6 : Int32) ≤ nI j from nI_le (a := 6) (by omega) (by omega))]
    rfl
  | succ q ih =>
    intro n j l h k v hj hn
    obtain ⟨n, rfl⟩ : ∃ z, n = z + 1 := ⟨n - 1, by omega⟩
    have hnone : ∀ x : Fk, f_X1_sharpen_53 a j (f_X1_sharpen_2 a n) (pC M a x) = pC M a ZC := fun x => by
      show f_X1_sharpen_2 a n (j + 1) (f_X1_makeNone (pC M a x) a) = _
      rw [mn_C, sh_none]
    rw [f_X1_sharpen_2, if_neg (show ¬ (6 : Int32) ≤ nI j from nI_ge (b := 6) (by omega) (by decide)), rc0, if_pos rfl, fb_C]
    unfold shL pass1 f_X1_sharpen_c36
    dsimp only
    by_cases e1 : f_X6_leastWithBits l k v < l
    · rw [if_pos e1, if_pos e1, if_pos rfl, hnone]; rfl
    · rw [if_neg e1, if_neg e1]
      by_cases e2 : h < hiB h k v
      · rw [if_pos e2, if_pos e2, if_pos rfl, hnone]; rfl
      · rw [if_neg e2, if_neg e2]
        by_cases e3 : hiB h k v < f_X6_leastWithBits l k v
        · rw [if_pos e3, if_pos e3, if_pos rfl, hnone]; rfl
        · rw [if_neg e3, if_neg e3, if_neg (by decide), fr_C]
          unfold pasR f_X1_sharpen_c43
          generalize f_X6_leastWithBits l k v = l1
          generalize hiB h k v = h1
          by_cases e4 : 9223372036854775807 - upR l1 m r < l1
          · rw [if_pos e4, if_pos e4, if_pos rfl, hnone]; rfl
          · rw [if_neg e4, if_neg e4]
            by_cases e5 : -9223372036854775808 + dnR h1 m r ≤ h1
            · rw [if_pos e5, if_pos e5]
              by_cases e6 : h1 - dnR h1 m r < l1 + upR l1 m r
              · rw [if_pos e6, if_pos e6, if_pos rfl, hnone]; rfl
              · rw [if_neg e6, if_neg e6, if_neg (show ¬ (1 : Int32) = 0 by decide), lb_C]
                generalize l1 + upR l1 m r = l2
                generalize h1 - dnR h1 m r = h2
                unfold pasE f_X1_sharpen_c50
                by_cases e7 : (((l2 ^^^ v) &&& k) &&& msk l2 h2) = 0
                · rw [if_pos e7, if_pos e7, if_neg (show ¬ (1 : Int32) = 0 by decide)]
                  simp only [rc1, rc2, rc3, Option.elim]
                  by_cases e8 : l2 = h2
                  · rw [if_pos e8, if_pos e8, mc_C]; rfl
                  · rw [if_neg e8, if_neg e8]
                    have hR : f_X1_sharpen_111 j (f_X1_sharpen_2 a n) (pC M a (0, l2, h2, k ||| msk l2 h2, v ||| (l2 &&& msk l2 h2), m, r)) = pC M a (shL ZC q l2 h2 (k ||| msk l2 h2) (v ||| (l2 &&& msk l2 h2)) m r) := ih n (j + 1) _ _ _ _ (by omega) (by omega)
                    rw [hR]
                    by_cases f1 : l2 = l
                    · rw [if_pos f1]
                      by_cases f2 : h2 = h
                      · rw [if_pos f2]
                        by_cases f3 : k ||| msk l2 h2 = k
                        · rw [if_pos f3, if_pos ⟨f1, f2, f3⟩]
                        · rw [if_neg f3, if_neg (fun z => f3 z.2.2)]
                      · rw [if_neg f2, if_neg (fun z => f2 z.2.1)]
                    · rw [if_neg f1, if_neg (fun z => f1 z.1)]
                · rw [if_neg e7, if_neg e7, if_pos rfl, hnone]; rfl
            · rw [if_neg e5, if_neg e5, if_pos rfl, hnone]; rfl
/-- SHARPEN, of the class -/
theorem sh_C : f_X1_sharpen (pC M a (0, l, h, k, v, m, r)) a = pC M a (shL ZC 6 l h k v m r) := sh_loop 6 7 0 l h k v rfl (by omega)
end CL
section RF
variable {M : Mem} {f : Int32} {n i : Int32} {l h k v m r : Int64}
theorem no_R {x : Fk} : f_X7_nothing (uI (pR M (ix f) x) 52 7 i) f = uI (pR M (ix f) ZR) 52 7 i := by
  show uI (pR (uI (pR M (ix f) x) 52 7 i) (ix f) (0, -9223372036854775808, 9223372036854775807, 0, 0, 1, 0)) 53 (ix f) 1 = _
  rw [pR_u, pR_p]
  have e : ∀ N : Mem, uI (uI N 52 7 i) 53 (ix f) 1 = uI (uI N 53 (ix f) 1) 52 7 i := fun N => by
    refine mem_ext rfl rfl (fun b j => ?_) (fun b j => rfl)
    simp only [r_I]
    by_cases q : b = 53
    · subst q; simp
    · simp [q]
  rw [e, wr0]
  rfl
theorem nu_R {x : Fk} {z : Int64} : f_X7_number (uI (pR M (ix f) x) 52 7 i) f z = uI (pR M (ix f) (cst z)) 52 7 i := by
  show pR (uI (pR M (ix f) x) 52 7 i) (ix f) (cst z) = _
  rw [pR_u, pR_p]
theorem u_L {M : Mem} {k b j : Nat} {i : Int32} : mL (uI M 52 k i) b j = mL M b j := rfl
theorem uw {N : Mem} {b j : Nat} {z : Int64} : uL (uI N 52 7 i) b j z = uI (uL N b j z) 52 7 i := rfl
theorem dn_eq (N : Mem) (hv : v &&& k = v) : (f_X7_down N h k v = (hiB h k v, uI N 52 7 1) ∧ hiB h k v ≤ h) ∨ ((f_X7_down N h k v).2 = uI (uI N 52 7 1) 52 7 0 ∧ (f_X7_down N h k v).1 = h ∧ h < hiB h k v) := by
  have hw : ((v ^^^ (-1)) &&& k) &&& k = ((v ^^^ (-1)) &&& k) := tb_ext fun p hp => by
    rw [tb_and, tb_and]
    cases tb (v ^^^ (-1)) p <;> cases tb k p <;> rfl
  have e0 : (v ^^^ (-1)) &&& k = k &&& (v ^^^ (-1)) := tb_ext fun p hp => by
    rw [tb_and, tb_and, Bool.and_comm]
  have nn : ∀ x : Int64, (x ^^^ (-1)) ^^^ (-1) = x := fun x => tb_ext fun p hp => by rw [tb_not _ hp, tb_not _ hp, Bool.not_not]
  have nle : ∀ x y : Int64, x ≤ y ↔ (y ^^^ (-1)) ≤ (x ^^^ (-1)) := fun x y => by
    have ex : ∀ z : Int64, (z ^^^ (-1)).toInt = -1 - z.toInt := fun z => by
      have : z ^^^ (-1) = ~~~z := tb_ext fun p hp => by
        rw [tb_not _ hp]
        unfold tb
        rw [Int64.toBitVec_not, BitVec.getLsbD_not]
        simp [hp]
      rw [this, Int64.not_eq_neg_add, Int64.toInt_sub, Int64.toInt_neg]
      have := inR_i z
      have h1 := this.1
      have h2 := this.2
      have e1 : (1 : Int64).toInt = 1 := rfl
      rw [e1, Int.bmod_sub_bmod]
      rw [bm ⟨by omega, by omega⟩]
      omega
    rw [Int64.le_iff_toInt_le, Int64.le_iff_toInt_le, ex, ex]
    omega
  unfold f_X7_down f_X7_down_c18 hiB
  rcases up_lwb (h ^^^ (-1)) k ((v ^^^ (-1)) &&& k) hw N with ⟨h1, h2⟩ | ⟨h1, h2⟩
  · left
    rw [h1, e0]
    rw [e0] at h2
    refine ⟨rfl, ?_⟩
    rw [nle, nn]
    exact h2
  · right
    rw [h1]
    rw [e0] at h2
    refine ⟨rfl, nn h, ?_⟩
    rw [← Int64.not_le, nle, nn, Int64.not_le]
    exact h2
theorem bb_R (hv : v &&& k = v) : ((¬ f_X6_leastWithBits l k v < l ∧ ¬ h < hiB h k v ∧ ¬ hiB h k v < f_X6_leastWithBits l k v) ∧ f_X7_byBits (pR M (ix f) (n, l, h, k, v, m, r)) f = (1, uI (pR M (ix f) (n, f_X6_leastWithBits l k v, hiB h k v, k, v, m, r)) 52 7 1)) ∨
    (¬ (¬ f_X6_leastWithBits l k v < l ∧ ¬ h < hiB h k v ∧ ¬ hiB h k v < f_X6_leastWithBits l k v) ∧ ∃ x i, f_X7_byBits (pR M (ix f) (n, l, h, k, v, m, r)) f = (0, uI (pR M (ix f) x) 52 7 i)) := by
  unfold f_X7_byBits
  simp only [rr1, rr3, rr4]
  rcases up_lwb l k v hv (pR M (ix f) (n, l, h, k, v, m, r)) with ⟨h1, h2⟩ | ⟨h1, h2⟩
  · rw [h1]
    unfold f_X7_byBits_c27
    dsimp only
    rw [uw, wr1, u_L, u_L, u_L, rr2, rr3, rr4]
    rcases dn_eq (h := h) (uI (pR M (ix f) (n, f_X6_leastWithBits l k v, h, k, v, m, r)) 52 7 1) hv with ⟨g1, g2⟩ | ⟨g1, g2, g3⟩
    · rw [g1]
      unfold f_X7_byBits_c60 f_X7_byBits_92 f_X7_byBits_93
      dsimp only
      rw [u_u, uw, uw, wr1, wr2, mI_uI, mI_uI, if_neg (by decide), if_neg (by decide), u_L, u_L, rr2, rr1]
      dsimp only
      by_cases e : hiB h k v < f_X6_leastWithBits l k v
      · right
        rw [if_pos e]
        exact ⟨fun z => z.2.2 e, _, _, rfl⟩
      · left
        rw [if_neg e]
        exact ⟨⟨Int64.not_lt.mpr h2, Int64.not_lt.mpr g2, e⟩, rfl⟩
    · right
      refine ⟨fun z => z.2.1 g3, ?_⟩
      rw [g1, g2]
      unfold f_X7_byBits_c60 f_X7_byBits_92 f_X7_byBits_93
      rw [u_u, u_u, uw, uw, wr1, wr2, mI_uI, mI_uI, if_neg (by decide), if_pos rfl]
      exact ⟨_, _, rfl⟩
  · right
    refine ⟨fun z => z.1 h2, ?_⟩
    rw [h1]
    unfold f_X7_byBits_c27
    dsimp only
    rw [u_u, uw, wr1, u_L, u_L, u_L, rr2, rr3, rr4]
    rcases dn_eq (h := h) (uI (pR M (ix f) (n, l, h, k, v, m, r)) 52 7 0) hv with ⟨g1, g2⟩ | ⟨g1, g2, g3⟩
    · rw [g1]
      unfold f_X7_byBits_c60 f_X7_byBits_92 f_X7_byBits_93
      dsimp only
      rw [u_u, uw, uw, wr1, wr2, mI_uI, mI_uI, if_pos rfl]
      exact ⟨_, _, rfl⟩
    · rw [g1, g2]
      unfold f_X7_byBits_c60 f_X7_byBits_92 f_X7_byBits_93
      rw [u_u, u_u, uw, uw, wr1, wr2, mI_uI, if_pos rfl]
      exact ⟨_, _, rfl⟩
theorem br_R (hm : 1 ≤ m) : f_X7_byRest (uI (pR M (ix f) (n, l, h, k, v, m, r)) 52 7 i) f = if 9223372036854775807 - upR l m r < l then (0, uI (pR M (ix f) (n, l, h, k, v, m, r)) 52 7 i) else if -9223372036854775808 + dnR h m r ≤ h then (if h - dnR h m r < l + upR l m r then (0, uI (pR M (ix f) (n, l + upR l m r, h - dnR h m r, k, v, m, r)) 52 7 i) else (1, uI (pR M (ix f) (n, l + upR l m r, h - dnR h m r, k, v, m, r)) 52 7 i)) else (0, uI (pR M (ix f) (n, l, h, k, v, m, r)) 52 7 i) := by
  unfold f_X7_byRest f_X7_byRest_c30 f_X7_byRest_c53 f_X7_byRest_85 f_X7_byRest_130 upR dnR
  simp only [u_L, uw, rr1, rr2, rr5, rr6, wr1, wr2, rest_rem hm]
theorem be_R (hv : v &&& k = v) : f_X7_byEnds (uI (pR M (ix f) (n, l, h, k, v, m, r)) 52 7 i) f = if (((l ^^^ v) &&& k) &&& msk l h) = 0 then (1, uI (pR M (ix f) (n, l, h, k ||| msk l h, v ||| (l &&& msk l h), m, r)) 52 7 i) else (0, uI (pR M (ix f) (n, l, h, k, v, m, r)) 52 7 i) := by
  rw [ends_eq]
  unfold f_X7_byEnds_50 f_X7_byEnds_c116
  simp only [u_L, uw, rr1, rr2, rr3, rr4, wr3, wr4]
  have e1 : ((k &&& (smr (l ^^^ h) ^^^ (-1))) &&& (v ^^^ l)) = (((l ^^^ v) &&& k) &&& msk l h) := tb_ext fun p hp => by
    unfold msk
    simp only [tb_and, tb_xor]
    cases tb k p <;> cases tb v p <;> cases tb l p <;> simp
  rw [e1]
  by_cases e : (((l ^^^ v) &&& k) &&& msk l h) = 0
  · rw [if_pos e, if_pos e]
    have e2 : (v &&& ((smr (l ^^^ h) ^^^ (-1)) ^^^ (-1))) ||| (l &&& (smr (l ^^^ h) ^^^ (-1))) = v ||| (l &&& msk l h) := tb_ext fun p hp => by
      have h1 := eq0_iff.mp e p hp
      have h2 : tb v p = (tb v p && tb k p) := by rw [← tb_and, hv]
      show tb ((v &&& (msk l h ^^^ (-1))) ||| (l &&& msk l h)) p = _
      rw [tb_and, tb_and, tb_xor] at h1
      rw [tb_or, tb_and, tb_and, tb_not _ hp, tb_or, tb_and]
      generalize tb (msk l h) p = x at h1 ⊢
      cases e1 : tb v p <;> cases e2 : tb k p <;> cases e3 : tb l p <;> cases x <;> simp [e1, e2, e3] at h1 h2 ⊢
    rw [e2]
    rfl
  · rw [if_neg e, if_neg e]
theorem shR_loop (hm : 1 ≤ m) : ∀ (q n j : Nat) (l h k v : Int64) (i : Int32), v &&& k = v → j + q = 6 → q < n → ∃ i', f_X7_sharpen_17 f n 1 j (uI (pR M (ix f) (0, l, h, k, v, m, r)) 52 7 i) = uI (pR M (ix f) (shL ZR q l h k v m r)) 52 7 i' := by
  intro q
  induction q with
  | zero =>
    intro n j l h k v i hv hj hn
    obtain ⟨n, rfl⟩ : ∃ z, n = z + 1 := ⟨n - 1, by omega⟩
    rw [f_X7_sharpen_17, if_pos (show (6 : Int32) ≤ nI j from nI_le (a := 6) (by omega) (by omega))]
    exact ⟨_, rfl⟩
  | succ q ih =>
    intro n j l h k v i hv hj hn
    obtain ⟨n, rfl⟩ : ∃ z, n = z + 1 := ⟨n - 1, by omega⟩
    have hnone : ∀ (N : Mem) (x : Fk) (i : Int32), f_X7_sharpen_87 f j N (f_X7_sharpen_17 f n) (uI (pR M (ix f) x) 52 7 i) = uI (pR M (ix f) ZR) 52 7 i := fun N x i => by
      unfold f_X7_sharpen_87 f_X7_sharpen_88 f_X7_sharpen_c100
      rw [if_pos rfl, no_R]
    have hz : ∀ (N : Mem), f_X7_sharpen_17 f n 0 (j + 1) N = N := fun N => by
      cases n with
      | zero => rfl
      | succ n =>
        rw [f_X7_sharpen_17]
        split
        · rfl
        · rw [if_pos rfl]; rfl
    rw [f_X7_sharpen_17, if_neg (show ¬ (6 : Int32) ≤ nI j from nI_ge (b := 6) (by omega) (by decide)), if_neg (by decide), u_L, u_L, rr1, rr2]
    unfold shL pass1
    dsimp only
    by_cases e0 : h < l
    · rw [if_pos e0, hnone]
      have : ¬ (¬ f_X6_leastWithBits l k v < l ∧ ¬ h < hiB h k v ∧ ¬ hiB h k v < f_X6_leastWithBits l k v) := fun z => by
        have h1 := Int64.not_lt.mp z.1
        have h2 := Int64.not_lt.mp z.2.1
        exact z.2.2 (Int64.lt_of_le_of_lt h2 (Int64.lt_of_lt_of_le e0 h1))
      by_cases e1 : f_X6_leastWithBits l k v < l
      · rw [if_pos e1]; exact ⟨_, rfl⟩
      · rw [if_neg e1]
        by_cases e2 : h < hiB h k v
        · rw [if_pos e2]; exact ⟨_, rfl⟩
        · rw [if_neg e2]
          by_cases e3 : hiB h k v < f_X6_leastWithBits l k v
          · rw [if_pos e3]; exact ⟨_, rfl⟩
          · exact absurd ⟨e1, e2, e3⟩ this
    · rw [if_neg e0, ← pR_u]
      rcases bb_R (M := uI M 52 7 i) (f := f) (n := 0) (l := l) (h := h) (m := m) (r := r) hv with ⟨⟨e1, e2, e3⟩, g⟩ | ⟨e, x, i2, g⟩
      · rw [if_neg e1, if_neg e2, if_neg e3, g]
        simp only [pR_u, u_u]
        unfold f_X7_sharpen_c64
        rw [if_neg (by decide), br_R hm]
        unfold pasR f_X7_sharpen_c72
        generalize f_X6_leastWithBits l k v = l1
        generalize hiB h k v = h1
        by_cases e4 : 9223372036854775807 - upR l1 m r < l1
        · rw [if_pos e4, if_pos e4, if_pos rfl, hnone]; exact ⟨_, rfl⟩
        · rw [if_neg e4, if_neg e4]
          by_cases e5 : -9223372036854775808 + dnR h1 m r ≤ h1
          · rw [if_pos e5, if_pos e5]
            by_cases e6 : h1 - dnR h1 m r < l1 + upR l1 m r
            · rw [if_pos e6, if_pos e6, if_pos rfl, hnone]; exact ⟨_, rfl⟩
            · rw [if_neg e6, if_neg e6, if_neg (show ¬ (1 : Int32) = 0 by decide), be_R hv]
              generalize l1 + upR l1 m r = l2
              generalize h1 - dnR h1 m r = h2
              unfold pasE f_X7_sharpen_c80
              by_cases e7 : (((l2 ^^^ v) &&& k) &&& msk l2 h2) = 0
              · rw [if_pos e7, if_pos e7, if_neg (show ¬ (1 : Int32) = 0 by decide)]
                unfold f_X7_sharpen_88
                simp only [u_L, rr1, rr2, rr3, Option.elim, pR_u]
                rw [if_neg (by decide)]
                by_cases e8 : l2 = h2
                · rw [if_pos e8, if_pos e8]
                  refine ⟨1, ?_⟩
                  show f_X7_number _ f l2 = _
                  rw [nu_R]
                · rw [if_neg e8, if_neg e8]
                  have hv2 : (v ||| (l2 &&& msk l2 h2)) &&& (k ||| msk l2 h2) = (v ||| (l2 &&& msk l2 h2)) := tb_ext fun p hp => by
                    have h2 : tb v p = (tb v p && tb k p) := by rw [← tb_and, hv]
                    simp only [tb_and, tb_or]
                    generalize tb (msk l2 _) p = x
                    cases e1 : tb v p <;> cases e2 : tb k p <;> cases e3 : tb l2 p <;> cases x <;> simp [e1, e2] at h2 ⊢
                  obtain ⟨i3, hR⟩ := ih n (j + 1) l2 h2 (k ||| msk l2 h2) (v ||| (l2 &&& msk l2 h2)) 1 hv2 (by omega) (by omega)
                  have hgo : f_X7_sharpen_165 j (f_X7_sharpen_17 f n) (uI (pR M (ix f) (0, l2, h2, k ||| msk l2 h2, v ||| (l2 &&& msk l2 h2), m, r)) 52 7 1) = uI (pR M (ix f) (shL ZR q l2 h2 (k ||| msk l2 h2) (v ||| (l2 &&& msk l2 h2)) m r)) 52 7 i3 := hR
                  have hst : f_X7_sharpen_170 j (f_X7_sharpen_17 f n) 0 (uI (pR M (ix f) (0, l2, h2, k ||| msk l2 h2, v ||| (l2 &&& msk l2 h2), m, r)) 52 7 1) = (uI (pR M (ix f) (0, l2, h2, k ||| msk l2 h2, v ||| (l2 &&& msk l2 h2), m, r)) 52 7 1) := hz _
                  by_cases f1 : l = l2
                  · rw [if_pos f1]
                    by_cases f2 : h = h2
                    · rw [if_pos f2]
                      by_cases f3 : k = k ||| msk l2 h2
                      · rw [if_pos f3, if_pos ⟨f1.symm, f2.symm, f3.symm⟩, hst]; exact ⟨_, rfl⟩
                      · rw [if_neg f3, if_neg (fun z => f3 z.2.2.symm), hgo]; exact ⟨_, rfl⟩
                    · rw [if_neg f2, if_neg (fun z => f2 z.2.1.symm), hgo]; exact ⟨_, rfl⟩
                  · rw [if_neg f1, if_neg (fun z => f1 z.1.symm), hgo]; exact ⟨_, rfl⟩
              · rw [if_neg e7, if_neg e7, if_pos rfl, hnone]; exact ⟨_, rfl⟩
          · rw [if_neg e5, if_neg e5, if_pos rfl, hnone]; exact ⟨_, rfl⟩
      · rw [g]
        simp only [pR_u, u_u]
        unfold f_X7_sharpen_c64
        rw [if_pos rfl, hnone]
        by_cases e1 : f_X6_leastWithBits l k v < l
        · rw [if_pos e1]; exact ⟨_, rfl⟩
        · rw [if_neg e1]
          by_cases e2 : h < hiB h k v
          · rw [if_pos e2]; exact ⟨_, rfl⟩
          · rw [if_neg e2]
            by_cases e3 : hiB h k v < f_X6_leastWithBits l k v
            · rw [if_pos e3]; exact ⟨_, rfl⟩
            · exact absurd ⟨e1, e2, e3⟩ e
/-- SHARPEN, of the reference -/
theorem sh_R (hm : 1 ≤ m) (hv : v &&& k = v) : ∃ i', f_X7_sharpen (pR M (ix f) (0, l, h, k, v, m, r)) f = uI (pR M (ix f) (shL ZR 6 l h k v m r)) 52 7 i' := by
  unfold f_X7_sharpen f_X7_sharpen_14
  rw [rr0, if_pos rfl]
  have e : pR M (ix f) (0, l, h, k, v, m, r) = uI (pR M (ix f) (0, l, h, k, v, m, r)) 52 7 (mI M 52 7) := by
    refine mem_ext rfl rfl (fun b j => ?_) (fun b j => rfl)
    rw [r_I]
    split
    · rename_i q
      rw [q.1, q.2, qdoI (by omega)]
    · rfl
  rw [e]
  exact shR_loop hm 6 7 0 l h k v _ hv rfl (by omega)
end RF
