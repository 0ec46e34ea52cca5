theorem nI_m1 {j : Nat} (h : 0 < j) : nI j - 1 = nI (j - 1) := by
  obtain ⟨k, rfl⟩ : ∃ k, j = k + 1 := ⟨j - 1, by omega⟩
  exact nI_pred k
/-- the bits that both ends have alike, from the front -/
theorem ends_loop (f : Int32) (M : Mem) : ∀ (n : Nat) (y : Int64) (j : Nat), j ≤ 64 → j < n → (∀ q, q < 64 → tb y q = decide (j ≤ q)) → (∀ q, j ≤ q → tb (mL M 54 (ix f)) q = tb (mL M 55 (ix f)) q) →
    f_X7_byEnds_6 f n y j M = f_X7_byEnds_50 f (smr (mL M 54 (ix f) ^^^ mL M 55 (ix f)) ^^^ (-1)) M := by
  intro n
  induction n with
  | zero => intro y j _ h; omega
  | succ n ih =>
    intro y j hj hn hy he
    rw [f_X7_byEnds_6]
    by_cases h0 : j = 0
    · subst h0
      rw [if_pos (by decide)]
      congr 1
      apply tb_ext
      intro q hq
      rw [hy q hq, tb_not _ hq]
      cases e : tb (smr (mL M 54 (ix f) ^^^ mL M 55 (ix f))) q with
      | false => simp
      | true =>
        obtain ⟨r, h1, h2⟩ := (tb_smr _ _).mp e
        rw [tb_xor, he r (by omega), Bool.xor_self] at h2
        cases h2
    · rw [nI_m1 (by omega), if_neg (nI_pos (by omega)), bit_at _ (by omega), bit_at _ (by omega)]
      by_cases e : tb (mL M 54 (ix f)) (j - 1) = tb (mL M 55 (ix f)) (j - 1)
      · rw [if_pos (by rw [e])]
        refine ih _ (j - 1) (by omega) (by omega) (fun q hq => ?_) (fun q hq => ?_)
        · rw [tb_or, hy q hq, tb_b (by omega) hq]
          by_cases c1 : j ≤ q
          · have : j - 1 ≤ q := by omega
            simp [c1]; omega
          · by_cases c2 : q = j - 1
            · have : j ≤ j - 1 + 1 := by omega
              simp [c2]
            · simp [c1, c2]; omega
        · by_cases c : q = j - 1
          · rw [c]; exact e
          · exact he q (by omega)
      · rw [if_neg (fun h => e (by
          cases e1 : tb (mL M 54 (ix f)) (j - 1) <;> cases e2 : tb (mL M 55 (ix f)) (j - 1) <;> rw [e1, e2] at h <;> first | rfl | exact absurd h (by decide)))]
        congr 1
        apply tb_ext
        intro q hq
        rw [hy q hq, tb_not _ hq, smr_top (t := j - 1) (by omega) (by
          rw [tb_xor]
          cases e1 : tb (mL M 54 (ix f)) (j - 1) <;> cases e2 : tb (mL M 55 (ix f)) (j - 1) <;> simp [e1, e2] at e ⊢) (fun r hr => by rw [tb_xor, he r (by omega), Bool.xor_self])]
        by_cases c : j ≤ q
        · have : ¬ q ≤ j - 1 := by omega
          simp [c, this]
        · have : q ≤ j - 1 := by omega
          simp [c, this]
theorem ends_eq (M : Mem) (f : Int32) : f_X7_byEnds M f = f_X7_byEnds_50 f (smr (mL M 54 (ix f) ^^^ mL M 55 (ix f)) ^^^ (-1)) M :=
  ends_loop f M 65 0 64 (by omega) (by omega) (fun q hq => by rw [tb_0]; simp; omega) (fun q hq => by rw [tb_ge (by omega), tb_ge (by omega)])
/-! ripple and the carries of the least and the greatest sum -/
def cin (c : Bool) : Int64 := if c then 1 else 0
theorem tb_sum (x y : Int64) (c : Bool) {p : Nat} (hp : p < 64) : tb ((x + y) + cin c) p = ((tb x p ^^ tb y p) ^^ BitVec.carry p x.toBitVec y.toBitVec c) := by
  have e : ((x + y) + cin c).toBitVec = x.toBitVec + y.toBitVec + BitVec.setWidth 64 (BitVec.ofBool c) := by
    cases c <;> rfl
  unfold tb
  rw [e, BitVec.getLsbD_add_add_bool hp, Bool.xor_assoc]
def trt (l m : Bool) : Int32 := if l then 1 else if m then 2 else 0
theorem bit_trt (M : Mem) (f : Int32) {j : Nat} (hj : j < 64) (h : mL M 57 (ix f) &&& mL M 56 (ix f) = mL M 57 (ix f)) : f_X7_bit M f (nI j) = trt (tb (mL M 57 (ix f)) j) (tb (mL M 57 (ix f) ||| (mL M 56 (ix f) ^^^ (-1))) j) := by
  unfold f_X7_bit f_X7_bit_30
  rw [bit_at _ hj, bit_at _ hj, tb_or, tb_not _ hj]
  have h2 : tb (mL M 57 (ix f)) j = (tb (mL M 57 (ix f)) j && tb (mL M 56 (ix f)) j) := by rw [← tb_and, h]
  cases e1 : tb (mL M 57 (ix f)) j <;> cases e2 : tb (mL M 56 (ix f)) j <;> rw [e1, e2] at h2 <;> first | rfl | cases h2
def ln3 (x : Int32) : Prop := x = 0 ∨ x = 1 ∨ x = 2
def nx3 (x y c : Int32) : Int32 := if ((if x = 1 then (1 : Int32) else 0) + (if y = 1 then (1 : Int32) else 0)) + (if c = 1 then (1 : Int32) else 0) ≤ 1 then (if ((if x = 0 then (1 : Int32) else 0) + (if y = 0 then (1 : Int32) else 0)) + (if c = 0 then (1 : Int32) else 0) ≤ 1 then 2 else 0) else 1
theorem rip_91 (a b : Int32) (c : Int32) (j : Nat) (M : Mem) (R : Int32 → Int64 → Int64 → Nat → Mem → Mem) (y6 y8 : Int64) (N : Mem) : f_X7_ripple_91 a b c j M R y6 y8 N = R (nx3 (f_X7_bit M a (nI j)) (f_X7_bit M b (nI j)) c) y6 y8 (j + 1) N := by
  unfold f_X7_ripple_91 f_X7_ripple_102 f_X7_ripple_113 f_X7_ripple_125 f_X7_ripple_138 f_X7_ripple_148 f_X7_ripple_159 f_X7_ripple_183 nx3
  generalize f_X7_bit M a (nI j) = x
  generalize f_X7_bit M b (nI j) = y
  by_cases x1 : x = 1
  · subst x1
    by_cases y1 : y = 1
    · subst y1
      by_cases c1 : c = 1
      · subst c1; rfl
      · by_cases c0 : c = 0
        · subst c0; rfl
        · simp [c1, c0]
    · by_cases y0 : y = 0
      · subst y0
        by_cases c1 : c = 1
        · subst c1; rfl
        · by_cases c0 : c = 0
          · subst c0; rfl
          · simp [c1, c0]
      · by_cases c1 : c = 1
        · subst c1; simp [y1, y0]
        · by_cases c0 : c = 0
          · subst c0; simp [y1, y0]
          · simp [c1, c0, y1, y0]
  · by_cases x0 : x = 0
    · subst x0
      by_cases y1 : y = 1
      · subst y1
        by_cases c1 : c = 1
        · subst c1; rfl
        · by_cases c0 : c = 0
          · subst c0; rfl
          · simp [c1, c0]
      · by_cases y0 : y = 0
        · subst y0
          by_cases c1 : c = 1
          · subst c1; rfl
          · by_cases c0 : c = 0
            · subst c0; rfl
            · simp [c1, c0]
        · by_cases c1 : c = 1
          · subst c1; simp [y1, y0]
          · by_cases c0 : c = 0
            · subst c0; simp [y1, y0]
            · simp [c1, c0, y1, y0]
    · by_cases y1 : y = 1
      · subst y1
        by_cases c1 : c = 1
        · subst c1; simp [x1, x0]
        · by_cases c0 : c = 0
          · subst c0; simp [x1, x0]
          · simp [c1, c0, x1, x0]
      · by_cases y0 : y = 0
        · subst y0
          by_cases c1 : c = 1
          · subst c1; simp [x1, x0]
          · by_cases c0 : c = 0
            · subst c0; simp [x1, x0]
            · simp [c1, c0, x1, x0]
        · by_cases c1 : c = 1
          · subst c1; simp [x1, x0, y1, y0]
          · by_cases c0 : c = 0
            · subst c0; simp [x1, x0, y1, y0]
            · simp [c1, c0, x1, x0, y1, y0]
theorem nx3_trt : ∀ l1 m1 l2 m2 l3 m3 : Bool, (l1 = true → m1 = true) → (l2 = true → m2 = true) → (l3 = true → m3 = true) → nx3 (trt l1 m1) (trt l2 m2) (trt l3 m3) = trt (Bool.atLeastTwo l1 l2 l3) (Bool.atLeastTwo m1 m2 m3) := by decide
theorem alt_mono : ∀ l1 m1 l2 m2 l3 m3 : Bool, (l1 = true → m1 = true) → (l2 = true → m2 = true) → (l3 = true → m3 = true) → Bool.atLeastTwo l1 l2 l3 = true → Bool.atLeastTwo m1 m2 m3 = true := by decide
theorem trt_2 : ∀ l m : Bool, (l = true → m = true) → (2 ≤ trt l m ↔ ¬ l = m) := by decide
theorem trt_v : ∀ l1 l2 l3 : Bool, Int32.toInt64 (((trt l1 l1 + trt l2 l2) + trt l3 l3) &&& 1) = if ((l1 ^^ l2) ^^ l3) then 1 else 0 := by decide
def bsK (k1 v1 k2 v2 c : Int64) : Int64 := (k1 &&& k2) &&& ((((((v1 + v2) + c) ^^^ v1) ^^^ v2) ^^^ (((((v1 ||| (k1 ^^^ ((-1)))) + (v2 ||| (k2 ^^^ ((-1))))) + c) ^^^ (v1 ||| (k1 ^^^ ((-1))))) ^^^ (v2 ||| (k2 ^^^ ((-1)))))) ^^^ ((-1)))
def bsV (k1 v1 k2 v2 c : Int64) : Int64 := ((v1 + v2) + c) &&& bsK k1 v1 k2 v2 c
theorem tb_bsK (k1 v1 k2 v2 : Int64) (c : Bool) {p : Nat} (hp : p < 64) : tb (bsK k1 v1 k2 v2 (cin c)) p = ((tb k1 p && tb k2 p) && (BitVec.carry p v1.toBitVec v2.toBitVec c == BitVec.carry p (v1 ||| (k1 ^^^ (-1))).toBitVec (v2 ||| (k2 ^^^ (-1))).toBitVec c)) := by
  unfold bsK
  rw [tb_and, tb_and, tb_not _ hp, tb_xor, tb_xor, tb_xor, tb_xor, tb_xor, tb_sum _ _ c hp, tb_sum _ _ c hp]
  generalize tb v1 p = a
  generalize tb v2 p = b
  generalize tb (v1 ||| (k1 ^^^ (-1))) p = d
  generalize tb (v2 ||| (k2 ^^^ (-1))) p = e
  generalize BitVec.carry p v1.toBitVec v2.toBitVec c = x
  generalize BitVec.carry p (v1 ||| (k1 ^^^ (-1))).toBitVec (v2 ||| (k2 ^^^ (-1))).toBitVec c = y
  cases a <;> cases b <;> cases d <;> cases e <;> cases x <;> cases y <;> simp
section RIP
variable (M : Mem) (a b t : Int32) (cc : Bool) (ha : mL M 57 (ix a) &&& mL M 56 (ix a) = mL M 57 (ix a)) (hb : mL M 57 (ix b) &&& mL M 56 (ix b) = mL M 57 (ix b))
theorem vk_mono {k v : Int64} {p : Nat} (h : tb v p = true) : tb (v ||| (k ^^^ (-1))) p = true := by rw [tb_or, h]; rfl
theorem vk_eq {k v : Int64} (h : v &&& k = v) {p : Nat} (hp : p < 64) : tb k p = (tb v p == tb (v ||| (k ^^^ (-1))) p) := by
  rw [tb_or, tb_not _ hp]
  have h2 : tb v p = (tb v p && tb k p) := by rw [← tb_and, h]
  cases e1 : tb v p <;> cases e2 : tb k p <;> rw [e1, e2] at h2 <;> first | rfl | cases h2
theorem carry_mono {x y z w : BitVec 64} (c : Bool) (h1 : ∀ p, x.getLsbD p = true → z.getLsbD p = true) (h2 : ∀ p, y.getLsbD p = true → w.getLsbD p = true) : ∀ p, BitVec.carry p x y c = true → BitVec.carry p z w c = true := by
  intro p
  induction p with
  | zero => intro h; rw [BitVec.carry_zero] at h ⊢; exact h
  | succ p ih =>
    rw [BitVec.carry_succ, BitVec.carry_succ]
    exact alt_mono _ _ _ _ _ _ (h1 p) (h2 p) ih
theorem rip_loop (ha : mL M 57 (ix a) &&& mL M 56 (ix a) = mL M 57 (ix a)) (hb : mL M 57 (ix b) &&& mL M 56 (ix b) = mL M 57 (ix b)) : ∀ (n : Nat) (c : Int32) (y6 y8 : Int64) (j : Nat), j ≤ 64 → 64 - j < n →
    c = trt (BitVec.carry j (mL M 57 (ix a)).toBitVec (mL M 57 (ix b)).toBitVec cc) (BitVec.carry j (mL M 57 (ix a) ||| (mL M 56 (ix a) ^^^ (-1))).toBitVec (mL M 57 (ix b) ||| (mL M 56 (ix b) ^^^ (-1))).toBitVec cc) →
    (∀ q, q < 64 → tb y6 q = (decide (q < j) && tb (bsK (mL M 56 (ix a)) (mL M 57 (ix a)) (mL M 56 (ix b)) (mL M 57 (ix b)) (cin cc)) q)) →
    (∀ q, q < 64 → tb y8 q = (decide (q < j) && tb (bsV (mL M 56 (ix a)) (mL M 57 (ix a)) (mL M 56 (ix b)) (mL M 57 (ix b)) (cin cc)) q)) →
    f_X7_ripple_20 a b t n c y6 y8 j M = uL (uL M 56 (ix t) (bsK (mL M 56 (ix a)) (mL M 57 (ix a)) (mL M 56 (ix b)) (mL M 57 (ix b)) (cin cc))) 57 (ix t) (bsV (mL M 56 (ix a)) (mL M 57 (ix a)) (mL M 56 (ix b)) (mL M 57 (ix b)) (cin cc)) := by
  intro n
  induction n with
  | zero => intro c y6 y8 j _ h; omega
  | succ n ih =>
    intro c y6 y8 j hj hn hc h6 h8
    rw [f_X7_ripple_20]
    by_cases e : 64 ≤ j
    · rw [if_pos (show (64 : Int32) ≤ nI j from nI_le (a := 64) e (by omega))]
      have e6 : y6 = bsK (mL M 56 (ix a)) (mL M 57 (ix a)) (mL M 56 (ix b)) (mL M 57 (ix b)) (cin cc) := tb_ext fun q hq => by
        rw [h6 q hq]
        simp [show q < j by omega]
      have e8 : y8 = bsV (mL M 56 (ix a)) (mL M 57 (ix a)) (mL M 56 (ix b)) (mL M 57 (ix b)) (cin cc) := tb_ext fun q hq => by
        rw [h8 q hq]
        simp [show q < j by omega]
      rw [e6, e8]
    · have hj' : j < 64 := by omega
      rw [if_neg (show ¬ (64 : Int32) ≤ nI j from nI_ge (b := 64) hj' (by decide)), rip_91, rip_91, bit_trt M a hj' ha, bit_trt M b hj' hb]
      have hK := tb_bsK (mL M 56 (ix a)) (mL M 57 (ix a)) (mL M 56 (ix b)) (mL M 57 (ix b)) cc hj'
      have hV : tb (bsV (mL M 56 (ix a)) (mL M 57 (ix a)) (mL M 56 (ix b)) (mL M 57 (ix b)) (cin cc)) j = (((tb (mL M 57 (ix a)) j ^^ tb (mL M 57 (ix b)) j) ^^ BitVec.carry j (mL M 57 (ix a)).toBitVec (mL M 57 (ix b)).toBitVec cc) && tb (bsK (mL M 56 (ix a)) (mL M 57 (ix a)) (mL M 56 (ix b)) (mL M 57 (ix b)) (cin cc)) j) := by
        unfold bsV
        rw [tb_and, tb_sum _ _ cc hj']
      have hka := vk_eq ha hj'
      have hkb := vk_eq hb hj'
      have ma := vk_mono (k := mL M 56 (ix a)) (v := mL M 57 (ix a)) (p := j)
      have mb := vk_mono (k := mL M 56 (ix b)) (v := mL M 57 (ix b)) (p := j)
      have mc := carry_mono (x := (mL M 57 (ix a)).toBitVec) (y := (mL M 57 (ix b)).toBitVec) (z := (mL M 57 (ix a) ||| (mL M 56 (ix a) ^^^ (-1))).toBitVec) (w := (mL M 57 (ix b) ||| (mL M 56 (ix b) ^^^ (-1))).toBitVec) cc (fun p h => vk_mono (p := p) h) (fun p h => vk_mono (p := p) h) j
      have sl := BitVec.carry_succ j (mL M 57 (ix a)).toBitVec (mL M 57 (ix b)).toBitVec cc
      have sm := BitVec.carry_succ j (mL M 57 (ix a) ||| (mL M 56 (ix a) ^^^ (-1))).toBitVec (mL M 57 (ix b) ||| (mL M 56 (ix b) ^^^ (-1))).toBitVec cc
      have nxe := nx3_trt _ _ _ _ _ _ ma mb mc
      rw [← hc] at nxe
      have nc : nx3 (trt (tb (mL M 57 (ix a)) j) (tb (mL M 57 (ix a) ||| (mL M 56 (ix a) ^^^ (-1))) j)) (trt (tb (mL M 57 (ix b)) j) (tb (mL M 57 (ix b) ||| (mL M 56 (ix b) ^^^ (-1))) j)) c = trt (BitVec.carry (j + 1) (mL M 57 (ix a)).toBitVec (mL M 57 (ix b)).toBitVec cc) (BitVec.carry (j + 1) (mL M 57 (ix a) ||| (mL M 56 (ix a) ^^^ (-1))).toBitVec (mL M 57 (ix b) ||| (mL M 56 (ix b) ^^^ (-1))).toBitVec cc) := by
        rw [nxe, sl, sm]
        rfl
      have un : (tb (bsK (mL M 56 (ix a)) (mL M 57 (ix a)) (mL M 56 (ix b)) (mL M 57 (ix b)) (cin cc)) j = false) → f_X7_ripple_20 a b t n (nx3 (trt (tb (mL M 57 (ix a)) j) (tb (mL M 57 (ix a) ||| (mL M 56 (ix a) ^^^ (-1))) j)) (trt (tb (mL M 57 (ix b)) j) (tb (mL M 57 (ix b) ||| (mL M 56 (ix b) ^^^ (-1))) j)) c) y6 y8 (j + 1) M = uL (uL M 56 (ix t) (bsK (mL M 56 (ix a)) (mL M 57 (ix a)) (mL M 56 (ix b)) (mL M 57 (ix b)) (cin cc))) 57 (ix t) (bsV (mL M 56 (ix a)) (mL M 57 (ix a)) (mL M 56 (ix b)) (mL M 57 (ix b)) (cin cc)) := by
        intro hf
        refine ih _ y6 y8 (j + 1) (by omega) (by omega) nc (fun q hq => ?_) (fun q hq => ?_)
        · rw [h6 q hq]
          by_cases c1 : q = j
          · subst c1; rw [hf]; simp
          · by_cases c2 : q < j
            · simp [c2, show q < j + 1 by omega]
            · simp [c2, show ¬ q < j + 1 by omega]
        · rw [h8 q hq]
          by_cases c1 : q = j
          · subst c1; rw [hV, hf]; simp
          · by_cases c2 : q < j
            · simp [c2, show q < j + 1 by omega]
            · simp [c2, show ¬ q < j + 1 by omega]
      rw [hka, hkb] at hK
      by_cases c1 : 2 ≤ trt (tb (mL M 57 (ix a)) j) (tb (mL M 57 (ix a) ||| (mL M 56 (ix a) ^^^ (-1))) j)
      · rw [if_pos c1]
        refine un ?_
        rw [hK]
        rw [beq_false_of_ne ((trt_2 _ _ ma).mp c1)]
        simp
      · rw [if_neg c1]
        by_cases c2 : 2 ≤ trt (tb (mL M 57 (ix b)) j) (tb (mL M 57 (ix b) ||| (mL M 56 (ix b) ^^^ (-1))) j)
        · rw [if_pos c2]
          refine un ?_
          rw [hK]
          rw [beq_false_of_ne ((trt_2 _ _ mb).mp c2)]
          simp
        · rw [if_neg c2]
          by_cases c3 : 2 ≤ c
          · rw [if_pos c3]
            refine un ?_
            rw [hK]
            rw [hc] at c3
            rw [beq_false_of_ne ((trt_2 _ _ mc).mp c3)]
            simp
          · rw [if_neg c3]
            have q1 := Classical.byContradiction (fun h => c1 ((trt_2 _ _ ma).mpr h))
            have q2 := Classical.byContradiction (fun h => c2 ((trt_2 _ _ mb).mpr h))
            rw [hc] at c3
            have q3 := Classical.byContradiction (fun h => c3 ((trt_2 _ _ mc).mpr h))
            have hK1 : tb (bsK (mL M 56 (ix a)) (mL M 57 (ix a)) (mL M 56 (ix b)) (mL M 57 (ix b)) (cin cc)) j = true := by
              rw [hK, ← q1, ← q2, ← q3]
              simp
            have hv : Int32.toInt64 ((((trt (tb (mL M 57 (ix a)) j) (tb (mL M 57 (ix a) ||| (mL M 56 (ix a) ^^^ (-1))) j)) + (trt (tb (mL M 57 (ix b)) j) (tb (mL M 57 (ix b) ||| (mL M 56 (ix b) ^^^ (-1))) j))) + c) &&& 1) = if ((tb (mL M 57 (ix a)) j ^^ tb (mL M 57 (ix b)) j) ^^ BitVec.carry j (mL M 57 (ix a)).toBitVec (mL M 57 (ix b)).toBitVec cc) then 1 else 0 := by
              rw [hc, ← q1, ← q2, ← q3]
              exact trt_v _ _ _
            refine ih _ _ _ (j + 1) (by omega) (by omega) nc (fun q hq => ?_) (fun q hq => ?_)
            · rw [tb_or, h6 q hq, tb_b hj' hq]
              by_cases d1 : q = j
              · subst d1; rw [hK1]; simp
              · by_cases d2 : q < j
                · simp [d1, d2, show q < j + 1 by omega]
                · simp [d1, d2, show ¬ q < j + 1 by omega]
            · rw [tb_or, h8 q hq, hv]
              by_cases d1 : q = j
              · subst d1
                rw [hV, hK1]
                generalize ((tb (mL M 57 (ix a)) q ^^ tb (mL M 57 (ix b)) q) ^^ BitVec.carry q (mL M 57 (ix a)).toBitVec (mL M 57 (ix b)).toBitVec cc) = x
                cases x
                · rw [if_neg (by decide), tb_shl _ hj' hq, tb_0]; simp
                · rw [if_pos rfl, tb_b hj' hq]; simp
              · have hz : tb (jshl (if ((tb (mL M 57 (ix a)) j ^^ tb (mL M 57 (ix b)) j) ^^ BitVec.carry j (mL M 57 (ix a)).toBitVec (mL M 57 (ix b)).toBitVec cc) then 1 else 0) (nI j)) q = false := by
                  split
                  · rw [tb_b hj' hq]; simp [d1]
                  · rw [tb_shl _ hj' hq, tb_0]; simp
                rw [hz]
                by_cases d2 : q < j
                · simp [d2, show q < j + 1 by omega]
                · simp [d2, show ¬ q < j + 1 by omega]
theorem rip_eq (c : Int32) (hc : c = 0 ∨ c = 1) (ha : mL M 57 (ix a) &&& mL M 56 (ix a) = mL M 57 (ix a)) (hb : mL M 57 (ix b) &&& mL M 56 (ix b) = mL M 57 (ix b)) :
    f_X7_ripple M a b c t = uL (uL M 56 (ix t) (bsK (mL M 56 (ix a)) (mL M 57 (ix a)) (mL M 56 (ix b)) (mL M 57 (ix b)) (if c = 0 then 0 else 1))) 57 (ix t) (bsV (mL M 56 (ix a)) (mL M 57 (ix a)) (mL M 56 (ix b)) (mL M 57 (ix b)) (if c = 0 then 0 else 1)) := by
  unfold f_X7_ripple f_X7_ripple_9
  rcases hc with rfl | rfl
  · rw [if_pos rfl, if_pos rfl]
    have h := rip_loop M a b t false ha hb 65 0 0 0 0 (by omega) (by omega) (by rw [BitVec.carry_zero, BitVec.carry_zero]; rfl) (fun q hq => by rw [tb_0]; simp) (fun q hq => by rw [tb_0]; simp)
    rw [h]
    rfl
  · rw [if_neg (by decide), if_neg (by decide)]
    have h := rip_loop M a b t true ha hb 65 1 0 0 0 (by omega) (by omega) (by rw [BitVec.carry_zero, BitVec.carry_zero]; rfl) (fun q hq => by rw [tb_0]; simp) (fun q hq => by rw [tb_0]; simp)
    rw [h]
    rfl
end RIP
theorem bs_eq (M : Mem) (a : Nat) (k1 v1 k2 v2 c : Int64) : f_X1_becomeBitSum M a k1 v1 k2 v2 c = uL (uL M a 3 (bsK k1 v1 k2 v2 c)) a 4 (bsV k1 v1 k2 v2 c) := by
  unfold f_X1_becomeBitSum f_X1_becomeBitSum_c54 f_X1_becomeBitSum_c83
  rw [mL_uL]
  rfl
