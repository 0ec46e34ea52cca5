def cmC (b j : Nat) : Bool := decide (23 ≤ b) && decide (b ≤ 30)
def thR (b j : Nat) : Bool := scr b j || (decide (53 ≤ b) && decide (b ≤ 59) && decide (48 ≤ j) && decide (j ≤ 55))
theorem th_f {b p : Nat} (hp : p < 8) (h1 : 53 ≤ b) (h2 : b ≤ 59) : thR b (48 + p) = true := by
  have h3 : 48 + p ≤ 55 := by omega
  simp [thR, h1, h2, h3]
theorem th_s {b j : Nat} (h : scr b j = true) : thR b j = true := by simp [thR, h]
theorem cm_f {p j : Nat} (hp : p < 8) : cmC (23 + p) j = true := by
  have h3 : 23 + p ≤ 30 := by omega
  simp [cmC, h3]
theorem Cm.set {A B : Mem} {u : Fk} {i : Nat} {w : Int32} (h : Cm A B) (hu : Gd u) (hi : i < 8) : Cm (pC A (23 + i) u) (uI (pR B (48 + i) (toR u)) 52 7 w) := fun p hp => by
  rw [gR_u]
  by_cases e : p = i
  · rw [e, gC_p, gR_p]; exact ⟨hu, rfl⟩
  · rw [gC_n (by omega), gR_n (by omega)]; exact h p hp
theorem x_23 {i : Nat} (hi : i < 8) : 18 + 5 + ix (nI i) = 23 + i := by rw [ix_n (by omega)]
theorem x_15 {m l i : Nat} (hl : l < 64) (hi : i < 8) : rT m + 5 + 10 + ix ((nI l * 8) + nI i) = rT m + 15 + (8 * l + i) := by rw [x_lp hl hi]
/-- a LINE that is being worked: its facts, and what comes of them -/
def LnS (m l : Nat) (A B : Mem) (x : Nat → Fk) : Prop := (∀ p, p < 8 → gC A (rT m + 15 + (8 * l + p)) = x p ∧ Gd (x p) ∧ (x p).1 = 0) ∧ (∀ p, p < 8 → gR B (40 + p) = x p) ∧ (∀ p, p < 8 → gC A (23 + p) = x p) ∧ (∀ p, p < 8 → gR B (48 + p) = x p)
theorem LnS.cm {m l : Nat} {A B : Mem} {x : Nat → Fk} (h : LnS m l A B x) : Cm A B := fun p hp => by
  rw [h.2.2.1 p hp, h.2.2.2 p hp, toR_eq (h.1 p hp).2.2]
  exact ⟨(h.1 p hp).2.1, rfl⟩
theorem two {m l : Nat} {A B : Mem} {x : Nat → Fk} {u w : Fk} {i k : Nat} {j1 j2 : Int32} (h : LnS m l A B x) (hu : Gd u) (hw : Gd w) (hi : i < 8) (hk : k < 8) : Cm (pC (pC A (23 + i) u) (23 + k) w) (uI (pR (uI (pR B (48 + i) (toR u)) 52 7 j1) (48 + k) (toR w)) 52 7 j2) ∧ ER cmC A (pC (pC A (23 + i) u) (23 + k) w) ∧ ER thR B (uI (pR (uI (pR B (48 + i) (toR u)) 52 7 j1) (48 + k) (toR w)) 52 7 j2) :=
  ⟨(h.cm.set hu hi).set hw hk, (ER.rf.pC (fun _ => cm_f hi)).pC (fun _ => cm_f hk), (((ER.rf.pR (fun _ h1 h2 => th_f hi h1 h2)).uI (th_s rfl)).pR (fun _ h1 h2 => th_f hk h1 h2)).uI (th_s rfl)⟩
/-- what is known where a LINE parts: SAME, LESS -/
theorem br_2 {m l i k : Nat} {A B : Mem} {x : Nat → Fk} {op z : Int32} (hl : l < 32) (hi : i < 8) (hk : k < 8) (ho : op = 23 ∨ op = 24) (hz : z = 0 ∨ z = 1) (h : LnS m l A B x) (e1 : mI A (rT m + 1) l = op) (e2 : mI A (rT m + 2) l = nI i) (e3 : mI A (rT m + 3) l = nI k) :
    Cm (f_X2_branch A (rT m) (nI l) z) (f_X7_asked B op (nI i) (nI k) z) ∧ ER cmC A (f_X2_branch A (rT m) (nI l) z) ∧ ER thR B (f_X7_asked B op (nI i) (nI k) z) := by
  have er : rT m = 74 + 271 * m := rfl
  have xl : ix (nI l) = l := ix_n (by omega)
  have hxi := h.1 i hi
  have hxk := h.1 k hk
  have n25 : ¬ op = 25 := by rcases ho with e | e <;> rw [e] <;> decide
  -- of the class: the facts ahead stay while what comes is written
  have gi : ∀ u : Fk, gC (pC A (23 + i) u) (rT m + 15 + (8 * l + i)) = x i ∧ gC (pC A (23 + i) u) (rT m + 15 + (8 * l + k)) = x k := fun u => by
    rw [gC_n (by omega), gC_n (by omega)]; exact ⟨hxi.1, hxk.1⟩
  have hb : ∀ (p : Nat) (u : Fk) (w : Int32), p < 8 → gR (uI (pR B (48 + i) (toR u)) 52 7 w) (40 + p) = x p := fun p u w hp => by
    rw [gR_u, gR_n (by omega)]; exact h.2.1 p hp
  have i40 : ∀ p, p < 8 → ix (40 + nI p) = 40 + p := fun p hp => x_40 hp
  have i48 : ∀ p, p < 8 → ix (48 + nI p) = 48 + p := fun p hp => x_48 hp
  unfold f_X2_branch f_X7_asked
  rw [xl, e1, e2, e3, if_neg n25, if_neg n25, x_23 hi, x_15 (by omega) hi, x_15 (by omega) hk]
  have s120 : (op = 24 ∨ z = 0) → Cm (f_X2_branch_120 (rT m) (nI l) z A A) (if op = 23 then f_X7_asked_c168 (nI i) (nI k) (f_X7_apart B (40 + nI i) (40 + nI k) (48 + nI i)) else if z = 0 then f_X7_asked_c303 (nI i) (nI k) (f_X7_atLeast B (40 + nI i) 0 (mL B 54 (ix (40 + nI k))) (48 + nI i)) else if mL B 55 (ix (40 + nI k)) = -9223372036854775808 then f_X7_asked_216 (nI i) (nI k) 1 B else f_X7_asked_216 (nI i) (nI k) 0 B) ∧ ER cmC A (f_X2_branch_120 (rT m) (nI l) z A A) ∧ ER thR B (if op = 23 then f_X7_asked_c168 (nI i) (nI k) (f_X7_apart B (40 + nI i) (40 + nI k) (48 + nI i)) else if z = 0 then f_X7_asked_c303 (nI i) (nI k) (f_X7_atLeast B (40 + nI i) 0 (mL B 54 (ix (40 + nI k))) (48 + nI i)) else if mL B 55 (ix (40 + nI k)) = -9223372036854775808 then f_X7_asked_216 (nI i) (nI k) 1 B else f_X7_asked_216 (nI i) (nI k) 0 B) := by
    intro _
    unfold f_X2_branch_120
    rw [xl, e1, e2, e3, x_23 hi, x_15 (by omega) hi, x_15 (by omega) hk]
    by_cases q23 : op = 23
    · rw [if_pos q23, if_pos q23]
      -- apart
      have c1 : f_X2_keepApart A (rT m + 15 + (8 * l + i)) (rT m + 15 + (8 * l + k)) (23 + i) = pC A (23 + i) (apF (x i) (x k)) := by
        have := ap_C (M := A) (a := rT m + 15 + (8 * l + i)) (b := rT m + 15 + (8 * l + k)) (t := 23 + i) (by omega) (by omega) (by rw [hxi.1]; exact hxi.2.1) (by rw [hxi.1]; exact hxi.2.2) (by rw [hxk.1]; exact hxk.2.2)
        rw [hxi.1, hxk.1] at this
        exact this
      rw [c1]
      unfold f_X2_branch_c136 f_X2_branch_c145 f_X2_branch_197
      rw [xl, e2, e3, x_23 hk, x_15 (by omega) hi, x_15 (by omega) hk]
      have c2 := ap_C (M := pC A (23 + i) (apF (x i) (x k))) (a := rT m + 15 + (8 * l + k)) (b := rT m + 15 + (8 * l + i)) (t := 23 + k) (by omega) (by omega) (by rw [(gi _).2]; exact hxk.2.1) (by rw [(gi _).2]; exact hxk.2.2) (by rw [(gi _).1]; exact hxi.2.2)
      rw [(gi _).1, (gi _).2] at c2
      rw [c2]
      obtain ⟨j1, r1⟩ := ap_R (M := B) (f := 40 + nI i) (g := 40 + nI k) (t := 48 + nI i) (x := x i) (y := x k) (by rw [i40 i hi, i48 i hi]; omega) (by rw [i40 k hk, i48 i hi]; omega) hxi.2.1 hxi.2.2 hxk.2.2 (by rw [i40 i hi]; exact h.2.1 i hi) (by rw [i40 k hk]; exact h.2.1 k hk)
      rw [i48 i hi] at r1
      rw [r1]
      unfold f_X7_asked_c168 f_X7_asked_c184 f_X7_asked_184
      obtain ⟨j2, r2⟩ := ap_R (M := uI (pR B (48 + i) (toR (apF (x i) (x k)))) 52 7 j1) (f := 40 + nI k) (g := 40 + nI i) (t := 48 + nI k) (x := x k) (y := x i) (by rw [i40 k hk, i48 k hk]; omega) (by rw [i40 i hi, i48 k hk]; omega) hxk.2.1 hxk.2.2 hxi.2.2 (by rw [i40 k hk]; exact hb k _ _ hk) (by rw [i40 i hi]; exact hb i _ _ hi)
      rw [i48 k hk] at r2
      rw [r2]
      exact two h (Gd_ap hxi.2.1 hxi.2.2) (Gd_ap hxk.2.1 hxk.2.2) hi hk
    · rw [if_neg q23, if_neg q23]
      have ml : ∀ p, p < 8 → mL B 54 (ix (40 + nI p)) = (x p).2.1 ∧ mL B 55 (ix (40 + nI p)) = (x p).2.2.1 := fun p hp => by
        rw [i40 p hp, ← h.2.1 p hp]; exact ⟨rfl, rfl⟩
      have al : ∀ p, p < 8 → mL A (rT m + 15 + (8 * l + p)) 1 = (x p).2.1 ∧ mL A (rT m + 15 + (8 * l + p)) 2 = (x p).2.2.1 := fun p hp => by
        rw [← (h.1 p hp).1]; exact ⟨rfl, rfl⟩
      by_cases z0 : z = 0
      · rw [if_pos z0, if_pos z0, (al k hk).1, (ml k hk).1]
        have c1 := kf_C (M := A) (a := rT m + 15 + (8 * l + i)) (t := 23 + i) (v := (x k).2.1) (by omega) (by rw [hxi.1]; exact hxi.2.1) (by rw [hxi.1]; exact hxi.2.2)
        rw [hxi.1] at c1
        rw [c1]
        unfold f_X2_branch_c185 f_X2_branch_c197 f_X2_branch_197
        rw [xl, e2, e3, x_23 hk, x_15 (by omega) hi, x_15 (by omega) hk, qcnL (by omega), (al i hi).2]
        have c2 := ku_C (M := pC A (23 + i) (kfF (x i) (x k).2.1)) (a := rT m + 15 + (8 * l + k)) (t := 23 + k) (v := (x i).2.2.1) (by omega) (by rw [(gi _).2]; exact hxk.2.1) (by rw [(gi _).2]; exact hxk.2.2)
        rw [(gi _).2] at c2
        rw [c2]
        obtain ⟨j1, r1⟩ := al_R (M := B) (f := 40 + nI i) (t := 48 + nI i) (n := 0) (v := (x k).2.1) (x := x i) (by rw [i40 i hi, i48 i hi]; omega) hxi.2.1 hxi.2.2 (by rw [i40 i hi]; exact h.2.1 i hi)
        rw [i48 i hi, if_pos rfl] at r1
        rw [r1]
        unfold f_X7_asked_c303 f_X7_asked_c325 f_X7_asked_325
        have m2 : mL (uI (pR B (48 + i) (toR (kfF (x i) (x k).2.1))) 52 7 j1) 55 (ix (40 + nI i)) = (x i).2.2.1 := by
          rw [i40 i hi]; exact congrArg (fun q : Fk => q.2.2.1) (hb i (kfF (x i) (x k).2.1) j1 hi)
        rw [m2]
        obtain ⟨j2, r2⟩ := am_R (M := uI (pR B (48 + i) (toR (kfF (x i) (x k).2.1))) 52 7 j1) (f := 40 + nI k) (t := 48 + nI k) (n := 0) (v := (x i).2.2.1) (x := x k) (by rw [i40 k hk, i48 k hk]; omega) hxk.2.1 hxk.2.2 (by rw [i40 k hk]; exact hb k _ _ hk)
        rw [i48 k hk, if_pos rfl] at r2
        rw [r2]
        exact two h (Gd_kf hxi.2.1 hxi.2.2) (Gd_ku hxk.2.1 hxk.2.2) hi hk
      · rw [if_neg z0, if_neg z0, (ml k hk).2]
        have c1 := kb_C (M := A) (a := rT m + 15 + (8 * l + i)) (b := rT m + 15 + (8 * l + k)) (t := 23 + i) (by omega) (by rw [hxi.1]; exact hxi.2.1) (by rw [hxi.1]; exact hxi.2.2)
        rw [hxi.1, hxk.1] at c1
        rw [c1]
        unfold f_X2_branch_c161 f_X2_branch_c170 f_X2_branch_197
        rw [xl, e2, e3, x_23 hk, x_15 (by omega) hi, x_15 (by omega) hk]
        have c2 := ka_C (M := pC A (23 + i) (kbF (x i) (x k))) (a := rT m + 15 + (8 * l + k)) (b := rT m + 15 + (8 * l + i)) (t := 23 + k) (by omega) (by rw [(gi _).2]; exact hxk.2.1) (by rw [(gi _).2]; exact hxk.2.2)
        rw [(gi _).1, (gi _).2] at c2
        rw [c2]
        have t216 : ∀ n : Int32, (n = if (x k).2.2.1 = -9223372036854775808 then 1 else 0) → Cm (pC (pC A (23 + i) (kbF (x i) (x k))) (23 + k) (kaF (x k) (x i))) (f_X7_asked_216 (nI i) (nI k) n B) ∧ ER cmC A (pC (pC A (23 + i) (kbF (x i) (x k))) (23 + k) (kaF (x k) (x i))) ∧ ER thR B (f_X7_asked_216 (nI i) (nI k) n B) := by
          intro n hn
          unfold f_X7_asked_216
          rw [(ml k hk).2]
          obtain ⟨j1, r1⟩ := am_R (M := B) (f := 40 + nI i) (t := 48 + nI i) (n := n) (v := (x k).2.2.1 - 1) (x := x i) (by rw [i40 i hi, i48 i hi]; omega) hxi.2.1 hxi.2.2 (by rw [i40 i hi]; exact h.2.1 i hi)
          have ek : (if n = 0 then kuF (x i) ((x k).2.2.1 - 1) else ZC) = kbF (x i) (x k) := by
            unfold kbF
            by_cases q : (x k).2.2.1 = -9223372036854775808
            · rw [if_pos q] at hn
              rw [hn, if_neg (by decide), if_pos q]
            · rw [if_neg q] at hn
              rw [hn, if_pos rfl, if_neg q]
          rw [i48 i hi, ek] at r1
          rw [r1]
          unfold f_X7_asked_c234
          have m1 : mL (uI (pR B (48 + i) (toR (kbF (x i) (x k)))) 52 7 j1) 54 (ix (40 + nI i)) = (x i).2.1 := by
            rw [i40 i hi]; exact congrArg (fun q : Fk => q.2.1) (hb i (kbF (x i) (x k)) j1 hi)
          rw [m1]
          have t260 : ∀ n : Int32, (n = if (x i).2.1 = 9223372036854775807 then 1 else 0) → Cm (pC (pC A (23 + i) (kbF (x i) (x k))) (23 + k) (kaF (x k) (x i))) (f_X7_asked_260 (nI i) (nI k) n (uI (pR B (48 + i) (toR (kbF (x i) (x k)))) 52 7 j1)) ∧ ER cmC A (pC (pC A (23 + i) (kbF (x i) (x k))) (23 + k) (kaF (x k) (x i))) ∧ ER thR B (f_X7_asked_260 (nI i) (nI k) n (uI (pR B (48 + i) (toR (kbF (x i) (x k)))) 52 7 j1)) := by
            intro n hn
            unfold f_X7_asked_260 f_X7_asked_c278 f_X7_asked_325
            rw [m1]
            obtain ⟨j2, r2⟩ := al_R (M := uI (pR B (48 + i) (toR (kbF (x i) (x k)))) 52 7 j1) (f := 40 + nI k) (t := 48 + nI k) (n := n) (v := (x i).2.1 + 1) (x := x k) (by rw [i40 k hk, i48 k hk]; omega) hxk.2.1 hxk.2.2 (by rw [i40 k hk]; exact hb k _ _ hk)
            have ek2 : (if n = 0 then kfF (x k) ((x i).2.1 + 1) else ZC) = kaF (x k) (x i) := by
              unfold kaF
              by_cases q : (x i).2.1 = 9223372036854775807
              · rw [if_pos q] at hn
                rw [hn, if_neg (by decide), if_pos q]
              · rw [if_neg q] at hn
                rw [hn, if_pos rfl, if_neg q]
            rw [i48 k hk, ek2] at r2
            rw [r2]
            exact two h (Gd_kb hxi.2.1 hxi.2.2) (Gd_ka hxk.2.1 hxk.2.2) hi hk
          by_cases q : (x i).2.1 = 9223372036854775807
          · rw [if_pos q]; exact t260 1 (by rw [if_pos q])
          · rw [if_neg q]; exact t260 0 (by rw [if_neg q])
        by_cases q : (x k).2.2.1 = -9223372036854775808
        · rw [if_pos q]; exact t216 1 (by rw [if_pos q])
        · rw [if_neg q]; exact t216 0 (by rw [if_neg q])
  by_cases q23 : op = 23
  · rw [if_pos q23, if_pos q23]
    by_cases z0 : z = 0
    · rw [if_pos z0, if_pos z0]
      have := s120 (Or.inr z0)
      rw [if_pos q23] at this
      exact this
    · rw [if_neg z0, if_neg z0]
      -- both are one: MEET
      have c1 := mt_C (M := A) (t := 23 + i) (a := rT m + 15 + (8 * l + i)) (b := rT m + 15 + (8 * l + k))
      rw [hxi.1, hxk.1] at c1
      rw [c1]
      unfold f_X2_branch_c110 f_X2_branch_c117 f_X2_branch_197
      rw [xl, e2, e3, x_23 hi, x_23 hk, cp_C, gC_p]
      obtain ⟨j1, r1⟩ := mt_R (M := B) (a := 40 + nI i) (b := 40 + nI k) (t := 26) hxi.2.1 hxk.2.1 (by rw [i40 i hi, toR_eq hxi.2.2]; exact h.2.1 i hi) (by rw [i40 k hk, toR_eq hxk.2.2]; exact h.2.1 k hk)
      rw [r1]
      unfold f_X7_asked_c129 f_X7_asked_c139 f_X7_asked_c149 f_X7_asked_184
      rw [show ix 26 = 26 from rfl, cp_R, cp_R, i48 i hi, i48 k hk, show ix 26 = 26 from rfl, gR_n (by omega), gR_u, gR_p]
      have hg := Gd_mt hxi.2.1 hxk.2.1
      refine ⟨fun p hp => ?_, (ER.rf.pC (fun _ => cm_f hi)).pC (fun _ => cm_f hk), (((ER.rf.pR (fun _ h1 h2 => th_s (scr_f h1 h2 (by decide) (by decide)))).uI (th_s rfl)).pR (fun _ h1 h2 => th_f hi h1 h2)).pR (fun _ h1 h2 => th_f hk h1 h2)⟩
      by_cases q1 : p = k
      · rw [q1, gC_p, gR_p]; exact ⟨hg, rfl⟩
      · rw [gC_n (by omega), gR_n (by omega)]
        by_cases q2 : p = i
        · rw [q2, gC_p, gR_p]; exact ⟨hg, rfl⟩
        · rw [gC_n (by omega), gR_n (by omega), gR_u, gR_n (by omega)]
          exact h.cm p hp
  · have q24 : op = 24 := ho.resolve_left q23
    have := s120 (Or.inl q24)
    rw [if_neg q23] at this
    rw [if_neg q23, if_neg q23]
    exact this
