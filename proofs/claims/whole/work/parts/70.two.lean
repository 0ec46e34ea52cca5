theorem wC_ops {m l o : Nat} {A A' : Mem} (h : ER (wfC m) A A') (h1 : 1 ≤ o) (h2 : o ≤ 3) : mI A' (rT m + o) l = mI A (rT m + o) l := by
  have er : rT m = 74 + 271 * m := rfl
  exact (h.2.2 _ _ (wfC_f (by omega) (by omega) (by omega) (by omega) (by omega))).1
theorem sd_e {m l n : Nat} {A A' : Mem} (hl : l < 64) (hn : n ≤ 32) (h : ER (fun b j => decide (l < n) && sdC m l b j) A A') : ER (wfC m) A A' := h.mono (fun b j q => by
  simp only [Bool.and_eq_true, decide_eq_true_eq] at q
  exact sdC_w (by omega) b j q.2)
theorem sd_er {m l n : Nat} {B B' : Mem} (hl : l < 64) (hn : n ≤ 32) (h : ER (fun b j => decide (l < n) && sdR m l b j) B B') : ER (wfR m) B B' := h.mono (fun b j q => by
  simp only [Bool.and_eq_true, decide_eq_true_eq] at q
  exact sdR_w (by omega) b j q.2)
/-- what comes goes on to the LINE l2 -/
theorem on_all {m n l2 : Nat} {A0 B0 A B : Mem} (hm : m < 6) (hl : l2 < 64) (hS : St m n A B) (hD : Dy m n A B) (hC : Cm A B) (ha : ER (wfC m) A0 A) (hb : ER (wfR m) B0 B) : Dy m n (f_X2_send A (rT m) (nI l2)) (f_X7_goTo B (nI m) (nI l2)) ∧ ER (wfC m) A0 (f_X2_send A (rT m) (nI l2)) ∧ ER (wfR m) B0 (f_X7_goTo B (nI m) (nI l2)) := by
  obtain ⟨r1, _, r3, r4⟩ := snd_all hm hl hS hD hC
  exact ⟨r1, ha.tr (sd_e hl hS.1 r3), hb.tr (sd_er hl hS.1 r4)⟩
theorem nI_p {l k : Nat} : nI l + nI k = nI (l + k) := nI_add l k
theorem LnS.of {m l : Nat} {A B A2 B2 : Mem} {x : Nat → Fk} (hx : ∀ p, p < 8 → gC A (rT m + 15 + (8 * l + p)) = x p ∧ Gd (x p) ∧ (x p).1 = 0) (hb : ∀ p, p < 8 → gR B (40 + p) = x p) (hl : l < 64) (eA : A2 = f_X2_fetch A (rT m) (nI l)) (eB : B2 = f_X7_ready B) : LnS m l A2 B2 x ∧ ER cmC A A2 ∧ ER hrR B B2 := by
  have er : rT m = 74 + 271 * m := rfl
  obtain ⟨f1, f2⟩ := ft_C (m := m) (A := A) hl 8 9 0 A rfl (by omega) ER.rf (fun p h => by omega)
  obtain ⟨g1, g2⟩ := rdy_R B
  have eA' : A2 = f_X2_fetch_2 (rT m) (nI l) 9 0 A := eA
  rw [← eA'] at f1 f2
  rw [← eB] at g1 g2
  refine ⟨⟨fun p hp => ?_, fun p hp => ?_, fun p hp => ?_, fun p hp => ?_⟩, f2, g2⟩
  · rw [f2.cg (fun jj => by
      have a2 : ¬ 74 + 271 * m + 15 + (8 * l + p) ≤ 30 := by omega
      simp only [cmC, er, a2, decide_false, Bool.and_false])]
    exact hx p hp
  · rw [(g1 p hp).2]; exact hb p hp
  · rw [f1 p hp]; exact (hx p hp).1
  · rw [(g1 p hp).1]; exact hb p hp
/-- the LINEs that part in two -/
theorem wl_2 {m n l : Nat} {A0 B0 A B : Mem} {x : Nat → Fk} {op a b : Int32} (hm : m < 6) (hl : l < n) (hS : St m n A B) (hD : Dy m n A B) (hx : LnS m l A B x) (ho : op = 23 ∨ op = 24 ∨ op = 25) (hg : LnG op a b) (e1 : mI A (rT m + 1) l = op) (e2 : mI A (rT m + 2) l = a) (e3 : mI A (rT m + 3) l = b) (ha : ER (wfC m) A0 A) (hb : ER (wfR m) B0 B) :
    Dy m n (f_X2_workLine_c174 (rT m) (nI l) (f_X2_branch A (rT m) (nI l) 0)) (f_X7_work_c119 (nI m) (nI l) (f_X7_asked (f_X7_ready (f_X7_goTo (f_X7_asked B op a b 0) (nI m) (nI l + 1))) op a b 1)) ∧ ER (wfC m) A0 (f_X2_workLine_c174 (rT m) (nI l) (f_X2_branch A (rT m) (nI l) 0)) ∧ ER (wfR m) B0 (f_X7_work_c119 (nI m) (nI l) (f_X7_asked (f_X7_ready (f_X7_goTo (f_X7_asked B op a b 0) (nI m) (nI l + 1))) op a b 1)) := by
  have er : rT m = 74 + 271 * m := rfl
  have hn := hS.1
  -- both branches by one lemma
  have br : ∀ (A B : Mem) (z : Int32), (z = 0 ∨ z = 1) → LnS m l A B x → mI A (rT m + 1) l = op → mI A (rT m + 2) l = a → mI A (rT m + 3) l = b → Cm (f_X2_branch A (rT m) (nI l) z) (f_X7_asked B op a b z) ∧ ER cmC A (f_X2_branch A (rT m) (nI l) z) ∧ ER thR B (f_X7_asked B op a b z) := by
    intro A B z hz h e1 e2 e3
    obtain ⟨i, hi, rfl⟩ := hg.2.2.1
    rcases ho with o | o | o
    · obtain ⟨k, hk, rfl⟩ := hg.2.2.2.1 (Or.inr (Or.inr (Or.inl o)))
      exact br_2 (by omega) hi hk (Or.inl o) hz h e1 e2 e3
    · obtain ⟨k, hk, rfl⟩ := hg.2.2.2.1 (Or.inr (Or.inr (Or.inr o)))
      exact br_2 (by omega) hi hk (Or.inr o) hz h e1 e2 e3
    · obtain ⟨k, hk, rfl⟩ := hg.2.2.2.2.2.1 o
      subst o
      exact br_1 (by omega) hi hk hz h e1 e2 e3
  obtain ⟨c1, c2, c3⟩ := br A B 0 (Or.inl rfl) hx e1 e2 e3
  generalize hA3 : f_X2_branch A (rT m) (nI l) 0 = A3 at c1 c2
  generalize hB3 : f_X7_asked B op a b 0 = B3 at c1 c3
  have w3 := ha.tr (c2.mono (fun b j h => eC_w (m := m) b j (cm_e b j h)))
  have v3 := hb.tr (c3.mono (fun b j h => eR_w (m := m) b j (th_e b j h)))
  have D3 := hD.e hm hn (c2.mono cm_e) (c3.mono th_e)
  have S3 := hS.w hm (c2.mono (fun b j h => eC_w (m := m) b j (cm_e b j h))) (c3.mono (fun b j h => eR_w (m := m) b j (th_e b j h)))
  unfold f_X2_workLine_c174 f_X2_workLine_c182 f_X2_workLine_c188 f_X2_workLine_c195 f_X2_workLine_c203 f_X7_work_c119 f_X7_work_c127
  have n1 : nI l + 1 = nI (l + 1) := nI_1 l
  have n2 : nI l + 2 = nI (l + 2) := nI_add l 2
  rw [n1, n2]
  obtain ⟨D4, _, p4, q4⟩ := snd_all hm (l := l + 1) (by omega) S3 D3 c1
  have w4 := w3.tr (sd_e (by omega) hn p4)
  have v4 := v3.tr (sd_er (by omega) hn q4)
  have S4 := S3.w hm (sd_e (by omega) hn p4) (sd_er (by omega) hn q4)
  generalize hA4 : f_X2_send A3 (rT m) (nI (l + 1)) = A4 at D4 p4 w4 S4
  generalize hB4 : f_X7_goTo B3 (nI m) (nI (l + 1)) = B4 at D4 q4 v4 S4
  -- the LINE's own facts are as they were
  have x4 : ∀ p, p < 8 → gC A4 (rT m + 15 + (8 * l + p)) = x p ∧ Gd (x p) ∧ (x p).1 = 0 := fun p hp => by
    have g1 : gC A4 (rT m + 15 + (8 * l + p)) = gC A3 (rT m + 15 + (8 * l + p)) := p4.cg (fun jj => by
      cases e : sdC m (l + 1) (rT m + 15 + (8 * l + p)) jj with
      | false => rw [Bool.and_false]
      | true =>
        simp only [sdC, Bool.or_eq_true, Bool.and_eq_true, decide_eq_true_eq] at e
        omega)
    have g2 : gC A3 (rT m + 15 + (8 * l + p)) = gC A (rT m + 15 + (8 * l + p)) := c2.cg (fun jj => by
      have a2 : ¬ 74 + 271 * m + 15 + (8 * l + p) ≤ 30 := by omega
      simp only [cmC, er, a2, decide_false, Bool.and_false])
    rw [g1, g2]; exact hx.1 p hp
  have y4 : ∀ p, p < 8 → gR B4 (40 + p) = x p := fun p hp => by
    have g1 : gR B4 (40 + p) = gR B3 (40 + p) := q4.g (fun b b1 b2 => by
      cases e : sdR m (l + 1) b (40 + p) with
      | false => rw [Bool.and_false]
      | true =>
        simp only [sdR, scr, Bool.or_eq_true, Bool.and_eq_true, decide_eq_true_eq] at e
        omega)
    have g2 : gR B3 (40 + p) = gR B (40 + p) := c3.g (fun b b1 b2 => by
      cases e : thR b (40 + p) with
      | false => rfl
      | true =>
        simp only [thR, scr, Bool.or_eq_true, Bool.and_eq_true, decide_eq_true_eq] at e
        omega)
    rw [g1, g2]; exact hx.2.1 p hp
  obtain ⟨L5, t5, u5⟩ := LnS.of (A2 := f_X2_fetch A4 (rT m) (nI l)) (B2 := f_X7_ready B4) x4 y4 (by omega) rfl rfl
  generalize f_X2_fetch A4 (rT m) (nI l) = A5 at L5 t5
  generalize f_X7_ready B4 = B5 at L5 u5
  have k5 := t5.mono (fun b j h => eC_w (m := m) b j (cm_e b j h))
  have r5 := u5.mono (fun b j h => eR_w (m := m) b j (hr_e b j h))
  have D5 := D4.e hm hn (t5.mono cm_e) (u5.mono hr_e)
  have S5 := S4.w hm k5 r5
  have w5 := w4.tr k5
  have v5 := v4.tr r5
  have wA : ER (wfC m) A A5 := ((c2.mono (fun b j h => eC_w (m := m) b j (cm_e b j h))).tr (sd_e (by omega) hn p4)).tr k5
  obtain ⟨d1, d2, d3⟩ := br A5 B5 1 (Or.inr rfl) L5 (by rw [wC_ops wA (by omega) (by omega)]; exact e1) (by rw [wC_ops wA (by omega) (by omega)]; exact e2) (by rw [wC_ops wA (by omega) (by omega)]; exact e3)
  have D6 := D5.e hm hn (d2.mono cm_e) (d3.mono th_e)
  have S6 := S5.w hm (d2.mono (fun b j h => eC_w (m := m) b j (cm_e b j h))) (d3.mono (fun b j h => eR_w (m := m) b j (th_e b j h)))
  exact on_all hm (by omega) S6 D6 d1 (w5.tr (d2.mono (fun b j h => eC_w (m := m) b j (cm_e b j h)))) (v5.tr (d3.mono (fun b j h => eR_w (m := m) b j (th_e b j h))))
