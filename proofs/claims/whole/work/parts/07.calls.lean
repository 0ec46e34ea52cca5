theorem KS.warm {G : Ctx} {s U : State} (hW : s.WarmedH U.vm) (h : KS G s) : KS G U := by
  obtain ⟨h1, h2, h3, h4, h5, h6⟩ := h
  refine ⟨va_K.moved hW.alike h1, fun kd a b => ⟨arrOfT_moved hW.alike (h2 kd a b).1, (h2 kd a b).2.moved hW.alike⟩, fun w hw => ?_, va_AO.moved hW.alike h4, va_AO.moved hW.alike h5, over_moved hW.alike h6⟩
  have hq := (List.mem_filter.mp hw).2
  have h0 := h3 w hw
  cases w <;> first | exact va_Nw.warmM hW h0 | (simp [isNest] at hq)
theorem TB_pay {s U : State} {args a' : Array Value} (hts : ∀ w ∈ TB, w.before args s = true) (hW : s.WarmedH U.vm) {w : Cond} (hw : w ∈ TB) : w.before a' U = true := word_at hW (good_of_word (TB_good hw).2) (hts w hw)
def RmOK (R : Room) (D mL : Nat) : Prop := D + 1 ≤ R.frames ∧ 22 + mL + 50 * D ≤ R.locals
theorem rm_ok {R : Room} {d D D' mc ms mL : Nat} (h : R = rmd d mc ms) (hd : D ≤ d) (hD : D' + 1 ≤ D) (hL : mL ≤ 28) : RmOK R D' mL := by
  subst h
  exact ⟨by show D' + 1 ≤ d; omega, by show 22 + mL + 50 * D' ≤ 50 * d; omega⟩
theorem PcG_blind {G : Ctx} {as : List Value} {M : Mem} : FrameBlind (PcG G as M) := fun _ U _ _ h => ⟨h.1, h.2.1, KS.warm (s := U) (State.WarmedH.refl U) h.2.2⟩
theorem back_G {G : Ctx} {p : Program} {l : Launch} {e : Env} {R : Room} {s : State} {args : Array Value} {below : List Frame} {k : Mth} {as : List Value} {M : Mem} {D mc ms : Nat} {post : Option Value → Mem → Prop}
    (hts : ∀ w ∈ TB, w.before args s = true) (C : CT G l D k as M mc ms post) (hRm : RmOK R D k.2.2.1) (hc : Cond.code k.1 k.2.1 k.2.2.1 k.2.2.2 ∈ TB) (hi : Cond.initialized k.1.cls ∈ TB) :
    Back l R p e below s args k.1 3 11 (PreOf R mc ms (PcG G as M)) (PostOf (QcG G post) mc ms (fun q => G.1 ≤ q)) := by
  refine back_of (bytes := k.2.1) (maxL := k.2.2.1) (ret := k.2.2.2) (C D (Nat.le_refl D)) PcG_blind rfl rfl hRm.1 (by show 11 + (k.2.2.1 + 11) + 50 * D ≤ R.locals; have := hRm.2; omega) (fun w hw a' U hW => ?_) List.mem_cons_self (fun a' U hW => TB_pay hts hW hi)
  rcases List.mem_cons.mp hw with rfl | h
  · exact TB_pay hts hW hc
  · exact TB_pay hts hW h
/-- behind any call -/
theorem V.after {G : Ctx} {p : Program} {l : Launch} {e : Env} {R : Room} {s : State} {m : MethodId} {args : Array Value} {below : List Frame} {meth : Method} {c0 : Code} {nL cells slots mc ms : Nat} {Q : State → Prop} {pc : Nat} {lv : List (Nat × Value)} {rest st : List Value} {post : Option Value → Mem → Prop} {H : Heap} {locs : List Loc} {ls : Array Slot} {T : State}
    (hl : lv_has ls nL (lv.map fun q => (q.1, cv G q.2))) (hS : va_S (fun q => G.1 ≤ q) s.heap H locs) (hT : T.heap = H)
    (h : ∃ (v : Option Value) (vm₁ : Vm) (B : Pt) (as : Array Value), s.WarmedH vm₁ ∧ Stand p l e R s m args below meth c0 B.U B.locs B.cells B.slots ∧ PostOf (QcG G post) mc ms (fun q => G.1 ≤ q) ⟨T.setVm vm₁, locs, cells, slots⟩ as v B ∧
      ∀ target, Steps p.tables e below (B.U.setTop { (F0 m pc ls st) with pc := (F0 m pc ls st).pc + 3, stack := v.toList ++ rest.map (cv G) }) target → Steps p.tables e below (T.setTop (F0 m pc ls st)) target)
    (kk : ∀ (r : Option Value) (M' : Mem), post r M' → V G (p, l, e, R, s, m, args, below, meth, c0) nL (cells + mc) (slots + ms) Q (pc + 3) lv (r.toList ++ rest) M') : ∃ t, Steps p.tables e below (T.setTop (F0 m pc ls st)) t ∧ Q t := by
  obtain ⟨v, vm₁, ⟨U', l2, c2, s2⟩, as, hW₁, X', ⟨g', mk, t, L, e1, e2, ⟨r, M', hv, hp, hR', hz, hk⟩, h1, hL, h2, h3⟩, st'⟩ := h
  dsimp only [Pt.U, Pt.locs, Pt.cells, Pt.slots] at X' e1 e2 h1 h2 h3 st'
  subst h1; subst h2; subst h3
  cases hv
  have hz : T.heap.size ≤ t.heap.size := hz
  have hk : ∀ q : Nat, q < T.heap.size → ¬ G.1 ≤ q → t.heap[q]? = T.heap[q]? := hk
  rw [hT] at hz hk
  have hS1 : va_S (fun q => G.1 ≤ q) s.heap U'.heap (locs ++ L) := ⟨Nat.le_trans hS.1 (by rw [e1]; exact hz), fun q q1 q2 => by rw [e1, hk q (Nat.lt_of_lt_of_le q1 hS.1) q2]; exact hS.2.1 q q1 q2, fun q hq => by
      rcases List.mem_append.mp hq with h | h
      · exact hS.2.2 q h
      · exact hL q h⟩
  obtain ⟨t2, a1, b1⟩ := kk r M' hp U'.heap (locs ++ L) ls hl (by rw [e1]; exact hR') hS1 U' rfl X'
  refine ⟨t2, st' t2 ?_, b1⟩
  have e9 : (r.map (cv G)).toList ++ rest.map (cv G) = (r.toList ++ rest).map (cv G) := by cases r <;> rfl
  rw [e9]
  exact a1
def notMH (k : Mth) : Prop := k.1.cls ≠ "java/lang/invoke/MethodHandle" ∧ k.1.cls ≠ "java/lang/invoke/VarHandle"
def parN (k : Mth) (n : Nat) : Prop := (parseMethodDescriptor k.1.desc).map (fun d => d.parameters.length) = some n
def baseOK (k : Mth) (n : Nat) : Prop := Cond.code k.1 k.2.1 k.2.2.1 k.2.2.2 ∈ TB ∧ Cond.initialized k.1.cls ∈ TB ∧ notMH k ∧ parN k n
def lkS (own : String) (x : Nat) (k : Mth) : Prop := Cond.methodLink own x k.1 ∈ TB ∧ Cond.static k.1 ∈ TB
def lkSN (own : String) (x : Nat) (k : Mth) : Prop := (∃ host, Cond.methodLinkNest own x k.1 host ∈ nestWs) ∧ Cond.static k.1 ∈ TB
def lkV (own : String) (x : Nat) (k : Mth) : Prop := Cond.methodLink own x k.1 ∈ TB ∧ Cond.instanceMethod k.1 ∈ TB ∧ Cond.selects k.1.cls k.1 k.1 ∈ TB
def lkVN (own : String) (x : Nat) (k : Mth) : Prop := (∃ host, Cond.methodLinkNest own x k.1 host ∈ nestWs) ∧ Cond.instanceMethod k.1 ∈ TB ∧ Cond.selects k.1.cls k.1 k.1 ∈ TB
def lkI (own : String) (x : Nat) (k : Mth) : Prop := Cond.methodLink own x k.1 ∈ TB ∧ Cond.instanceMethod k.1 ∈ TB ∧ k.1.name = "<init>" ∧ k.2.2.2 = none
def lkIN (own : String) (x : Nat) (k : Mth) : Prop := (∃ host, Cond.methodLinkNest own x k.1 host ∈ nestWs) ∧ Cond.instanceMethod k.1 ∈ TB ∧ k.1.name = "<init>" ∧ k.2.2.2 = none
theorem par_of {k : Mth} {n : Nat} (h : parN k n) : ∀ sig, parseMethodDescriptor k.1.desc = some sig → n = sig.parameters.length := fun sig q => by
  unfold parN at h
  rw [q] at h
  exact (Option.some.inj h).symm
section CL
variable {G : Ctx} {X : Xt} {own : String} {cc : ByteArray} {nL : Nat} {ret : Option FieldType} {cells slots mc ms : Nat} {Q : State → Prop} {pc x D : Nat} {lv : List (Nat × Value)} {as rest : List Value} {M : Mem} {post : Option Value → Mem → Prop} {k : Mth}
theorem V.callS (F : Fx G X own cc nL ret) (hd : decode cc pc = .ok (.invokestatic x, 3)) (hk : lkS own x k) (hB : baseOK k as.length) (C : CT G X.2.1 D k as M mc ms post) (hRm : RmOK X.2.2.2.1 D k.2.2.1) (hcs : cells + mc ≤ X.2.2.2.1.cells ∧ slots + ms ≤ X.2.2.2.1.slots) (hw : (rest.map fun v => v.category).sum ≤ 11)
    (kk : ∀ (r : Option Value) (M' : Mem), post r M' → V G X nL (cells + mc) (slots + ms) Q (pc + 3) lv (r.toList ++ rest) M') : V G X nL cells slots Q pc lv (as.reverse ++ rest) M := by
  obtain ⟨p, l, e, R, s, m, args, below, meth, c0⟩ := X
  obtain ⟨hx, hb, hml, hown, hts, hK, hr, hlocks, hZ⟩ := F
  obtain ⟨hc, hi, hmh, hpar⟩ := hB
  intro H locs ls hl hR hS T hT XX
  have hBk := back_G (p := p) (e := e) (below := below) hts C hRm hc hi
  obtain ⟨hlk, hk2⟩ := hk
  have hlk0 := hts _ hlk
  obtain ⟨v, vm₁, B, g1, g2, g3, g4⟩ := callS XX hx (bytes := k.2.1) (maxL := k.2.2.1) (ret := k.2.2.2) hown hlk0 (hts _ hk2) (hts _ hi) (hts _ hc) hmh hBk (g := F0 m pc ls ((as.reverse ++ rest).map (cv G))) rfl (hl.1.trans hml.symm) (argsL := as.map (cv G)) (rest := rest.map (cv G)) (fun sig h => by rw [List.length_map]; exact par_of hpar sig h) (by show List.map (cv G) _ = _; rw [List.map_append, List.map_reverse]) (by show 2 * 0 + _ ≤ 11; rw [List.map_map]; simp only [Function.comp_def, cv_cat]; omega) (by rw [hb]; exact hd) (fun vm₁ hW₁ => ⟨hcs.1, hcs.2, rfl, by show Rep G M T.heap; rw [hT]; exact hR, KS.warm (U := T.setVm vm₁) hW₁ hK⟩)
  exact V.after hl hS hT ⟨v, vm₁, B, _, g1, g2, g3, g4⟩ kk
theorem V.callSN (F : Fx G X own cc nL ret) (hd : decode cc pc = .ok (.invokestatic x, 3)) (hk : lkSN own x k) (hB : baseOK k as.length) (C : CT G X.2.1 D k as M mc ms post) (hRm : RmOK X.2.2.2.1 D k.2.2.1) (hcs : cells + mc ≤ X.2.2.2.1.cells ∧ slots + ms ≤ X.2.2.2.1.slots) (hw : (rest.map fun v => v.category).sum ≤ 11)
    (kk : ∀ (r : Option Value) (M' : Mem), post r M' → V G X nL (cells + mc) (slots + ms) Q (pc + 3) lv (r.toList ++ rest) M') : V G X nL cells slots Q pc lv (as.reverse ++ rest) M := by
  obtain ⟨p, l, e, R, s, m, args, below, meth, c0⟩ := X
  obtain ⟨hx, hb, hml, hown, hts, hK, hr, hlocks, hZ⟩ := F
  obtain ⟨hc, hi, hmh, hpar⟩ := hB
  intro H locs ls hl hR hS T hT XX
  have hBk := back_G (p := p) (e := e) (below := below) hts C hRm hc hi
  obtain ⟨⟨host, hlk⟩, hk2⟩ := hk
  have hlk0 := va_Nw.use (A := args) rfl (hK.2.2.1 _ hlk)
  obtain ⟨v, vm₁, B, g1, g2, g3, g4⟩ := va_callSN XX hx (bytes := k.2.1) (maxL := k.2.2.1) (ret := k.2.2.2) hown hlk0 (hts _ hk2) (hts _ hi) (hts _ hc) hmh hBk (g := F0 m pc ls ((as.reverse ++ rest).map (cv G))) rfl (hl.1.trans hml.symm) (argsL := as.map (cv G)) (rest := rest.map (cv G)) (fun sig h => by rw [List.length_map]; exact par_of hpar sig h) (by show List.map (cv G) _ = _; rw [List.map_append, List.map_reverse]) (by show 2 * 0 + _ ≤ 11; rw [List.map_map]; simp only [Function.comp_def, cv_cat]; omega) (by rw [hb]; exact hd) (fun vm₁ hW₁ => ⟨hcs.1, hcs.2, rfl, by show Rep G M T.heap; rw [hT]; exact hR, KS.warm (U := T.setVm vm₁) hW₁ hK⟩)
  exact V.after hl hS hT ⟨v, vm₁, B, _, g1, g2, g3, g4⟩ kk
theorem V.callV {b : Nat} (F : Fx G X own cc nL ret) (hd : decode cc pc = .ok (.invokevirtual x, 3)) (hk : lkV own x k) (hB : baseOK k as.length) (hrecv : ∃ c r, isO M b c ∧ vwCl[c]? = some r ∧ r.1 = k.1.cls) (C : CT G X.2.1 D k (.ref b :: as) M mc ms post) (hRm : RmOK X.2.2.2.1 D k.2.2.1) (hcs : cells + mc ≤ X.2.2.2.1.cells ∧ slots + ms ≤ X.2.2.2.1.slots) (hw : (rest.map fun v => v.category).sum ≤ 11)
    (kk : ∀ (r : Option Value) (M' : Mem), post r M' → V G X nL (cells + mc) (slots + ms) Q (pc + 3) lv (r.toList ++ rest) M') : V G X nL cells slots Q pc lv (as.reverse ++ .ref b :: rest) M := by
  obtain ⟨p, l, e, R, s, m, args, below, meth, c0⟩ := X
  obtain ⟨hx, hb, hml, hown, hts, hK, hr, hlocks, hZ⟩ := F
  obtain ⟨hc, hi, hmh, hpar⟩ := hB
  intro H locs ls hl hR hS T hT XX
  have hBk := back_G (p := p) (e := e) (below := below) hts C hRm hc hi
  obtain ⟨hlk, hk2⟩ := hk
  have hlk0 := hts _ hlk
  obtain ⟨hin, hsel⟩ := hk2
  obtain ⟨cN, rC, ho, hv, hcn⟩ := hrecv
  obtain ⟨cell, q1, q2, q3, -⟩ := (hR.2.1 b ho.2.1 ho.2.2).1 cN _ ho.1 hv
  have hfc := (hK.1.1 cN _ hv).2.1
  obtain ⟨v, vm₁, B, g1, g2, g3, g4⟩ := callV XX hx (C := k.1.cls) (bytes := k.2.1) (maxL := k.2.2.1) (ret := k.2.2.2) hown hlk0 (hts _ hin) (hts _ hsel) (hts _ hc) hmh hBk (b := ad G b) (cellB := cell) (by rw [hT]; exact q1) (by rw [q3]; rfl) (by rw [q2, ← hcn]; exact hfc) (g := F0 m pc ls ((as.reverse ++ .ref b :: rest).map (cv G))) rfl (hl.1.trans hml.symm) (argsL := as.map (cv G)) (rest := rest.map (cv G)) (fun sig h => by rw [List.length_map]; exact par_of hpar sig h) (by show List.map (cv G) _ = _; rw [List.map_append, List.map_reverse]; rfl) (by show 2 * 0 + _ ≤ 11; rw [List.map_map]; simp only [Function.comp_def, cv_cat]; omega) (by rw [hb]; exact hd) (fun vm₁ hW₁ => ⟨hcs.1, hcs.2, rfl, by show Rep G M T.heap; rw [hT]; exact hR, KS.warm (U := T.setVm vm₁) hW₁ hK⟩)
  exact V.after hl hS hT ⟨v, vm₁, B, _, g1, g2, g3, g4⟩ kk
theorem V.callVN {b : Nat} (F : Fx G X own cc nL ret) (hd : decode cc pc = .ok (.invokevirtual x, 3)) (hk : lkVN own x k) (hB : baseOK k as.length) (hrecv : ∃ c r, isO M b c ∧ vwCl[c]? = some r ∧ r.1 = k.1.cls) (C : CT G X.2.1 D k (.ref b :: as) M mc ms post) (hRm : RmOK X.2.2.2.1 D k.2.2.1) (hcs : cells + mc ≤ X.2.2.2.1.cells ∧ slots + ms ≤ X.2.2.2.1.slots) (hw : (rest.map fun v => v.category).sum ≤ 11)
    (kk : ∀ (r : Option Value) (M' : Mem), post r M' → V G X nL (cells + mc) (slots + ms) Q (pc + 3) lv (r.toList ++ rest) M') : V G X nL cells slots Q pc lv (as.reverse ++ .ref b :: rest) M := by
  obtain ⟨p, l, e, R, s, m, args, below, meth, c0⟩ := X
  obtain ⟨hx, hb, hml, hown, hts, hK, hr, hlocks, hZ⟩ := F
  obtain ⟨hc, hi, hmh, hpar⟩ := hB
  intro H locs ls hl hR hS T hT XX
  have hBk := back_G (p := p) (e := e) (below := below) hts C hRm hc hi
  obtain ⟨⟨host, hlk⟩, hk2⟩ := hk
  have hlk0 := va_Nw.use (A := args) rfl (hK.2.2.1 _ hlk)
  obtain ⟨hin, hsel⟩ := hk2
  obtain ⟨cN, rC, ho, hv, hcn⟩ := hrecv
  obtain ⟨cell, q1, q2, q3, -⟩ := (hR.2.1 b ho.2.1 ho.2.2).1 cN _ ho.1 hv
  have hfc := (hK.1.1 cN _ hv).2.1
  obtain ⟨v, vm₁, B, g1, g2, g3, g4⟩ := va_callVN XX hx (C := k.1.cls) (bytes := k.2.1) (maxL := k.2.2.1) (ret := k.2.2.2) hown hlk0 (hts _ hin) (hts _ hsel) (hts _ hc) hmh hBk (b := ad G b) (cellB := cell) (by rw [hT]; exact q1) (by rw [q3]; rfl) (by rw [q2, ← hcn]; exact hfc) (g := F0 m pc ls ((as.reverse ++ .ref b :: rest).map (cv G))) rfl (hl.1.trans hml.symm) (argsL := as.map (cv G)) (rest := rest.map (cv G)) (fun sig h => by rw [List.length_map]; exact par_of hpar sig h) (by show List.map (cv G) _ = _; rw [List.map_append, List.map_reverse]; rfl) (by show 2 * 0 + _ ≤ 11; rw [List.map_map]; simp only [Function.comp_def, cv_cat]; omega) (by rw [hb]; exact hd) (fun vm₁ hW₁ => ⟨hcs.1, hcs.2, rfl, by show Rep G M T.heap; rw [hT]; exact hR, KS.warm (U := T.setVm vm₁) hW₁ hK⟩)
  exact V.after hl hS hT ⟨v, vm₁, B, _, g1, g2, g3, g4⟩ kk
theorem V.callI {b : Nat} (F : Fx G X own cc nL ret) (hd : decode cc pc = .ok (.invokespecial x, 3)) (hk : lkI own x k) (hB : baseOK k as.length) (C : CT G X.2.1 D k (.ref b :: as) M mc ms post) (hRm : RmOK X.2.2.2.1 D k.2.2.1) (hcs : cells + mc ≤ X.2.2.2.1.cells ∧ slots + ms ≤ X.2.2.2.1.slots) (hw : (rest.map fun v => v.category).sum ≤ 11)
    (kk : ∀ (r : Option Value) (M' : Mem), post r M' → V G X nL (cells + mc) (slots + ms) Q (pc + 3) lv (r.toList ++ rest) M') : V G X nL cells slots Q pc lv (as.reverse ++ .ref b :: rest) M := by
  obtain ⟨p, l, e, R, s, m, args, below, meth, c0⟩ := X
  obtain ⟨hx, hb, hml, hown, hts, hK, hr, hlocks, hZ⟩ := F
  obtain ⟨hc, hi, hmh, hpar⟩ := hB
  intro H locs ls hl hR hS T hT XX
  have hBk := back_G (p := p) (e := e) (below := below) hts C hRm hc hi
  obtain ⟨hlk, hk2⟩ := hk
  have hlk0 := hts _ hlk
  obtain ⟨hin, hnm, hrt⟩ := hk2
  have hc0 := hts _ hc
  rw [hrt] at hc0
  obtain ⟨v, vm₁, B, g1, g2, g3, g4⟩ := callI XX hx (bytes := k.2.1) (maxL := k.2.2.1) hown hnm hlk0 (hts _ hin) hc0 hmh hBk (g := F0 m pc ls ((as.reverse ++ .ref b :: rest).map (cv G))) rfl (hl.1.trans hml.symm) (a := ad G b) (argsL := as.map (cv G)) (rest := rest.map (cv G)) (fun sig h => by rw [List.length_map]; exact par_of hpar sig h) (by show List.map (cv G) _ = _; rw [List.map_append, List.map_reverse]; rfl) (by show 2 * 0 + _ ≤ 11; rw [List.map_map]; simp only [Function.comp_def, cv_cat]; omega) (by rw [hb]; exact hd) (fun vm₁ hW₁ => ⟨hcs.1, hcs.2, rfl, by show Rep G M T.heap; rw [hT]; exact hR, KS.warm (U := T.setVm vm₁) hW₁ hK⟩)
  exact V.after hl hS hT ⟨v, vm₁, B, _, g1, g2, g3, g4⟩ kk
theorem V.callIN {b : Nat} (F : Fx G X own cc nL ret) (hd : decode cc pc = .ok (.invokespecial x, 3)) (hk : lkIN own x k) (hB : baseOK k as.length) (C : CT G X.2.1 D k (.ref b :: as) M mc ms post) (hRm : RmOK X.2.2.2.1 D k.2.2.1) (hcs : cells + mc ≤ X.2.2.2.1.cells ∧ slots + ms ≤ X.2.2.2.1.slots) (hw : (rest.map fun v => v.category).sum ≤ 11)
    (kk : ∀ (r : Option Value) (M' : Mem), post r M' → V G X nL (cells + mc) (slots + ms) Q (pc + 3) lv (r.toList ++ rest) M') : V G X nL cells slots Q pc lv (as.reverse ++ .ref b :: rest) M := by
  obtain ⟨p, l, e, R, s, m, args, below, meth, c0⟩ := X
  obtain ⟨hx, hb, hml, hown, hts, hK, hr, hlocks, hZ⟩ := F
  obtain ⟨hc, hi, hmh, hpar⟩ := hB
  intro H locs ls hl hR hS T hT XX
  have hBk := back_G (p := p) (e := e) (below := below) hts C hRm hc hi
  obtain ⟨⟨host, hlk⟩, hk2⟩ := hk
  have hlk0 := va_Nw.use (A := args) rfl (hK.2.2.1 _ hlk)
  obtain ⟨hin, hnm, hrt⟩ := hk2
  have hc0 := hts _ hc
  rw [hrt] at hc0
  obtain ⟨v, vm₁, B, g1, g2, g3, g4⟩ := va_callIN XX hx (bytes := k.2.1) (maxL := k.2.2.1) hown hnm hlk0 (hts _ hin) hc0 hmh hBk (g := F0 m pc ls ((as.reverse ++ .ref b :: rest).map (cv G))) rfl (hl.1.trans hml.symm) (a := ad G b) (argsL := as.map (cv G)) (rest := rest.map (cv G)) (fun sig h => by rw [List.length_map]; exact par_of hpar sig h) (by show List.map (cv G) _ = _; rw [List.map_append, List.map_reverse]; rfl) (by show 2 * 0 + _ ≤ 11; rw [List.map_map]; simp only [Function.comp_def, cv_cat]; omega) (by rw [hb]; exact hd) (fun vm₁ hW₁ => ⟨hcs.1, hcs.2, rfl, by show Rep G M T.heap; rw [hT]; exact hR, KS.warm (U := T.setVm vm₁) hW₁ hK⟩)
  exact V.after hl hS hT ⟨v, vm₁, B, _, g1, g2, g3, g4⟩ kk
end CL
