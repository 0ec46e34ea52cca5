/-- four rows at once -/
def m5 (M : Mem) : Mem := uB (uB (uB (uB (mN (mN (mN (mN (mN M))))) (mK M + 1) 0) (mK M + 1) 1) (mK M + 1) 2) (mK M + 1) 3
theorem m5_old {M : Mem} {b j : Nat} (h : b ≤ mK M) : mB (m5 M) b j = mB M b j ∧ mI (m5 M) b j = mI M b j ∧ mL (m5 M) b j = mL M b j := by
  have h0 : b ≤ M.1 := h
  have h1 : b ≠ M.1 + 1 := by omega
  have h2 : b ≠ M.1 + 1 + 1 := by omega
  have h3 : b ≠ M.1 + 1 + 1 + 1 := by omega
  have h4 : b ≠ M.1 + 1 + 1 + 1 + 1 := by omega
  have h5 : b ≠ M.1 + 1 + 1 + 1 + 1 + 1 := by omega
  simp [m5, uB, mN, mB, mI, mL, mK, u2, h1, h2, h3, h4, h5]
theorem m5_z {M : Mem} {o j : Nat} (h1 : 1 ≤ o) (h : o ≤ 5) : mI (m5 M) (mK M + o) j = 0 ∧ mL (m5 M) (mK M + o) j = 0 := by
  rcases (show o = 1 ∨ o = 2 ∨ o = 3 ∨ o = 4 ∨ o = 5 by omega) with rfl | rfl | rfl | rfl | rfl <;> simp [m5, uB, mN, mI, mL, mK, u2]
theorem m5_b {M : Mem} {j : Nat} : mB (m5 M) (mK M + 1) j = decide (j < 4) := by
  by_cases h : j < 4
  · rcases (show j = 0 ∨ j = 1 ∨ j = 2 ∨ j = 3 by omega) with rfl | rfl | rfl | rfl <;> simp [m5, uB, mN, mB, mK, u2]
  · have h0 : j ≠ 0 := by omega
    have h1 : j ≠ 1 := by omega
    have h2 : j ≠ 2 := by omega
    have h3 : j ≠ 3 := by omega
    simp [m5, uB, mN, mB, mK, u2, h, h0, h1, h2, h3]
theorem ad_s {G : Ctx} {M : Mem} {H : Heap} (hR : Rep G M H) (o : Nat) : ad G (mK M + 1 + o) = H.size + o := by
  rw [hR.1, show mK M + 1 + o = (mK M + o) + 1 by omega]
  show G.1 + (mK M + o) = G.1 + mK M + o
  omega
theorem rep_m5 {G : Ctx} {M : Mem} {H H' : Heap} (h : Rep G M H) (hs : SH (mK M + 1) = (28, 4)) (hs2 : ∀ j, j < 4 → SH (mK M + 1 + 1 + j) = (22, 16)) (hz : H'.size = H.size + 5) (ho : ∀ q, q < H.size → H'[q]? = H[q]?)
    (h1 : H'[H.size]? = some (arrV (G.2.2.2 28) 4 (fun j => va_rf (if j < 4 then some (H.size + 1 + j) else none)))) (h2 : ∀ j, j < 4 → H'[H.size + 1 + j]? = some (arrV (G.2.2.2 22) 16 (fun _ => .long 0))) : Rep G (m5 M) H' := by
  refine ⟨by rw [hz, h.1]; rfl, fun b hb hbk => ?_, fun b j hb => ?_⟩
  · have hbk : b ≤ mK M + 5 := hbk
    by_cases e : b ≤ mK M
    · obtain ⟨g1, g2⟩ := h.2.1 b hb e
      have hq : H'[ad G b]? = H[ad G b]? := ho _ (by rw [ad_pos hb, h.1]; omega)
      refine ⟨fun c r hs hv => ?_, fun hs => ?_⟩
      · refine ((g1 c r hs hv).kept hq).to (fun j _ => ?_)
        obtain ⟨r1, r2, r3⟩ := m5_old (M := M) (j := j) e
        simp only [fvl, r1, r2, r3]
      · rw [hq, g2 hs]
        congr 2
        funext j
        obtain ⟨r1, r2, r3⟩ := m5_old (M := M) (j := j) e
        simp only [avl, r1, r2, r3]
    · by_cases e1 : b = mK M + 1
      · subst e1
        refine ⟨fun c r hs' hv => ?_, fun _ => ?_⟩
        · have h8 : c < 8 := (List.getElem?_eq_some_iff.mp hv).1
          rw [hs] at hs'
          simp at hs'
          omega
        · rw [show ad G (mK M + 1) = H.size from ad_s h 0, h1, hs]
          congr 2
          funext j
          simp only [avl]
          rw [if_neg (show ¬ (28 : Nat) < 22 by decide), if_neg (show ¬ (28 : Nat) = 22 by decide), m5_b]
          by_cases hj : j < 4
          · rw [if_pos hj, if_pos (by simp [hj])]
            show Value.ref _ = Value.ref (ad G (mK M + 1 + 1 + j))
            rw [show mK M + 1 + 1 + j = mK M + 1 + (1 + j) by omega, ad_s h, Nat.add_assoc]
          · rw [if_neg hj, if_neg (by simp [hj])]
            rfl
      · obtain ⟨j, hj, rfl⟩ : ∃ j, j < 4 ∧ b = mK M + 1 + 1 + j := ⟨b - (mK M + 2), by omega, by omega⟩
        refine ⟨fun c r hs' hv => ?_, fun _ => ?_⟩
        · have h8 : c < 8 := (List.getElem?_eq_some_iff.mp hv).1
          rw [hs2 j hj] at hs'
          simp at hs'
          omega
        · rw [show mK M + 1 + 1 + j = mK M + 1 + (1 + j) by omega, ad_s h, ← Nat.add_assoc, h2 j hj, show mK M + 1 + (1 + j) = mK M + 1 + 1 + j by omega, hs2 j hj]
          congr 2
          funext i
          simp only [avl]
          rw [if_neg (show ¬ (22 : Nat) < 22 by decide), if_pos trivial, show mK M + 1 + 1 + j = mK M + (2 + j) by omega, (m5_z (by omega) (by omega)).2]
          rfl
  · by_cases e : b ≤ mK M
    · rw [(m5_old e).2.1]; exact h.2.2 b j hb
    · by_cases e2 : b ≤ mK M + 5
      · rw [show b = mK M + (b - mK M) by omega, (m5_z (by omega) (by omega)).1]; exact Or.inl rfl
      · have h0 : ¬ b ≤ M.1 := e
        have h9 : ¬ b ≤ M.1 + 5 := e2
        have q1 : b ≠ M.1 + 1 := by omega
        have q2 : b ≠ M.1 + 1 + 1 := by omega
        have q3 : b ≠ M.1 + 1 + 1 + 1 := by omega
        have q4 : b ≠ M.1 + 1 + 1 + 1 + 1 := by omega
        have q5 : b ≠ M.1 + 1 + 1 + 1 + 1 + 1 := by omega
        have : mI (m5 M) b j = mI M b j := by simp [m5, uB, mN, mI, mK, u2, q1, q2, q3, q4, q5]
        rw [this]; exact h.2.2 b j hb
/-! long[4][16] as the machine makes it: the outer array, then each row made and put in -/
section MA
def mo (cA : ClassId) (h i : Nat) : Cell := arrV cA 4 (fun j => va_rf (if j < i then some (h + 1 + j) else none))
def mi (cC : ClassId) : Cell := arrV cC 16 (fun _ => .long 0)
theorem mo_facts (cA : ClassId) (h i : Nat) : (mo cA h i).cls = cA ∧ (mo cA h i).vm = .none ∧ (mo cA h i).slots.size = 4 := ⟨rfl, rfl, arrV_size ..⟩
theorem mo_0 (cA : ClassId) (h : Nat) : mo cA h 0 = arrV cA 4 (fun _ => .null) := by
  unfold mo
  congr 1
theorem mo_s (cA : ClassId) (h i : Nat) : (mo cA h i).setSlot i (.ref (h + 1 + i)) = mo cA h (i + 1) := by
  unfold mo
  rw [arrV_store]
  congr 1
  funext j
  unfold updV
  by_cases q : j = i
  · rw [if_pos q, if_pos (by omega), q]
    rfl
  · rw [if_neg q]
    show va_rf (if j < i then some (h + 1 + j) else none) = _
    by_cases q2 : j < i
    · rw [if_pos q2, if_pos (by omega)]
    · rw [if_neg q2, if_neg (by omega)]
def mf (s : State) (cA cC : ClassId) : Nat → State
  | 0 => s.pushCell (mo cA s.heap.size 0)
  | i + 1 => ((mf s cA cC i).pushCell (mi cC)).setCell s.heap.size (mo cA s.heap.size (i + 1))
theorem mf_facts (s : State) (cA cC : ClassId) (i : Nat) : (mf s cA cC i).heap.size = s.heap.size + 1 + i ∧ (mf s cA cC i).heap[s.heap.size]? = some (mo cA s.heap.size i) ∧ (mf s cA cC i).vm = s.vm ∧ (mf s cA cC i).slotsUsed = s.slotsUsed + 4 + 16 * i ∧ (∀ q, q < s.heap.size → (mf s cA cC i).heap[q]? = s.heap[q]?) ∧ (∀ j, j < i → (mf s cA cC i).heap[s.heap.size + 1 + j]? = some (mi cC)) ∧ ∀ f, mf (s.setTop f) cA cC i = (mf s cA cC i).setTop f := by
  induction i with
  | zero => exact ⟨by simp [mf], State.heap_pushCell_size _ _, rfl, by simp [mf, (mo_facts cA s.heap.size 0).2.2], fun q hq => State.heap_pushCell_of_lt _ _ hq, fun j hj => absurd hj (by omega), fun f => rfl⟩
  | succ i ih =>
    obtain ⟨a1, a2, a3, a4, a5, a6, a7⟩ := ih
    have lt : ∀ {q : Nat}, q < s.heap.size + 1 + i → ((mf s cA cC i).pushCell (mi cC)).heap[q]? = (mf s cA cC i).heap[q]? := fun h => State.heap_pushCell_of_lt _ _ (by rw [a1]; exact h)
    have hb : ((mf s cA cC i).pushCell (mi cC)).heap[s.heap.size]? = some (mo cA s.heap.size i) := by rw [lt (by omega)]; exact a2
    have hmi : (mi cC).slots.size = 16 := arrV_size ..
    refine ⟨?_, State.heap_setCell_self hb, by simp [mf, a3], ?_, fun q hq => ?_, fun j hj => ?_, fun f => ?_⟩
    · simp [mf, State.setCell, a1]; omega
    · simp [mf, a4, hmi]; omega
    · show (((mf s cA cC i).pushCell (mi cC)).setCell s.heap.size _).heap[q]? = _
      rw [State.heap_setCell_other (Nat.ne_of_gt hq), lt (by omega)]
      exact a5 q hq
    · show (((mf s cA cC i).pushCell (mi cC)).setCell s.heap.size _).heap[s.heap.size + 1 + j]? = _
      rw [State.heap_setCell_other (show s.heap.size ≠ s.heap.size + 1 + j by omega)]
      by_cases e : j = i
      · subst e
        rw [← a1]
        exact State.heap_pushCell_size _ _
      · rw [lt (by omega)]
        exact a6 j (by omega)
    · simp only [mf, a7, State.heap_setTop, State.pushCell_setTop, State.setCell_setTop]
variable {E : CtlPost} {e : Env} {d : Bool} {acts : List Action} {s : State}
theorem nw_arr {c comp : ClassId} {k : Class} {ty : FieldType} {len : Nat} {v : Value} (hk : s.vm.classes[c]? = some k) (hkind : k.kind = .array comp ty) (hl : ¬ len > e.platform.arrayLengthLimit) (hh : ¬ len * componentBytes ty > e.platform.maxHeapBytes) (hf : fits ty v = true) (hd : v.isDefault = true) {Q : Addr → Pre}
    (h1 : s.heap.size < e.platform.maxCells) (h2 : s.slotsUsed + len ≤ e.platform.maxSlots) (hq : Q s.heap.size d acts (s.pushCell (arrV c len (fun _ => v)))) : wp (Jvm.newArray c len v) Q E e d acts s := by
  rw [← arrV_new] at hq
  have hslots : ∀ i w, (Array.replicate len v)[i]? = some w → s.fitsSlot c .none i w = true := by
    intro i w hw
    rw [Array.getElem?_replicate] at hw
    split at hw
    · cases hw
      simp [State.fitsSlot, State.slotType?, hk, hkind, hf]
    · cases hw
  have hacts : allocActs (Array.replicate len v) s.heap.size acts = acts := by
    unfold allocActs
    rw [if_pos (by rw [Array.all_replicate]; split <;> simp [hd])]
  simp only [Jvm.newArray, Jvm.arrayFits, wp_bind', W.ask, W.ite, hl, if_false, wp_pure', W.theClass, hk, hkind, hh, W.alloc, W.stop, Option.some.injEq, exists_eq_left', Array.size_replicate, hacts]
  rw [if_neg (by omega)]
  exact ⟨h1, h2, hslots, hq⟩
theorem mk_rows {cA cC cc : ClassId} {kA kC : Class} (hkA : s.vm.classes[cA]? = some kA) (hA : kA.kind = .array cC (.array .long)) (hkC : s.vm.classes[cC]? = some kC) (hC : kC.kind = .array cc .long)
    (hl : ¬ 16 > e.platform.arrayLengthLimit) (hh : ¬ 128 > e.platform.maxHeapBytes) (hc : s.heap.size + 5 ≤ e.platform.maxCells) (hs : s.slotsUsed + 68 ≤ e.platform.maxSlots) {Q : Addr → Pre} (hq : ∀ d' acts', Q s.heap.size d' acts' (mf s cA cC 4)) : wp (multianewarray.make cA [4, 16]) Q E e d acts s := by
  rw [multianewarray.make]
  simp only [wp_bind', W.ite, show ¬ (4 : Int32) < 0 by decide, if_false, wp_pure', W.theClass, hkA, hA, Option.some.injEq, exists_eq_left']
  refine nw_arr (len := 4) hkA hA (by omega) (by show ¬ 4 * 4 > _; omega) rfl rfl (by omega) (by omega) ?_
  rw [← mo_0 cA s.heap.size]
  rw [show ([(16 : Int32)].find? (· < 0)) = none by decide]
  simp only []
  rw [ite_self, wp_bind', Std.Legacy.Range.forIn_eq_forIn_range']
  show wp (forIn (List.range' 0 4 1) PUnit.unit _) _ E e d acts _
  refine wp_forIn_inv (fun rest s' => ∃ i, i ≤ 4 ∧ rest = List.range' i (4 - i) ∧ s' = mf s cA cC i) _ _ ⟨0, by decide, rfl, rfl⟩ ?_ ?_
  · rintro x rest s' d' acts' Q' ⟨i, hi, hr, rfl⟩ hn
    have h4 : i < 4 := by
      rcases Nat.lt_or_ge i 4 with q | q
      · exact q
      · rw [show 4 - i = 0 by omega] at hr; cases hr
    rw [show 4 - i = (3 - i) + 1 by omega, List.range'_succ] at hr
    obtain ⟨rfl, rfl⟩ := List.cons.inj hr
    obtain ⟨f1, f2, f3, f4, -, -, -⟩ := mf_facts s cA cC x
    simp only [wp_bind']
    rw [multianewarray.make]
    simp only [wp_bind', W.ite, show ¬ (16 : Int32) < 0 by decide, if_false, wp_pure', W.theClass, f3, hkC, hC, Option.some.injEq, exists_eq_left']
    refine nw_arr (len := 16) (by rw [f3]; exact hkC) hC hl (by show ¬ 16 * 8 > _; omega) rfl rfl (by rw [f1]; omega) (by rw [f4]; omega) ?_
    simp only [wp_bind', W.writeLoc, wp_pure']
    refine ⟨mo cA s.heap.size x, by rw [State.heap_pushCell_of_lt _ _ (show s.heap.size < (mf s cA cC x).heap.size by rw [f1]; omega)]; exact f2, by rw [(mo_facts cA s.heap.size x).2.1]; simp, by rw [(mo_facts cA s.heap.size x).2.2]; exact h4, ?_, hn _ _ _ ⟨x + 1, h4, by rw [show 4 - (x + 1) = 3 - x by omega], ?_⟩⟩
    · rw [(mo_facts cA s.heap.size x).1, (mo_facts cA s.heap.size x).2.1]
      simp [State.fitsSlot, State.slotType?, f3, hkA, hA]
      rfl
    · rw [f1, mo_s]
      rfl
  · rintro s' d' acts' ⟨i, hi, hr, rfl⟩
    have h4 : i = 4 := by
      rcases Nat.lt_or_ge i 4 with q | q
      · rw [show 4 - i = (3 - i) + 1 by omega, List.range'_succ] at hr; cases hr
      · omega
    subst h4
    simp only [wp_pure']
    exact hq _ _
end MA
theorem ov_sp {s : State} {args : Array Value} (h : (Cond.arrayOver (.array .long)).before args s = true) : ∃ comp c k, s.vm.findClass (FieldType.array .long).toString = some comp ∧ s.vm.classes[c]? = some k ∧ k.kind = .array comp (.array .long) ∧ s.vm.findClass ("[" ++ (FieldType.array .long).toString) = some c := by
  simp only [Cond.before, Cond.holds, Cond.value, beq_iff_eq] at h
  cases hc : s.vm.findClass (FieldType.array .long).toString with
  | none => simp [hc] at h
  | some comp =>
    simp only [hc, Option.bind_some, Option.bind_eq_some_iff, Option.map_eq_some_iff] at h
    obtain ⟨c, hi, k, hk, hb⟩ := h
    obtain ⟨hlt, hp, -⟩ := Array.findIdx?_eq_some_iff_getElem.mp hi
    rw [(Array.getElem?_eq_some_iff.mp hk).2] at hp
    cases hkind : k.kind with
    | array component ty =>
      rw [hkind] at hb hp
      simp at hb hp
      exact ⟨comp, c, k, rfl, hk, by rw [hkind, hp, hb.1], hb.2⟩
    | _ => rw [hkind] at hb; simp at hb
section MS
variable {p : Program} {l : Launch} {e : Env} {R : Room} {s : State} {m : MethodId} {args : Array Value} {below : List Frame} {meth : Method} {c : Code} {T : State} {locs : List Loc} {cells slots : Nat}
theorem st_rows (X : Stand p l e R s m args below meth c T locs cells slots) (cA cC : ClassId) (i : Nat) : ∃ J : List Loc, (∀ q ∈ J, q.base = T.heap.size) ∧ Stand p l e R s m args below meth c (mf T cA cC i) (locs ++ J) (cells + 1 + i) (slots + 4 + 16 * i) := by
  induction i with
  | zero =>
    refine ⟨[], (fun q hq => by cases hq), ?_⟩
    have h := X.pushed (mo cA T.heap.size 0)
    rw [(mo_facts cA T.heap.size 0).2.2] at h
    rw [List.append_nil]
    exact h
  | succ i ih =>
    obtain ⟨J, hJ, Xi⟩ := ih
    obtain ⟨f1, f2, -, -, -, -, -⟩ := mf_facts T cA cC i
    have hb : ((mf T cA cC i).pushCell (mi cC)).heap[T.heap.size]? = some (mo cA T.heap.size i) := by rw [State.heap_pushCell_of_lt _ _ (show T.heap.size < (mf T cA cC i).heap.size by rw [f1]; omega)]; exact f2
    have h := (Xi.pushed (mi cC)).stored hb i (.ref (T.heap.size + 1 + i))
    rw [mo_s, show (mi cC).slots.size = 16 from arrV_size .., List.append_assoc] at h
    refine ⟨J ++ [⟨T.heap.size, i⟩], fun q hq => ?_, ?_⟩
    · rcases List.mem_append.mp hq with h9 | h9
      · exact hJ q h9
      · rw [List.mem_singleton.mp h9]
    · rw [show slots + 4 + 16 * (i + 1) = slots + 4 + 16 * i + 16 by omega]
      exact h
theorem st_mna (X : Stand p l e R s m args below meth c T locs cells slots) (hexec : p.tables.exec = Jvm.exec) {own : String} {index : Nat} (hown : s.vm.findClass own = some m.cls) (hlk : (Cond.classLink own index ("[" ++ (FieldType.array .long).toString)).before args s = true) (hov : (Cond.arrayOver (.array .long)).before args s = true) (har : (Cond.arrayClass .long).before args s = true)
    {g : JFrame} (hg : g.method = m) (hdg : decode c.code g.pc = .ok (.multianewarray index 2, 4)) {rest : List Value} (hst : g.stack = .int 16 :: .int 4 :: rest) (hc1 : cells + 5 ≤ R.cells) (hc2 : slots + 68 ≤ R.slots) :
    ∃ (vm₁ : Vm) (cA cC : ClassId) (J : List Loc), s.vm.findClass ("[" ++ (FieldType.array .long).toString) = some cA ∧ s.vm.findClass (FieldType.array .long).toString = some cC ∧ (∀ q ∈ J, q.base = T.heap.size) ∧ Stand p l e R s m args below meth c (mf (T.setVm vm₁) cA cC 4) (locs ++ J) (cells + 5) (slots + 68) ∧
      ∀ target, Steps p.tables e below ((mf (T.setVm vm₁) cA cC 4).setTop { g with pc := g.pc + 4, stack := .ref T.heap.size :: rest }) target → Steps p.tables e below (T.setTop g) target := by
  subst hg
  have hpl : e.platform.magicAccessors = ({} : Platform).magicAccessors := by rw [X.admits.platform]
  obtain ⟨comp, cA, kA, q1, q2, q3, q4⟩ := ov_sp hov
  obtain ⟨cC, kC, cc, r1, r2, r3⟩ := Cond.arrayClass_spec har
  have ec : cC = comp := Option.some.inj (r1.symm.trans q1)
  subst ec
  obtain ⟨c0, z1, z2⟩ := Cond.classLink_spec hown hlk e.platform hpl
  cases q4.symm.trans z1
  obtain ⟨w1, w2, w3⟩ := State.classEntry (e := e) X.warmed z2
  generalize T.vm.noted g.method.cls index (.cls cA) = vm₁ at w1 w2 w3
  have hal : s.vm.Alike vm₁ := w2.alike
  obtain ⟨kA₁, a1, a2⟩ := hal.2.2 _ _ q2
  obtain ⟨kC₁, b1, b2⟩ := hal.2.2 _ _ r2
  have X₁ := X.noted w2
  obtain ⟨t1, t2⟩ := X.roomAbove hc1 hc2
  obtain ⟨J, hJ, XF⟩ := st_rows X₁ cA cC 4
  refine ⟨vm₁, cA, cC, J, q4, q1, hJ, XF, fun target hrest => ?_⟩
  have hl : ¬ 16 > e.platform.arrayLengthLimit := by rw [Launch.admits_arrayLengthLimit X.admits]; omega
  have hh : ¬ 128 > e.platform.maxHeapBytes := by rw [Launch.admits_maxHeapBytes X.admits]; omega
  jvm_step X.here [hexec, hdg]
  simp only [multianewarray.sem, wp_bind', W.resolveClassAt_links (State.method?_setTop g X.here.top) w1]
  rw [W.popN, if_neg (by decide)]
  refine ⟨g, State.topJava?_setTop' (s := T.setVm vm₁) g X.here.top, [.int 4, .int 16], rest, rfl, hst, ?_⟩
  simp only [List.mapM_cons, List.mapM_nil, wp_bind', wp_pure']
  refine mk_rows (kA := kA₁) (kC := kC₁) (cC := cC) (cc := cc) a1 (by rw [a2]; exact q3) b1 (by rw [b2]; exact r3) hl hh (by show T.heap.size + 5 ≤ _; omega) (by show T.slotsUsed + 68 ≤ _; omega) (fun d' acts' => ?_)
  have eS : ((T.setTop g).setVm vm₁).setTop { g with stack := rest } = (T.setVm vm₁).setTop { g with stack := rest } := by
    show ((T.setVm vm₁).setTop g).setTop _ = _
    rw [State.setTop_setTop]
  rw [eS, (mf_facts (T.setVm vm₁) cA cC 4).2.2.2.2.2.2]
  simp only [wp_bind', W.mark, W.pushRef, State.topJava?_setTop' _ XF.here.top, Option.some.injEq, exists_eq_left', State.setTop_setTop, State.heap_setTop]
  intro acts
  simp [jvm, XF.here.top]
  exact hrest
end MS
section MN
variable {G : Ctx} {X : Xt} {own : String} {cc : ByteArray} {nL : Nat} {ret : Option FieldType} {cells slots : Nat} {Q : State → Prop} {pc x : Nat} {lv : List (Nat × Value)} {st : List Value} {M : Mem}
theorem V.mna (F : Fx G X own cc nL ret) (hd : decode cc pc = .ok (.multianewarray x 2, 4)) (hs : SH (mK M + 1) = (28, 4)) (hs2 : ∀ j, j < 4 → SH (mK M + 1 + 1 + j) = (22, 16)) (hcl : Cond.classLink own x "[[J" ∈ TB) (harr : Cond.arrayClass .long ∈ TB) (hc1 : cells + 5 ≤ X.2.2.2.1.cells) (hc2 : slots + 68 ≤ X.2.2.2.1.slots)
    (k : V G X nL (cells + 5) (slots + 68) Q (pc + 4) lv (.ref (mK M + 1) :: st) (m5 M)) : V G X nL cells slots Q pc lv (.int 16 :: .int 4 :: st) M := by
  intro H locs ls hl hR hS
  obtain ⟨p, l, e, R, s, m, args, below, meth, c0⟩ := X
  obtain ⟨hx, hb, hml, hown, hts, hK, hr, hlocks, hZ⟩ := F
  intro T hT Xs
  obtain ⟨vm₁, cA, cC, J, fA, fC, hJ, X', step⟩ := st_mna Xs hx hown (hts _ hcl) hK.2.2.2.2.2 (hts _ harr) (g := F0 m pc ls (.int 16 :: .int 4 :: st.map (cv G))) rfl (by rw [hb]; exact hd) rfl hc1 hc2
  have hcA : cA = G.2.2.2 28 := by
    have h9 : s.vm.findClass ("[" ++ (FieldType.array .long).toString) = some (G.2.2.2 28) := (hK.2.1 28 (by decide) (by decide)).2
    exact Option.some.inj (fA.symm.trans h9)
  have hcC : cC = G.2.2.2 22 := by
    have h9 : s.vm.findClass (FieldType.array .long).toString = some (G.2.2.2 22) := (hK.2.1 22 (by decide) (by decide)).2
    exact Option.some.inj (fC.symm.trans h9)
  subst hcA; subst hcC
  have hTh : (T.setVm vm₁).heap = H := hT
  obtain ⟨f1, f2, -, -, hold, hrow, -⟩ := mf_facts (T.setVm vm₁) (G.2.2.2 28) (G.2.2.2 22) 4
  rw [hTh] at f1 f2
  simp only [hTh] at hold hrow
  have step : ∀ target, Steps p.tables e below ((mf (T.setVm vm₁) (G.2.2.2 28) (G.2.2.2 22) 4).setTop (F0 m (pc + 4) ls (.ref T.heap.size :: st.map (cv G)))) target → Steps p.tables e below (T.setTop (F0 m pc ls (.int 16 :: .int 4 :: st.map (cv G)))) target := step
  generalize mf (T.setVm vm₁) (G.2.2.2 28) (G.2.2.2 22) 4 = U at f1 f2 hold hrow X' step
  have hRn : Rep G (m5 M) U.heap := rep_m5 hR hs hs2 (by rw [f1]) hold f2 hrow
  have hS1 : va_S (fun q => G.1 ≤ q) s.heap U.heap (locs ++ J) := ⟨Nat.le_trans hS.1 (by rw [f1]; omega), fun q q1 q2 => (hold q (Nat.lt_of_lt_of_le q1 hS.1)).trans (hS.2.1 q q1 q2), fun q hq => by
    rcases List.mem_append.mp hq with h | h
    · exact hS.2.2 q h
    · show G.1 ≤ q.base
      rw [hJ q h, hT]
      have : G.1 ≤ s.heap.size := hZ
      exact Nat.le_trans this hS.1⟩
  obtain ⟨t, h1, h2⟩ := k U.heap (locs ++ J) ls hl hRn hS1 U rfl X'
  refine ⟨t, step t ?_, h2⟩
  rw [hT, ← show ad G (mK M + 1) = H.size from ad_s hR 0]
  exact h1
theorem v_aast (F : Fx G X own cc nL ret) {a kd c lab : Nat} {r : vw_C} {i : Int32} (hd : decode cc pc = .ok (.aastore, 1)) (h : isA M a kd i) (hk : 23 ≤ kd ∧ kd ≤ 27) (hv : vwCl[c]? = some r) (hty : aty kd = .object r.1) (he : el kd a i.toNatClampNeg = lab) (ho : isO M lab c)
    (k : V G X nL cells slots Q (pc + 1) lv st (uB M a i.toNatClampNeg)) : V G X nL cells slots Q pc lv (.ref lab :: .int i :: .ref a :: st) M := by
  subst he
  exact V.aast F hd h hk hv hty ho k
end MN
def Tr (M N : Mem) : Prop := True
theorem mK_mN {M : Mem} {n : Nat} (h : mK M = n) : mK (mN M) = n + 1 := congrArg (· + 1) h
theorem mK_m5 {M : Mem} {n : Nat} (h : mK M = n) : mK (m5 M) = n + 5 := congrArg (· + 5) h
theorem mN_B {M : Mem} {n b k : Nat} (h : mK M = n) (hb : b ≤ n) (hB : mB M b k = true) : mB (mN M) b k = true := by
  rw [(mN_ne (by omega)).1]
  exact hB
theorem m5_B {M : Mem} {n b k : Nat} (h : mK M = n) (hb : b ≤ n) (hB : mB M b k = true) : mB (m5 M) b k = true := by
  rw [(m5_old (by omega)).1]
  exact hB
theorem uB_B {M : Mem} {a j b k : Nat} (hB : mB M b k = true) : mB (uB M a j) b k = true := by
  by_cases e : b = a ∧ k = j
  · obtain ⟨rfl, rfl⟩ := e
    exact mB_uB
  · rw [(uB_M.2 b k (by omega)).1]
    exact hB
theorem sm_B {M N : Mem} {b k : Nat} (s : Sm M N) (hB : mB M b k = true) : mB N b k = true := by
  show N.2.1 b k = true
  rw [s.2]
  exact hB
theorem cnt_ge {j n : Nat} {N : Int32} (h : N ≤ nI j) (hN : N = nI n) (hj : j ≤ n) (hn : n < 2 ^ 31) : j = n := by
  rw [hN] at h
  have := (nI_leI hn (by omega)).mp h
  omega
theorem ma_sh : ∀ j, j < 4 → SH (4 + 1 + 1 + j) = (22, 16) := by decide
theorem fc_sh : ∀ j, j < 16 → (SH (35 + j + 1)).1 = 1 + 1 := by decide
theorem fd_sh : ∀ j, j < 8 → (SH (22 + j + 1)).1 = 1 + 1 := by decide
theorem rt_fac {n o : Nat} (hn : n < 6) (h7 : 7 ≤ o) (ho : o < 271) : (SH (74 + 271 * n + o)).1 = 1 + 1 := by
  rw [SH_rt hn ho]
  unfold SHr
  split <;> first | rfl | omega
theorem ti69 : (Jvm.Cond.initialized "BitCongruences$Tables") ∈ TB := tw_of 69 (by decide +kernel) rfl
theorem ti70 : (Jvm.Cond.initialized "BitCongruences$Acts") ∈ TB := tw_of 70 (by decide +kernel) rfl
theorem ti71 : (Jvm.Cond.initialized "BitCongruences$Fact") ∈ TB := tw_of 71 (by decide +kernel) rfl
theorem ti72 : (Jvm.Cond.initialized "BitCongruences$Finder") ∈ TB := tw_of 72 (by decide +kernel) rfl
theorem ti73 : (Jvm.Cond.initialized "BitCongruences$Run") ∈ TB := tw_of 73 (by decide +kernel) rfl
theorem ti83 : (Jvm.Cond.methodLink "BitCongruences" (3 : Nat) ({ cls := "java/lang/Object", name := "<init>", desc := "()V" } : Jvm.MethodName)) ∈ TB := tw_of 83 (by decide +kernel) rfl
theorem ti86 : (Jvm.Cond.classLink "BitCongruences" (9 : Nat) "BitCongruences$Fact") ∈ TB := tw_of 86 (by decide +kernel) rfl
theorem ti88 : (Jvm.Cond.classLink "BitCongruences" (15 : Nat) "BitCongruences$Routine") ∈ TB := tw_of 88 (by decide +kernel) rfl
theorem ti90 : (Jvm.Cond.classLink "BitCongruences" (25 : Nat) "BitCongruences$Tables") ∈ TB := tw_of 90 (by decide +kernel) rfl
theorem ti91 : (Jvm.Cond.instantiable "BitCongruences$Tables" (2 : Nat)) ∈ TB := tw_of 91 (by decide +kernel) rfl
theorem ti95 : (Jvm.Cond.methodLink "BitCongruences$Tables" (3 : Nat) ({ cls := "java/lang/Object", name := "<init>", desc := "()V" } : Jvm.MethodName)) ∈ TB := tw_of 95 (by decide +kernel) rfl
theorem ti96 : (Jvm.Cond.classLink "BitCongruences$Tables" (9 : Nat) "[[J") ∈ TB := tw_of 96 (by decide +kernel) rfl
theorem ti98 : (Jvm.Cond.fieldLink "BitCongruences$Tables" (11 : Nat) "BitCongruences$Tables" "numbers" "[[J") ∈ TB := tw_of 98 (by decide +kernel) rfl
theorem ti101 : (Jvm.Cond.fieldLink "BitCongruences$Tables" (16 : Nat) "BitCongruences$Tables" "sizes" "[I") ∈ TB := tw_of 101 (by decide +kernel) rfl
theorem ti109 : (Jvm.Cond.arrayClass Jvm.ClassFile.FieldType.long) ∈ TB := tw_of 109 (by decide +kernel) rfl
theorem ti110 : (Jvm.Cond.arrayClass Jvm.ClassFile.FieldType.int) ∈ TB := tw_of 110 (by decide +kernel) rfl
theorem ti111 : (Jvm.Cond.classLink "BitCongruences" (32 : Nat) "BitCongruences$Acts") ∈ TB := tw_of 111 (by decide +kernel) rfl
theorem ti112 : (Jvm.Cond.instantiable "BitCongruences$Acts" (2 : Nat)) ∈ TB := tw_of 112 (by decide +kernel) rfl
theorem ti116 : (Jvm.Cond.methodLink "BitCongruences$Acts" (3 : Nat) ({ cls := "java/lang/Object", name := "<init>", desc := "()V" } : Jvm.MethodName)) ∈ TB := tw_of 116 (by decide +kernel) rfl
theorem ti117 : (Jvm.Cond.classLink "BitCongruences$Acts" (9 : Nat) "BitCongruences$Fact") ∈ TB := tw_of 117 (by decide +kernel) rfl
theorem ti118 : (Jvm.Cond.instantiable "BitCongruences$Fact" (7 : Nat)) ∈ TB := tw_of 118 (by decide +kernel) rfl
theorem ti122 : (Jvm.Cond.methodLink "BitCongruences$Fact" (3 : Nat) ({ cls := "java/lang/Object", name := "<init>", desc := "()V" } : Jvm.MethodName)) ∈ TB := tw_of 122 (by decide +kernel) rfl
theorem ti175 : (Jvm.Cond.fieldLink "BitCongruences$Acts" (12 : Nat) "BitCongruences$Acts" "zero" "LBitCongruences$Fact;") ∈ TB := tw_of 175 (by decide +kernel) rfl
theorem ti176 : (Jvm.Cond.fieldLink "BitCongruences$Acts" (18 : Nat) "BitCongruences$Acts" "moved" "LBitCongruences$Fact;") ∈ TB := tw_of 176 (by decide +kernel) rfl
theorem ti182 : (Jvm.Cond.classLink "BitCongruences" (39 : Nat) "BitCongruences$Finder") ∈ TB := tw_of 182 (by decide +kernel) rfl
theorem ti183 : (Jvm.Cond.instantiable "BitCongruences$Finder" (6 : Nat)) ∈ TB := tw_of 183 (by decide +kernel) rfl
theorem ti187 : (Jvm.Cond.methodLink "BitCongruences$Finder" (3 : Nat) ({ cls := "java/lang/Object", name := "<init>", desc := "()V" } : Jvm.MethodName)) ∈ TB := tw_of 187 (by decide +kernel) rfl
theorem ti188 : (Jvm.Cond.classLink "BitCongruences$Finder" (9 : Nat) "BitCongruences$Acts") ∈ TB := tw_of 188 (by decide +kernel) rfl
theorem ti190 : (Jvm.Cond.classLink "BitCongruences$Finder" (18 : Nat) "BitCongruences$Fact") ∈ TB := tw_of 190 (by decide +kernel) rfl
theorem ti192 : (Jvm.Cond.fieldLink "BitCongruences$Finder" (12 : Nat) "BitCongruences$Finder" "acts" "LBitCongruences$Acts;") ∈ TB := tw_of 192 (by decide +kernel) rfl
theorem ti193 : (Jvm.Cond.fieldLink "BitCongruences$Finder" (20 : Nat) "BitCongruences$Finder" "coming" "[LBitCongruences$Fact;") ∈ TB := tw_of 193 (by decide +kernel) rfl
theorem ti194 : (Jvm.Cond.fieldLink "BitCongruences$Finder" (25 : Nat) "BitCongruences$Finder" "scratch" "LBitCongruences$Fact;") ∈ TB := tw_of 194 (by decide +kernel) rfl
theorem ti195 : (Jvm.Cond.fieldLink "BitCongruences$Finder" (29 : Nat) "BitCongruences$Finder" "waiting" "[Z") ∈ TB := tw_of 195 (by decide +kernel) rfl
theorem ti196 : (Jvm.Cond.fieldLink "BitCongruences$Finder" (33 : Nat) "BitCongruences$Finder" "lessened" "[I") ∈ TB := tw_of 196 (by decide +kernel) rfl
theorem ti197 : (Jvm.Cond.fieldLink "BitCongruences$Finder" (37 : Nat) "BitCongruences$Finder" "risen" "[I") ∈ TB := tw_of 197 (by decide +kernel) rfl
theorem ti211 : (Jvm.Cond.arrayClass Jvm.ClassFile.FieldType.boolean) ∈ TB := tw_of 211 (by decide +kernel) rfl
theorem ti212 : (Jvm.Cond.classLink "BitCongruences" (46 : Nat) "BitCongruences$Run") ∈ TB := tw_of 212 (by decide +kernel) rfl
theorem ti213 : (Jvm.Cond.instantiable "BitCongruences$Run" (4 : Nat)) ∈ TB := tw_of 213 (by decide +kernel) rfl
theorem ti217 : (Jvm.Cond.methodLink "BitCongruences$Run" (3 : Nat) ({ cls := "java/lang/Object", name := "<init>", desc := "()V" } : Jvm.MethodName)) ∈ TB := tw_of 217 (by decide +kernel) rfl
theorem ti218 : (Jvm.Cond.fieldLink "BitCongruences$Run" (9 : Nat) "BitCongruences$Run" "numbers" "[J") ∈ TB := tw_of 218 (by decide +kernel) rfl
theorem ti236 : (Jvm.Cond.fieldLink "BitCongruences" (11 : Nat) "BitCongruences" "facts" "[LBitCongruences$Fact;") ∈ TB := tw_of 236 (by decide +kernel) rfl
theorem ti237 : (Jvm.Cond.fieldLink "BitCongruences" (17 : Nat) "BitCongruences" "routines" "[LBitCongruences$Routine;") ∈ TB := tw_of 237 (by decide +kernel) rfl
theorem ti239 : (Jvm.Cond.fieldLink "BitCongruences" (28 : Nat) "BitCongruences" "tables" "LBitCongruences$Tables;") ∈ TB := tw_of 239 (by decide +kernel) rfl
theorem ti240 : (Jvm.Cond.fieldLink "BitCongruences" (35 : Nat) "BitCongruences" "acts" "LBitCongruences$Acts;") ∈ TB := tw_of 240 (by decide +kernel) rfl
theorem ti241 : (Jvm.Cond.fieldLink "BitCongruences" (42 : Nat) "BitCongruences" "finder" "LBitCongruences$Finder;") ∈ TB := tw_of 241 (by decide +kernel) rfl
theorem ti242 : (Jvm.Cond.fieldLink "BitCongruences" (49 : Nat) "BitCongruences" "run" "LBitCongruences$Run;") ∈ TB := tw_of 242 (by decide +kernel) rfl
theorem ti243 : (Jvm.Cond.fieldLink "BitCongruences" (53 : Nat) "BitCongruences" "putIn" "[J") ∈ TB := tw_of 243 (by decide +kernel) rfl
theorem ti244 : (Jvm.Cond.fieldLink "BitCongruences" (58 : Nat) "BitCongruences" "besides" "LBitCongruences$Fact;") ∈ TB := tw_of 244 (by decide +kernel) rfl
theorem ti245 : (Jvm.Cond.fieldLink "BitCongruences" (62 : Nat) "BitCongruences" "outcome" "LBitCongruences$Fact;") ∈ TB := tw_of 245 (by decide +kernel) rfl
theorem ti507 : (Jvm.Cond.methodLink "BitCongruences$Routine" (3 : Nat) ({ cls := "java/lang/Object", name := "<init>", desc := "()V" } : Jvm.MethodName)) ∈ TB := tw_of 507 (by decide +kernel) rfl
theorem ti508 : (Jvm.Cond.classLink "BitCongruences$Routine" (25 : Nat) "BitCongruences$Fact") ∈ TB := tw_of 508 (by decide +kernel) rfl
theorem ti510 : (Jvm.Cond.fieldLink "BitCongruences$Routine" (9 : Nat) "BitCongruences$Routine" "ops" "[I") ∈ TB := tw_of 510 (by decide +kernel) rfl
theorem ti513 : (Jvm.Cond.fieldLink "BitCongruences$Routine" (15 : Nat) "BitCongruences$Routine" "firsts" "[I") ∈ TB := tw_of 513 (by decide +kernel) rfl
theorem ti516 : (Jvm.Cond.fieldLink "BitCongruences$Routine" (18 : Nat) "BitCongruences$Routine" "seconds" "[I") ∈ TB := tw_of 516 (by decide +kernel) rfl
theorem ti523 : (Jvm.Cond.fieldLink "BitCongruences$Routine" (27 : Nat) "BitCongruences$Routine" "start" "[LBitCongruences$Fact;") ∈ TB := tw_of 523 (by decide +kernel) rfl
theorem ti526 : (Jvm.Cond.fieldLink "BitCongruences$Routine" (31 : Nat) "BitCongruences$Routine" "ahead" "[LBitCongruences$Fact;") ∈ TB := tw_of 526 (by decide +kernel) rfl
theorem ti530 : (Jvm.Cond.fieldLink "BitCongruences$Routine" (34 : Nat) "BitCongruences$Routine" "reached" "[Z") ∈ TB := tw_of 530 (by decide +kernel) rfl
def f_X1_init (M : Mem) (a0 : Nat) : Mem := uL (uL (uL M a0 1 ((-9223372036854775808))) a0 2 9223372036854775807) a0 5 1
abbrev p_X1_init (M : Mem) (a0 : Nat) : Option Value → Mem → Prop := fun r N => r = none ∧ N = f_X1_init M a0 ∧ Sf M N
set_option maxRecDepth 100000 in
set_option maxHeartbeats 4000000 in
theorem c_X1_init (G : Ctx) (l : Launch) (M : Mem) (a0 : Nat) (o_a0 : isO M a0 1) : CT G l 1 mX1_init [.ref a0] M 0 0 (p_X1_init M a0) := by
  refine CT.of (by decide) (Nat.le_of_ble_eq_true rfl) ?_
  intro X d hd hl hRm hnm F
  subst hl
  have E : f_X1_init M a0 = f_X1_init M a0 := rfl
  show V G X 1 0 0 (Qx G X 0 0 (p_X1_init M a0)) 0 [(0, .ref a0)] [] M
  refine V.seg F floX1 cjoX1 [.aload_n 0] (by decide +kernel) (pc2 := 1) (lv2 := [(0, .ref a0)]) (st2 := [.ref a0]) (M2 := M) rfl ⟨trivial, trivial⟩ ?_
  refine V.objInit F (by decide +kernel) ti122 (rm_ok hRm hd (by decide) (by decide)) (Nat.le_of_ble_eq_true rfl) ?_
  refine V.seg F floX1 cjoX1 [.aload_n 0, .ldc2_w 9, .putfield 11, .aload_n 0, .ldc2_w 17, .putfield 19, .aload_n 0, .lconst 1, .putfield 22] (by decide +kernel) (pc2 := 23) (lv2 := [(0, .ref a0)]) (st2 := []) (M2 := uL (uL (uL M a0 1 ((-9223372036854775808))) a0 2 9223372036854775807) a0 5 1) rfl ⟨trivial, trivial, o_a0, trivial, trivial, (o_a0.sm (Sf.pL Sf.rf o_a0.1).1), trivial, trivial, (o_a0.sm (Sf.pL (Sf.pL Sf.rf o_a0.1) o_a0.1).1), trivial⟩ ?_
  exact V.vret F (by decide +kernel) ⟨rfl, E.symm, (Sf.pL (Sf.pL (Sf.pL Sf.rf o_a0.1) o_a0.1) o_a0.1)⟩
def f_X0_init (M : Mem) (a0 : Nat) : Mem := f_X1_makeConstant (uB (f_X1_init (mN (uB (f_X1_init (mN M) (a0 + 1)) a0 0)) (a0 + 2)) a0 1) (a0 + 1) 0
abbrev p_X0_init (M : Mem) (a0 : Nat) : Option Value → Mem → Prop := fun r N => r = none ∧ N = f_X0_init M a0 ∧ mK N = a0 + 2 ∧ ∀ b k : Nat, b < a0 → mB M b k = true → mB N b k = true
set_option maxRecDepth 100000 in
set_option maxHeartbeats 4000000 in
theorem c_X0_init (G : Ctx) (l : Launch) (M : Mem) (a0 : Nat) (hk0 : mK M = a0) (ha : a0 = 11 ∨ a0 = 15) : CT G l 2 mX0_init [.ref a0] M 2 14 (p_X0_init M a0) := by
  refine CT.of (by decide) (Nat.le_of_ble_eq_true rfl) ?_
  intro X d hd hl hRm hnm F
  subst hl
  have E : f_X0_init M a0 = f_X0_init M a0 := rfl
  show V G X 1 0 0 (Qx G X 2 14 (p_X0_init M a0)) 0 [(0, .ref a0)] [] M
  refine V.seg F floX0 cjoX0 [.aload_n 0] (by decide +kernel) (pc2 := 1) (lv2 := [(0, .ref a0)]) (st2 := [.ref a0]) (M2 := M) rfl ⟨trivial, trivial⟩ ?_
  refine V.objInit F (by decide +kernel) ti116 (rm_ok hRm hd (by decide) (by decide)) (Nat.le_of_ble_eq_true rfl) ?_
  refine V.seg F floX0 cjoX0 [.aload_n 0] (by decide +kernel) (pc2 := 5) (lv2 := [(0, .ref a0)]) (st2 := [.ref a0]) (M2 := M) rfl ⟨trivial, trivial⟩ ?_
  refine V.new (c := 1) F (by decide +kernel) rfl (by rw [hk0]; exact (by rcases ha with rfl | rfl <;> rfl)) ti117 ti118 ti71 (by rw [hRm]; show 0 + 1 ≤ 2; omega) (by rw [hRm]; show 0 + 7 ≤ 14; omega) ?_
  rw [hk0]
  have k_1 : mK (mN M) = a0 + 1 := (mK_mN hk0)
  have o_2 : ∀ b k : Nat, b < a0 → mB M b k = true → mB (mN M) b k = true := (fun b k h h' => mN_B hk0 (by omega) ((fun _ _ _ h => h) b k h h'))
  show V G X 1 1 7 (Qx G X 2 14 (p_X0_init M a0)) 8 [(0, .ref a0)] [.ref (a0 + 1), .ref a0] (mN M)
  refine V.seg F floX0 cjoX0 [.dup] (by decide +kernel) (pc2 := 9) (lv2 := [(0, .ref a0)]) (st2 := [.ref (a0 + 1), .ref (a0 + 1), .ref a0]) (M2 := mN M) rfl ⟨trivial, trivial⟩ ?_
  refine V.callI (b := a0 + 1) (as := []) (rest := [.ref (a0 + 1), .ref a0]) F (by decide +kernel) lX0_11 bX1_init (c_X1_init G X.2.1 (mN M) (a0 + 1) ⟨(by rcases ha with rfl | rfl <;> rfl), (by omega), (by have := k_1; omega)⟩) (rm_ok hRm hd (by decide) (by decide)) ⟨by rw [hRm]; show 1 + 0 ≤ 2; omega, by rw [hRm]; show 7 + 0 ≤ 14; omega⟩ (Nat.le_of_ble_eq_true rfl) (fun r_ N_ p_ => ?_)
  obtain ⟨rfl, rfl, t_⟩ := p_
  have k_3 : mK (f_X1_init (mN M) (a0 + 1)) = a0 + 1 := (t_.1.1.trans k_1)
  have o_4 : ∀ b k : Nat, b < a0 → mB M b k = true → mB (f_X1_init (mN M) (a0 + 1)) b k = true := (fun b k h h' => sm_B t_.1 (o_2 b k h h'))
  clear t_
  show V G X 1 1 7 (Qx G X 2 14 (p_X0_init M a0)) 12 [(0, .ref a0)] [.ref (a0 + 1), .ref a0] (f_X1_init (mN M) (a0 + 1))
  refine V.putR (a := a0) (c := 0) (j := 0) F hnm (by decide +kernel) rfl (by decide) ⟨(by rcases ha with rfl | rfl <;> rfl), (by omega), (by have := k_3; omega)⟩ rfl ti175 rfl rfl ?_
  have k_5 : mK (uB (f_X1_init (mN M) (a0 + 1)) a0 0) = a0 + 1 := k_3
  have o_6 : ∀ b k : Nat, b < a0 → mB M b k = true → mB (uB (f_X1_init (mN M) (a0 + 1)) a0 0) b k = true := (fun b k h h' => uB_B (o_4 b k h h'))
  have o_7 : mB (uB (f_X1_init (mN M) (a0 + 1)) a0 0) a0 0 = true := mB_uB
  refine V.seg F floX0 cjoX0 [.aload_n 0] (by decide +kernel) (pc2 := 16) (lv2 := [(0, .ref a0)]) (st2 := [.ref a0]) (M2 := uB (f_X1_init (mN M) (a0 + 1)) a0 0) rfl ⟨trivial, trivial⟩ ?_
  refine V.new (c := 1) F (by decide +kernel) rfl (by rw [k_5]; exact (by rcases ha with rfl | rfl <;> rfl)) ti117 ti118 ti71 (by rw [hRm]; show 1 + 1 ≤ 2; omega) (by rw [hRm]; show 7 + 7 ≤ 14; omega) ?_
  rw [k_5]
  have k_8 : mK (mN (uB (f_X1_init (mN M) (a0 + 1)) a0 0)) = a0 + 2 := (mK_mN k_5)
  have o_9 : ∀ b k : Nat, b < a0 → mB M b k = true → mB (mN (uB (f_X1_init (mN M) (a0 + 1)) a0 0)) b k = true := (fun b k h h' => mN_B k_5 (by omega) (o_6 b k h h'))
  have o_10 : mB (mN (uB (f_X1_init (mN M) (a0 + 1)) a0 0)) a0 0 = true := (mN_B k_5 (by omega) o_7)
  show V G X 1 2 14 (Qx G X 2 14 (p_X0_init M a0)) 19 [(0, .ref a0)] [.ref (a0 + 2), .ref a0] (mN (uB (f_X1_init (mN M) (a0 + 1)) a0 0))
  refine V.seg F floX0 cjoX0 [.dup] (by decide +kernel) (pc2 := 20) (lv2 := [(0, .ref a0)]) (st2 := [.ref (a0 + 2), .ref (a0 + 2), .ref a0]) (M2 := mN (uB (f_X1_init (mN M) (a0 + 1)) a0 0)) rfl ⟨trivial, trivial⟩ ?_
  refine V.callI (b := a0 + 2) (as := []) (rest := [.ref (a0 + 2), .ref a0]) F (by decide +kernel) lX0_11 bX1_init (c_X1_init G X.2.1 (mN (uB (f_X1_init (mN M) (a0 + 1)) a0 0)) (a0 + 2) ⟨(by rcases ha with rfl | rfl <;> rfl), (by omega), (by have := k_8; omega)⟩) (rm_ok hRm hd (by decide) (by decide)) ⟨by rw [hRm]; show 2 + 0 ≤ 2; omega, by rw [hRm]; show 14 + 0 ≤ 14; omega⟩ (Nat.le_of_ble_eq_true rfl) (fun r_ N_ p_ => ?_)
  obtain ⟨rfl, rfl, t_⟩ := p_
  have k_11 : mK (f_X1_init (mN (uB (f_X1_init (mN M) (a0 + 1)) a0 0)) (a0 + 2)) = a0 + 2 := (t_.1.1.trans k_8)
  have o_12 : ∀ b k : Nat, b < a0 → mB M b k = true → mB (f_X1_init (mN (uB (f_X1_init (mN M) (a0 + 1)) a0 0)) (a0 + 2)) b k = true := (fun b k h h' => sm_B t_.1 (o_9 b k h h'))
  have o_13 : mB (f_X1_init (mN (uB (f_X1_init (mN M) (a0 + 1)) a0 0)) (a0 + 2)) a0 0 = true := (sm_B t_.1 o_10)
  clear t_
  show V G X 1 2 14 (Qx G X 2 14 (p_X0_init M a0)) 23 [(0, .ref a0)] [.ref (a0 + 2), .ref a0] (f_X1_init (mN (uB (f_X1_init (mN M) (a0 + 1)) a0 0)) (a0 + 2))
  refine V.putR (a := a0) (c := 0) (j := 1) F hnm (by decide +kernel) rfl (by decide) ⟨(by rcases ha with rfl | rfl <;> rfl), (by omega), (by have := k_11; omega)⟩ rfl ti176 rfl rfl ?_
  have k_14 : mK (uB (f_X1_init (mN (uB (f_X1_init (mN M) (a0 + 1)) a0 0)) (a0 + 2)) a0 1) = a0 + 2 := k_11
  have o_15 : ∀ b k : Nat, b < a0 → mB M b k = true → mB (uB (f_X1_init (mN (uB (f_X1_init (mN M) (a0 + 1)) a0 0)) (a0 + 2)) a0 1) b k = true := (fun b k h h' => uB_B (o_12 b k h h'))
  have o_16 : mB (uB (f_X1_init (mN (uB (f_X1_init (mN M) (a0 + 1)) a0 0)) (a0 + 2)) a0 1) a0 0 = true := (uB_B o_13)
  refine V.seg F floX0 cjoX0 [.aload_n 0, .getfield 12, .lconst 0] (by decide +kernel) (pc2 := 31) (lv2 := [(0, .ref a0)]) (st2 := [.long 0, .ref (a0 + 1)]) (M2 := uB (f_X1_init (mN (uB (f_X1_init (mN M) (a0 + 1)) a0 0)) (a0 + 2)) a0 1) rfl ⟨trivial, ⟨⟨(by rcases ha with rfl | rfl <;> rfl), (by omega), (by have := k_14; omega)⟩, o_16⟩, trivial, trivial⟩ ?_
  refine V.callV (as := [.long 0]) (rest := []) F (by decide +kernel) lX0_21 bX1_makeConstant ⟨1, _, ⟨(by rcases ha with rfl | rfl <;> rfl), (by omega), (by have := k_14; omega)⟩, rfl, rfl⟩ (c_X1_makeConstant G X.2.1 (uB (f_X1_init (mN (uB (f_X1_init (mN M) (a0 + 1)) a0 0)) (a0 + 2)) a0 1) (a0 + 1) 0 ⟨(by rcases ha with rfl | rfl <;> rfl), (by omega), (by have := k_14; omega)⟩) (rm_ok hRm hd (by decide) (by decide)) ⟨by rw [hRm]; show 2 + 0 ≤ 2; omega, by rw [hRm]; show 14 + 0 ≤ 14; omega⟩ (Nat.le_of_ble_eq_true rfl) (fun r_ N_ p_ => ?_)
  obtain ⟨rfl, rfl, t_⟩ := p_
  have k_17 : mK (f_X1_makeConstant (uB (f_X1_init (mN (uB (f_X1_init (mN M) (a0 + 1)) a0 0)) (a0 + 2)) a0 1) (a0 + 1) 0) = a0 + 2 := (t_.1.1.trans k_14)
  have o_18 : ∀ b k : Nat, b < a0 → mB M b k = true → mB (f_X1_makeConstant (uB (f_X1_init (mN (uB (f_X1_init (mN M) (a0 + 1)) a0 0)) (a0 + 2)) a0 1) (a0 + 1) 0) b k = true := (fun b k h h' => sm_B t_.1 (o_15 b k h h'))
  have o_19 : mB (f_X1_makeConstant (uB (f_X1_init (mN (uB (f_X1_init (mN M) (a0 + 1)) a0 0)) (a0 + 2)) a0 1) (a0 + 1) 0) a0 0 = true := (sm_B t_.1 o_16)
  clear t_
  show V G X 1 2 14 (Qx G X 2 14 (p_X0_init M a0)) 34 [(0, .ref a0)] [] (f_X1_makeConstant (uB (f_X1_init (mN (uB (f_X1_init (mN M) (a0 + 1)) a0 0)) (a0 + 2)) a0 1) (a0 + 1) 0)
  refine V.widen (mc := 2) (ms := 14) (by omega) (by omega) ?_
  exact V.vret F (by decide +kernel) ⟨rfl, E.symm, k_17, o_18⟩
def f_X4_init (M : Mem) : Mem := uI (uI (uI (uB (mN M) 31 0) 31 1 0) 31 2 0) 31 3 ((-1))
abbrev p_X4_init (M : Mem) : Option Value → Mem → Prop := fun r N => r = none ∧ N = f_X4_init M ∧ mK N = 32 ∧ ∀ b k : Nat, b < 31 → mB M b k = true → mB N b k = true
set_option maxRecDepth 100000 in
set_option maxHeartbeats 4000000 in
theorem c_X4_init (G : Ctx) (l : Launch) (M : Mem) (hk0 : mK M = 31)  : CT G l 1 mX4_init [.ref 31] M 1 8 (p_X4_init M) := by
  refine CT.of (by decide) (Nat.le_of_ble_eq_true rfl) ?_
  intro X d hd hl hRm hnm F
  subst hl
  have E : f_X4_init M = f_X4_init M := rfl
  show V G X 1 0 0 (Qx G X 1 8 (p_X4_init M)) 0 [(0, .ref 31)] [] M
  refine V.seg F floX4 cjoX4 [.aload_n 0] (by decide +kernel) (pc2 := 1) (lv2 := [(0, .ref 31)]) (st2 := [.ref 31]) (M2 := M) rfl ⟨trivial, trivial⟩ ?_
  refine V.objInit F (by decide +kernel) ti217 (rm_ok hRm hd (by decide) (by decide)) (Nat.le_of_ble_eq_true rfl) ?_
  refine V.seg F floX4 cjoX4 [.aload_n 0, .bipush 8] (by decide +kernel) (pc2 := 7) (lv2 := [(0, .ref 31)]) (st2 := [.int 8, .ref 31]) (M2 := M) rfl ⟨trivial, trivial, trivial⟩ ?_
  refine V.newarr (kd := 22) (n := 8) F (by decide +kernel) (by rw [hk0]; exact rfl) (Or.inr (Or.inr ⟨rfl, rfl⟩)) (by decide) rfl (by decide) (by rw [hRm]; show 0 + 1 ≤ 1; omega) (by rw [hRm]; show 0 + 8 ≤ 8; omega) ti109 ?_
  rw [hk0]
  have k_1 : mK (mN M) = 32 := (mK_mN hk0)
  have o_2 : ∀ b k : Nat, b < 31 → mB M b k = true → mB (mN M) b k = true := (fun b k h h' => mN_B hk0 (by omega) ((fun _ _ _ h => h) b k h h'))
  show V G X 1 1 8 (Qx G X 1 8 (p_X4_init M)) 9 [(0, .ref 31)] [.ref 32, .ref 31] (mN M)
  refine V.putR (a := 31) (c := 4) (j := 0) F hnm (by decide +kernel) rfl (by decide) ⟨rfl, (by omega), (by have := k_1; omega)⟩ rfl ti218 rfl rfl ?_
  have k_3 : mK (uB (mN M) 31 0) = 32 := k_1
  have o_4 : ∀ b k : Nat, b < 31 → mB M b k = true → mB (uB (mN M) 31 0) b k = true := (fun b k h h' => uB_B (o_2 b k h h'))
  refine V.seg F floX4 cjoX4 [.aload_n 0, .iconst 0, .putfield 15] (by decide +kernel) (pc2 := 17) (lv2 := [(0, .ref 31)]) (st2 := []) (M2 := uI (uB (mN M) 31 0) 31 1 0) rfl ⟨trivial, trivial, ⟨rfl, (by omega), (by have := k_3; omega)⟩, trivial⟩ ?_
  have k_5 : mK (uI (uB (mN M) 31 0) 31 1 0) = 32 := k_3
  have o_6 : ∀ b k : Nat, b < 31 → mB M b k = true → mB (uI (uB (mN M) 31 0) 31 1 0) b k = true := o_4
  refine V.seg F floX4 cjoX4 [.aload_n 0, .iconst 0, .putfield 19] (by decide +kernel) (pc2 := 22) (lv2 := [(0, .ref 31)]) (st2 := []) (M2 := uI (uI (uB (mN M) 31 0) 31 1 0) 31 2 0) rfl ⟨trivial, trivial, ⟨rfl, (by omega), (by have := k_5; omega)⟩, trivial⟩ ?_
  have k_7 : mK (uI (uI (uB (mN M) 31 0) 31 1 0) 31 2 0) = 32 := k_5
  have o_8 : ∀ b k : Nat, b < 31 → mB M b k = true → mB (uI (uI (uB (mN M) 31 0) 31 1 0) 31 2 0) b k = true := o_6
  refine V.seg F floX4 cjoX4 [.aload_n 0, .iconst (-1), .putfield 22] (by decide +kernel) (pc2 := 27) (lv2 := [(0, .ref 31)]) (st2 := []) (M2 := uI (uI (uI (uB (mN M) 31 0) 31 1 0) 31 2 0) 31 3 ((-1))) rfl ⟨trivial, trivial, ⟨rfl, (by omega), (by have := k_7; omega)⟩, trivial⟩ ?_
  have k_9 : mK (uI (uI (uI (uB (mN M) 31 0) 31 1 0) 31 2 0) 31 3 ((-1))) = 32 := k_7
  have o_10 : ∀ b k : Nat, b < 31 → mB M b k = true → mB (uI (uI (uI (uB (mN M) 31 0) 31 1 0) 31 2 0) 31 3 ((-1))) b k = true := o_8
  refine V.widen (mc := 1) (ms := 8) (by omega) (by omega) ?_
  exact V.vret F (by decide +kernel) ⟨rfl, E.symm, k_9, o_10⟩
def f_X5_init (M : Mem) : Mem := uB (mN (uB (m5 M) 4 0)) 4 1
abbrev p_X5_init (M : Mem) : Option Value → Mem → Prop := fun r N => r = none ∧ N = f_X5_init M ∧ mK N = 10 ∧ ∀ b k : Nat, b < 4 → mB M b k = true → mB N b k = true
set_option maxRecDepth 100000 in
set_option maxHeartbeats 4000000 in
theorem c_X5_init (G : Ctx) (l : Launch) (M : Mem) (hk0 : mK M = 4)  : CT G l 1 mX5_init [.ref 4] M 6 72 (p_X5_init M) := by
  refine CT.of (by decide) (Nat.le_of_ble_eq_true rfl) ?_
  intro X d hd hl hRm hnm F
  subst hl
  have E : f_X5_init M = f_X5_init M := rfl
  show V G X 1 0 0 (Qx G X 6 72 (p_X5_init M)) 0 [(0, .ref 4)] [] M
  refine V.seg F floX5 cjoX5 [.aload_n 0] (by decide +kernel) (pc2 := 1) (lv2 := [(0, .ref 4)]) (st2 := [.ref 4]) (M2 := M) rfl ⟨trivial, trivial⟩ ?_
  refine V.objInit F (by decide +kernel) ti95 (rm_ok hRm hd (by decide) (by decide)) (Nat.le_of_ble_eq_true rfl) ?_
  refine V.seg F floX5 cjoX5 [.aload_n 0, .iconst 4, .bipush 16] (by decide +kernel) (pc2 := 8) (lv2 := [(0, .ref 4)]) (st2 := [.int 16, .int 4, .ref 4]) (M2 := M) rfl ⟨trivial, trivial, trivial, trivial⟩ ?_
  refine V.mna F (by decide +kernel) (by rw [hk0]; exact rfl) (fun j hj => by rw [hk0]; exact ma_sh j hj) ti96 ti109 (by rw [hRm]; show 0 + 5 ≤ 6; omega) (by rw [hRm]; show 0 + 68 ≤ 72; omega) ?_
  rw [hk0]
  have k_1 : mK (m5 M) = 9 := (mK_m5 hk0)
  have o_2 : ∀ b k : Nat, b < 4 → mB M b k = true → mB (m5 M) b k = true := (fun b k h h' => m5_B hk0 (by omega) ((fun _ _ _ h => h) b k h h'))
  show V G X 1 5 68 (Qx G X 6 72 (p_X5_init M)) 12 [(0, .ref 4)] [.ref 5, .ref 4] (m5 M)
  refine V.putR (a := 4) (c := 5) (j := 0) F hnm (by decide +kernel) rfl (by decide) ⟨rfl, (by omega), (by have := k_1; omega)⟩ rfl ti98 rfl rfl ?_
  have k_3 : mK (uB (m5 M) 4 0) = 9 := k_1
  have o_4 : ∀ b k : Nat, b < 4 → mB M b k = true → mB (uB (m5 M) 4 0) b k = true := (fun b k h h' => uB_B (o_2 b k h h'))
  refine V.seg F floX5 cjoX5 [.aload_n 0, .iconst 4] (by decide +kernel) (pc2 := 17) (lv2 := [(0, .ref 4)]) (st2 := [.int 4, .ref 4]) (M2 := uB (m5 M) 4 0) rfl ⟨trivial, trivial, trivial⟩ ?_
  refine V.newarr (kd := 20) (n := 4) F (by decide +kernel) (by rw [k_3]; exact rfl) (Or.inl ⟨rfl, rfl⟩) (by decide) rfl (by decide) (by rw [hRm]; show 5 + 1 ≤ 6; omega) (by rw [hRm]; show 68 + 4 ≤ 72; omega) ti110 ?_
  rw [k_3]
  have k_5 : mK (mN (uB (m5 M) 4 0)) = 10 := (mK_mN k_3)
  have o_6 : ∀ b k : Nat, b < 4 → mB M b k = true → mB (mN (uB (m5 M) 4 0)) b k = true := (fun b k h h' => mN_B k_3 (by omega) (o_4 b k h h'))
  show V G X 1 6 72 (Qx G X 6 72 (p_X5_init M)) 19 [(0, .ref 4)] [.ref 10, .ref 4] (mN (uB (m5 M) 4 0))
  refine V.putR (a := 4) (c := 5) (j := 1) F hnm (by decide +kernel) rfl (by decide) ⟨rfl, (by omega), (by have := k_5; omega)⟩ rfl ti101 rfl rfl ?_
  have k_7 : mK (uB (mN (uB (m5 M) 4 0)) 4 1) = 10 := k_5
  have o_8 : ∀ b k : Nat, b < 4 → mB M b k = true → mB (uB (mN (uB (m5 M) 4 0)) 4 1) b k = true := (fun b k h h' => uB_B (o_6 b k h h'))
  refine V.widen (mc := 6) (ms := 72) (by omega) (by omega) ?_
  exact V.vret F (by decide +kernel) ⟨rfl, E.symm, k_7, o_8⟩
def f_X2_init_63  : Nat → Nat → Mem → Mem
  | 0, _, M63 => M63
  | n_ + 1, j63, M63 => if 8 ≤ (nI j63) then M63 else (f_X2_init_63 n_) (j63 + 1) (uB (f_X1_init (mN M63) (22 + j63 + 1)) 18 (ix (nI j63)))
def f_X2_init (M : Mem) : Mem := f_X2_init_63  9 0 (uB (mN (uB (mN (uB (mN (uB (f_X1_init (mN (uB (mN (uB (f_X0_init (mN M) 15) 14 0)) 14 1)) 19) 14 2)) 14 3)) 14 4)) 14 5)
abbrev p_X2_init (M : Mem) : Option Value → Mem → Prop := fun r N => r = none ∧ N = f_X2_init M ∧ mK N = 30 ∧ ∀ b k : Nat, b < 14 → mB M b k = true → mB N b k = true
set_option maxRecDepth 100000 in
set_option maxHeartbeats 4000000 in
theorem c_X2_init (G : Ctx) (l : Launch) (M : Mem) (hk0 : mK M = 14)  : CT G l 3 mX2_init [.ref 14] M 16 631 (p_X2_init M) := by
  refine CT.of (by decide) (Nat.le_of_ble_eq_true rfl) ?_
  intro X d hd hl hRm hnm F
  subst hl
  have E : f_X2_init M = f_X2_init M := rfl
  show V G X 2 0 0 (Qx G X 16 631 (p_X2_init M)) 0 [(0, .ref 14)] [] M
  refine V.seg F floX2 cjoX2 [.aload_n 0] (by decide +kernel) (pc2 := 1) (lv2 := [(0, .ref 14)]) (st2 := [.ref 14]) (M2 := M) rfl ⟨trivial, trivial⟩ ?_
  refine V.objInit F (by decide +kernel) ti187 (rm_ok hRm hd (by decide) (by decide)) (Nat.le_of_ble_eq_true rfl) ?_
  refine V.seg F floX2 cjoX2 [.aload_n 0] (by decide +kernel) (pc2 := 5) (lv2 := [(0, .ref 14)]) (st2 := [.ref 14]) (M2 := M) rfl ⟨trivial, trivial⟩ ?_
  refine V.new (c := 0) F (by decide +kernel) rfl (by rw [hk0]; exact rfl) ti188 ti112 ti70 (by rw [hRm]; show 0 + 1 ≤ 16; omega) (by rw [hRm]; show 0 + 2 ≤ 631; omega) ?_
  rw [hk0]
  have k_1 : mK (mN M) = 15 := (mK_mN hk0)
  have o_2 : ∀ b k : Nat, b < 14 → mB M b k = true → mB (mN M) b k = true := (fun b k h h' => mN_B hk0 (by omega) ((fun _ _ _ h => h) b k h h'))
  show V G X 2 1 2 (Qx G X 16 631 (p_X2_init M)) 8 [(0, .ref 14)] [.ref 15, .ref 14] (mN M)
  refine V.seg F floX2 cjoX2 [.dup] (by decide +kernel) (pc2 := 9) (lv2 := [(0, .ref 14)]) (st2 := [.ref 15, .ref 15, .ref 14]) (M2 := mN M) rfl ⟨trivial, trivial⟩ ?_
  refine V.callI (b := 15) (as := []) (rest := [.ref 15, .ref 14]) F (by decide +kernel) lX2_11 bX0_init (c_X0_init G X.2.1 (mN M) 15 k_1 (Or.inr rfl)) (rm_ok hRm hd (by decide) (by decide)) ⟨by rw [hRm]; show 1 + 2 ≤ 16; omega, by rw [hRm]; show 2 + 14 ≤ 631; omega⟩ (Nat.le_of_ble_eq_true rfl) (fun r_ N_ p_ => ?_)
  obtain ⟨rfl, rfl, kn_, kb_⟩ := p_
  have k_3 : mK (f_X0_init (mN M) 15) = 17 := kn_
  have o_4 : ∀ b k : Nat, b < 14 → mB M b k = true → mB (f_X0_init (mN M) 15) b k = true := (fun b k h h' => kb_ _ _ (by omega) (o_2 b k h h'))
  clear kn_ kb_
  show V G X 2 3 16 (Qx G X 16 631 (p_X2_init M)) 12 [(0, .ref 14)] [.ref 15, .ref 14] (f_X0_init (mN M) 15)
  refine V.putR (a := 14) (c := 2) (j := 0) F hnm (by decide +kernel) rfl (by decide) ⟨rfl, (by omega), (by have := k_3; omega)⟩ rfl ti192 rfl rfl ?_
  have k_5 : mK (uB (f_X0_init (mN M) 15) 14 0) = 17 := k_3
  have o_6 : ∀ b k : Nat, b < 14 → mB M b k = true → mB (uB (f_X0_init (mN M) 15) 14 0) b k = true := (fun b k h h' => uB_B (o_4 b k h h'))
  refine V.seg F floX2 cjoX2 [.aload_n 0, .bipush 8] (by decide +kernel) (pc2 := 18) (lv2 := [(0, .ref 14)]) (st2 := [.int 8, .ref 14]) (M2 := uB (f_X0_init (mN M) 15) 14 0) rfl ⟨trivial, trivial, trivial⟩ ?_
  refine V.anew (kd := 24) (n := 8) F (by decide +kernel) (by rw [k_5]; exact rfl) (Or.inl ⟨by decide, by decide, rfl⟩) (by decide) rfl (by decide) (by rw [hRm]; show 3 + 1 ≤ 16; omega) (by rw [hRm]; show 16 + 8 ≤ 631; omega) ti190 ?_
  rw [k_5]
  have k_7 : mK (mN (uB (f_X0_init (mN M) 15) 14 0)) = 18 := (mK_mN k_5)
  have o_8 : ∀ b k : Nat, b < 14 → mB M b k = true → mB (mN (uB (f_X0_init (mN M) 15) 14 0)) b k = true := (fun b k h h' => mN_B k_5 (by omega) (o_6 b k h h'))
  show V G X 2 4 24 (Qx G X 16 631 (p_X2_init M)) 21 [(0, .ref 14)] [.ref 18, .ref 14] (mN (uB (f_X0_init (mN M) 15) 14 0))
  refine V.putR (a := 14) (c := 2) (j := 1) F hnm (by decide +kernel) rfl (by decide) ⟨rfl, (by omega), (by have := k_7; omega)⟩ rfl ti193 rfl rfl ?_
  have k_9 : mK (uB (mN (uB (f_X0_init (mN M) 15) 14 0)) 14 1) = 18 := k_7
  have o_10 : ∀ b k : Nat, b < 14 → mB M b k = true → mB (uB (mN (uB (f_X0_init (mN M) 15) 14 0)) 14 1) b k = true := (fun b k h h' => uB_B (o_8 b k h h'))
  have o_11 : mB (uB (mN (uB (f_X0_init (mN M) 15) 14 0)) 14 1) 14 1 = true := mB_uB
  refine V.seg F floX2 cjoX2 [.aload_n 0] (by decide +kernel) (pc2 := 25) (lv2 := [(0, .ref 14)]) (st2 := [.ref 14]) (M2 := uB (mN (uB (f_X0_init (mN M) 15) 14 0)) 14 1) rfl ⟨trivial, trivial⟩ ?_
  refine V.new (c := 1) F (by decide +kernel) rfl (by rw [k_9]; exact rfl) ti190 ti118 ti71 (by rw [hRm]; show 4 + 1 ≤ 16; omega) (by rw [hRm]; show 24 + 7 ≤ 631; omega) ?_
  rw [k_9]
  have k_12 : mK (mN (uB (mN (uB (f_X0_init (mN M) 15) 14 0)) 14 1)) = 19 := (mK_mN k_9)
  have o_13 : ∀ b k : Nat, b < 14 → mB M b k = true → mB (mN (uB (mN (uB (f_X0_init (mN M) 15) 14 0)) 14 1)) b k = true := (fun b k h h' => mN_B k_9 (by omega) (o_10 b k h h'))
  have o_14 : mB (mN (uB (mN (uB (f_X0_init (mN M) 15) 14 0)) 14 1)) 14 1 = true := (mN_B k_9 (by omega) o_11)
  show V G X 2 5 31 (Qx G X 16 631 (p_X2_init M)) 28 [(0, .ref 14)] [.ref 19, .ref 14] (mN (uB (mN (uB (f_X0_init (mN M) 15) 14 0)) 14 1))
  refine V.seg F floX2 cjoX2 [.dup] (by decide +kernel) (pc2 := 29) (lv2 := [(0, .ref 14)]) (st2 := [.ref 19, .ref 19, .ref 14]) (M2 := mN (uB (mN (uB (f_X0_init (mN M) 15) 14 0)) 14 1)) rfl ⟨trivial, trivial⟩ ?_
  refine V.callI (b := 19) (as := []) (rest := [.ref 19, .ref 14]) F (by decide +kernel) lX2_24 bX1_init (c_X1_init G X.2.1 (mN (uB (mN (uB (f_X0_init (mN M) 15) 14 0)) 14 1)) 19 ⟨rfl, (by omega), (by have := k_12; omega)⟩) (rm_ok hRm hd (by decide) (by decide)) ⟨by rw [hRm]; show 5 + 0 ≤ 16; omega, by rw [hRm]; show 31 + 0 ≤ 631; omega⟩ (Nat.le_of_ble_eq_true rfl) (fun r_ N_ p_ => ?_)
  obtain ⟨rfl, rfl, t_⟩ := p_
  have k_15 : mK (f_X1_init (mN (uB (mN (uB (f_X0_init (mN M) 15) 14 0)) 14 1)) 19) = 19 := (t_.1.1.trans k_12)
  have o_16 : ∀ b k : Nat, b < 14 → mB M b k = true → mB (f_X1_init (mN (uB (mN (uB (f_X0_init (mN M) 15) 14 0)) 14 1)) 19) b k = true := (fun b k h h' => sm_B t_.1 (o_13 b k h h'))
  have o_17 : mB (f_X1_init (mN (uB (mN (uB (f_X0_init (mN M) 15) 14 0)) 14 1)) 19) 14 1 = true := (sm_B t_.1 o_14)
  clear t_
  show V G X 2 5 31 (Qx G X 16 631 (p_X2_init M)) 32 [(0, .ref 14)] [.ref 19, .ref 14] (f_X1_init (mN (uB (mN (uB (f_X0_init (mN M) 15) 14 0)) 14 1)) 19)
  refine V.putR (a := 14) (c := 2) (j := 2) F hnm (by decide +kernel) rfl (by decide) ⟨rfl, (by omega), (by have := k_15; omega)⟩ rfl ti194 rfl rfl ?_
  have k_18 : mK (uB (f_X1_init (mN (uB (mN (uB (f_X0_init (mN M) 15) 14 0)) 14 1)) 19) 14 2) = 19 := k_15
  have o_19 : ∀ b k : Nat, b < 14 → mB M b k = true → mB (uB (f_X1_init (mN (uB (mN (uB (f_X0_init (mN M) 15) 14 0)) 14 1)) 19) 14 2) b k = true := (fun b k h h' => uB_B (o_16 b k h h'))
  have o_20 : mB (uB (f_X1_init (mN (uB (mN (uB (f_X0_init (mN M) 15) 14 0)) 14 1)) 19) 14 2) 14 1 = true := (uB_B o_17)
  refine V.seg F floX2 cjoX2 [.aload_n 0, .bipush 32] (by decide +kernel) (pc2 := 38) (lv2 := [(0, .ref 14)]) (st2 := [.int 32, .ref 14]) (M2 := uB (f_X1_init (mN (uB (mN (uB (f_X0_init (mN M) 15) 14 0)) 14 1)) 19) 14 2) rfl ⟨trivial, trivial, trivial⟩ ?_
  refine V.newarr (kd := 21) (n := 32) F (by decide +kernel) (by rw [k_18]; exact rfl) (Or.inr (Or.inl ⟨rfl, rfl⟩)) (by decide) rfl (by decide) (by rw [hRm]; show 5 + 1 ≤ 16; omega) (by rw [hRm]; show 31 + 32 ≤ 631; omega) ti211 ?_
  rw [k_18]
  have k_21 : mK (mN (uB (f_X1_init (mN (uB (mN (uB (f_X0_init (mN M) 15) 14 0)) 14 1)) 19) 14 2)) = 20 := (mK_mN k_18)
  have o_22 : ∀ b k : Nat, b < 14 → mB M b k = true → mB (mN (uB (f_X1_init (mN (uB (mN (uB (f_X0_init (mN M) 15) 14 0)) 14 1)) 19) 14 2)) b k = true := (fun b k h h' => mN_B k_18 (by omega) (o_19 b k h h'))
  have o_23 : mB (mN (uB (f_X1_init (mN (uB (mN (uB (f_X0_init (mN M) 15) 14 0)) 14 1)) 19) 14 2)) 14 1 = true := (mN_B k_18 (by omega) o_20)
  show V G X 2 6 63 (Qx G X 16 631 (p_X2_init M)) 40 [(0, .ref 14)] [.ref 20, .ref 14] (mN (uB (f_X1_init (mN (uB (mN (uB (f_X0_init (mN M) 15) 14 0)) 14 1)) 19) 14 2))
  refine V.putR (a := 14) (c := 2) (j := 3) F hnm (by decide +kernel) rfl (by decide) ⟨rfl, (by omega), (by have := k_21; omega)⟩ rfl ti195 rfl rfl ?_
  have k_24 : mK (uB (mN (uB (f_X1_init (mN (uB (mN (uB (f_X0_init (mN M) 15) 14 0)) 14 1)) 19) 14 2)) 14 3) = 20 := k_21
  have o_25 : ∀ b k : Nat, b < 14 → mB M b k = true → mB (uB (mN (uB (f_X1_init (mN (uB (mN (uB (f_X0_init (mN M) 15) 14 0)) 14 1)) 19) 14 2)) 14 3) b k = true := (fun b k h h' => uB_B (o_22 b k h h'))
  have o_26 : mB (uB (mN (uB (f_X1_init (mN (uB (mN (uB (f_X0_init (mN M) 15) 14 0)) 14 1)) 19) 14 2)) 14 3) 14 1 = true := (uB_B o_23)
  refine V.seg F floX2 cjoX2 [.aload_n 0, .sipush 256] (by decide +kernel) (pc2 := 47) (lv2 := [(0, .ref 14)]) (st2 := [.int 256, .ref 14]) (M2 := uB (mN (uB (f_X1_init (mN (uB (mN (uB (f_X0_init (mN M) 15) 14 0)) 14 1)) 19) 14 2)) 14 3) rfl ⟨trivial, trivial, trivial⟩ ?_
  refine V.newarr (kd := 20) (n := 256) F (by decide +kernel) (by rw [k_24]; exact rfl) (Or.inl ⟨rfl, rfl⟩) (by decide) rfl (by decide) (by rw [hRm]; show 6 + 1 ≤ 16; omega) (by rw [hRm]; show 63 + 256 ≤ 631; omega) ti110 ?_
  rw [k_24]
  have k_27 : mK (mN (uB (mN (uB (f_X1_init (mN (uB (mN (uB (f_X0_init (mN M) 15) 14 0)) 14 1)) 19) 14 2)) 14 3)) = 21 := (mK_mN k_24)
  have o_28 : ∀ b k : Nat, b < 14 → mB M b k = true → mB (mN (uB (mN (uB (f_X1_init (mN (uB (mN (uB (f_X0_init (mN M) 15) 14 0)) 14 1)) 19) 14 2)) 14 3)) b k = true := (fun b k h h' => mN_B k_24 (by omega) (o_25 b k h h'))
  have o_29 : mB (mN (uB (mN (uB (f_X1_init (mN (uB (mN (uB (f_X0_init (mN M) 15) 14 0)) 14 1)) 19) 14 2)) 14 3)) 14 1 = true := (mN_B k_24 (by omega) o_26)
  show V G X 2 7 319 (Qx G X 16 631 (p_X2_init M)) 49 [(0, .ref 14)] [.ref 21, .ref 14] (mN (uB (mN (uB (f_X1_init (mN (uB (mN (uB (f_X0_init (mN M) 15) 14 0)) 14 1)) 19) 14 2)) 14 3))
  refine V.putR (a := 14) (c := 2) (j := 4) F hnm (by decide +kernel) rfl (by decide) ⟨rfl, (by omega), (by have := k_27; omega)⟩ rfl ti196 rfl rfl ?_
  have k_30 : mK (uB (mN (uB (mN (uB (f_X1_init (mN (uB (mN (uB (f_X0_init (mN M) 15) 14 0)) 14 1)) 19) 14 2)) 14 3)) 14 4) = 21 := k_27
  have o_31 : ∀ b k : Nat, b < 14 → mB M b k = true → mB (uB (mN (uB (mN (uB (f_X1_init (mN (uB (mN (uB (f_X0_init (mN M) 15) 14 0)) 14 1)) 19) 14 2)) 14 3)) 14 4) b k = true := (fun b k h h' => uB_B (o_28 b k h h'))
  have o_32 : mB (uB (mN (uB (mN (uB (f_X1_init (mN (uB (mN (uB (f_X0_init (mN M) 15) 14 0)) 14 1)) 19) 14 2)) 14 3)) 14 4) 14 1 = true := (uB_B o_29)
  refine V.seg F floX2 cjoX2 [.aload_n 0, .sipush 256] (by decide +kernel) (pc2 := 56) (lv2 := [(0, .ref 14)]) (st2 := [.int 256, .ref 14]) (M2 := uB (mN (uB (mN (uB (f_X1_init (mN (uB (mN (uB (f_X0_init (mN M) 15) 14 0)) 14 1)) 19) 14 2)) 14 3)) 14 4) rfl ⟨trivial, trivial, trivial⟩ ?_
  refine V.newarr (kd := 20) (n := 256) F (by decide +kernel) (by rw [k_30]; exact rfl) (Or.inl ⟨rfl, rfl⟩) (by decide) rfl (by decide) (by rw [hRm]; show 7 + 1 ≤ 16; omega) (by rw [hRm]; show 319 + 256 ≤ 631; omega) ti110 ?_
  rw [k_30]
  have k_33 : mK (mN (uB (mN (uB (mN (uB (f_X1_init (mN (uB (mN (uB (f_X0_init (mN M) 15) 14 0)) 14 1)) 19) 14 2)) 14 3)) 14 4)) = 22 := (mK_mN k_30)
  have o_34 : ∀ b k : Nat, b < 14 → mB M b k = true → mB (mN (uB (mN (uB (mN (uB (f_X1_init (mN (uB (mN (uB (f_X0_init (mN M) 15) 14 0)) 14 1)) 19) 14 2)) 14 3)) 14 4)) b k = true := (fun b k h h' => mN_B k_30 (by omega) (o_31 b k h h'))
  have o_35 : mB (mN (uB (mN (uB (mN (uB (f_X1_init (mN (uB (mN (uB (f_X0_init (mN M) 15) 14 0)) 14 1)) 19) 14 2)) 14 3)) 14 4)) 14 1 = true := (mN_B k_30 (by omega) o_32)
  show V G X 2 8 575 (Qx G X 16 631 (p_X2_init M)) 58 [(0, .ref 14)] [.ref 22, .ref 14] (mN (uB (mN (uB (mN (uB (f_X1_init (mN (uB (mN (uB (f_X0_init (mN M) 15) 14 0)) 14 1)) 19) 14 2)) 14 3)) 14 4))
  refine V.putR (a := 14) (c := 2) (j := 5) F hnm (by decide +kernel) rfl (by decide) ⟨rfl, (by omega), (by have := k_33; omega)⟩ rfl ti197 rfl rfl ?_
  have k_36 : mK (uB (mN (uB (mN (uB (mN (uB (f_X1_init (mN (uB (mN (uB (f_X0_init (mN M) 15) 14 0)) 14 1)) 19) 14 2)) 14 3)) 14 4)) 14 5) = 22 := k_33
  have o_37 : ∀ b k : Nat, b < 14 → mB M b k = true → mB (uB (mN (uB (mN (uB (mN (uB (f_X1_init (mN (uB (mN (uB (f_X0_init (mN M) 15) 14 0)) 14 1)) 19) 14 2)) 14 3)) 14 4)) 14 5) b k = true := (fun b k h h' => uB_B (o_34 b k h h'))
  have o_38 : mB (uB (mN (uB (mN (uB (mN (uB (f_X1_init (mN (uB (mN (uB (f_X0_init (mN M) 15) 14 0)) 14 1)) 19) 14 2)) 14 3)) 14 4)) 14 5) 14 1 = true := (uB_B o_35)
  refine V.seg F floX2 cjoX2 [.iconst 0] (by decide +kernel) (pc2 := 62) (lv2 := [(0, .ref 14)]) (st2 := [.int 0]) (M2 := uB (mN (uB (mN (uB (mN (uB (f_X1_init (mN (uB (mN (uB (f_X0_init (mN M) 15) 14 0)) 14 1)) 19) 14 2)) 14 3)) 14 4)) 14 5) rfl ⟨trivial, trivial⟩ ?_
  refine V.seg F floX2 cjoX2 [.istore_n 1] (by decide +kernel) (pc2 := 63) (lv2 := [(1, .int 0), (0, .ref 14)]) (st2 := []) (M2 := uB (mN (uB (mN (uB (mN (uB (f_X1_init (mN (uB (mN (uB (f_X0_init (mN M) 15) 14 0)) 14 1)) 19) 14 2)) 14 3)) 14 4)) 14 5) rfl ⟨(by decide), trivial⟩ ?_
  have hJ63 : ∀ (n_ : Nat) (j63 : Nat) (M63 : Mem), (Tr M M63) → (j63 ≤ 8) → (8 - j63 < n_) → (mK M63 = 22 + j63) → (∀ b k : Nat, b < 14 → mB M b k = true → mB M63 b k = true) → (mB M63 14 1 = true) → f_X2_init M = f_X2_init_63 n_ j63 M63 → V G X 2 ((8 + j63)) ((575 + 7 * j63)) (Qx G X 16 631 (p_X2_init M)) 63 [(0, .ref 14), (1, .int (nI j63))] [] M63 := by
    intro n_
    induction n_ with
    | zero => intro j63 M63 s63 b63 m63 k63 q63_0 q63_1 E; omega
    | succ n_ ih_63 =>
      intro j63 M63 s63 b63 m63 k63 q63_0 q63_1 E
      rw [f_X2_init_63] at E
      refine V.seg F floX2 cjoX2 [.iload_n 1, .bipush 8] (by decide +kernel) (pc2 := 66) (lv2 := [(0, .ref 14), (1, .int (nI j63))]) (st2 := [.int 8, .int (nI j63)]) (M2 := M63) rfl ⟨trivial, trivial, trivial⟩ ?_
      refine V.ic_ge (off := 22) F (by decide +kernel) (tgt := 88) (by decide) (fun h66 => ?_) (fun h66 => ?_)
      · replace E := E.trans (if_pos h66)
        have e63_ : j63 = 8 := cnt_ge (n := 8) h66 rfl b63 (by decide)
        subst e63_
        refine V.widen (mc := 16) (ms := 631) (by omega) (by omega) ?_
        exact V.vret F (by decide +kernel) ⟨rfl, E.symm, k63, q63_0⟩
      · replace E := E.trans (if_neg h66)
        have z63_ := cnt_lt (n := 8) h66 rfl (by omega) (by decide)
        refine V.seg F floX2 cjoX2 [.aload_n 0, .getfield 20, .iload_n 1] (by decide +kernel) (pc2 := 74) (lv2 := [(0, .ref 14), (1, .int (nI j63))]) (st2 := [.int (nI j63), .ref 18]) (M2 := M63) rfl ⟨trivial, ⟨⟨rfl, (by omega), (by have := k63; omega)⟩, q63_1⟩, trivial, trivial⟩ ?_
        refine V.new (c := 1) F (by decide +kernel) rfl (by rw [k63]; exact (fd_sh j63 (by omega))) ti190 ti118 ti71 (by rw [hRm]; show (8 + j63) + 1 ≤ 16; omega) (by rw [hRm]; show (575 + 7 * j63) + 7 ≤ 631; omega) ?_
        rw [k63]
        have k_39 : mK (mN M63) = 22 + j63 + 1 := (mK_mN k63)
        have o_40 : ∀ b k : Nat, b < 14 → mB M b k = true → mB (mN M63) b k = true := (fun b k h h' => mN_B k63 (by omega) (q63_0 b k h h'))
        have o_41 : mB (mN M63) 14 1 = true := (mN_B k63 (by omega) q63_1)
        show V G X 2 ((8 + j63) + 1) ((575 + 7 * j63) + 7) (Qx G X 16 631 (p_X2_init M)) 77 [(0, .ref 14), (1, .int (nI j63))] [.ref (22 + j63 + 1), .int (nI j63), .ref 18] (mN M63)
        refine V.seg F floX2 cjoX2 [.dup] (by decide +kernel) (pc2 := 78) (lv2 := [(0, .ref 14), (1, .int (nI j63))]) (st2 := [.ref (22 + j63 + 1), .ref (22 + j63 + 1), .int (nI j63), .ref 18]) (M2 := mN M63) rfl ⟨trivial, trivial⟩ ?_
        refine V.callI (b := 22 + j63 + 1) (as := []) (rest := [.ref (22 + j63 + 1), .int (nI j63), .ref 18]) F (by decide +kernel) lX2_24 bX1_init (c_X1_init G X.2.1 (mN M63) (22 + j63 + 1) ⟨(fd_sh j63 (by omega)), (by omega), (by have := k_39; omega)⟩) (rm_ok hRm hd (by decide) (by decide)) ⟨by rw [hRm]; show (8 + j63) + 1 + 0 ≤ 16; omega, by rw [hRm]; show (575 + 7 * j63) + 7 + 0 ≤ 631; omega⟩ (Nat.le_of_ble_eq_true rfl) (fun r_ N_ p_ => ?_)
        obtain ⟨rfl, rfl, t_⟩ := p_
        have k_42 : mK (f_X1_init (mN M63) (22 + j63 + 1)) = 22 + j63 + 1 := (t_.1.1.trans k_39)
        have o_43 : ∀ b k : Nat, b < 14 → mB M b k = true → mB (f_X1_init (mN M63) (22 + j63 + 1)) b k = true := (fun b k h h' => sm_B t_.1 (o_40 b k h h'))
        have o_44 : mB (f_X1_init (mN M63) (22 + j63 + 1)) 14 1 = true := (sm_B t_.1 o_41)
        clear t_
        show V G X 2 ((8 + j63) + 1) ((575 + 7 * j63) + 7) (Qx G X 16 631 (p_X2_init M)) 81 [(0, .ref 14), (1, .int (nI j63))] [.ref (22 + j63 + 1), .int (nI j63), .ref 18] (f_X1_init (mN M63) (22 + j63 + 1))
        refine v_aast (a := 18) (kd := 24) (c := 1) (i := nI j63) F (by decide +kernel) ⟨rfl, (by omega), (by have := k_42; omega), (vnj (cnt_lt (n := 8) h66 rfl (by omega) (by decide)) (by decide) (by decide))⟩ ⟨by decide, by decide⟩ rfl rfl (by show 18 + 5 + ix (nI j63) = _; rw [ix_n (by omega)]; omega) ⟨(fd_sh j63 (by omega)), (by omega), (by have := k_42; omega)⟩ ?_
        have k_45 : mK (uB (f_X1_init (mN M63) (22 + j63 + 1)) 18 (ix (nI j63))) = 22 + j63 + 1 := k_42
        have o_46 : ∀ b k : Nat, b < 14 → mB M b k = true → mB (uB (f_X1_init (mN M63) (22 + j63 + 1)) 18 (ix (nI j63))) b k = true := (fun b k h h' => uB_B (o_43 b k h h'))
        have o_47 : mB (uB (f_X1_init (mN M63) (22 + j63 + 1)) 18 (ix (nI j63))) 14 1 = true := (uB_B o_44)
        show V G X 2 ((8 + j63) + 1) ((575 + 7 * j63) + 7) (Qx G X 16 631 (p_X2_init M)) 82 [(0, .ref 14), (1, .int (nI j63))] [] (uB (f_X1_init (mN M63) (22 + j63 + 1)) 18 (ix (nI j63)))
        refine V.seg F floX2 cjoX2 [.iinc 1 1, .goto (-22)] (by decide +kernel) (pc2 := 63) (lv2 := [(1, .int ((nI j63) + 1)), (0, .ref 14)]) (st2 := []) (M2 := uB (f_X1_init (mN M63) (22 + j63 + 1)) 18 (ix (nI j63))) rfl ⟨(by decide), (by decide), trivial⟩ ?_
        refine V.pick [1, 0] rfl ?_
        rw [nI_1]
        refine V.widen (mc := (8 + (j63 + 1))) (ms := (575 + 7 * (j63 + 1))) (by omega) (by omega) ?_
        exact ih_63 (j63 + 1) (uB (f_X1_init (mN M63) (22 + j63 + 1)) 18 (ix (nI j63))) trivial (by have hlt_ := cnt_lt (n := 8) h66 rfl (by omega) (by decide); omega) (by have hlt_ := cnt_lt (n := 8) h66 rfl (by omega) (by decide); omega) (by exact k_45) (by exact o_46) (by exact o_47) E
  refine V.pick [1, 0] rfl ?_
  refine V.widen (mc := (8 + 0)) (ms := (575 + 7 * 0)) (by omega) (by omega) ?_
  exact hJ63 _ 0 (uB (mN (uB (mN (uB (mN (uB (f_X1_init (mN (uB (mN (uB (f_X0_init (mN M) 15) 14 0)) 14 1)) 19) 14 2)) 14 3)) 14 4)) 14 5) trivial (by omega) (by omega) (by exact k_36) (by exact o_37) (by exact o_38) E
def f_X3_init_99 (n : Nat) : Nat → Nat → Mem → Mem
  | 0, _, M99 => M99
  | n99_ + 1, j99, M99 => if 256 ≤ (nI j99) then M99 else (f_X3_init_99 n n99_) (j99 + 1) (uB (f_X1_init (mN M99) (74 + 271 * n + 14 + j99 + 1)) (74 + 271 * n + 5) (ix (nI j99)))
def f_X3_init_72 (n : Nat) : Nat → Nat → Mem → Mem
  | 0, _, M72 => M72
  | n_ + 1, j72, M72 => if 8 ≤ (nI j72) then f_X3_init_99 n 257 0 M72 else (f_X3_init_72 n n_) (j72 + 1) (uB (f_X1_init (mN M72) (74 + 271 * n + 6 + j72 + 1)) (74 + 271 * n + 4) (ix (nI j72)))
def f_X3_init (M : Mem) (n : Nat) : Mem := f_X3_init_72 n 9 0 (uI (uI (uB (mN (uB (mN (uB (mN (uI (uB (mN (uB (mN (uB (mN M) (74 + 271 * n) 0)) (74 + 271 * n) 1)) (74 + 271 * n) 2) (74 + 271 * n) 3 0)) (74 + 271 * n) 4)) (74 + 271 * n) 5)) (74 + 271 * n) 6) (74 + 271 * n) 7 0) (74 + 271 * n) 8 0)
abbrev p_X3_init (M : Mem) (n : Nat) : Option Value → Mem → Prop := fun r N => r = none ∧ N = f_X3_init M n ∧ mK N = 74 + 271 * n + 270 ∧ ∀ b k : Nat, b < 74 + 271 * n → mB M b k = true → mB N b k = true
set_option maxRecDepth 100000 in
set_option maxHeartbeats 4000000 in
theorem c_X3_init (G : Ctx) (l : Launch) (M : Mem) (n : Nat) (hk0 : mK M = 74 + 271 * n) (hn : n < 6) : CT G l 2 mX3_init [.ref (74 + 271 * n)] M 270 2240 (p_X3_init M n) := by
  refine CT.of (by decide) (Nat.le_of_ble_eq_true rfl) ?_
  intro X d hd hl hRm hnm F
  subst hl
  have E : f_X3_init M n = f_X3_init M n := rfl
  show V G X 2 0 0 (Qx G X 270 2240 (p_X3_init M n)) 0 [(0, .ref (74 + 271 * n))] [] M
  refine V.seg F floX3 cjoX3 [.aload_n 0] (by decide +kernel) (pc2 := 1) (lv2 := [(0, .ref (74 + 271 * n))]) (st2 := [.ref (74 + 271 * n)]) (M2 := M) rfl ⟨trivial, trivial⟩ ?_
  refine V.objInit F (by decide +kernel) ti507 (rm_ok hRm hd (by decide) (by decide)) (Nat.le_of_ble_eq_true rfl) ?_
  refine V.seg F floX3 cjoX3 [.aload_n 0, .bipush 32] (by decide +kernel) (pc2 := 7) (lv2 := [(0, .ref (74 + 271 * n))]) (st2 := [.int 32, .ref (74 + 271 * n)]) (M2 := M) rfl ⟨trivial, trivial, trivial⟩ ?_
  refine V.newarr (kd := 20) (n := 32) F (by decide +kernel) (by rw [hk0]; exact (SH_rt (o := 1) hn (by decide))) (Or.inl ⟨rfl, rfl⟩) (by decide) rfl (by decide) (by rw [hRm]; show 0 + 1 ≤ 270; omega) (by rw [hRm]; show 0 + 32 ≤ 2240; omega) ti110 ?_
  rw [hk0]
  have k_1 : mK (mN M) = 74 + 271 * n + 1 := (mK_mN hk0)
  have o_2 : ∀ b k : Nat, b < 74 + 271 * n → mB M b k = true → mB (mN M) b k = true := (fun b k h h' => mN_B hk0 (by omega) ((fun _ _ _ h => h) b k h h'))
  show V G X 2 1 32 (Qx G X 270 2240 (p_X3_init M n)) 9 [(0, .ref (74 + 271 * n))] [.ref (74 + 271 * n + 1), .ref (74 + 271 * n)] (mN M)
  refine V.putR (a := 74 + 271 * n) (c := 3) (j := 0) F hnm (by decide +kernel) rfl (by decide) ⟨(congrArg Prod.fst (SH_rt (o := 0) hn (by decide))), (by omega), (by have := k_1; omega)⟩ rfl ti510 rfl rfl ?_
  have k_3 : mK (uB (mN M) (74 + 271 * n) 0) = 74 + 271 * n + 1 := k_1
  have o_4 : ∀ b k : Nat, b < 74 + 271 * n → mB M b k = true → mB (uB (mN M) (74 + 271 * n) 0) b k = true := (fun b k h h' => uB_B (o_2 b k h h'))
  refine V.seg F floX3 cjoX3 [.aload_n 0, .bipush 32] (by decide +kernel) (pc2 := 15) (lv2 := [(0, .ref (74 + 271 * n))]) (st2 := [.int 32, .ref (74 + 271 * n)]) (M2 := uB (mN M) (74 + 271 * n) 0) rfl ⟨trivial, trivial, trivial⟩ ?_
  refine V.newarr (kd := 20) (n := 32) F (by decide +kernel) (by rw [k_3]; exact (SH_rt (o := 2) hn (by decide))) (Or.inl ⟨rfl, rfl⟩) (by decide) rfl (by decide) (by rw [hRm]; show 1 + 1 ≤ 270; omega) (by rw [hRm]; show 32 + 32 ≤ 2240; omega) ti110 ?_
  rw [k_3]
  have k_5 : mK (mN (uB (mN M) (74 + 271 * n) 0)) = 74 + 271 * n + 2 := (mK_mN k_3)
  have o_6 : ∀ b k : Nat, b < 74 + 271 * n → mB M b k = true → mB (mN (uB (mN M) (74 + 271 * n) 0)) b k = true := (fun b k h h' => mN_B k_3 (by omega) (o_4 b k h h'))
  show V G X 2 2 64 (Qx G X 270 2240 (p_X3_init M n)) 17 [(0, .ref (74 + 271 * n))] [.ref (74 + 271 * n + 2), .ref (74 + 271 * n)] (mN (uB (mN M) (74 + 271 * n) 0))
  refine V.putR (a := 74 + 271 * n) (c := 3) (j := 1) F hnm (by decide +kernel) rfl (by decide) ⟨(congrArg Prod.fst (SH_rt (o := 0) hn (by decide))), (by omega), (by have := k_5; omega)⟩ rfl ti513 rfl rfl ?_
  have k_7 : mK (uB (mN (uB (mN M) (74 + 271 * n) 0)) (74 + 271 * n) 1) = 74 + 271 * n + 2 := k_5
  have o_8 : ∀ b k : Nat, b < 74 + 271 * n → mB M b k = true → mB (uB (mN (uB (mN M) (74 + 271 * n) 0)) (74 + 271 * n) 1) b k = true := (fun b k h h' => uB_B (o_6 b k h h'))
  refine V.seg F floX3 cjoX3 [.aload_n 0, .bipush 32] (by decide +kernel) (pc2 := 23) (lv2 := [(0, .ref (74 + 271 * n))]) (st2 := [.int 32, .ref (74 + 271 * n)]) (M2 := uB (mN (uB (mN M) (74 + 271 * n) 0)) (74 + 271 * n) 1) rfl ⟨trivial, trivial, trivial⟩ ?_
  refine V.newarr (kd := 20) (n := 32) F (by decide +kernel) (by rw [k_7]; exact (SH_rt (o := 3) hn (by decide))) (Or.inl ⟨rfl, rfl⟩) (by decide) rfl (by decide) (by rw [hRm]; show 2 + 1 ≤ 270; omega) (by rw [hRm]; show 64 + 32 ≤ 2240; omega) ti110 ?_
  rw [k_7]
  have k_9 : mK (mN (uB (mN (uB (mN M) (74 + 271 * n) 0)) (74 + 271 * n) 1)) = 74 + 271 * n + 3 := (mK_mN k_7)
  have o_10 : ∀ b k : Nat, b < 74 + 271 * n → mB M b k = true → mB (mN (uB (mN (uB (mN M) (74 + 271 * n) 0)) (74 + 271 * n) 1)) b k = true := (fun b k h h' => mN_B k_7 (by omega) (o_8 b k h h'))
  show V G X 2 3 96 (Qx G X 270 2240 (p_X3_init M n)) 25 [(0, .ref (74 + 271 * n))] [.ref (74 + 271 * n + 3), .ref (74 + 271 * n)] (mN (uB (mN (uB (mN M) (74 + 271 * n) 0)) (74 + 271 * n) 1))
  refine V.putR (a := 74 + 271 * n) (c := 3) (j := 2) F hnm (by decide +kernel) rfl (by decide) ⟨(congrArg Prod.fst (SH_rt (o := 0) hn (by decide))), (by omega), (by have := k_9; omega)⟩ rfl ti516 rfl rfl ?_
  have k_11 : mK (uB (mN (uB (mN (uB (mN M) (74 + 271 * n) 0)) (74 + 271 * n) 1)) (74 + 271 * n) 2) = 74 + 271 * n + 3 := k_9
  have o_12 : ∀ b k : Nat, b < 74 + 271 * n → mB M b k = true → mB (uB (mN (uB (mN (uB (mN M) (74 + 271 * n) 0)) (74 + 271 * n) 1)) (74 + 271 * n) 2) b k = true := (fun b k h h' => uB_B (o_10 b k h h'))
  refine V.seg F floX3 cjoX3 [.aload_n 0, .iconst 0, .putfield 21] (by decide +kernel) (pc2 := 33) (lv2 := [(0, .ref (74 + 271 * n))]) (st2 := []) (M2 := uI (uB (mN (uB (mN (uB (mN M) (74 + 271 * n) 0)) (74 + 271 * n) 1)) (74 + 271 * n) 2) (74 + 271 * n) 3 0) rfl ⟨trivial, trivial, ⟨(congrArg Prod.fst (SH_rt (o := 0) hn (by decide))), (by omega), (by have := k_11; omega)⟩, trivial⟩ ?_
  have k_13 : mK (uI (uB (mN (uB (mN (uB (mN M) (74 + 271 * n) 0)) (74 + 271 * n) 1)) (74 + 271 * n) 2) (74 + 271 * n) 3 0) = 74 + 271 * n + 3 := k_11
  have o_14 : ∀ b k : Nat, b < 74 + 271 * n → mB M b k = true → mB (uI (uB (mN (uB (mN (uB (mN M) (74 + 271 * n) 0)) (74 + 271 * n) 1)) (74 + 271 * n) 2) (74 + 271 * n) 3 0) b k = true := o_12
  refine V.seg F floX3 cjoX3 [.aload_n 0, .bipush 8] (by decide +kernel) (pc2 := 36) (lv2 := [(0, .ref (74 + 271 * n))]) (st2 := [.int 8, .ref (74 + 271 * n)]) (M2 := uI (uB (mN (uB (mN (uB (mN M) (74 + 271 * n) 0)) (74 + 271 * n) 1)) (74 + 271 * n) 2) (74 + 271 * n) 3 0) rfl ⟨trivial, trivial, trivial⟩ ?_
  refine V.anew (kd := 25) (n := 8) F (by decide +kernel) (by rw [k_13]; exact (SH_rt (o := 4) hn (by decide))) (Or.inl ⟨by decide, by decide, rfl⟩) (by decide) rfl (by decide) (by rw [hRm]; show 3 + 1 ≤ 270; omega) (by rw [hRm]; show 96 + 8 ≤ 2240; omega) ti508 ?_
  rw [k_13]
  have k_15 : mK (mN (uI (uB (mN (uB (mN (uB (mN M) (74 + 271 * n) 0)) (74 + 271 * n) 1)) (74 + 271 * n) 2) (74 + 271 * n) 3 0)) = 74 + 271 * n + 4 := (mK_mN k_13)
  have o_16 : ∀ b k : Nat, b < 74 + 271 * n → mB M b k = true → mB (mN (uI (uB (mN (uB (mN (uB (mN M) (74 + 271 * n) 0)) (74 + 271 * n) 1)) (74 + 271 * n) 2) (74 + 271 * n) 3 0)) b k = true := (fun b k h h' => mN_B k_13 (by omega) (o_14 b k h h'))
  show V G X 2 4 104 (Qx G X 270 2240 (p_X3_init M n)) 39 [(0, .ref (74 + 271 * n))] [.ref (74 + 271 * n + 4), .ref (74 + 271 * n)] (mN (uI (uB (mN (uB (mN (uB (mN M) (74 + 271 * n) 0)) (74 + 271 * n) 1)) (74 + 271 * n) 2) (74 + 271 * n) 3 0))
  refine V.putR (a := 74 + 271 * n) (c := 3) (j := 4) F hnm (by decide +kernel) rfl (by decide) ⟨(congrArg Prod.fst (SH_rt (o := 0) hn (by decide))), (by omega), (by have := k_15; omega)⟩ rfl ti523 rfl rfl ?_
  have k_17 : mK (uB (mN (uI (uB (mN (uB (mN (uB (mN M) (74 + 271 * n) 0)) (74 + 271 * n) 1)) (74 + 271 * n) 2) (74 + 271 * n) 3 0)) (74 + 271 * n) 4) = 74 + 271 * n + 4 := k_15
  have o_18 : ∀ b k : Nat, b < 74 + 271 * n → mB M b k = true → mB (uB (mN (uI (uB (mN (uB (mN (uB (mN M) (74 + 271 * n) 0)) (74 + 271 * n) 1)) (74 + 271 * n) 2) (74 + 271 * n) 3 0)) (74 + 271 * n) 4) b k = true := (fun b k h h' => uB_B (o_16 b k h h'))
  have o_19 : mB (uB (mN (uI (uB (mN (uB (mN (uB (mN M) (74 + 271 * n) 0)) (74 + 271 * n) 1)) (74 + 271 * n) 2) (74 + 271 * n) 3 0)) (74 + 271 * n) 4) (74 + 271 * n) 4 = true := mB_uB
  refine V.seg F floX3 cjoX3 [.aload_n 0, .sipush 256] (by decide +kernel) (pc2 := 46) (lv2 := [(0, .ref (74 + 271 * n))]) (st2 := [.int 256, .ref (74 + 271 * n)]) (M2 := uB (mN (uI (uB (mN (uB (mN (uB (mN M) (74 + 271 * n) 0)) (74 + 271 * n) 1)) (74 + 271 * n) 2) (74 + 271 * n) 3 0)) (74 + 271 * n) 4) rfl ⟨trivial, trivial, trivial⟩ ?_
  refine V.anew (kd := 26) (n := 256) F (by decide +kernel) (by rw [k_17]; exact (SH_rt (o := 5) hn (by decide))) (Or.inl ⟨by decide, by decide, rfl⟩) (by decide) rfl (by decide) (by rw [hRm]; show 4 + 1 ≤ 270; omega) (by rw [hRm]; show 104 + 256 ≤ 2240; omega) ti508 ?_
  rw [k_17]
  have k_20 : mK (mN (uB (mN (uI (uB (mN (uB (mN (uB (mN M) (74 + 271 * n) 0)) (74 + 271 * n) 1)) (74 + 271 * n) 2) (74 + 271 * n) 3 0)) (74 + 271 * n) 4)) = 74 + 271 * n + 5 := (mK_mN k_17)
  have o_21 : ∀ b k : Nat, b < 74 + 271 * n → mB M b k = true → mB (mN (uB (mN (uI (uB (mN (uB (mN (uB (mN M) (74 + 271 * n) 0)) (74 + 271 * n) 1)) (74 + 271 * n) 2) (74 + 271 * n) 3 0)) (74 + 271 * n) 4)) b k = true := (fun b k h h' => mN_B k_17 (by omega) (o_18 b k h h'))
  have o_22 : mB (mN (uB (mN (uI (uB (mN (uB (mN (uB (mN M) (74 + 271 * n) 0)) (74 + 271 * n) 1)) (74 + 271 * n) 2) (74 + 271 * n) 3 0)) (74 + 271 * n) 4)) (74 + 271 * n) 4 = true := (mN_B k_17 (by omega) o_19)
  show V G X 2 5 360 (Qx G X 270 2240 (p_X3_init M n)) 49 [(0, .ref (74 + 271 * n))] [.ref (74 + 271 * n + 5), .ref (74 + 271 * n)] (mN (uB (mN (uI (uB (mN (uB (mN (uB (mN M) (74 + 271 * n) 0)) (74 + 271 * n) 1)) (74 + 271 * n) 2) (74 + 271 * n) 3 0)) (74 + 271 * n) 4))
  refine V.putR (a := 74 + 271 * n) (c := 3) (j := 5) F hnm (by decide +kernel) rfl (by decide) ⟨(congrArg Prod.fst (SH_rt (o := 0) hn (by decide))), (by omega), (by have := k_20; omega)⟩ rfl ti526 rfl rfl ?_
  have k_23 : mK (uB (mN (uB (mN (uI (uB (mN (uB (mN (uB (mN M) (74 + 271 * n) 0)) (74 + 271 * n) 1)) (74 + 271 * n) 2) (74 + 271 * n) 3 0)) (74 + 271 * n) 4)) (74 + 271 * n) 5) = 74 + 271 * n + 5 := k_20
  have o_24 : ∀ b k : Nat, b < 74 + 271 * n → mB M b k = true → mB (uB (mN (uB (mN (uI (uB (mN (uB (mN (uB (mN M) (74 + 271 * n) 0)) (74 + 271 * n) 1)) (74 + 271 * n) 2) (74 + 271 * n) 3 0)) (74 + 271 * n) 4)) (74 + 271 * n) 5) b k = true := (fun b k h h' => uB_B (o_21 b k h h'))
  have o_25 : mB (uB (mN (uB (mN (uI (uB (mN (uB (mN (uB (mN M) (74 + 271 * n) 0)) (74 + 271 * n) 1)) (74 + 271 * n) 2) (74 + 271 * n) 3 0)) (74 + 271 * n) 4)) (74 + 271 * n) 5) (74 + 271 * n) 4 = true := (uB_B o_22)
  have o_26 : mB (uB (mN (uB (mN (uI (uB (mN (uB (mN (uB (mN M) (74 + 271 * n) 0)) (74 + 271 * n) 1)) (74 + 271 * n) 2) (74 + 271 * n) 3 0)) (74 + 271 * n) 4)) (74 + 271 * n) 5) (74 + 271 * n) 5 = true := mB_uB
  refine V.seg F floX3 cjoX3 [.aload_n 0, .bipush 32] (by decide +kernel) (pc2 := 55) (lv2 := [(0, .ref (74 + 271 * n))]) (st2 := [.int 32, .ref (74 + 271 * n)]) (M2 := uB (mN (uB (mN (uI (uB (mN (uB (mN (uB (mN M) (74 + 271 * n) 0)) (74 + 271 * n) 1)) (74 + 271 * n) 2) (74 + 271 * n) 3 0)) (74 + 271 * n) 4)) (74 + 271 * n) 5) rfl ⟨trivial, trivial, trivial⟩ ?_
  refine V.newarr (kd := 21) (n := 32) F (by decide +kernel) (by rw [k_23]; exact (SH_rt (o := 6) hn (by decide))) (Or.inr (Or.inl ⟨rfl, rfl⟩)) (by decide) rfl (by decide) (by rw [hRm]; show 5 + 1 ≤ 270; omega) (by rw [hRm]; show 360 + 32 ≤ 2240; omega) ti211 ?_
  rw [k_23]
  have k_27 : mK (mN (uB (mN (uB (mN (uI (uB (mN (uB (mN (uB (mN M) (74 + 271 * n) 0)) (74 + 271 * n) 1)) (74 + 271 * n) 2) (74 + 271 * n) 3 0)) (74 + 271 * n) 4)) (74 + 271 * n) 5)) = 74 + 271 * n + 6 := (mK_mN k_23)
  have o_28 : ∀ b k : Nat, b < 74 + 271 * n → mB M b k = true → mB (mN (uB (mN (uB (mN (uI (uB (mN (uB (mN (uB (mN M) (74 + 271 * n) 0)) (74 + 271 * n) 1)) (74 + 271 * n) 2) (74 + 271 * n) 3 0)) (74 + 271 * n) 4)) (74 + 271 * n) 5)) b k = true := (fun b k h h' => mN_B k_23 (by omega) (o_24 b k h h'))
  have o_29 : mB (mN (uB (mN (uB (mN (uI (uB (mN (uB (mN (uB (mN M) (74 + 271 * n) 0)) (74 + 271 * n) 1)) (74 + 271 * n) 2) (74 + 271 * n) 3 0)) (74 + 271 * n) 4)) (74 + 271 * n) 5)) (74 + 271 * n) 4 = true := (mN_B k_23 (by omega) o_25)
  have o_30 : mB (mN (uB (mN (uB (mN (uI (uB (mN (uB (mN (uB (mN M) (74 + 271 * n) 0)) (74 + 271 * n) 1)) (74 + 271 * n) 2) (74 + 271 * n) 3 0)) (74 + 271 * n) 4)) (74 + 271 * n) 5)) (74 + 271 * n) 5 = true := (mN_B k_23 (by omega) o_26)
  show V G X 2 6 392 (Qx G X 270 2240 (p_X3_init M n)) 57 [(0, .ref (74 + 271 * n))] [.ref (74 + 271 * n + 6), .ref (74 + 271 * n)] (mN (uB (mN (uB (mN (uI (uB (mN (uB (mN (uB (mN M) (74 + 271 * n) 0)) (74 + 271 * n) 1)) (74 + 271 * n) 2) (74 + 271 * n) 3 0)) (74 + 271 * n) 4)) (74 + 271 * n) 5))
  refine V.putR (a := 74 + 271 * n) (c := 3) (j := 6) F hnm (by decide +kernel) rfl (by decide) ⟨(congrArg Prod.fst (SH_rt (o := 0) hn (by decide))), (by omega), (by have := k_27; omega)⟩ rfl ti530 rfl rfl ?_
  have k_31 : mK (uB (mN (uB (mN (uB (mN (uI (uB (mN (uB (mN (uB (mN M) (74 + 271 * n) 0)) (74 + 271 * n) 1)) (74 + 271 * n) 2) (74 + 271 * n) 3 0)) (74 + 271 * n) 4)) (74 + 271 * n) 5)) (74 + 271 * n) 6) = 74 + 271 * n + 6 := k_27
  have o_32 : ∀ b k : Nat, b < 74 + 271 * n → mB M b k = true → mB (uB (mN (uB (mN (uB (mN (uI (uB (mN (uB (mN (uB (mN M) (74 + 271 * n) 0)) (74 + 271 * n) 1)) (74 + 271 * n) 2) (74 + 271 * n) 3 0)) (74 + 271 * n) 4)) (74 + 271 * n) 5)) (74 + 271 * n) 6) b k = true := (fun b k h h' => uB_B (o_28 b k h h'))
  have o_33 : mB (uB (mN (uB (mN (uB (mN (uI (uB (mN (uB (mN (uB (mN M) (74 + 271 * n) 0)) (74 + 271 * n) 1)) (74 + 271 * n) 2) (74 + 271 * n) 3 0)) (74 + 271 * n) 4)) (74 + 271 * n) 5)) (74 + 271 * n) 6) (74 + 271 * n) 4 = true := (uB_B o_29)
  have o_34 : mB (uB (mN (uB (mN (uB (mN (uI (uB (mN (uB (mN (uB (mN M) (74 + 271 * n) 0)) (74 + 271 * n) 1)) (74 + 271 * n) 2) (74 + 271 * n) 3 0)) (74 + 271 * n) 4)) (74 + 271 * n) 5)) (74 + 271 * n) 6) (74 + 271 * n) 5 = true := (uB_B o_30)
  refine V.seg F floX3 cjoX3 [.aload_n 0, .iconst 0, .putfield 38] (by decide +kernel) (pc2 := 65) (lv2 := [(0, .ref (74 + 271 * n))]) (st2 := []) (M2 := uI (uB (mN (uB (mN (uB (mN (uI (uB (mN (uB (mN (uB (mN M) (74 + 271 * n) 0)) (74 + 271 * n) 1)) (74 + 271 * n) 2) (74 + 271 * n) 3 0)) (74 + 271 * n) 4)) (74 + 271 * n) 5)) (74 + 271 * n) 6) (74 + 271 * n) 7 0) rfl ⟨trivial, trivial, ⟨⟨(congrArg Prod.fst (SH_rt (o := 0) hn (by decide))), (by omega), (by have := k_31; omega)⟩, Or.inl rfl⟩, trivial⟩ ?_
  have k_35 : mK (uI (uB (mN (uB (mN (uB (mN (uI (uB (mN (uB (mN (uB (mN M) (74 + 271 * n) 0)) (74 + 271 * n) 1)) (74 + 271 * n) 2) (74 + 271 * n) 3 0)) (74 + 271 * n) 4)) (74 + 271 * n) 5)) (74 + 271 * n) 6) (74 + 271 * n) 7 0) = 74 + 271 * n + 6 := k_31
  have o_36 : ∀ b k : Nat, b < 74 + 271 * n → mB M b k = true → mB (uI (uB (mN (uB (mN (uB (mN (uI (uB (mN (uB (mN (uB (mN M) (74 + 271 * n) 0)) (74 + 271 * n) 1)) (74 + 271 * n) 2) (74 + 271 * n) 3 0)) (74 + 271 * n) 4)) (74 + 271 * n) 5)) (74 + 271 * n) 6) (74 + 271 * n) 7 0) b k = true := o_32
  have o_37 : mB (uI (uB (mN (uB (mN (uB (mN (uI (uB (mN (uB (mN (uB (mN M) (74 + 271 * n) 0)) (74 + 271 * n) 1)) (74 + 271 * n) 2) (74 + 271 * n) 3 0)) (74 + 271 * n) 4)) (74 + 271 * n) 5)) (74 + 271 * n) 6) (74 + 271 * n) 7 0) (74 + 271 * n) 4 = true := o_33
  have o_38 : mB (uI (uB (mN (uB (mN (uB (mN (uI (uB (mN (uB (mN (uB (mN M) (74 + 271 * n) 0)) (74 + 271 * n) 1)) (74 + 271 * n) 2) (74 + 271 * n) 3 0)) (74 + 271 * n) 4)) (74 + 271 * n) 5)) (74 + 271 * n) 6) (74 + 271 * n) 7 0) (74 + 271 * n) 5 = true := o_34
  refine V.seg F floX3 cjoX3 [.aload_n 0, .iconst 0, .putfield 42] (by decide +kernel) (pc2 := 70) (lv2 := [(0, .ref (74 + 271 * n))]) (st2 := []) (M2 := uI (uI (uB (mN (uB (mN (uB (mN (uI (uB (mN (uB (mN (uB (mN M) (74 + 271 * n) 0)) (74 + 271 * n) 1)) (74 + 271 * n) 2) (74 + 271 * n) 3 0)) (74 + 271 * n) 4)) (74 + 271 * n) 5)) (74 + 271 * n) 6) (74 + 271 * n) 7 0) (74 + 271 * n) 8 0) rfl ⟨trivial, trivial, ⟨(congrArg Prod.fst (SH_rt (o := 0) hn (by decide))), (by omega), (by have := k_35; omega)⟩, trivial⟩ ?_
  have k_39 : mK (uI (uI (uB (mN (uB (mN (uB (mN (uI (uB (mN (uB (mN (uB (mN M) (74 + 271 * n) 0)) (74 + 271 * n) 1)) (74 + 271 * n) 2) (74 + 271 * n) 3 0)) (74 + 271 * n) 4)) (74 + 271 * n) 5)) (74 + 271 * n) 6) (74 + 271 * n) 7 0) (74 + 271 * n) 8 0) = 74 + 271 * n + 6 := k_35
  have o_40 : ∀ b k : Nat, b < 74 + 271 * n → mB M b k = true → mB (uI (uI (uB (mN (uB (mN (uB (mN (uI (uB (mN (uB (mN (uB (mN M) (74 + 271 * n) 0)) (74 + 271 * n) 1)) (74 + 271 * n) 2) (74 + 271 * n) 3 0)) (74 + 271 * n) 4)) (74 + 271 * n) 5)) (74 + 271 * n) 6) (74 + 271 * n) 7 0) (74 + 271 * n) 8 0) b k = true := o_36
  have o_41 : mB (uI (uI (uB (mN (uB (mN (uB (mN (uI (uB (mN (uB (mN (uB (mN M) (74 + 271 * n) 0)) (74 + 271 * n) 1)) (74 + 271 * n) 2) (74 + 271 * n) 3 0)) (74 + 271 * n) 4)) (74 + 271 * n) 5)) (74 + 271 * n) 6) (74 + 271 * n) 7 0) (74 + 271 * n) 8 0) (74 + 271 * n) 4 = true := o_37
  have o_42 : mB (uI (uI (uB (mN (uB (mN (uB (mN (uI (uB (mN (uB (mN (uB (mN M) (74 + 271 * n) 0)) (74 + 271 * n) 1)) (74 + 271 * n) 2) (74 + 271 * n) 3 0)) (74 + 271 * n) 4)) (74 + 271 * n) 5)) (74 + 271 * n) 6) (74 + 271 * n) 7 0) (74 + 271 * n) 8 0) (74 + 271 * n) 5 = true := o_38
  refine V.seg F floX3 cjoX3 [.iconst 0] (by decide +kernel) (pc2 := 71) (lv2 := [(0, .ref (74 + 271 * n))]) (st2 := [.int 0]) (M2 := uI (uI (uB (mN (uB (mN (uB (mN (uI (uB (mN (uB (mN (uB (mN M) (74 + 271 * n) 0)) (74 + 271 * n) 1)) (74 + 271 * n) 2) (74 + 271 * n) 3 0)) (74 + 271 * n) 4)) (74 + 271 * n) 5)) (74 + 271 * n) 6) (74 + 271 * n) 7 0) (74 + 271 * n) 8 0) rfl ⟨trivial, trivial⟩ ?_
  refine V.seg F floX3 cjoX3 [.istore_n 1] (by decide +kernel) (pc2 := 72) (lv2 := [(1, .int 0), (0, .ref (74 + 271 * n))]) (st2 := []) (M2 := uI (uI (uB (mN (uB (mN (uB (mN (uI (uB (mN (uB (mN (uB (mN M) (74 + 271 * n) 0)) (74 + 271 * n) 1)) (74 + 271 * n) 2) (74 + 271 * n) 3 0)) (74 + 271 * n) 4)) (74 + 271 * n) 5)) (74 + 271 * n) 6) (74 + 271 * n) 7 0) (74 + 271 * n) 8 0) rfl ⟨(by decide), trivial⟩ ?_
  have hJ72 : ∀ (n_ : Nat) (j72 : Nat) (M72 : Mem), (Tr M M72) → (j72 ≤ 8) → (8 - j72 < n_) → (mK M72 = 74 + 271 * n + 6 + j72) → (∀ b k : Nat, b < 74 + 271 * n → mB M b k = true → mB M72 b k = true) → (mB M72 (74 + 271 * n) 4 = true) → (mB M72 (74 + 271 * n) 5 = true) → f_X3_init M n = f_X3_init_72 n n_ j72 M72 → V G X 2 ((6 + j72)) ((392 + 7 * j72)) (Qx G X 270 2240 (p_X3_init M n)) 72 [(0, .ref (74 + 271 * n)), (1, .int (nI j72))] [] M72 := by
    intro n_
    induction n_ with
    | zero => intro j72 M72 s72 b72 m72 k72 q72_0 q72_1 q72_2 E; omega
    | succ n_ ih_72 =>
      intro j72 M72 s72 b72 m72 k72 q72_0 q72_1 q72_2 E
      rw [f_X3_init_72] at E
      refine V.seg F floX3 cjoX3 [.iload_n 1, .bipush 8] (by decide +kernel) (pc2 := 75) (lv2 := [(0, .ref (74 + 271 * n)), (1, .int (nI j72))]) (st2 := [.int 8, .int (nI j72)]) (M2 := M72) rfl ⟨trivial, trivial, trivial⟩ ?_
      refine V.ic_ge (off := 22) F (by decide +kernel) (tgt := 97) (by decide) (fun h75 => ?_) (fun h75 => ?_)
      · replace E := E.trans (if_pos h75)
        have e72_ : j72 = 8 := cnt_ge (n := 8) h75 rfl b72 (by decide)
        subst e72_
        have ka_72 : mK M72 = 74 + 271 * n + 14 := k72
        refine V.seg F floX3 cjoX3 [.iconst 0] (by decide +kernel) (pc2 := 98) (lv2 := [(0, .ref (74 + 271 * n)), (1, .int (nI 8))]) (st2 := [.int 0]) (M2 := M72) rfl ⟨trivial, trivial⟩ ?_
        refine V.seg F floX3 cjoX3 [.istore_n 1] (by decide +kernel) (pc2 := 99) (lv2 := [(1, .int 0), (0, .ref (74 + 271 * n))]) (st2 := []) (M2 := M72) rfl ⟨(by decide), trivial⟩ ?_
        have hJ99 : ∀ (n99_ : Nat) (j99 : Nat) (M99 : Mem), (Tr M M99) → (j99 ≤ 256) → (256 - j99 < n99_) → (mK M99 = 74 + 271 * n + 14 + j99) → (∀ b k : Nat, b < 74 + 271 * n → mB M b k = true → mB M99 b k = true) → (mB M99 (74 + 271 * n) 5 = true) → f_X3_init M n = f_X3_init_99 n n99_ j99 M99 → V G X 2 ((14 + j99)) ((448 + 7 * j99)) (Qx G X 270 2240 (p_X3_init M n)) 99 [(0, .ref (74 + 271 * n)), (1, .int (nI j99))] [] M99 := by
          intro n99_
          induction n99_ with
          | zero => intro j99 M99 s99 b99 m99 k99 q99_0 q99_1 E; omega
          | succ n99_ ih_99 =>
            intro j99 M99 s99 b99 m99 k99 q99_0 q99_1 E
            rw [f_X3_init_99] at E
            refine V.seg F floX3 cjoX3 [.iload_n 1, .sipush 256] (by decide +kernel) (pc2 := 103) (lv2 := [(0, .ref (74 + 271 * n)), (1, .int (nI j99))]) (st2 := [.int 256, .int (nI j99)]) (M2 := M99) rfl ⟨trivial, trivial, trivial⟩ ?_
            refine V.ic_ge (off := 22) F (by decide +kernel) (tgt := 125) (by decide) (fun h103 => ?_) (fun h103 => ?_)
            · replace E := E.trans (if_pos h103)
              have e99_ : j99 = 256 := cnt_ge (n := 256) h103 rfl b99 (by decide)
              subst e99_
              refine V.widen (mc := 270) (ms := 2240) (by omega) (by omega) ?_
              exact V.vret F (by decide +kernel) ⟨rfl, E.symm, k99, q99_0⟩
            · replace E := E.trans (if_neg h103)
              have z99_ := cnt_lt (n := 256) h103 rfl (by omega) (by decide)
              refine V.seg F floX3 cjoX3 [.aload_n 0, .getfield 31, .iload_n 1] (by decide +kernel) (pc2 := 111) (lv2 := [(0, .ref (74 + 271 * n)), (1, .int (nI j99))]) (st2 := [.int (nI j99), .ref (74 + 271 * n + 5)]) (M2 := M99) rfl ⟨trivial, ⟨⟨(congrArg Prod.fst (SH_rt (o := 0) hn (by decide))), (by omega), (by have := k99; omega)⟩, q99_1⟩, trivial, trivial⟩ ?_
              refine V.new (c := 1) F (by decide +kernel) rfl (by rw [k99]; exact (by rw [show 74 + 271 * n + 14 + j99 + 1 = 74 + 271 * n + (14 + j99 + 1) by omega]; exact rt_fac hn (by omega) (by omega))) ti508 ti118 ti71 (by rw [hRm]; show (14 + j99) + 1 ≤ 270; omega) (by rw [hRm]; show (448 + 7 * j99) + 7 ≤ 2240; omega) ?_
              rw [k99]
              have k_43 : mK (mN M99) = 74 + 271 * n + 14 + j99 + 1 := (mK_mN k99)
              have o_44 : ∀ b k : Nat, b < 74 + 271 * n → mB M b k = true → mB (mN M99) b k = true := (fun b k h h' => mN_B k99 (by omega) (q99_0 b k h h'))
              have o_45 : mB (mN M99) (74 + 271 * n) 5 = true := (mN_B k99 (by omega) q99_1)
              show V G X 2 ((14 + j99) + 1) ((448 + 7 * j99) + 7) (Qx G X 270 2240 (p_X3_init M n)) 114 [(0, .ref (74 + 271 * n)), (1, .int (nI j99))] [.ref (74 + 271 * n + 14 + j99 + 1), .int (nI j99), .ref (74 + 271 * n + 5)] (mN M99)
              refine V.seg F floX3 cjoX3 [.dup] (by decide +kernel) (pc2 := 115) (lv2 := [(0, .ref (74 + 271 * n)), (1, .int (nI j99))]) (st2 := [.ref (74 + 271 * n + 14 + j99 + 1), .ref (74 + 271 * n + 14 + j99 + 1), .int (nI j99), .ref (74 + 271 * n + 5)]) (M2 := mN M99) rfl ⟨trivial, trivial⟩ ?_
              refine V.callI (b := 74 + 271 * n + 14 + j99 + 1) (as := []) (rest := [.ref (74 + 271 * n + 14 + j99 + 1), .int (nI j99), .ref (74 + 271 * n + 5)]) F (by decide +kernel) lX3_45 bX1_init (c_X1_init G X.2.1 (mN M99) (74 + 271 * n + 14 + j99 + 1) ⟨(by rw [show 74 + 271 * n + 14 + j99 + 1 = 74 + 271 * n + (14 + j99 + 1) by omega]; exact rt_fac hn (by omega) (by omega)), (by omega), (by have := k_43; omega)⟩) (rm_ok hRm hd (by decide) (by decide)) ⟨by rw [hRm]; show (14 + j99) + 1 + 0 ≤ 270; omega, by rw [hRm]; show (448 + 7 * j99) + 7 + 0 ≤ 2240; omega⟩ (Nat.le_of_ble_eq_true rfl) (fun r_ N_ p_ => ?_)
              obtain ⟨rfl, rfl, t_⟩ := p_
              have k_46 : mK (f_X1_init (mN M99) (74 + 271 * n + 14 + j99 + 1)) = 74 + 271 * n + 14 + j99 + 1 := (t_.1.1.trans k_43)
              have o_47 : ∀ b k : Nat, b < 74 + 271 * n → mB M b k = true → mB (f_X1_init (mN M99) (74 + 271 * n + 14 + j99 + 1)) b k = true := (fun b k h h' => sm_B t_.1 (o_44 b k h h'))
              have o_48 : mB (f_X1_init (mN M99) (74 + 271 * n + 14 + j99 + 1)) (74 + 271 * n) 5 = true := (sm_B t_.1 o_45)
              clear t_
              show V G X 2 ((14 + j99) + 1) ((448 + 7 * j99) + 7) (Qx G X 270 2240 (p_X3_init M n)) 118 [(0, .ref (74 + 271 * n)), (1, .int (nI j99))] [.ref (74 + 271 * n + 14 + j99 + 1), .int (nI j99), .ref (74 + 271 * n + 5)] (f_X1_init (mN M99) (74 + 271 * n + 14 + j99 + 1))
              refine v_aast (a := 74 + 271 * n + 5) (kd := 26) (c := 1) (i := nI j99) F (by decide +kernel) ⟨(congrArg Prod.fst (SH_rt (o := 5) hn (by decide))), (by omega), (by have := k_46; omega), (by rw [(SH_rt (o := 5) hn (by decide))]; exact (vnj (cnt_lt (n := 256) h103 rfl (by omega) (by decide)) (by decide) (by decide)))⟩ ⟨by decide, by decide⟩ rfl rfl (by show 74 + 271 * n + 5 + 10 + ix (nI j99) = _; rw [ix_n (by omega)]; omega) ⟨(by rw [show 74 + 271 * n + 14 + j99 + 1 = 74 + 271 * n + (14 + j99 + 1) by omega]; exact rt_fac hn (by omega) (by omega)), (by omega), (by have := k_46; omega)⟩ ?_
              have k_49 : mK (uB (f_X1_init (mN M99) (74 + 271 * n + 14 + j99 + 1)) (74 + 271 * n + 5) (ix (nI j99))) = 74 + 271 * n + 14 + j99 + 1 := k_46
              have o_50 : ∀ b k : Nat, b < 74 + 271 * n → mB M b k = true → mB (uB (f_X1_init (mN M99) (74 + 271 * n + 14 + j99 + 1)) (74 + 271 * n + 5) (ix (nI j99))) b k = true := (fun b k h h' => uB_B (o_47 b k h h'))
              have o_51 : mB (uB (f_X1_init (mN M99) (74 + 271 * n + 14 + j99 + 1)) (74 + 271 * n + 5) (ix (nI j99))) (74 + 271 * n) 5 = true := (uB_B o_48)
              show V G X 2 ((14 + j99) + 1) ((448 + 7 * j99) + 7) (Qx G X 270 2240 (p_X3_init M n)) 119 [(0, .ref (74 + 271 * n)), (1, .int (nI j99))] [] (uB (f_X1_init (mN M99) (74 + 271 * n + 14 + j99 + 1)) (74 + 271 * n + 5) (ix (nI j99)))
              refine V.seg F floX3 cjoX3 [.iinc 1 1, .goto (-23)] (by decide +kernel) (pc2 := 99) (lv2 := [(1, .int ((nI j99) + 1)), (0, .ref (74 + 271 * n))]) (st2 := []) (M2 := uB (f_X1_init (mN M99) (74 + 271 * n + 14 + j99 + 1)) (74 + 271 * n + 5) (ix (nI j99))) rfl ⟨(by decide), (by decide), trivial⟩ ?_
              refine V.pick [1, 0] rfl ?_
              rw [nI_1]
              refine V.widen (mc := (14 + (j99 + 1))) (ms := (448 + 7 * (j99 + 1))) (by omega) (by omega) ?_
              exact ih_99 (j99 + 1) (uB (f_X1_init (mN M99) (74 + 271 * n + 14 + j99 + 1)) (74 + 271 * n + 5) (ix (nI j99))) trivial (by have hlt_ := cnt_lt (n := 256) h103 rfl (by omega) (by decide); omega) (by have hlt_ := cnt_lt (n := 256) h103 rfl (by omega) (by decide); omega) (by exact k_49) (by exact o_50) (by exact o_51) E
        refine V.pick [1, 0] rfl ?_
        refine V.widen (mc := (14 + 0)) (ms := (448 + 7 * 0)) (by omega) (by omega) ?_
        exact hJ99 _ 0 M72 trivial (by omega) (by omega) (by exact ka_72) (by exact q72_0) (by exact q72_2) E
      · replace E := E.trans (if_neg h75)
        have z72_ := cnt_lt (n := 8) h75 rfl (by omega) (by decide)
        refine V.seg F floX3 cjoX3 [.aload_n 0, .getfield 27, .iload_n 1] (by decide +kernel) (pc2 := 83) (lv2 := [(0, .ref (74 + 271 * n)), (1, .int (nI j72))]) (st2 := [.int (nI j72), .ref (74 + 271 * n + 4)]) (M2 := M72) rfl ⟨trivial, ⟨⟨(congrArg Prod.fst (SH_rt (o := 0) hn (by decide))), (by omega), (by have := k72; omega)⟩, q72_1⟩, trivial, trivial⟩ ?_
        refine V.new (c := 1) F (by decide +kernel) rfl (by rw [k72]; exact (by rw [show 74 + 271 * n + 6 + j72 + 1 = 74 + 271 * n + (6 + j72 + 1) by omega]; exact rt_fac hn (by omega) (by omega))) ti508 ti118 ti71 (by rw [hRm]; show (6 + j72) + 1 ≤ 270; omega) (by rw [hRm]; show (392 + 7 * j72) + 7 ≤ 2240; omega) ?_
        rw [k72]
        have k_52 : mK (mN M72) = 74 + 271 * n + 6 + j72 + 1 := (mK_mN k72)
        have o_53 : ∀ b k : Nat, b < 74 + 271 * n → mB M b k = true → mB (mN M72) b k = true := (fun b k h h' => mN_B k72 (by omega) (q72_0 b k h h'))
        have o_54 : mB (mN M72) (74 + 271 * n) 4 = true := (mN_B k72 (by omega) q72_1)
        have o_55 : mB (mN M72) (74 + 271 * n) 5 = true := (mN_B k72 (by omega) q72_2)
        show V G X 2 ((6 + j72) + 1) ((392 + 7 * j72) + 7) (Qx G X 270 2240 (p_X3_init M n)) 86 [(0, .ref (74 + 271 * n)), (1, .int (nI j72))] [.ref (74 + 271 * n + 6 + j72 + 1), .int (nI j72), .ref (74 + 271 * n + 4)] (mN M72)
        refine V.seg F floX3 cjoX3 [.dup] (by decide +kernel) (pc2 := 87) (lv2 := [(0, .ref (74 + 271 * n)), (1, .int (nI j72))]) (st2 := [.ref (74 + 271 * n + 6 + j72 + 1), .ref (74 + 271 * n + 6 + j72 + 1), .int (nI j72), .ref (74 + 271 * n + 4)]) (M2 := mN M72) rfl ⟨trivial, trivial⟩ ?_
        refine V.callI (b := 74 + 271 * n + 6 + j72 + 1) (as := []) (rest := [.ref (74 + 271 * n + 6 + j72 + 1), .int (nI j72), .ref (74 + 271 * n + 4)]) F (by decide +kernel) lX3_45 bX1_init (c_X1_init G X.2.1 (mN M72) (74 + 271 * n + 6 + j72 + 1) ⟨(by rw [show 74 + 271 * n + 6 + j72 + 1 = 74 + 271 * n + (6 + j72 + 1) by omega]; exact rt_fac hn (by omega) (by omega)), (by omega), (by have := k_52; omega)⟩) (rm_ok hRm hd (by decide) (by decide)) ⟨by rw [hRm]; show (6 + j72) + 1 + 0 ≤ 270; omega, by rw [hRm]; show (392 + 7 * j72) + 7 + 0 ≤ 2240; omega⟩ (Nat.le_of_ble_eq_true rfl) (fun r_ N_ p_ => ?_)
        obtain ⟨rfl, rfl, t_⟩ := p_
        have k_56 : mK (f_X1_init (mN M72) (74 + 271 * n + 6 + j72 + 1)) = 74 + 271 * n + 6 + j72 + 1 := (t_.1.1.trans k_52)
        have o_57 : ∀ b k : Nat, b < 74 + 271 * n → mB M b k = true → mB (f_X1_init (mN M72) (74 + 271 * n + 6 + j72 + 1)) b k = true := (fun b k h h' => sm_B t_.1 (o_53 b k h h'))
        have o_58 : mB (f_X1_init (mN M72) (74 + 271 * n + 6 + j72 + 1)) (74 + 271 * n) 4 = true := (sm_B t_.1 o_54)
        have o_59 : mB (f_X1_init (mN M72) (74 + 271 * n + 6 + j72 + 1)) (74 + 271 * n) 5 = true := (sm_B t_.1 o_55)
        clear t_
        show V G X 2 ((6 + j72) + 1) ((392 + 7 * j72) + 7) (Qx G X 270 2240 (p_X3_init M n)) 90 [(0, .ref (74 + 271 * n)), (1, .int (nI j72))] [.ref (74 + 271 * n + 6 + j72 + 1), .int (nI j72), .ref (74 + 271 * n + 4)] (f_X1_init (mN M72) (74 + 271 * n + 6 + j72 + 1))
        refine v_aast (a := 74 + 271 * n + 4) (kd := 25) (c := 1) (i := nI j72) F (by decide +kernel) ⟨(congrArg Prod.fst (SH_rt (o := 4) hn (by decide))), (by omega), (by have := k_56; omega), (by rw [(SH_rt (o := 4) hn (by decide))]; exact (vnj (cnt_lt (n := 8) h75 rfl (by omega) (by decide)) (by decide) (by decide)))⟩ ⟨by decide, by decide⟩ rfl rfl (by show 74 + 271 * n + 4 + 3 + ix (nI j72) = _; rw [ix_n (by omega)]; omega) ⟨(by rw [show 74 + 271 * n + 6 + j72 + 1 = 74 + 271 * n + (6 + j72 + 1) by omega]; exact rt_fac hn (by omega) (by omega)), (by omega), (by have := k_56; omega)⟩ ?_
        have k_60 : mK (uB (f_X1_init (mN M72) (74 + 271 * n + 6 + j72 + 1)) (74 + 271 * n + 4) (ix (nI j72))) = 74 + 271 * n + 6 + j72 + 1 := k_56
        have o_61 : ∀ b k : Nat, b < 74 + 271 * n → mB M b k = true → mB (uB (f_X1_init (mN M72) (74 + 271 * n + 6 + j72 + 1)) (74 + 271 * n + 4) (ix (nI j72))) b k = true := (fun b k h h' => uB_B (o_57 b k h h'))
        have o_62 : mB (uB (f_X1_init (mN M72) (74 + 271 * n + 6 + j72 + 1)) (74 + 271 * n + 4) (ix (nI j72))) (74 + 271 * n) 4 = true := (uB_B o_58)
        have o_63 : mB (uB (f_X1_init (mN M72) (74 + 271 * n + 6 + j72 + 1)) (74 + 271 * n + 4) (ix (nI j72))) (74 + 271 * n) 5 = true := (uB_B o_59)
        show V G X 2 ((6 + j72) + 1) ((392 + 7 * j72) + 7) (Qx G X 270 2240 (p_X3_init M n)) 91 [(0, .ref (74 + 271 * n)), (1, .int (nI j72))] [] (uB (f_X1_init (mN M72) (74 + 271 * n + 6 + j72 + 1)) (74 + 271 * n + 4) (ix (nI j72)))
        refine V.seg F floX3 cjoX3 [.iinc 1 1, .goto (-22)] (by decide +kernel) (pc2 := 72) (lv2 := [(1, .int ((nI j72) + 1)), (0, .ref (74 + 271 * n))]) (st2 := []) (M2 := uB (f_X1_init (mN M72) (74 + 271 * n + 6 + j72 + 1)) (74 + 271 * n + 4) (ix (nI j72))) rfl ⟨(by decide), (by decide), trivial⟩ ?_
        refine V.pick [1, 0] rfl ?_
        rw [nI_1]
        refine V.widen (mc := (6 + (j72 + 1))) (ms := (392 + 7 * (j72 + 1))) (by omega) (by omega) ?_
        exact ih_72 (j72 + 1) (uB (f_X1_init (mN M72) (74 + 271 * n + 6 + j72 + 1)) (74 + 271 * n + 4) (ix (nI j72))) trivial (by have hlt_ := cnt_lt (n := 8) h75 rfl (by omega) (by decide); omega) (by have hlt_ := cnt_lt (n := 8) h75 rfl (by omega) (by decide); omega) (by exact k_60) (by exact o_61) (by exact o_62) (by exact o_63) E
  refine V.pick [1, 0] rfl ?_
  refine V.widen (mc := (6 + 0)) (ms := (392 + 7 * 0)) (by omega) (by omega) ?_
  exact hJ72 _ 0 (uI (uI (uB (mN (uB (mN (uB (mN (uI (uB (mN (uB (mN (uB (mN M) (74 + 271 * n) 0)) (74 + 271 * n) 1)) (74 + 271 * n) 2) (74 + 271 * n) 3 0)) (74 + 271 * n) 4)) (74 + 271 * n) 5)) (74 + 271 * n) 6) (74 + 271 * n) 7 0) (74 + 271 * n) 8 0) trivial (by omega) (by omega) (by exact k_39) (by exact o_40) (by exact o_41) (by exact o_42) E
def f_X6_init_103  : Nat → Nat → Mem → Mem
  | 0, _, M103 => M103
  | n_ + 1, j103, M103 => if 16 ≤ (nI j103) then M103 else (f_X6_init_103 n_) (j103 + 1) (uB (f_X1_init (mN M103) (35 + j103 + 1)) 2 (ix (nI j103)))
def f_X6_init (M : Mem) : Mem := f_X6_init_103  17 0 (uB (f_X1_init (mN (uB (f_X1_init (mN (uB (mN (uB (f_X4_init (mN (uB (f_X2_init (mN (uB (f_X0_init (mN (uB (f_X5_init (mN (uI (uB (mN (uB (mN M) 1 0)) 1 1) 1 2 0))) 1 3)) 11) 1 4))) 1 5))) 1 6)) 1 7)) 34) 1 8)) 35) 1 9)
abbrev p_X6_init (M : Mem) : Option Value → Mem → Prop := fun r N => r = none ∧ N = f_X6_init M ∧ mK N = 51 ∧ ∀ b k : Nat, b < 1 → mB M b k = true → mB N b k = true
set_option maxRecDepth 100000 in
set_option maxHeartbeats 4000000 in
theorem c_X6_init (G : Ctx) (l : Launch) (M : Mem) (hk0 : mK M = 1)  : CT G l 4 mX6_init [.ref 1] M 50 895 (p_X6_init M) := by
  refine CT.of (by decide) (Nat.le_of_ble_eq_true rfl) ?_
  intro X d hd hl hRm hnm F
  subst hl
  have E : f_X6_init M = f_X6_init M := rfl
  show V G X 2 0 0 (Qx G X 50 895 (p_X6_init M)) 0 [(0, .ref 1)] [] M
  refine V.seg F floX6 cjoX6 [.aload_n 0] (by decide +kernel) (pc2 := 1) (lv2 := [(0, .ref 1)]) (st2 := [.ref 1]) (M2 := M) rfl ⟨trivial, trivial⟩ ?_
  refine V.objInit F (by decide +kernel) ti83 (rm_ok hRm hd (by decide) (by decide)) (Nat.le_of_ble_eq_true rfl) ?_
  refine V.seg F floX6 cjoX6 [.aload_n 0, .bipush 16] (by decide +kernel) (pc2 := 7) (lv2 := [(0, .ref 1)]) (st2 := [.int 16, .ref 1]) (M2 := M) rfl ⟨trivial, trivial, trivial⟩ ?_
  refine V.anew (kd := 23) (n := 16) F (by decide +kernel) (by rw [hk0]; exact rfl) (Or.inl ⟨by decide, by decide, rfl⟩) (by decide) rfl (by decide) (by rw [hRm]; show 0 + 1 ≤ 50; omega) (by rw [hRm]; show 0 + 16 ≤ 895; omega) ti86 ?_
  rw [hk0]
  have k_1 : mK (mN M) = 2 := (mK_mN hk0)
  have o_2 : ∀ b k : Nat, b < 1 → mB M b k = true → mB (mN M) b k = true := (fun b k h h' => mN_B hk0 (by omega) ((fun _ _ _ h => h) b k h h'))
  show V G X 2 1 16 (Qx G X 50 895 (p_X6_init M)) 10 [(0, .ref 1)] [.ref 2, .ref 1] (mN M)
  refine V.putR (a := 1) (c := 6) (j := 0) F hnm (by decide +kernel) rfl (by decide) ⟨rfl, (by omega), (by have := k_1; omega)⟩ rfl ti236 rfl rfl ?_
  have k_3 : mK (uB (mN M) 1 0) = 2 := k_1
  have o_4 : ∀ b k : Nat, b < 1 → mB M b k = true → mB (uB (mN M) 1 0) b k = true := (fun b k h h' => uB_B (o_2 b k h h'))
  have o_5 : mB (uB (mN M) 1 0) 1 0 = true := mB_uB
  refine V.seg F floX6 cjoX6 [.aload_n 0, .bipush 6] (by decide +kernel) (pc2 := 16) (lv2 := [(0, .ref 1)]) (st2 := [.int 6, .ref 1]) (M2 := uB (mN M) 1 0) rfl ⟨trivial, trivial, trivial⟩ ?_
  refine V.anew (kd := 27) (n := 6) F (by decide +kernel) (by rw [k_3]; exact rfl) (Or.inr ⟨rfl, rfl⟩) (by decide) rfl (by decide) (by rw [hRm]; show 1 + 1 ≤ 50; omega) (by rw [hRm]; show 16 + 6 ≤ 895; omega) ti88 ?_
  rw [k_3]
  have k_6 : mK (mN (uB (mN M) 1 0)) = 3 := (mK_mN k_3)
  have o_7 : ∀ b k : Nat, b < 1 → mB M b k = true → mB (mN (uB (mN M) 1 0)) b k = true := (fun b k h h' => mN_B k_3 (by omega) (o_4 b k h h'))
  have o_8 : mB (mN (uB (mN M) 1 0)) 1 0 = true := (mN_B k_3 (by omega) o_5)
  show V G X 2 2 22 (Qx G X 50 895 (p_X6_init M)) 19 [(0, .ref 1)] [.ref 3, .ref 1] (mN (uB (mN M) 1 0))
  refine V.putR (a := 1) (c := 6) (j := 1) F hnm (by decide +kernel) rfl (by decide) ⟨rfl, (by omega), (by have := k_6; omega)⟩ rfl ti237 rfl rfl ?_
  have k_9 : mK (uB (mN (uB (mN M) 1 0)) 1 1) = 3 := k_6
  have o_10 : ∀ b k : Nat, b < 1 → mB M b k = true → mB (uB (mN (uB (mN M) 1 0)) 1 1) b k = true := (fun b k h h' => uB_B (o_7 b k h h'))
  have o_11 : mB (uB (mN (uB (mN M) 1 0)) 1 1) 1 0 = true := (uB_B o_8)
  refine V.seg F floX6 cjoX6 [.aload_n 0, .iconst 0, .putfield 21] (by decide +kernel) (pc2 := 27) (lv2 := [(0, .ref 1)]) (st2 := []) (M2 := uI (uB (mN (uB (mN M) 1 0)) 1 1) 1 2 0) rfl ⟨trivial, trivial, ⟨rfl, (by omega), (by have := k_9; omega)⟩, trivial⟩ ?_
  have k_12 : mK (uI (uB (mN (uB (mN M) 1 0)) 1 1) 1 2 0) = 3 := k_9
  have o_13 : ∀ b k : Nat, b < 1 → mB M b k = true → mB (uI (uB (mN (uB (mN M) 1 0)) 1 1) 1 2 0) b k = true := o_10
  have o_14 : mB (uI (uB (mN (uB (mN M) 1 0)) 1 1) 1 2 0) 1 0 = true := o_11
  refine V.seg F floX6 cjoX6 [.aload_n 0] (by decide +kernel) (pc2 := 28) (lv2 := [(0, .ref 1)]) (st2 := [.ref 1]) (M2 := uI (uB (mN (uB (mN M) 1 0)) 1 1) 1 2 0) rfl ⟨trivial, trivial⟩ ?_
  refine V.new (c := 5) F (by decide +kernel) rfl (by rw [k_12]; exact rfl) ti90 ti91 ti69 (by rw [hRm]; show 2 + 1 ≤ 50; omega) (by rw [hRm]; show 22 + 2 ≤ 895; omega) ?_
  rw [k_12]
  have k_15 : mK (mN (uI (uB (mN (uB (mN M) 1 0)) 1 1) 1 2 0)) = 4 := (mK_mN k_12)
  have o_16 : ∀ b k : Nat, b < 1 → mB M b k = true → mB (mN (uI (uB (mN (uB (mN M) 1 0)) 1 1) 1 2 0)) b k = true := (fun b k h h' => mN_B k_12 (by omega) (o_13 b k h h'))
  have o_17 : mB (mN (uI (uB (mN (uB (mN M) 1 0)) 1 1) 1 2 0)) 1 0 = true := (mN_B k_12 (by omega) o_14)
  show V G X 2 3 24 (Qx G X 50 895 (p_X6_init M)) 31 [(0, .ref 1)] [.ref 4, .ref 1] (mN (uI (uB (mN (uB (mN M) 1 0)) 1 1) 1 2 0))
  refine V.seg F floX6 cjoX6 [.dup] (by decide +kernel) (pc2 := 32) (lv2 := [(0, .ref 1)]) (st2 := [.ref 4, .ref 4, .ref 1]) (M2 := mN (uI (uB (mN (uB (mN M) 1 0)) 1 1) 1 2 0)) rfl ⟨trivial, trivial⟩ ?_
  refine V.callIN (b := 4) (as := []) (rest := [.ref 4, .ref 1]) F (by decide +kernel) lX6_27 bX5_init (c_X5_init G X.2.1 (mN (uI (uB (mN (uB (mN M) 1 0)) 1 1) 1 2 0))  k_15) (rm_ok hRm hd (by decide) (by decide)) ⟨by rw [hRm]; show 3 + 6 ≤ 50; omega, by rw [hRm]; show 24 + 72 ≤ 895; omega⟩ (Nat.le_of_ble_eq_true rfl) (fun r_ N_ p_ => ?_)
  obtain ⟨rfl, rfl, kn_, kb_⟩ := p_
  have k_18 : mK (f_X5_init (mN (uI (uB (mN (uB (mN M) 1 0)) 1 1) 1 2 0))) = 10 := kn_
  have o_19 : ∀ b k : Nat, b < 1 → mB M b k = true → mB (f_X5_init (mN (uI (uB (mN (uB (mN M) 1 0)) 1 1) 1 2 0))) b k = true := (fun b k h h' => kb_ _ _ (by omega) (o_16 b k h h'))
  have o_20 : mB (f_X5_init (mN (uI (uB (mN (uB (mN M) 1 0)) 1 1) 1 2 0))) 1 0 = true := (kb_ _ _ (by omega) o_17)
  clear kn_ kb_
  show V G X 2 9 96 (Qx G X 50 895 (p_X6_init M)) 35 [(0, .ref 1)] [.ref 4, .ref 1] (f_X5_init (mN (uI (uB (mN (uB (mN M) 1 0)) 1 1) 1 2 0)))
  refine V.putR (a := 1) (c := 6) (j := 3) F hnm (by decide +kernel) rfl (by decide) ⟨rfl, (by omega), (by have := k_18; omega)⟩ rfl ti239 rfl rfl ?_
  have k_21 : mK (uB (f_X5_init (mN (uI (uB (mN (uB (mN M) 1 0)) 1 1) 1 2 0))) 1 3) = 10 := k_18
  have o_22 : ∀ b k : Nat, b < 1 → mB M b k = true → mB (uB (f_X5_init (mN (uI (uB (mN (uB (mN M) 1 0)) 1 1) 1 2 0))) 1 3) b k = true := (fun b k h h' => uB_B (o_19 b k h h'))
  have o_23 : mB (uB (f_X5_init (mN (uI (uB (mN (uB (mN M) 1 0)) 1 1) 1 2 0))) 1 3) 1 0 = true := (uB_B o_20)
  refine V.seg F floX6 cjoX6 [.aload_n 0] (by decide +kernel) (pc2 := 39) (lv2 := [(0, .ref 1)]) (st2 := [.ref 1]) (M2 := uB (f_X5_init (mN (uI (uB (mN (uB (mN M) 1 0)) 1 1) 1 2 0))) 1 3) rfl ⟨trivial, trivial⟩ ?_
  refine V.new (c := 0) F (by decide +kernel) rfl (by rw [k_21]; exact rfl) ti111 ti112 ti70 (by rw [hRm]; show 9 + 1 ≤ 50; omega) (by rw [hRm]; show 96 + 2 ≤ 895; omega) ?_
  rw [k_21]
  have k_24 : mK (mN (uB (f_X5_init (mN (uI (uB (mN (uB (mN M) 1 0)) 1 1) 1 2 0))) 1 3)) = 11 := (mK_mN k_21)
  have o_25 : ∀ b k : Nat, b < 1 → mB M b k = true → mB (mN (uB (f_X5_init (mN (uI (uB (mN (uB (mN M) 1 0)) 1 1) 1 2 0))) 1 3)) b k = true := (fun b k h h' => mN_B k_21 (by omega) (o_22 b k h h'))
  have o_26 : mB (mN (uB (f_X5_init (mN (uI (uB (mN (uB (mN M) 1 0)) 1 1) 1 2 0))) 1 3)) 1 0 = true := (mN_B k_21 (by omega) o_23)
  show V G X 2 10 98 (Qx G X 50 895 (p_X6_init M)) 42 [(0, .ref 1)] [.ref 11, .ref 1] (mN (uB (f_X5_init (mN (uI (uB (mN (uB (mN M) 1 0)) 1 1) 1 2 0))) 1 3))
  refine V.seg F floX6 cjoX6 [.dup] (by decide +kernel) (pc2 := 43) (lv2 := [(0, .ref 1)]) (st2 := [.ref 11, .ref 11, .ref 1]) (M2 := mN (uB (f_X5_init (mN (uI (uB (mN (uB (mN M) 1 0)) 1 1) 1 2 0))) 1 3)) rfl ⟨trivial, trivial⟩ ?_
  refine V.callI (b := 11) (as := []) (rest := [.ref 11, .ref 1]) F (by decide +kernel) lX6_34 bX0_init (c_X0_init G X.2.1 (mN (uB (f_X5_init (mN (uI (uB (mN (uB (mN M) 1 0)) 1 1) 1 2 0))) 1 3)) 11 k_24 (Or.inl rfl)) (rm_ok hRm hd (by decide) (by decide)) ⟨by rw [hRm]; show 10 + 2 ≤ 50; omega, by rw [hRm]; show 98 + 14 ≤ 895; omega⟩ (Nat.le_of_ble_eq_true rfl) (fun r_ N_ p_ => ?_)
  obtain ⟨rfl, rfl, kn_, kb_⟩ := p_
  have k_27 : mK (f_X0_init (mN (uB (f_X5_init (mN (uI (uB (mN (uB (mN M) 1 0)) 1 1) 1 2 0))) 1 3)) 11) = 13 := kn_
  have o_28 : ∀ b k : Nat, b < 1 → mB M b k = true → mB (f_X0_init (mN (uB (f_X5_init (mN (uI (uB (mN (uB (mN M) 1 0)) 1 1) 1 2 0))) 1 3)) 11) b k = true := (fun b k h h' => kb_ _ _ (by omega) (o_25 b k h h'))
  have o_29 : mB (f_X0_init (mN (uB (f_X5_init (mN (uI (uB (mN (uB (mN M) 1 0)) 1 1) 1 2 0))) 1 3)) 11) 1 0 = true := (kb_ _ _ (by omega) o_26)
  clear kn_ kb_
  show V G X 2 12 112 (Qx G X 50 895 (p_X6_init M)) 46 [(0, .ref 1)] [.ref 11, .ref 1] (f_X0_init (mN (uB (f_X5_init (mN (uI (uB (mN (uB (mN M) 1 0)) 1 1) 1 2 0))) 1 3)) 11)
  refine V.putR (a := 1) (c := 6) (j := 4) F hnm (by decide +kernel) rfl (by decide) ⟨rfl, (by omega), (by have := k_27; omega)⟩ rfl ti240 rfl rfl ?_
  have k_30 : mK (uB (f_X0_init (mN (uB (f_X5_init (mN (uI (uB (mN (uB (mN M) 1 0)) 1 1) 1 2 0))) 1 3)) 11) 1 4) = 13 := k_27
  have o_31 : ∀ b k : Nat, b < 1 → mB M b k = true → mB (uB (f_X0_init (mN (uB (f_X5_init (mN (uI (uB (mN (uB (mN M) 1 0)) 1 1) 1 2 0))) 1 3)) 11) 1 4) b k = true := (fun b k h h' => uB_B (o_28 b k h h'))
  have o_32 : mB (uB (f_X0_init (mN (uB (f_X5_init (mN (uI (uB (mN (uB (mN M) 1 0)) 1 1) 1 2 0))) 1 3)) 11) 1 4) 1 0 = true := (uB_B o_29)
  refine V.seg F floX6 cjoX6 [.aload_n 0] (by decide +kernel) (pc2 := 50) (lv2 := [(0, .ref 1)]) (st2 := [.ref 1]) (M2 := uB (f_X0_init (mN (uB (f_X5_init (mN (uI (uB (mN (uB (mN M) 1 0)) 1 1) 1 2 0))) 1 3)) 11) 1 4) rfl ⟨trivial, trivial⟩ ?_
  refine V.new (c := 2) F (by decide +kernel) rfl (by rw [k_30]; exact rfl) ti182 ti183 ti72 (by rw [hRm]; show 12 + 1 ≤ 50; omega) (by rw [hRm]; show 112 + 6 ≤ 895; omega) ?_
  rw [k_30]
  have k_33 : mK (mN (uB (f_X0_init (mN (uB (f_X5_init (mN (uI (uB (mN (uB (mN M) 1 0)) 1 1) 1 2 0))) 1 3)) 11) 1 4)) = 14 := (mK_mN k_30)
  have o_34 : ∀ b k : Nat, b < 1 → mB M b k = true → mB (mN (uB (f_X0_init (mN (uB (f_X5_init (mN (uI (uB (mN (uB (mN M) 1 0)) 1 1) 1 2 0))) 1 3)) 11) 1 4)) b k = true := (fun b k h h' => mN_B k_30 (by omega) (o_31 b k h h'))
  have o_35 : mB (mN (uB (f_X0_init (mN (uB (f_X5_init (mN (uI (uB (mN (uB (mN M) 1 0)) 1 1) 1 2 0))) 1 3)) 11) 1 4)) 1 0 = true := (mN_B k_30 (by omega) o_32)
  show V G X 2 13 118 (Qx G X 50 895 (p_X6_init M)) 53 [(0, .ref 1)] [.ref 14, .ref 1] (mN (uB (f_X0_init (mN (uB (f_X5_init (mN (uI (uB (mN (uB (mN M) 1 0)) 1 1) 1 2 0))) 1 3)) 11) 1 4))
  refine V.seg F floX6 cjoX6 [.dup] (by decide +kernel) (pc2 := 54) (lv2 := [(0, .ref 1)]) (st2 := [.ref 14, .ref 14, .ref 1]) (M2 := mN (uB (f_X0_init (mN (uB (f_X5_init (mN (uI (uB (mN (uB (mN M) 1 0)) 1 1) 1 2 0))) 1 3)) 11) 1 4)) rfl ⟨trivial, trivial⟩ ?_
  refine V.callI (b := 14) (as := []) (rest := [.ref 14, .ref 1]) F (by decide +kernel) lX6_41 bX2_init (c_X2_init G X.2.1 (mN (uB (f_X0_init (mN (uB (f_X5_init (mN (uI (uB (mN (uB (mN M) 1 0)) 1 1) 1 2 0))) 1 3)) 11) 1 4))  k_33) (rm_ok hRm hd (by decide) (by decide)) ⟨by rw [hRm]; show 13 + 16 ≤ 50; omega, by rw [hRm]; show 118 + 631 ≤ 895; omega⟩ (Nat.le_of_ble_eq_true rfl) (fun r_ N_ p_ => ?_)
  obtain ⟨rfl, rfl, kn_, kb_⟩ := p_
  have k_36 : mK (f_X2_init (mN (uB (f_X0_init (mN (uB (f_X5_init (mN (uI (uB (mN (uB (mN M) 1 0)) 1 1) 1 2 0))) 1 3)) 11) 1 4))) = 30 := kn_
  have o_37 : ∀ b k : Nat, b < 1 → mB M b k = true → mB (f_X2_init (mN (uB (f_X0_init (mN (uB (f_X5_init (mN (uI (uB (mN (uB (mN M) 1 0)) 1 1) 1 2 0))) 1 3)) 11) 1 4))) b k = true := (fun b k h h' => kb_ _ _ (by omega) (o_34 b k h h'))
  have o_38 : mB (f_X2_init (mN (uB (f_X0_init (mN (uB (f_X5_init (mN (uI (uB (mN (uB (mN M) 1 0)) 1 1) 1 2 0))) 1 3)) 11) 1 4))) 1 0 = true := (kb_ _ _ (by omega) o_35)
  clear kn_ kb_
  show V G X 2 29 749 (Qx G X 50 895 (p_X6_init M)) 57 [(0, .ref 1)] [.ref 14, .ref 1] (f_X2_init (mN (uB (f_X0_init (mN (uB (f_X5_init (mN (uI (uB (mN (uB (mN M) 1 0)) 1 1) 1 2 0))) 1 3)) 11) 1 4)))
  refine V.putR (a := 1) (c := 6) (j := 5) F hnm (by decide +kernel) rfl (by decide) ⟨rfl, (by omega), (by have := k_36; omega)⟩ rfl ti241 rfl rfl ?_
  have k_39 : mK (uB (f_X2_init (mN (uB (f_X0_init (mN (uB (f_X5_init (mN (uI (uB (mN (uB (mN M) 1 0)) 1 1) 1 2 0))) 1 3)) 11) 1 4))) 1 5) = 30 := k_36
  have o_40 : ∀ b k : Nat, b < 1 → mB M b k = true → mB (uB (f_X2_init (mN (uB (f_X0_init (mN (uB (f_X5_init (mN (uI (uB (mN (uB (mN M) 1 0)) 1 1) 1 2 0))) 1 3)) 11) 1 4))) 1 5) b k = true := (fun b k h h' => uB_B (o_37 b k h h'))
  have o_41 : mB (uB (f_X2_init (mN (uB (f_X0_init (mN (uB (f_X5_init (mN (uI (uB (mN (uB (mN M) 1 0)) 1 1) 1 2 0))) 1 3)) 11) 1 4))) 1 5) 1 0 = true := (uB_B o_38)
  refine V.seg F floX6 cjoX6 [.aload_n 0] (by decide +kernel) (pc2 := 61) (lv2 := [(0, .ref 1)]) (st2 := [.ref 1]) (M2 := uB (f_X2_init (mN (uB (f_X0_init (mN (uB (f_X5_init (mN (uI (uB (mN (uB (mN M) 1 0)) 1 1) 1 2 0))) 1 3)) 11) 1 4))) 1 5) rfl ⟨trivial, trivial⟩ ?_
  refine V.new (c := 4) F (by decide +kernel) rfl (by rw [k_39]; exact rfl) ti212 ti213 ti73 (by rw [hRm]; show 29 + 1 ≤ 50; omega) (by rw [hRm]; show 749 + 4 ≤ 895; omega) ?_
  rw [k_39]
  have k_42 : mK (mN (uB (f_X2_init (mN (uB (f_X0_init (mN (uB (f_X5_init (mN (uI (uB (mN (uB (mN M) 1 0)) 1 1) 1 2 0))) 1 3)) 11) 1 4))) 1 5)) = 31 := (mK_mN k_39)
  have o_43 : ∀ b k : Nat, b < 1 → mB M b k = true → mB (mN (uB (f_X2_init (mN (uB (f_X0_init (mN (uB (f_X5_init (mN (uI (uB (mN (uB (mN M) 1 0)) 1 1) 1 2 0))) 1 3)) 11) 1 4))) 1 5)) b k = true := (fun b k h h' => mN_B k_39 (by omega) (o_40 b k h h'))
  have o_44 : mB (mN (uB (f_X2_init (mN (uB (f_X0_init (mN (uB (f_X5_init (mN (uI (uB (mN (uB (mN M) 1 0)) 1 1) 1 2 0))) 1 3)) 11) 1 4))) 1 5)) 1 0 = true := (mN_B k_39 (by omega) o_41)
  show V G X 2 30 753 (Qx G X 50 895 (p_X6_init M)) 64 [(0, .ref 1)] [.ref 31, .ref 1] (mN (uB (f_X2_init (mN (uB (f_X0_init (mN (uB (f_X5_init (mN (uI (uB (mN (uB (mN M) 1 0)) 1 1) 1 2 0))) 1 3)) 11) 1 4))) 1 5))
  refine V.seg F floX6 cjoX6 [.dup] (by decide +kernel) (pc2 := 65) (lv2 := [(0, .ref 1)]) (st2 := [.ref 31, .ref 31, .ref 1]) (M2 := mN (uB (f_X2_init (mN (uB (f_X0_init (mN (uB (f_X5_init (mN (uI (uB (mN (uB (mN M) 1 0)) 1 1) 1 2 0))) 1 3)) 11) 1 4))) 1 5)) rfl ⟨trivial, trivial⟩ ?_
  refine V.callIN (b := 31) (as := []) (rest := [.ref 31, .ref 1]) F (by decide +kernel) lX6_48 bX4_init (c_X4_init G X.2.1 (mN (uB (f_X2_init (mN (uB (f_X0_init (mN (uB (f_X5_init (mN (uI (uB (mN (uB (mN M) 1 0)) 1 1) 1 2 0))) 1 3)) 11) 1 4))) 1 5))  k_42) (rm_ok hRm hd (by decide) (by decide)) ⟨by rw [hRm]; show 30 + 1 ≤ 50; omega, by rw [hRm]; show 753 + 8 ≤ 895; omega⟩ (Nat.le_of_ble_eq_true rfl) (fun r_ N_ p_ => ?_)
  obtain ⟨rfl, rfl, kn_, kb_⟩ := p_
  have k_45 : mK (f_X4_init (mN (uB (f_X2_init (mN (uB (f_X0_init (mN (uB (f_X5_init (mN (uI (uB (mN (uB (mN M) 1 0)) 1 1) 1 2 0))) 1 3)) 11) 1 4))) 1 5))) = 32 := kn_
  have o_46 : ∀ b k : Nat, b < 1 → mB M b k = true → mB (f_X4_init (mN (uB (f_X2_init (mN (uB (f_X0_init (mN (uB (f_X5_init (mN (uI (uB (mN (uB (mN M) 1 0)) 1 1) 1 2 0))) 1 3)) 11) 1 4))) 1 5))) b k = true := (fun b k h h' => kb_ _ _ (by omega) (o_43 b k h h'))
  have o_47 : mB (f_X4_init (mN (uB (f_X2_init (mN (uB (f_X0_init (mN (uB (f_X5_init (mN (uI (uB (mN (uB (mN M) 1 0)) 1 1) 1 2 0))) 1 3)) 11) 1 4))) 1 5))) 1 0 = true := (kb_ _ _ (by omega) o_44)
  clear kn_ kb_
  show V G X 2 31 761 (Qx G X 50 895 (p_X6_init M)) 68 [(0, .ref 1)] [.ref 31, .ref 1] (f_X4_init (mN (uB (f_X2_init (mN (uB (f_X0_init (mN (uB (f_X5_init (mN (uI (uB (mN (uB (mN M) 1 0)) 1 1) 1 2 0))) 1 3)) 11) 1 4))) 1 5)))
  refine V.putR (a := 1) (c := 6) (j := 6) F hnm (by decide +kernel) rfl (by decide) ⟨rfl, (by omega), (by have := k_45; omega)⟩ rfl ti242 rfl rfl ?_
  have k_48 : mK (uB (f_X4_init (mN (uB (f_X2_init (mN (uB (f_X0_init (mN (uB (f_X5_init (mN (uI (uB (mN (uB (mN M) 1 0)) 1 1) 1 2 0))) 1 3)) 11) 1 4))) 1 5))) 1 6) = 32 := k_45
  have o_49 : ∀ b k : Nat, b < 1 → mB M b k = true → mB (uB (f_X4_init (mN (uB (f_X2_init (mN (uB (f_X0_init (mN (uB (f_X5_init (mN (uI (uB (mN (uB (mN M) 1 0)) 1 1) 1 2 0))) 1 3)) 11) 1 4))) 1 5))) 1 6) b k = true := (fun b k h h' => uB_B (o_46 b k h h'))
  have o_50 : mB (uB (f_X4_init (mN (uB (f_X2_init (mN (uB (f_X0_init (mN (uB (f_X5_init (mN (uI (uB (mN (uB (mN M) 1 0)) 1 1) 1 2 0))) 1 3)) 11) 1 4))) 1 5))) 1 6) 1 0 = true := (uB_B o_47)
  refine V.seg F floX6 cjoX6 [.aload_n 0, .bipush 8] (by decide +kernel) (pc2 := 74) (lv2 := [(0, .ref 1)]) (st2 := [.int 8, .ref 1]) (M2 := uB (f_X4_init (mN (uB (f_X2_init (mN (uB (f_X0_init (mN (uB (f_X5_init (mN (uI (uB (mN (uB (mN M) 1 0)) 1 1) 1 2 0))) 1 3)) 11) 1 4))) 1 5))) 1 6) rfl ⟨trivial, trivial, trivial⟩ ?_
  refine V.newarr (kd := 22) (n := 8) F (by decide +kernel) (by rw [k_48]; exact rfl) (Or.inr (Or.inr ⟨rfl, rfl⟩)) (by decide) rfl (by decide) (by rw [hRm]; show 31 + 1 ≤ 50; omega) (by rw [hRm]; show 761 + 8 ≤ 895; omega) ti109 ?_
  rw [k_48]
  have k_51 : mK (mN (uB (f_X4_init (mN (uB (f_X2_init (mN (uB (f_X0_init (mN (uB (f_X5_init (mN (uI (uB (mN (uB (mN M) 1 0)) 1 1) 1 2 0))) 1 3)) 11) 1 4))) 1 5))) 1 6)) = 33 := (mK_mN k_48)
  have o_52 : ∀ b k : Nat, b < 1 → mB M b k = true → mB (mN (uB (f_X4_init (mN (uB (f_X2_init (mN (uB (f_X0_init (mN (uB (f_X5_init (mN (uI (uB (mN (uB (mN M) 1 0)) 1 1) 1 2 0))) 1 3)) 11) 1 4))) 1 5))) 1 6)) b k = true := (fun b k h h' => mN_B k_48 (by omega) (o_49 b k h h'))
  have o_53 : mB (mN (uB (f_X4_init (mN (uB (f_X2_init (mN (uB (f_X0_init (mN (uB (f_X5_init (mN (uI (uB (mN (uB (mN M) 1 0)) 1 1) 1 2 0))) 1 3)) 11) 1 4))) 1 5))) 1 6)) 1 0 = true := (mN_B k_48 (by omega) o_50)
  show V G X 2 32 769 (Qx G X 50 895 (p_X6_init M)) 76 [(0, .ref 1)] [.ref 33, .ref 1] (mN (uB (f_X4_init (mN (uB (f_X2_init (mN (uB (f_X0_init (mN (uB (f_X5_init (mN (uI (uB (mN (uB (mN M) 1 0)) 1 1) 1 2 0))) 1 3)) 11) 1 4))) 1 5))) 1 6))
  refine V.putR (a := 1) (c := 6) (j := 7) F hnm (by decide +kernel) rfl (by decide) ⟨rfl, (by omega), (by have := k_51; omega)⟩ rfl ti243 rfl rfl ?_
  have k_54 : mK (uB (mN (uB (f_X4_init (mN (uB (f_X2_init (mN (uB (f_X0_init (mN (uB (f_X5_init (mN (uI (uB (mN (uB (mN M) 1 0)) 1 1) 1 2 0))) 1 3)) 11) 1 4))) 1 5))) 1 6)) 1 7) = 33 := k_51
  have o_55 : ∀ b k : Nat, b < 1 → mB M b k = true → mB (uB (mN (uB (f_X4_init (mN (uB (f_X2_init (mN (uB (f_X0_init (mN (uB (f_X5_init (mN (uI (uB (mN (uB (mN M) 1 0)) 1 1) 1 2 0))) 1 3)) 11) 1 4))) 1 5))) 1 6)) 1 7) b k = true := (fun b k h h' => uB_B (o_52 b k h h'))
  have o_56 : mB (uB (mN (uB (f_X4_init (mN (uB (f_X2_init (mN (uB (f_X0_init (mN (uB (f_X5_init (mN (uI (uB (mN (uB (mN M) 1 0)) 1 1) 1 2 0))) 1 3)) 11) 1 4))) 1 5))) 1 6)) 1 7) 1 0 = true := (uB_B o_53)
  refine V.seg F floX6 cjoX6 [.aload_n 0] (by decide +kernel) (pc2 := 80) (lv2 := [(0, .ref 1)]) (st2 := [.ref 1]) (M2 := uB (mN (uB (f_X4_init (mN (uB (f_X2_init (mN (uB (f_X0_init (mN (uB (f_X5_init (mN (uI (uB (mN (uB (mN M) 1 0)) 1 1) 1 2 0))) 1 3)) 11) 1 4))) 1 5))) 1 6)) 1 7) rfl ⟨trivial, trivial⟩ ?_
  refine V.new (c := 1) F (by decide +kernel) rfl (by rw [k_54]; exact rfl) ti86 ti118 ti71 (by rw [hRm]; show 32 + 1 ≤ 50; omega) (by rw [hRm]; show 769 + 7 ≤ 895; omega) ?_
  rw [k_54]
  have k_57 : mK (mN (uB (mN (uB (f_X4_init (mN (uB (f_X2_init (mN (uB (f_X0_init (mN (uB (f_X5_init (mN (uI (uB (mN (uB (mN M) 1 0)) 1 1) 1 2 0))) 1 3)) 11) 1 4))) 1 5))) 1 6)) 1 7)) = 34 := (mK_mN k_54)
  have o_58 : ∀ b k : Nat, b < 1 → mB M b k = true → mB (mN (uB (mN (uB (f_X4_init (mN (uB (f_X2_init (mN (uB (f_X0_init (mN (uB (f_X5_init (mN (uI (uB (mN (uB (mN M) 1 0)) 1 1) 1 2 0))) 1 3)) 11) 1 4))) 1 5))) 1 6)) 1 7)) b k = true := (fun b k h h' => mN_B k_54 (by omega) (o_55 b k h h'))
  have o_59 : mB (mN (uB (mN (uB (f_X4_init (mN (uB (f_X2_init (mN (uB (f_X0_init (mN (uB (f_X5_init (mN (uI (uB (mN (uB (mN M) 1 0)) 1 1) 1 2 0))) 1 3)) 11) 1 4))) 1 5))) 1 6)) 1 7)) 1 0 = true := (mN_B k_54 (by omega) o_56)
  show V G X 2 33 776 (Qx G X 50 895 (p_X6_init M)) 83 [(0, .ref 1)] [.ref 34, .ref 1] (mN (uB (mN (uB (f_X4_init (mN (uB (f_X2_init (mN (uB (f_X0_init (mN (uB (f_X5_init (mN (uI (uB (mN (uB (mN M) 1 0)) 1 1) 1 2 0))) 1 3)) 11) 1 4))) 1 5))) 1 6)) 1 7))
  refine V.seg F floX6 cjoX6 [.dup] (by decide +kernel) (pc2 := 84) (lv2 := [(0, .ref 1)]) (st2 := [.ref 34, .ref 34, .ref 1]) (M2 := mN (uB (mN (uB (f_X4_init (mN (uB (f_X2_init (mN (uB (f_X0_init (mN (uB (f_X5_init (mN (uI (uB (mN (uB (mN M) 1 0)) 1 1) 1 2 0))) 1 3)) 11) 1 4))) 1 5))) 1 6)) 1 7)) rfl ⟨trivial, trivial⟩ ?_
  refine V.callI (b := 34) (as := []) (rest := [.ref 34, .ref 1]) F (by decide +kernel) lX6_57 bX1_init (c_X1_init G X.2.1 (mN (uB (mN (uB (f_X4_init (mN (uB (f_X2_init (mN (uB (f_X0_init (mN (uB (f_X5_init (mN (uI (uB (mN (uB (mN M) 1 0)) 1 1) 1 2 0))) 1 3)) 11) 1 4))) 1 5))) 1 6)) 1 7)) 34 ⟨rfl, (by omega), (by have := k_57; omega)⟩) (rm_ok hRm hd (by decide) (by decide)) ⟨by rw [hRm]; show 33 + 0 ≤ 50; omega, by rw [hRm]; show 776 + 0 ≤ 895; omega⟩ (Nat.le_of_ble_eq_true rfl) (fun r_ N_ p_ => ?_)
  obtain ⟨rfl, rfl, t_⟩ := p_
  have k_60 : mK (f_X1_init (mN (uB (mN (uB (f_X4_init (mN (uB (f_X2_init (mN (uB (f_X0_init (mN (uB (f_X5_init (mN (uI (uB (mN (uB (mN M) 1 0)) 1 1) 1 2 0))) 1 3)) 11) 1 4))) 1 5))) 1 6)) 1 7)) 34) = 34 := (t_.1.1.trans k_57)
  have o_61 : ∀ b k : Nat, b < 1 → mB M b k = true → mB (f_X1_init (mN (uB (mN (uB (f_X4_init (mN (uB (f_X2_init (mN (uB (f_X0_init (mN (uB (f_X5_init (mN (uI (uB (mN (uB (mN M) 1 0)) 1 1) 1 2 0))) 1 3)) 11) 1 4))) 1 5))) 1 6)) 1 7)) 34) b k = true := (fun b k h h' => sm_B t_.1 (o_58 b k h h'))
  have o_62 : mB (f_X1_init (mN (uB (mN (uB (f_X4_init (mN (uB (f_X2_init (mN (uB (f_X0_init (mN (uB (f_X5_init (mN (uI (uB (mN (uB (mN M) 1 0)) 1 1) 1 2 0))) 1 3)) 11) 1 4))) 1 5))) 1 6)) 1 7)) 34) 1 0 = true := (sm_B t_.1 o_59)
  clear t_
  show V G X 2 33 776 (Qx G X 50 895 (p_X6_init M)) 87 [(0, .ref 1)] [.ref 34, .ref 1] (f_X1_init (mN (uB (mN (uB (f_X4_init (mN (uB (f_X2_init (mN (uB (f_X0_init (mN (uB (f_X5_init (mN (uI (uB (mN (uB (mN M) 1 0)) 1 1) 1 2 0))) 1 3)) 11) 1 4))) 1 5))) 1 6)) 1 7)) 34)
  refine V.putR (a := 1) (c := 6) (j := 8) F hnm (by decide +kernel) rfl (by decide) ⟨rfl, (by omega), (by have := k_60; omega)⟩ rfl ti244 rfl rfl ?_
  have k_63 : mK (uB (f_X1_init (mN (uB (mN (uB (f_X4_init (mN (uB (f_X2_init (mN (uB (f_X0_init (mN (uB (f_X5_init (mN (uI (uB (mN (uB (mN M) 1 0)) 1 1) 1 2 0))) 1 3)) 11) 1 4))) 1 5))) 1 6)) 1 7)) 34) 1 8) = 34 := k_60
  have o_64 : ∀ b k : Nat, b < 1 → mB M b k = true → mB (uB (f_X1_init (mN (uB (mN (uB (f_X4_init (mN (uB (f_X2_init (mN (uB (f_X0_init (mN (uB (f_X5_init (mN (uI (uB (mN (uB (mN M) 1 0)) 1 1) 1 2 0))) 1 3)) 11) 1 4))) 1 5))) 1 6)) 1 7)) 34) 1 8) b k = true := (fun b k h h' => uB_B (o_61 b k h h'))
  have o_65 : mB (uB (f_X1_init (mN (uB (mN (uB (f_X4_init (mN (uB (f_X2_init (mN (uB (f_X0_init (mN (uB (f_X5_init (mN (uI (uB (mN (uB (mN M) 1 0)) 1 1) 1 2 0))) 1 3)) 11) 1 4))) 1 5))) 1 6)) 1 7)) 34) 1 8) 1 0 = true := (uB_B o_62)
  refine V.seg F floX6 cjoX6 [.aload_n 0] (by decide +kernel) (pc2 := 91) (lv2 := [(0, .ref 1)]) (st2 := [.ref 1]) (M2 := uB (f_X1_init (mN (uB (mN (uB (f_X4_init (mN (uB (f_X2_init (mN (uB (f_X0_init (mN (uB (f_X5_init (mN (uI (uB (mN (uB (mN M) 1 0)) 1 1) 1 2 0))) 1 3)) 11) 1 4))) 1 5))) 1 6)) 1 7)) 34) 1 8) rfl ⟨trivial, trivial⟩ ?_
  refine V.new (c := 1) F (by decide +kernel) rfl (by rw [k_63]; exact rfl) ti86 ti118 ti71 (by rw [hRm]; show 33 + 1 ≤ 50; omega) (by rw [hRm]; show 776 + 7 ≤ 895; omega) ?_
  rw [k_63]
  have k_66 : mK (mN (uB (f_X1_init (mN (uB (mN (uB (f_X4_init (mN (uB (f_X2_init (mN (uB (f_X0_init (mN (uB (f_X5_init (mN (uI (uB (mN (uB (mN M) 1 0)) 1 1) 1 2 0))) 1 3)) 11) 1 4))) 1 5))) 1 6)) 1 7)) 34) 1 8)) = 35 := (mK_mN k_63)
  have o_67 : ∀ b k : Nat, b < 1 → mB M b k = true → mB (mN (uB (f_X1_init (mN (uB (mN (uB (f_X4_init (mN (uB (f_X2_init (mN (uB (f_X0_init (mN (uB (f_X5_init (mN (uI (uB (mN (uB (mN M) 1 0)) 1 1) 1 2 0))) 1 3)) 11) 1 4))) 1 5))) 1 6)) 1 7)) 34) 1 8)) b k = true := (fun b k h h' => mN_B k_63 (by omega) (o_64 b k h h'))
  have o_68 : mB (mN (uB (f_X1_init (mN (uB (mN (uB (f_X4_init (mN (uB (f_X2_init (mN (uB (f_X0_init (mN (uB (f_X5_init (mN (uI (uB (mN (uB (mN M) 1 0)) 1 1) 1 2 0))) 1 3)) 11) 1 4))) 1 5))) 1 6)) 1 7)) 34) 1 8)) 1 0 = true := (mN_B k_63 (by omega) o_65)
  show V G X 2 34 783 (Qx G X 50 895 (p_X6_init M)) 94 [(0, .ref 1)] [.ref 35, .ref 1] (mN (uB (f_X1_init (mN (uB (mN (uB (f_X4_init (mN (uB (f_X2_init (mN (uB (f_X0_init (mN (uB (f_X5_init (mN (uI (uB (mN (uB (mN M) 1 0)) 1 1) 1 2 0))) 1 3)) 11) 1 4))) 1 5))) 1 6)) 1 7)) 34) 1 8))
  refine V.seg F floX6 cjoX6 [.dup] (by decide +kernel) (pc2 := 95) (lv2 := [(0, .ref 1)]) (st2 := [.ref 35, .ref 35, .ref 1]) (M2 := mN (uB (f_X1_init (mN (uB (mN (uB (f_X4_init (mN (uB (f_X2_init (mN (uB (f_X0_init (mN (uB (f_X5_init (mN (uI (uB (mN (uB (mN M) 1 0)) 1 1) 1 2 0))) 1 3)) 11) 1 4))) 1 5))) 1 6)) 1 7)) 34) 1 8)) rfl ⟨trivial, trivial⟩ ?_
  refine V.callI (b := 35) (as := []) (rest := [.ref 35, .ref 1]) F (by decide +kernel) lX6_57 bX1_init (c_X1_init G X.2.1 (mN (uB (f_X1_init (mN (uB (mN (uB (f_X4_init (mN (uB (f_X2_init (mN (uB (f_X0_init (mN (uB (f_X5_init (mN (uI (uB (mN (uB (mN M) 1 0)) 1 1) 1 2 0))) 1 3)) 11) 1 4))) 1 5))) 1 6)) 1 7)) 34) 1 8)) 35 ⟨rfl, (by omega), (by have := k_66; omega)⟩) (rm_ok hRm hd (by decide) (by decide)) ⟨by rw [hRm]; show 34 + 0 ≤ 50; omega, by rw [hRm]; show 783 + 0 ≤ 895; omega⟩ (Nat.le_of_ble_eq_true rfl) (fun r_ N_ p_ => ?_)
  obtain ⟨rfl, rfl, t_⟩ := p_
  have k_69 : mK (f_X1_init (mN (uB (f_X1_init (mN (uB (mN (uB (f_X4_init (mN (uB (f_X2_init (mN (uB (f_X0_init (mN (uB (f_X5_init (mN (uI (uB (mN (uB (mN M) 1 0)) 1 1) 1 2 0))) 1 3)) 11) 1 4))) 1 5))) 1 6)) 1 7)) 34) 1 8)) 35) = 35 := (t_.1.1.trans k_66)
  have o_70 : ∀ b k : Nat, b < 1 → mB M b k = true → mB (f_X1_init (mN (uB (f_X1_init (mN (uB (mN (uB (f_X4_init (mN (uB (f_X2_init (mN (uB (f_X0_init (mN (uB (f_X5_init (mN (uI (uB (mN (uB (mN M) 1 0)) 1 1) 1 2 0))) 1 3)) 11) 1 4))) 1 5))) 1 6)) 1 7)) 34) 1 8)) 35) b k = true := (fun b k h h' => sm_B t_.1 (o_67 b k h h'))
  have o_71 : mB (f_X1_init (mN (uB (f_X1_init (mN (uB (mN (uB (f_X4_init (mN (uB (f_X2_init (mN (uB (f_X0_init (mN (uB (f_X5_init (mN (uI (uB (mN (uB (mN M) 1 0)) 1 1) 1 2 0))) 1 3)) 11) 1 4))) 1 5))) 1 6)) 1 7)) 34) 1 8)) 35) 1 0 = true := (sm_B t_.1 o_68)
  clear t_
  show V G X 2 34 783 (Qx G X 50 895 (p_X6_init M)) 98 [(0, .ref 1)] [.ref 35, .ref 1] (f_X1_init (mN (uB (f_X1_init (mN (uB (mN (uB (f_X4_init (mN (uB (f_X2_init (mN (uB (f_X0_init (mN (uB (f_X5_init (mN (uI (uB (mN (uB (mN M) 1 0)) 1 1) 1 2 0))) 1 3)) 11) 1 4))) 1 5))) 1 6)) 1 7)) 34) 1 8)) 35)
  refine V.putR (a := 1) (c := 6) (j := 9) F hnm (by decide +kernel) rfl (by decide) ⟨rfl, (by omega), (by have := k_69; omega)⟩ rfl ti245 rfl rfl ?_
  have k_72 : mK (uB (f_X1_init (mN (uB (f_X1_init (mN (uB (mN (uB (f_X4_init (mN (uB (f_X2_init (mN (uB (f_X0_init (mN (uB (f_X5_init (mN (uI (uB (mN (uB (mN M) 1 0)) 1 1) 1 2 0))) 1 3)) 11) 1 4))) 1 5))) 1 6)) 1 7)) 34) 1 8)) 35) 1 9) = 35 := k_69
  have o_73 : ∀ b k : Nat, b < 1 → mB M b k = true → mB (uB (f_X1_init (mN (uB (f_X1_init (mN (uB (mN (uB (f_X4_init (mN (uB (f_X2_init (mN (uB (f_X0_init (mN (uB (f_X5_init (mN (uI (uB (mN (uB (mN M) 1 0)) 1 1) 1 2 0))) 1 3)) 11) 1 4))) 1 5))) 1 6)) 1 7)) 34) 1 8)) 35) 1 9) b k = true := (fun b k h h' => uB_B (o_70 b k h h'))
  have o_74 : mB (uB (f_X1_init (mN (uB (f_X1_init (mN (uB (mN (uB (f_X4_init (mN (uB (f_X2_init (mN (uB (f_X0_init (mN (uB (f_X5_init (mN (uI (uB (mN (uB (mN M) 1 0)) 1 1) 1 2 0))) 1 3)) 11) 1 4))) 1 5))) 1 6)) 1 7)) 34) 1 8)) 35) 1 9) 1 0 = true := (uB_B o_71)
  refine V.seg F floX6 cjoX6 [.iconst 0] (by decide +kernel) (pc2 := 102) (lv2 := [(0, .ref 1)]) (st2 := [.int 0]) (M2 := uB (f_X1_init (mN (uB (f_X1_init (mN (uB (mN (uB (f_X4_init (mN (uB (f_X2_init (mN (uB (f_X0_init (mN (uB (f_X5_init (mN (uI (uB (mN (uB (mN M) 1 0)) 1 1) 1 2 0))) 1 3)) 11) 1 4))) 1 5))) 1 6)) 1 7)) 34) 1 8)) 35) 1 9) rfl ⟨trivial, trivial⟩ ?_
  refine V.seg F floX6 cjoX6 [.istore_n 1] (by decide +kernel) (pc2 := 103) (lv2 := [(1, .int 0), (0, .ref 1)]) (st2 := []) (M2 := uB (f_X1_init (mN (uB (f_X1_init (mN (uB (mN (uB (f_X4_init (mN (uB (f_X2_init (mN (uB (f_X0_init (mN (uB (f_X5_init (mN (uI (uB (mN (uB (mN M) 1 0)) 1 1) 1 2 0))) 1 3)) 11) 1 4))) 1 5))) 1 6)) 1 7)) 34) 1 8)) 35) 1 9) rfl ⟨(by decide), trivial⟩ ?_
  have hJ103 : ∀ (n_ : Nat) (j103 : Nat) (M103 : Mem), (Tr M M103) → (j103 ≤ 16) → (16 - j103 < n_) → (mK M103 = 35 + j103) → (∀ b k : Nat, b < 1 → mB M b k = true → mB M103 b k = true) → (mB M103 1 0 = true) → f_X6_init M = f_X6_init_103 n_ j103 M103 → V G X 2 ((34 + j103)) ((783 + 7 * j103)) (Qx G X 50 895 (p_X6_init M)) 103 [(0, .ref 1), (1, .int (nI j103))] [] M103 := by
    intro n_
    induction n_ with
    | zero => intro j103 M103 s103 b103 m103 k103 q103_0 q103_1 E; omega
    | succ n_ ih_103 =>
      intro j103 M103 s103 b103 m103 k103 q103_0 q103_1 E
      rw [f_X6_init_103] at E
      refine V.seg F floX6 cjoX6 [.iload_n 1, .bipush 16] (by decide +kernel) (pc2 := 106) (lv2 := [(0, .ref 1), (1, .int (nI j103))]) (st2 := [.int 16, .int (nI j103)]) (M2 := M103) rfl ⟨trivial, trivial, trivial⟩ ?_
      refine V.ic_ge (off := 22) F (by decide +kernel) (tgt := 128) (by decide) (fun h106 => ?_) (fun h106 => ?_)
      · replace E := E.trans (if_pos h106)
        have e103_ : j103 = 16 := cnt_ge (n := 16) h106 rfl b103 (by decide)
        subst e103_
        refine V.widen (mc := 50) (ms := 895) (by omega) (by omega) ?_
        exact V.vret F (by decide +kernel) ⟨rfl, E.symm, k103, q103_0⟩
      · replace E := E.trans (if_neg h106)
        have z103_ := cnt_lt (n := 16) h106 rfl (by omega) (by decide)
        refine V.seg F floX6 cjoX6 [.aload_n 0, .getfield 11, .iload_n 1] (by decide +kernel) (pc2 := 114) (lv2 := [(0, .ref 1), (1, .int (nI j103))]) (st2 := [.int (nI j103), .ref 2]) (M2 := M103) rfl ⟨trivial, ⟨⟨rfl, (by omega), (by have := k103; omega)⟩, q103_1⟩, trivial, trivial⟩ ?_
        refine V.new (c := 1) F (by decide +kernel) rfl (by rw [k103]; exact (fc_sh j103 (by omega))) ti86 ti118 ti71 (by rw [hRm]; show (34 + j103) + 1 ≤ 50; omega) (by rw [hRm]; show (783 + 7 * j103) + 7 ≤ 895; omega) ?_
        rw [k103]
        have k_75 : mK (mN M103) = 35 + j103 + 1 := (mK_mN k103)
        have o_76 : ∀ b k : Nat, b < 1 → mB M b k = true → mB (mN M103) b k = true := (fun b k h h' => mN_B k103 (by omega) (q103_0 b k h h'))
        have o_77 : mB (mN M103) 1 0 = true := (mN_B k103 (by omega) q103_1)
        show V G X 2 ((34 + j103) + 1) ((783 + 7 * j103) + 7) (Qx G X 50 895 (p_X6_init M)) 117 [(0, .ref 1), (1, .int (nI j103))] [.ref (35 + j103 + 1), .int (nI j103), .ref 2] (mN M103)
        refine V.seg F floX6 cjoX6 [.dup] (by decide +kernel) (pc2 := 118) (lv2 := [(0, .ref 1), (1, .int (nI j103))]) (st2 := [.ref (35 + j103 + 1), .ref (35 + j103 + 1), .int (nI j103), .ref 2]) (M2 := mN M103) rfl ⟨trivial, trivial⟩ ?_
        refine V.callI (b := 35 + j103 + 1) (as := []) (rest := [.ref (35 + j103 + 1), .int (nI j103), .ref 2]) F (by decide +kernel) lX6_57 bX1_init (c_X1_init G X.2.1 (mN M103) (35 + j103 + 1) ⟨(fc_sh j103 (by omega)), (by omega), (by have := k_75; omega)⟩) (rm_ok hRm hd (by decide) (by decide)) ⟨by rw [hRm]; show (34 + j103) + 1 + 0 ≤ 50; omega, by rw [hRm]; show (783 + 7 * j103) + 7 + 0 ≤ 895; omega⟩ (Nat.le_of_ble_eq_true rfl) (fun r_ N_ p_ => ?_)
        obtain ⟨rfl, rfl, t_⟩ := p_
        have k_78 : mK (f_X1_init (mN M103) (35 + j103 + 1)) = 35 + j103 + 1 := (t_.1.1.trans k_75)
        have o_79 : ∀ b k : Nat, b < 1 → mB M b k = true → mB (f_X1_init (mN M103) (35 + j103 + 1)) b k = true := (fun b k h h' => sm_B t_.1 (o_76 b k h h'))
        have o_80 : mB (f_X1_init (mN M103) (35 + j103 + 1)) 1 0 = true := (sm_B t_.1 o_77)
        clear t_
        show V G X 2 ((34 + j103) + 1) ((783 + 7 * j103) + 7) (Qx G X 50 895 (p_X6_init M)) 121 [(0, .ref 1), (1, .int (nI j103))] [.ref (35 + j103 + 1), .int (nI j103), .ref 2] (f_X1_init (mN M103) (35 + j103 + 1))
        refine v_aast (a := 2) (kd := 23) (c := 1) (i := nI j103) F (by decide +kernel) ⟨rfl, (by omega), (by have := k_78; omega), (vnj (cnt_lt (n := 16) h106 rfl (by omega) (by decide)) (by decide) (by decide))⟩ ⟨by decide, by decide⟩ rfl rfl (by show 2 + 34 + ix (nI j103) = _; rw [ix_n (by omega)]; omega) ⟨(fc_sh j103 (by omega)), (by omega), (by have := k_78; omega)⟩ ?_
        have k_81 : mK (uB (f_X1_init (mN M103) (35 + j103 + 1)) 2 (ix (nI j103))) = 35 + j103 + 1 := k_78
        have o_82 : ∀ b k : Nat, b < 1 → mB M b k = true → mB (uB (f_X1_init (mN M103) (35 + j103 + 1)) 2 (ix (nI j103))) b k = true := (fun b k h h' => uB_B (o_79 b k h h'))
        have o_83 : mB (uB (f_X1_init (mN M103) (35 + j103 + 1)) 2 (ix (nI j103))) 1 0 = true := (uB_B o_80)
        show V G X 2 ((34 + j103) + 1) ((783 + 7 * j103) + 7) (Qx G X 50 895 (p_X6_init M)) 122 [(0, .ref 1), (1, .int (nI j103))] [] (uB (f_X1_init (mN M103) (35 + j103 + 1)) 2 (ix (nI j103)))
        refine V.seg F floX6 cjoX6 [.iinc 1 1, .goto (-22)] (by decide +kernel) (pc2 := 103) (lv2 := [(1, .int ((nI j103) + 1)), (0, .ref 1)]) (st2 := []) (M2 := uB (f_X1_init (mN M103) (35 + j103 + 1)) 2 (ix (nI j103))) rfl ⟨(by decide), (by decide), trivial⟩ ?_
        refine V.pick [1, 0] rfl ?_
        rw [nI_1]
        refine V.widen (mc := (34 + (j103 + 1))) (ms := (783 + 7 * (j103 + 1))) (by omega) (by omega) ?_
        exact ih_103 (j103 + 1) (uB (f_X1_init (mN M103) (35 + j103 + 1)) 2 (ix (nI j103))) trivial (by have hlt_ := cnt_lt (n := 16) h106 rfl (by omega) (by decide); omega) (by have hlt_ := cnt_lt (n := 16) h106 rfl (by omega) (by decide); omega) (by exact k_81) (by exact o_82) (by exact o_83) E
  refine V.pick [1, 0] rfl ?_
  refine V.widen (mc := (34 + 0)) (ms := (783 + 7 * 0)) (by omega) (by omega) ?_
  exact hJ103 _ 0 (uB (f_X1_init (mN (uB (f_X1_init (mN (uB (mN (uB (f_X4_init (mN (uB (f_X2_init (mN (uB (f_X0_init (mN (uB (f_X5_init (mN (uI (uB (mN (uB (mN M) 1 0)) 1 1) 1 2 0))) 1 3)) 11) 1 4))) 1 5))) 1 6)) 1 7)) 34) 1 8)) 35) 1 9) trivial (by omega) (by omega) (by exact k_72) (by exact o_73) (by exact o_74) E
