/-! what the tables say at the law's entry -/
theorem ov_spec {s : State} (h : (Cond.arrayOver (.array .long)).before #[] s = true) : ∃ c, ArrOfT s c (.array .long) ∧ s.vm.findClass ("[" ++ (FieldType.array .long).toString) = some c := by
  obtain ⟨comp, c, k, h1, h2, h3, h4⟩ := ov_sp h
  exact ⟨c, fun n z => ⟨(fun k h => by cases h), k, h2, comp, h3⟩, h4⟩
theorem ao_spec {C : String} {s : State} (h : va_AO C s) : ∃ c, ArrOfT s c (.object C) ∧ va_RA s c (.object C) := by
  obtain ⟨comp, c, k, h1, h2, h3, h4, h5⟩ := Cond.arrayOver_spec h
  exact ⟨c, fun n z => ⟨(fun k h => by cases h), k, h3, comp, h4⟩, k, comp, h3, h4, h1, h5⟩
theorem ac_spec {ty : FieldType} {args : Array Value} {s : State} (h : (Cond.arrayClass ty).before args s = true) : ∃ c, ArrOfT s c ty ∧ s.vm.findClass ("[" ++ ty.toString) = some c := by
  obtain ⟨c, k, comp, h1, h2, h3⟩ := Cond.arrayClass_spec h
  exact ⟨c, fun n z => ⟨(fun k h => by cases h), k, h2, comp, h3⟩, h1⟩
theorem insts : ∀ r ∈ vwCl, Cond.instantiable r.1 r.2.2 ∈ lw_tbl := by
  intro r hr
  simp only [vwCl, List.mem_cons, List.not_mem_nil, or_false] at hr
  rcases hr with rfl | rfl | rfl | rfl | rfl | rfl | rfl | rfl <;> decide +kernel
theorem ks_start {s : State} {args : Array Value} (hts : ∀ w ∈ lw_tbl, w.before args s = true) (z b : Nat) : ∃ G : Ctx, G.1 = z ∧ G.2.1 = b ∧ KS G s := by
  have hcl : ∀ c : Nat, ∃ q : ClassId × (Nat → Nat), ∀ r : vw_C, vwCl[c]? = some r → u_Kn s r.1 r.2.1 r.2.2 q.1 q.2 := by
    intro c
    cases hc : vwCl[c]? with
    | none => exact ⟨(0, fun _ => 0), fun r hr => by cases hr⟩
    | some r0 =>
      obtain ⟨cC, iS, h⟩ := u_known (C := r0.1) (T := r0.2.1) (N := r0.2.2) (n := r0.2.2) (ws := TB) (fun w hw => hts w (TB_good hw).1) (clOK hc).1 (hts _ (insts r0 (List.mem_of_getElem? hc)))
      exact ⟨(cC, iS), fun r hr => by cases hr; exact h⟩
  obtain ⟨f, hf⟩ := Classical.axiomOfChoice hcl
  have o1 : va_AO RX1 s := va_AO.of (hts (.arrayOver (.object RX1)) (by decide +kernel))
  have o3 : va_AO RX3 s := va_AO.of (hts (.arrayOver (.object RX3)) (by decide +kernel))
  have oL : (Cond.arrayOver (.array .long)).before #[] s = true := hts (.arrayOver (.array .long)) (by decide +kernel)
  obtain ⟨cI, i1, i2⟩ := ac_spec (hts (.arrayClass .int) (by decide +kernel))
  obtain ⟨cZ, z1, z2⟩ := ac_spec (hts (.arrayClass .boolean) (by decide +kernel))
  obtain ⟨cJ, j1, j2⟩ := ac_spec (hts (.arrayClass .long) (by decide +kernel))
  obtain ⟨cF, f1, f2⟩ := ao_spec o1
  obtain ⟨cR, r1, r2⟩ := ao_spec o3
  obtain ⟨cA, a1, a2⟩ := ov_spec oL
  refine ⟨(z, b, (fun c => (f c).1, fun c => (f c).2), fun kd => if kd = 20 then cI else if kd = 21 then cZ else if kd = 22 then cJ else if kd = 27 then cR else if kd = 28 then cA else cF), rfl, rfl, ⟨fun c q hq => hf c q hq, fun k q h => by simp at h⟩, fun kd h1 h2 => ?_, fun w hw => ?_, o1, o3, oL⟩
  · rcases (show kd = 20 ∨ kd = 21 ∨ kd = 22 ∨ kd = 23 ∨ kd = 24 ∨ kd = 25 ∨ kd = 26 ∨ kd = 27 ∨ kd = 28 by omega) with rfl | rfl | rfl | rfl | rfl | rfl | rfl | rfl | rfl
    · exact ⟨i1, i2⟩
    · exact ⟨z1, z2⟩
    · exact ⟨j1, j2⟩
    · exact ⟨f1, f2⟩
    · exact ⟨f1, f2⟩
    · exact ⟨f1, f2⟩
    · exact ⟨f1, f2⟩
    · exact ⟨r1, r2⟩
    · exact ⟨a1, a2⟩
  · have hq := (List.mem_filter.mp hw).2
    have h0 := hts w (List.mem_filter.mp hw).1
    cases w <;> first | exact va_Nw.of rfl h0 | (simp [isNest] at hq)
def R_law : String := "BitCongruencesLaw"
def lw_P (b : Addr) (xs : List Int32) (args : Array Value) (s : State) : Prop := args = #[.ref b] ∧ s.IntsAt b xs ∧ xs.length ≤ 3072 ∧ (Jvm.Cond.and given_1 narrow_1).before args s = true
def lw_Q (_ : Array Value) (s : State) (o : Outcome) (t : State) : Prop := o = .returned (some (.int 1)) ∧ Framed s o t [] 600000 7302250
def lw_Z (below : List Frame) (a : Array Value) (s : State) : State → Prop := fun t => ∃ o, t.status = .running ∧ Ended t below o ∧ lw_Q a s o t
/-- the law's own end, with 1 on the stack, nothing written that was there before, its room as the claim has it -/
theorem lw_ret {p : Program} {l : Launch} {e : Env} {s : State} {m : MethodId} {below : List Frame} {meth : Method} {c : Code} {b : Nat} (hx : p.tables.exec = Jvm.exec) (hb : c.code = code) (hr : meth.sig.returnType = ret) (hlocks : meth.locks = false) {pc : Nat} {H : Heap} {ls : Array Slot} (hdg : decode code pc = .ok (.ireturn, 1)) : W p l e room_1 s m #[Value.ref b] below meth c H [] 600000 7302250 (lw_Z below #[Value.ref b] s) (F0 m pc ls [.int 1]) := by
  intro T hT X
  obtain ⟨fs, hret, hrun, hended, hW, hframe⟩ := X.leave (v := some (.int 1)) (hlocks := hlocks) (fun h => by rw [hr] at h; cases h)
  have hmeth' : T.vm.method? m = some meth := X.method'
  refine ⟨T.setFrames fs, ?_, .returned (some (.int 1)), hrun, hended, rfl, ⟨_, rfl⟩, hW, hframe⟩
  jvm_step X.here [X.here.top, hx, hb, hdg, hmeth', hr, ret, narrow_b1]
  (try refine ⟨rfl, ?_⟩); (try refine ⟨rfl, ?_⟩)
  first | (intro acts; rw [hret _ acts rfl rfl rfl]) | rw [hret _ _ rfl rfl rfl]
  exact Steps.refl _
/-- what holds at the law's entry: the machine, the code, the tables' words (any of lw_tbl by 'hts w (by decide +kernel)'), the script of L ints xs at the cell b, what the Statement gives of the start (any of its parts by flat_of_before) -/
def lw_At (p : Program) (s : State) (m : MethodId) (meth : Method) (c : Code) (b L : Nat) (xs : Nat → Int32) : Prop :=
  p.tables.exec = Jvm.exec ∧ c.code = code ∧ meth.sig.returnType = ret ∧ c.maxLocals = 4 ∧ s.vm.findClass R_law = some m.cls ∧ (∀ w ∈ lw_tbl, w.before #[Value.ref b] s = true) ∧ va_X b L xs s s.heap ∧ b < s.heap.size ∧ meth.locks = false ∧ (Jvm.Cond.and given_1 narrow_1).before #[Value.ref b] s = true
theorem whole_start {p : Program} {e : Env} {s : State} {m : MethodId} {below : List Frame} {meth : Method} {c : Code} (l : Launch) {b L : Nat} {xs : Nat → Int32} (hL : L ≤ 3072) (C0 : lw_At p s m meth c b L xs) : W p l e room_1 s m #[Value.ref b] below meth c s.heap [] 0 0 (lw_Z below #[Value.ref b] s) (entryFrame m ([Value.ref b] : List Value).toArray 4) := by
  obtain ⟨hx, hb, hr, hml, hown, hts, hX, hbl, hlocks, hgv⟩ := C0
  obtain ⟨G, g1, g2, hK⟩ := ks_start hts s.heap.size b
  subst g2
  have F : Fx G (p, l, e, room_1, s, m, #[Value.ref G.2.1], below, meth, c) RL code 4 ret := ⟨hx, hb, hml, hown, fun w hw => hts w (TB_good hw).1, hK, hr, hlocks, by show G.1 ≤ s.heap.size; omega⟩
  have C : Cx G (p, l, e, room_1, s, m, #[Value.ref G.2.1], below, meth, c) L xs := ⟨F, hX, hbl, g1, rfl, hL⟩
  have hQ : ∀ (cells slots : Nat) (lv : List (Nat × Value)) (M : Mem), cells ≤ 600000 → slots ≤ 7302250 → V G (p, l, e, room_1, s, m, #[Value.ref G.2.1], below, meth, c) 4 cells slots (lw_Z below #[Value.ref G.2.1] s) 977 lv [.int 1] M := by
    intro cells slots lv M h1 h2 H locs ls hl hR hS
    exact va_forget (fun q hq => by rw [← g1]; exact hS.2.2 q hq) (W.widen h1 h2 (lw_ret hx hb hr hlocks (by decide +kernel)))
  have hw := law_start C hQ
  have hl := lv_entry ([.ref G.2.1]) (n := 4) (Nat.le_of_ble_eq_true rfl)
  have hRep : Rep G M00 s.heap := ⟨by rw [g1]; rfl, fun a h1 h2 => by have h2 : a ≤ 0 := h2; omega, fun a k _ => Or.inl rfl⟩
  rw [lg_entry_eq]
  exact hw s.heap [] _ hl hRep va_S.rf
