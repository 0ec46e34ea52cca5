section SX
variable {G : Ctx} {X : Xt} {own : String} {cc : ByteArray} {nL : Nat} {ret : Option FieldType} {cells slots : Nat} {Q : State → Prop} {pc : Nat} {lv : List (Nat × Value)} {st : List Value} {M : Mem}
theorem va_ap {G : Ctx} {s : State} {args : Array Value} {c : Nat} {r : vw_C} (hts : ∀ w ∈ TB, w.before args s = true) (hK : KS G s) (hv : vwCl[c]? = some r) : ∀ x y, x < r.2.2 → y < r.2.2 → x ≠ y → (G.2.2.1.2 c) x ≠ (G.2.2.1.2 c) y := by
  obtain ⟨C, T, N⟩ := r
  obtain ⟨h1, h2, h3⟩ := clOK hv
  exact va_apart (own := "") (D := G.2.2.1) (cl := vwCl) (tys := []) hts h1 (tyc c) h2 h3 hK.1 hv
theorem w_get {p : Program} {l : Launch} {e : Env} {R : Room} {s : State} {m : MethodId} {args : Array Value} {below : List Frame} {meth : Method} {c0 : Code} {H : Heap} {locs : List Loc} {ls : Array Slot} {rest : List Value} {a c k x : Nat} {r : vw_C}
    (hx : p.tables.exec = Jvm.exec) (hb : c0.code = cc) (hts : ∀ w ∈ TB, w.before args s = true) (hK : KS G s) (hown : s.vm.findClass own = some m.cls) (hR : Rep G M H) (ho : isO M a c) (hv : vwCl[c]? = some r) (hk : k < r.2.2)
    (hl : Cond.fieldLink own x (r.2.1 k).1 (r.2.1 k).2.1 (r.2.1 k).2.2.1 ∈ TB) (hd : decode cc pc = .ok (.getfield x, 3))
    (kk : W p l e R s m args below meth c0 H locs cells slots Q (F0 m (pc + 3) ls (cv G (fvl M c a k) :: rest))) : W p l e R s m args below meth c0 H locs cells slots Q (F0 m pc ls (.ref (ad G a) :: rest)) := by
  obtain ⟨C, T, N⟩ := r
  obtain ⟨cell, q1, q2, q3, q4⟩ := (hR.2.1 a ho.2.1 ho.2.2).1 c _ ho.1 hv
  obtain ⟨h1, h2, h3⟩ := clOK hv
  obtain ⟨hS, hfc, kC, hkC, hkind⟩ := hK.1.1 c _ hv
  obtain ⟨cf, kf, fi, f, hi, hsl⟩ := hS k hk
  refine W.getf hx hb hown (hts _ hl) hi (u_facts hfc hkC (u_lays hts h1 hk) hi).1 q1 (by rw [q3]; exact fun h => by cases h) (v := cv G (fvl M c a k)) ?_ rfl rfl hd kk
  rw [hsl]
  exact q4 k hk
theorem fvl_1 {M : Mem} {c a k : Nat} (h : (ft c k).1 = 1) : fvl M c a k = .long (mL M a k) := by simp only [fvl, h]
theorem fvl_2 {M : Mem} {c a k : Nat} (h : (ft c k).1 = 2) (hb : mB M a k = true) : fvl M c a k = .ref (a + (ft c k).2) := by simp only [fvl, h, hb, if_true]
theorem fvl_0 {M : Mem} {c a k : Nat} (h1 : (ft c k).1 ≠ 1) (h2 : (ft c k).1 ≠ 2) : fvl M c a k = .int (mI M a k) := by
  unfold fvl
  split
  · exact absurd (by assumption) h1
  · exact absurd (by assumption) h2
  · rfl
theorem fvl_ne {M M' : Mem} {c a j : Nat} (h : mB M' a j = mB M a j ∧ mI M' a j = mI M a j ∧ mL M' a j = mL M a j) : fvl M' c a j = fvl M c a j := by
  obtain ⟨r1, r2, r3⟩ := h
  simp only [fvl, r1, r2, r3]
/-- a write of a field that isn't a reference -/
theorem w_put {p : Program} {l : Launch} {e : Env} {R : Room} {s : State} {m : MethodId} {args : Array Value} {below : List Frame} {meth : Method} {c0 : Code} {H : Heap} {locs : List Loc} {ls : Array Slot} {rest : List Value} {a c k x : Nat} {r : vw_C} {M' : Mem} {v : Value}
    (hx : p.tables.exec = Jvm.exec) (hb : c0.code = cc) (hts : ∀ w ∈ TB, w.before args s = true) (hK : KS G s) (hown : s.vm.findClass own = some m.cls) (hR : Rep G M H) (hS0 : va_S (fun q => G.1 ≤ q) s.heap H locs) (ho : isO M a c) (hv : vwCl[c]? = some r) (hk : k < r.2.2)
    (hl : Cond.fieldLink own x (r.2.1 k).1 (r.2.1 k).2.1 (r.2.1 k).2.2.1 ∈ TB) (hfin : (r.2.1 k).2.2.2 = false) (hn : narrow (tyc c k) v = v) (hfit : fits (tyc c k) v = true) (hd : decode cc pc = .ok (.putfield x, 3))
    (hM : mK M' = mK M ∧ (∀ b j, (b ≠ a ∨ j ≠ k) → mB M' b j = mB M b j ∧ mI M' b j = mI M b j ∧ mL M' b j = mL M b j) ∧ cv G (fvl M' c a k) = v) (hBz : Bz M')
    (kk : ∀ (H1 : Heap) (locs1 : List Loc), Rep G M' H1 → va_S (fun q => G.1 ≤ q) s.heap H1 locs1 → W p l e R s m args below meth c0 H1 locs1 cells slots Q (F0 m (pc + 3) ls rest)) : W p l e R s m args below meth c0 H locs cells slots Q (F0 m pc ls (v :: .ref (ad G a) :: rest)) := by
  have hap := va_ap hts hK hv
  obtain ⟨cell, q1, q2, q3, q4⟩ := (hR.2.1 a ho.2.1 ho.2.2).1 c _ ho.1 hv
  obtain ⟨h1, h2, h3⟩ := clOK hv
  obtain ⟨hS, hfc, kC, hkC, hkind⟩ := hK.1.1 c _ hv
  obtain ⟨cf, kf, fi, f, hi, hsl⟩ := hS k hk
  have hlay := hts _ (h1 _ (u_in_lay hk))
  unfold u_lay at hlay
  rw [if_neg (by rw [hfin]; decide)] at hlay
  have hst := (u_facts hfc hkC (u_lays hts h1 hk) hi).1
  have h6 := u_store hfc hkC hkind hlay hi (h2 k hk) hn hfit
  refine W.putK hx hb (f := f) ⟨hown, hts _ hl, ⟨_, _, _, hi⟩, hst⟩ (by rw [q2]; exact h6) q1 q3 (by rw [hsl]; exact k2_hasslot (q4 k hk)) rfl rfl hd fun H' e1 e2 e3 => ?_
  rw [hsl] at e1 ⊢
  have hc : cAt G M' H' a := cAt.put ho.1 hv hap hk q2 q3 q4 (by rw [hM.2.2]; exact e1) (fun j hj => fvl_ne (hM.2.1 a j (Or.inr hj)))
  exact kk H' _ (hR.upd ho.2.1 e2 e3 hM.1 (fun b hb j => hM.2.1 b j (Or.inl hb)) hc hBz) (hS0.put e2 e3 (by show G.1 ≤ ad G a; rw [ad_pos ho.2.1]; omega))
theorem arr_at {H : Heap} {a kd : Nat} {i : Int32} (hR : Rep G M H) (h : isA M a kd i) (h20 : 20 ≤ kd) : H[ad G a]? = some (arrV (G.2.2.2 kd) (SH a).2 (fun j => cv G (avl M kd a j))) := by
  obtain ⟨h1, h2, h3, h4⟩ := h
  have := (hR.2.1 a h2 h3).2 (by omega)
  rw [h1] at this
  exact this
/-- a write of a place of an array -/
theorem rep_ast {H H' : Heap} {a kd j : Nat} {v : Value} {M' : Mem} (hR : Rep G M H) (hs : (SH a).1 = kd) (h0 : 0 < a) (h20 : 20 ≤ kd)
    (e1 : H'[ad G a]? = some ((arrV (G.2.2.2 kd) (SH a).2 (fun j => cv G (avl M kd a j))).setSlot j v)) (e2 : H'.size = H.size) (e3 : ∀ q, q ≠ ad G a → H'[q]? = H[q]?)
    (hM : mK M' = mK M ∧ (∀ b i, (b ≠ a ∨ i ≠ j) → mB M' b i = mB M b i ∧ mI M' b i = mI M b i ∧ mL M' b i = mL M b i) ∧ cv G (avl M' kd a j) = v) (hBz : Bz M') : Rep G M' H' := by
  refine hR.upd h0 e2 e3 hM.1 (fun b hb i => hM.2.1 b i (Or.inl hb)) ⟨fun c r hc hv => ?_, fun _ => ?_⟩ hBz
  · have : c < 8 := (List.getElem?_eq_some_iff.mp hv).1
    omega
  · rw [e1, hs, arrV_store]
    congr 2
    funext i
    by_cases e : i = j
    · subst e; simp [updV, hM.2.2]
    · obtain ⟨r1, r2, r3⟩ := hM.2.1 a i (Or.inr e)
      simp only [updV, e, if_false, avl, r1, r2, r3]
theorem A_ad {a : Nat} (h : 0 < a) : G.1 ≤ ad G a := by rw [ad_pos h]; omega
theorem nar_b {v : Int32} (h : v = 0 ∨ v = 1) : narrow .boolean (.int v) = .int v := by rcases h with rfl | rfl <;> rfl
theorem tag0 {ty : FieldType} (h : tagOK 0 ty = true) : ty = .int := by cases ty <;> first | rfl | (simp [tagOK] at h)
theorem tag1 {ty : FieldType} (h : tagOK 1 ty = true) : ty = .long := by cases ty <;> first | rfl | (simp [tagOK] at h)
theorem tag3 {ty : FieldType} (h : tagOK 3 ty = true) : ty = .boolean := by cases ty <;> first | rfl | (simp [tagOK] at h)
theorem uI_M {M : Mem} {a k : Nat} {v : Int32} : mK (uI M a k v) = mK M ∧ (∀ b j, (b ≠ a ∨ j ≠ k) → mB (uI M a k v) b j = mB M b j ∧ mI (uI M a k v) b j = mI M b j ∧ mL (uI M a k v) b j = mL M b j) :=
  ⟨rfl, fun b j h => ⟨rfl, h.elim mI_uI_ne mI_uI_nk, rfl⟩⟩
theorem uL_M {M : Mem} {a k : Nat} {v : Int64} : mK (uL M a k v) = mK M ∧ (∀ b j, (b ≠ a ∨ j ≠ k) → mB (uL M a k v) b j = mB M b j ∧ mI (uL M a k v) b j = mI M b j ∧ mL (uL M a k v) b j = mL M b j) :=
  ⟨rfl, fun b j h => ⟨rfl, rfl, h.elim mL_uL_ne mL_uL_nk⟩⟩
theorem uB_M {M : Mem} {a k : Nat} : mK (uB M a k) = mK M ∧ (∀ b j, (b ≠ a ∨ j ≠ k) → mB (uB M a k) b j = mB M b j ∧ mI (uB M a k) b j = mI M b j ∧ mL (uB M a k) b j = mL M b j) :=
  ⟨rfl, fun b j h => ⟨h.elim mB_uB_ne mB_uB_nk, rfl, rfl⟩⟩
theorem Bz.pL {M : Mem} {a k : Nat} {v : Int64} (h : Bz M) : Bz (uL M a k v) := h
theorem Bz.pB {M : Mem} {a k : Nat} (h : Bz M) : Bz (uB M a k) := h
theorem Bz.pI {M : Mem} {a k : Nat} {v : Int32} (h : Bz M) (hv : bl a k = true → v = 0 ∨ v = 1) : Bz (uI M a k v) := by
  intro b j hb
  by_cases e : b = a ∧ j = k
  · obtain ⟨rfl, rfl⟩ := e
    rw [mI_uI]
    exact hv hb
  · have h9 : mI (uI M a k v) b j = mI M b j := by
      by_cases e1 : b = a
      · exact mI_uI_nk (fun q => e ⟨e1, q⟩)
      · exact mI_uI_ne e1
    rw [h9]
    exact h b j hb
theorem bl_n {a c k : Nat} (hs : (SH a).1 = c + 1) (hc : c < 8) (ht : (ft c k).1 ≠ 3) : ¬ bl a k = true := by
  unfold bl
  rw [hs]
  simp only [Nat.add_sub_cancel, Bool.or_eq_true, decide_eq_true_eq]
  rintro (h | h)
  · omega
  · exact ht h
theorem bl_20 {a k : Nat} (hs : (SH a).1 = 20) : ¬ bl a k = true := by
  unfold bl
  rw [hs]
  simp [ft, FTt]
end SX
