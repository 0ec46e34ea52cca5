/-! what is made: objects, arrays; references that are set -/
theorem mN_ne {M : Mem} {b j : Nat} (h : b ≠ mK M + 1) : mB (mN M) b j = mB M b j ∧ mI (mN M) b j = mI M b j ∧ mL (mN M) b j = mL M b j := by
  have h' : b ≠ M.1 + 1 := h
  simp [mB, mI, mL, mN, h']
theorem mN_new {M : Mem} {j : Nat} : mB (mN M) (mK M + 1) j = false ∧ mI (mN M) (mK M + 1) j = 0 ∧ mL (mN M) (mK M + 1) j = 0 := by
  simp [mB, mI, mL, mN, mK]
/-- one cell more -/
theorem Rep.more {G : Ctx} {M : Mem} {H H' : Heap} (h : Rep G M H) (hz : H'.size = H.size + 1) (ho : ∀ q, q < H.size → H'[q]? = H[q]?) (hc : cAt G (mN M) H' (mK M + 1)) : Rep G (mN M) H' := by
  refine ⟨by rw [hz, h.1]; rfl, fun b hb hbk => ?_, fun b j hb => ?_⟩
  rotate_left
  · by_cases e : b = mK M + 1
    · rw [e, mN_new.2.1]; exact Or.inl rfl
    · rw [(mN_ne e).2.1]; exact h.2.2 b j hb
  have hbk : b ≤ mK M + 1 := hbk
  by_cases e : b = mK M + 1
  · rw [e]; exact hc
  · obtain ⟨h1, h2⟩ := h.2.1 b hb (by omega)
    have hq : H'[ad G b]? = H[ad G b]? := ho _ (by rw [ad_pos hb, h.1]; omega)
    refine ⟨fun c r hs hv => ?_, fun hs => ?_⟩
    · refine ((h1 c r hs hv).kept hq).to (fun j _ => ?_)
      obtain ⟨r1, r2, r3⟩ := mN_ne (M := M) (j := j) e
      simp only [fvl, r1, r2, r3]
    · rw [hq, h2 hs]
      congr 2
      funext j
      obtain ⟨r1, r2, r3⟩ := mN_ne (M := M) (j := j) e
      simp only [avl, r1, r2, r3]
theorem fvl_new {G : Ctx} {M : Mem} {c k : Nat} {r : vw_C} (hv : vwCl[c]? = some r) (hk : k < r.2.2) : defaultValue (tyc c k) = cv G (fvl (mN M) c (mK M + 1) k) := by
  have ht := tag_of hv hk
  obtain ⟨r1, r2, r3⟩ := mN_new (M := M) (j := k)
  unfold fvl
  rw [r1, r2, r3]
  generalize tyc c k = ty at ht ⊢
  generalize hq : (ft c k).1 = t at ht ⊢
  match t, ht with
  | 0, ht => rw [tag0 ht]; rfl
  | 1, ht => rw [tag1 ht]; rfl
  | 2, ht => cases ty <;> first | rfl | (simp [tagOK] at ht)
  | 3, ht => rw [tag3 ht]; rfl
  | t + 4, ht => cases ty <;> simp [tagOK] at ht
section AL
variable {G : Ctx} {X : Xt} {own : String} {cc : ByteArray} {nL : Nat} {ret : Option FieldType} {cells slots : Nat} {Q : State → Prop} {pc x : Nat} {lv : List (Nat × Value)} {st : List Value} {M : Mem}
theorem V.new (F : Fx G X own cc nL ret) {c : Nat} {r : vw_C} (hd : decode cc pc = .ok (.new x, 3)) (hv : vwCl[c]? = some r) (hs : (SH (mK M + 1)).1 = c + 1) (hl1 : Cond.classLink own x r.1 ∈ TB) (hl2 : Cond.instantiable r.1 r.2.2 ∈ TB) (hl3 : Cond.initialized r.1 ∈ TB) (hc1 : cells + 1 ≤ X.2.2.2.1.cells) (hc2 : slots + r.2.2 ≤ X.2.2.2.1.slots)
    (k : V G X nL (cells + 1) (slots + r.2.2) Q (pc + 3) lv (.ref (mK M + 1) :: st) (mN M)) : V G X nL cells slots Q pc lv st M := by
  intro H locs ls hl hR hS
  obtain ⟨p, l, e, R, s, m, args, below, meth, c0⟩ := X
  obtain ⟨hx, hb, hml, hown, hts, hK, hr, hlocks, hZ⟩ := F
  obtain ⟨h1, h2, h3⟩ := clOK hv
  have hKn := hK.1.1 c _ hv
  refine W.newcK hx hb hown (hts _ hl1) (hts _ hl2) (hts _ hl3) rfl hd hc1 hc2 hKn.2.1 rfl fun H1 kC hkC e1 z1 o1 => ?_
  have had : ad G (mK M + 1) = H.size := by rw [hR.1]; rfl
  have hc : cAt G (mN M) H1 (mK M + 1) := by
    refine ⟨fun c' r' hs' hv' => ?_, fun h20 => ?_⟩
    · have ec : c' = c := by omega
      subst ec
      cases hv.symm.trans hv'
      rw [had]
      exact t_OB.to (u_born (tyc c') hts h1 hKn hkC e1 h2) (fun j hj => fvl_new hv hj)
    · have h8 : c < 8 := (List.getElem?_eq_some_iff.mp hv).1
      omega
  have hw := k H1 locs ls hl (hR.more z1 (fun q h => o1 q h) hc) ⟨Nat.le_trans hS.1 (by omega), fun q h1 h2 => (o1 q (Nat.lt_of_lt_of_le h1 hS.1)).trans (hS.2.1 q h1 h2), hS.2.2⟩
  rw [← had]
  exact hw
theorem avl_new {M : Mem} {kd j : Nat} : avl (mN M) kd (mK M + 1) j = if kd < 22 then .int 0 else if kd = 22 then .long 0 else .null := by
  obtain ⟨r1, r2, r3⟩ := mN_new (M := M) (j := j)
  unfold avl
  rw [r1, r2, r3]
  rfl
theorem cAt_arr {H1 : Heap} {kd n : Nat} {dv : Value} (h20 : 20 ≤ kd) (hs : SH (mK M + 1) = (kd, n)) (e1 : H1[ad G (mK M + 1)]? = some (arrV (G.2.2.2 kd) n (fun _ => dv))) (hdv : cv G (if kd < 22 then .int 0 else if kd = 22 then .long 0 else .null) = dv) : cAt G (mN M) H1 (mK M + 1) := by
  refine ⟨fun c' r' hs' hv' => ?_, fun _ => ?_⟩
  · have h8 : c' < 8 := (List.getElem?_eq_some_iff.mp hv').1
    rw [hs] at hs'
    simp at hs'
    omega
  · rw [e1, hs]
    congr 2
    funext j
    rw [avl_new, hdv]
theorem V.newarr (F : Fx G X own cc nL ret) {kd n : Nat} {at_ : ArrayType} {i : Int32} (hd : decode cc pc = .ok (.newarray at_, 2)) (hs : SH (mK M + 1) = (kd, n)) (hk : (kd = 20 ∧ at_ = .int) ∨ (kd = 21 ∧ at_ = .boolean) ∨ (kd = 22 ∧ at_ = .long)) (hi : ¬ i < 0) (hn : i.toNatClampNeg = n) (hn2 : n ≤ 60000) (hc1 : cells + 1 ≤ X.2.2.2.1.cells) (hc2 : slots + n ≤ X.2.2.2.1.slots) (ha : Cond.arrayClass (newarray.typeOf at_) ∈ TB)
    (k : V G X nL (cells + 1) (slots + n) Q (pc + 2) lv (.ref (mK M + 1) :: st) (mN M)) : V G X nL cells slots Q pc lv (.int i :: st) M := by
  intro H locs ls hl hR hS
  obtain ⟨p, l, e, R, s, m, args, below, meth, c0⟩ := X
  obtain ⟨hx, hb, hml, hown, hts, hK, hr, hlocks, hZ⟩ := F
  have hby : n * componentBytes (newarray.typeOf at_) ≤ 536870912 := by
    have : componentBytes (newarray.typeOf at_) ≤ 8 := by cases at_ <;> decide
    exact Nat.le_trans (Nat.mul_le_mul hn2 this) (by decide)
  refine va_newaK hx hb (hts _ ha) rfl hd rfl hi hn hby hc1 hc2 rfl fun H1 cA e1 z1 o1 hAr hNm => ?_
  have had : ad G (mK M + 1) = H.size := by rw [hR.1]; rfl
  have hkd : 20 ≤ kd ∧ kd ≤ 28 := by rcases hk with ⟨h, -⟩ | ⟨h, -⟩ | ⟨h, -⟩ <;> omega
  have hcA : cA = G.2.2.2 kd := by
    have h9 := (hK.2.1 kd hkd.1 hkd.2).2
    rcases hk with ⟨rfl, rfl⟩ | ⟨rfl, rfl⟩ | ⟨rfl, rfl⟩ <;> exact Option.some.inj (hNm.symm.trans h9)
  have hc : cAt G (mN M) H1 (mK M + 1) := by
    refine cAt_arr hkd.1 hs (dv := defaultValue (newarray.typeOf at_)) (by rw [had, e1, hcA]) ?_
    rcases hk with ⟨rfl, rfl⟩ | ⟨rfl, rfl⟩ | ⟨rfl, rfl⟩ <;> rfl
  have hw := k H1 locs ls hl (hR.more z1 (fun q h => o1 q h) hc) ⟨Nat.le_trans hS.1 (by omega), fun q h1 h2 => (o1 q (Nat.lt_of_lt_of_le h1 hS.1)).trans (hS.2.1 q h1 h2), hS.2.2⟩
  rw [← had]
  exact hw
theorem V.anew (F : Fx G X own cc nL ret) {kd n : Nat} {C : String} {i : Int32} (hd : decode cc pc = .ok (.anewarray x, 3)) (hs : SH (mK M + 1) = (kd, n)) (hk : (23 ≤ kd ∧ kd ≤ 26 ∧ C = RX1) ∨ (kd = 27 ∧ C = RX3)) (hi : ¬ i < 0) (hn : i.toNatClampNeg = n) (hn2 : n ≤ 60000) (hc1 : cells + 1 ≤ X.2.2.2.1.cells) (hc2 : slots + n ≤ X.2.2.2.1.slots) (ha : Cond.classLink own x C ∈ TB)
    (k : V G X nL (cells + 1) (slots + n) Q (pc + 3) lv (.ref (mK M + 1) :: st) (mN M)) : V G X nL cells slots Q pc lv (.int i :: st) M := by
  subst hn
  intro H locs ls hl hR hS
  obtain ⟨p, l, e, R, s, m, args, below, meth, c0⟩ := X
  obtain ⟨hx, hb, hml, hown, hts, hK, hr, hlocks, hZ⟩ := F
  have hover : (Cond.arrayOver (.object C)).before args s = true := by
    rcases hk with ⟨-, -, rfl⟩ | ⟨-, rfl⟩
    · exact va_AO.use hK.2.2.2.1
    · exact va_AO.use hK.2.2.2.2.1
  have hkd : 23 ≤ kd ∧ kd ≤ 28 ∧ aty kd = .object C := by
    rcases hk with ⟨h1, h2, rfl⟩ | ⟨rfl, rfl⟩
    · refine ⟨h1, by omega, ?_⟩
      rcases (show kd = 23 ∨ kd = 24 ∨ kd = 25 ∨ kd = 26 by omega) with rfl | rfl | rfl | rfl <;> rfl
    · exact ⟨by decide, by decide, rfl⟩
  refine W.anew hx hb hown (hts _ ha) hover rfl hd rfl hi (by omega) hc1 hc2 fun cA kA comp f1 f2 f3 f4 => ?_
  generalize hH1 : H.push ({ cls := cA, slots := Array.replicate i.toNatClampNeg .null, vm := .none } : Cell) = H1
  have z1 : H1.size = H.size + 1 := by rw [← hH1, Array.size_push]
  have e1 : H1[H.size]? = some (arrV cA i.toNatClampNeg (fun _ => .null)) := by rw [← hH1, Array.getElem?_push_size, ← arrV_new]
  have o1 : ∀ q, q < H.size → H1[q]? = H[q]? := fun q hq => by rw [← hH1, Array.getElem?_push_lt hq, Array.getElem?_eq_getElem hq]
  have had : ad G (mK M + 1) = H.size := by rw [hR.1]; rfl
  have hcA : cA = G.2.2.2 kd := by
    have h9 := (hK.2.1 kd (by omega) (by omega)).2
    rw [hkd.2.2] at h9
    obtain ⟨-, -, -, -, -, h9⟩ := h9
    exact Option.some.inj (f1.symm.trans h9)
  have hc : cAt G (mN M) H1 (mK M + 1) := cAt_arr (by omega) hs (dv := .null) (by rw [had, e1, hcA]) (by rw [if_neg (by omega), if_neg (by omega)]; rfl)
  have hw := k H1 locs ls hl (hR.more z1 o1 hc) ⟨Nat.le_trans hS.1 (by omega), fun q h1 h2 => (o1 q (Nat.lt_of_lt_of_le h1 hS.1)).trans (hS.2.1 q h1 h2), hS.2.2⟩
  rw [← had]
  exact hw
/-- a final reference field, in a constructor -/
theorem V.putR (F : Fx G X own cc nL ret) {a c j : Nat} {r : vw_C} (hin : X.2.2.2.2.2.2.2.2.1.name = "<init>") (hd : decode cc pc = .ok (.putfield x, 3)) (hv : vwCl[c]? = some r) (hj : j < r.2.2) (ho : isO M a c) (ht : (ft c j).1 = 2) (hl1 : Cond.fieldLink own x (r.2.1 j).1 (r.2.1 j).2.1 (r.2.1 j).2.2.1 ∈ TB) (hfin : (r.2.1 j).2.2.2 = true) (hdecl : (r.2.1 j).1 = own)
    (k : V G X nL cells slots Q (pc + 3) lv st (uB M a j)) : V G X nL cells slots Q pc lv (.ref (a + (ft c j).2) :: .ref a :: st) M := by
  intro H locs ls hl hR hS
  obtain ⟨p, l, e, R, s, m, args, below, meth, c0⟩ := X
  obtain ⟨hx, hb, hml, hown, hts, hK, hr, hlocks, hZ⟩ := F
  have hap := va_ap hts hK hv
  obtain ⟨cell, q1, q2, q3, q4⟩ := (hR.2.1 a ho.2.1 ho.2.2).1 c _ ho.1 hv
  obtain ⟨h1, h2, h3⟩ := clOK hv
  obtain ⟨hS9, hfc, kC, hkC, hkind⟩ := hK.1.1 c _ hv
  obtain ⟨cf, kf, fi, f, hi, hsl⟩ := hS9 j hj
  have hlay := hts _ (h1 _ (u_in_lay hj))
  unfold u_lay at hlay
  rw [if_pos hfin] at hlay
  have hst := (u_facts hfc hkC (u_lays hts h1 hj) hi).1
  have hcf : m.cls = cf := by
    obtain ⟨_, _, c', _, _, _, -, -, hf', -, -, -, hown2, -⟩ := Cond.laysFinal_spec hlay
    have e1 : c' = cf := by have := hi.symm.trans hf'; simp at this; exact this.1.symm
    rw [hdecl] at hown2
    rw [← e1]; exact Option.some.inj (hown.symm.trans hown2)
  have htag := tag_of hv hj
  rw [ht] at htag
  have hty : ∀ q, narrow (tyc c j) (.ref q) = .ref q ∧ fits (tyc c j) (.ref q) = true := by
    generalize tyc c j = ty at htag
    intro q
    cases ty <;> first | exact ⟨rfl, rfl⟩ | (simp [tagOK] at htag)
  have h6 := u_fits hfc hkC hkind (Or.inr hlay) hi (h2 j hj) (hty (ad G (a + (ft c j).2))).1 (hty _).2
  refine W.putFinK hx hb hown (hts _ hl1) hi hst hcf hin (by rw [q2]; exact h6) q1 q3 (by rw [hsl]; exact k2_hasslot (q4 j hj)) rfl rfl hd fun H' e1 e2 e3 => ?_
  rw [hsl] at e1 ⊢
  have hc : cAt G (uB M a j) H' a := cAt.put ho.1 hv hap hj q2 q3 q4 (by rw [fvl_2 ht mB_uB]; exact e1) (fun i hi => fvl_ne (uB_M.2 a i (Or.inr hi)))
  exact k H' _ ls hl (hR.upd ho.2.1 e2 e3 uB_M.1 (fun b hb i => uB_M.2 b i (Or.inl hb)) hc hR.2.2.pB) (hS.put e2 e3 (A_ad ho.2.1))
/-- a place of an array of references is set -/
theorem V.aast (F : Fx G X own cc nL ret) {a kd c : Nat} {r : vw_C} {i : Int32} (hd : decode cc pc = .ok (.aastore, 1)) (h : isA M a kd i) (hk : 23 ≤ kd ∧ kd ≤ 27) (hv : vwCl[c]? = some r) (hty : aty kd = .object r.1) (ho : isO M (el kd a i.toNatClampNeg) c)
    (k : V G X nL cells slots Q (pc + 1) lv st (uB M a i.toNatClampNeg)) : V G X nL cells slots Q pc lv (.ref (el kd a i.toNatClampNeg) :: .int i :: .ref a :: st) M := by
  intro H locs ls hl hR hS
  obtain ⟨p, l, e, R, s, m, args, below, meth, c0⟩ := X
  obtain ⟨hx, hb, hml, hown, hts, hK, hr, hlocks, hZ⟩ := F
  have hlt := vin_lt h.2.2.2
  have h0 : ¬ i < 0 := fun q => h.2.2.2 (Or.inl q)
  obtain ⟨cellV, g1, g2, g3, -⟩ := (hR.2.1 _ ho.2.1 ho.2.2).1 c _ ho.1 hv
  have hcls := (hK.1.1 c _ hv).2
  have hRA := (hK.2.1 kd (by omega) (by omega)).2
  rw [hty] at hRA
  obtain ⟨kA, comp, k1, k2, k3, -⟩ := hRA
  have hcomp : comp = G.2.2.1.1 c := Option.some.inj (k3.symm.trans hcls.1)
  subst hcomp
  obtain ⟨hf1, kC, hkC, hkind⟩ := id hcls
  refine W.aast (v := ad G (el kd a i.toNatClampNeg)) (t := .object r.1) hx hb (arr_at hR h (by omega)) (fun q => by intro z; cases z) (fun z => by cases z) k1 k2 rfl hkC ⟨h0, by show _ < (arrV _ _ _).slots.size; rw [arrV_size]; exact hlt⟩ g1 (fun q => by rw [g3]; intro z; cases z) (by rw [g2]; exact hkC) (by rw [g2]; exact va_assign hcls) rfl rfl hd (fun H' e1 e2 e3 => ?_)
  exact k H' _ ls hl (rep_ast (M' := uB M _ _) hR h.1 h.2.1 (by omega) e1 e2 e3 ⟨uB_M.1, uB_M.2, by simp only [avl]; rw [if_neg (by omega), if_neg (by omega), if_pos mB_uB]; rfl⟩ hR.2.2.pB) (hS.put e2 e3 (A_ad h.2.1))
theorem oi_code : Cond.code Lib.objectInit ⟨#[0xb1]⟩ 1 none ∈ TB := by decide +kernel
theorem oi_inst : Cond.instanceMethod Lib.objectInit ∈ TB := by decide +kernel
theorem V.objInit (F : Fx G X own cc nL ret) {a : Nat} (hd : decode cc pc = .ok (.invokespecial x, 3)) (hlk : Cond.methodLink own x Lib.objectInit ∈ TB) (hRm : RmOK X.2.2.2.1 0 0) (hw : (st.map fun v => v.category).sum ≤ 8) (k : V G X nL cells slots Q (pc + 3) lv st M) : V G X nL cells slots Q pc lv (.ref a :: st) M := by
  intro H locs ls hl hR hS
  obtain ⟨p, l, e, R, s, m, args, below, meth, c0⟩ := X
  obtain ⟨hx, hb, hml, hown, hts, hK, hr, hlocks, hZ⟩ := F
  refine W.objInit hx hb hown (hts _ hlk) (hts _ oi_inst) (hts _ oi_code) rfl (hl.1.trans hml.symm) rfl hd (by have := hRm.1; omega) ?_ (k H locs ls hl hR hS)
  show 2 * 0 + _ + 12 ≤ R.locals
  rw [List.map_map]
  simp only [Function.comp_def, cv_cat]
  have h9 : 22 + 0 + 50 * 0 ≤ R.locals := hRm.2
  omega
/-- a boolean of an object, of an array -/
theorem V.bool (a k : Nat) (hb : bl a k = true) (kk : (mI M a k = 0 ∨ mI M a k = 1) → V G X nL cells slots Q pc lv st M) : V G X nL cells slots Q pc lv st M := fun H locs ls hl hR hS => kk (hR.2.2 a k hb) H locs ls hl hR hS
theorem bl_o {a c k : Nat} (h : isO M a c) (ht : (ft c k).1 = 3) : bl a k = true := by
  unfold bl
  rw [h.1, Nat.add_sub_cancel, ht]
  simp
theorem bl_a {a k : Nat} {i : Int32} (h : isA M a 21 i) : bl a k = true := by
  unfold bl
  rw [h.1]
  simp
end AL
