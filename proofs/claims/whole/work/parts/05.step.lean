theorem vin_lt {i : Int32} {n : Nat} (h : vp_in i n) : i.toNatClampNeg < n := Nat.not_le.mp fun q => h (Or.inr q)
set_option maxHeartbeats 4000000 in
theorem sx1_ok {G : Ctx} {X : Xt} {own : String} {cc : ByteArray} {nL : Nat} {ret : Option FieldType} {cells slots : Nat} {Q : State → Prop} {pc : Nat} {lv lv' : List (Nat × Value)} {st st' : List Value} {M M' : Mem} {C : Prop} {fl : Nat → Option (Nat × Nat)} {cj : Nat → Option Int64} {i : Instr}
    (F : Fx G X own cc nL ret) (hfl : FlOK own fl) (hcj : CjOK own cj) (hd : decode cc pc = .ok (i, ilen i)) (h : sx1 fl cj nL pc i lv st M = some (lv', st', M', C)) (hC : C) (k : V G X nL cells slots Q (npc i pc) lv' st' M') : V G X nL cells slots Q pc lv st M := by
  intro H locs ls hl hR hS
  obtain ⟨p, l, e, R, s, m, args, below, meth, c0⟩ := X
  obtain ⟨hx, hb, hml, hown, hts, hK, hret, hlocks, hZ⟩ := F
  unfold sx1 at h
  split at h
  · cases h
    exact lv_null hx hb hd (k H locs ls hl hR hS)
  · cases h
    exact lv_iconst hx hb hd rfl (k H locs ls hl hR hS)
  · cases h
    exact lv_bipush hx hb hd rfl (k H locs ls hl hR hS)
  · cases h
    exact lv_sipush hx hb hd rfl (k H locs ls hl hR hS)
  · cases h
    exact lv_lconst hx hb hd rfl (k H locs ls hl hR hS)
  · split at h
    · rename_i e
      cases h
      exact lv_ldc2 hx hb hown (hts _ (hcj _ _ e)) hd (k H locs ls hl hR hS)
    · cases h
  · split at h
    · rename_i e
      cases h
      exact lv_iload_n hx hb hd rfl (lk_at hl e) (k H locs ls hl hR hS)
    · cases h
  · split at h
    · rename_i e
      cases h
      exact lv_iload hx hb hd (lk_at hl e) (k H locs ls hl hR hS)
    · cases h
  · split at h
    · rename_i e
      cases h
      exact lv_lload_n hx hb hd rfl (lk_at hl e) (k H locs ls hl hR hS)
    · cases h
  · split at h
    · rename_i e
      cases h
      exact lv_lload hx hb hd (lk_at hl e) (k H locs ls hl hR hS)
    · cases h
  · split at h
    · rename_i e
      cases h
      exact lv_aload_n hx hb hd rfl (lk_at hl e) (k H locs ls hl hR hS)
    · rename_i e
      cases h
      exact lv_aload_nN hx hb hd rfl (lk_at hl e) (k H locs ls hl hR hS)
    · cases h
  · split at h
    · rename_i e
      cases h
      exact lv_aload hx hb hd (lk_at hl e) (k H locs ls hl hR hS)
    · rename_i e
      cases h
      exact lv_aloadN hx hb hd (lk_at hl e) (k H locs ls hl hR hS)
    · cases h
  · split at h
    · cases h
      exact lv_istore_n hx hb hd rfl hl hC (s1_map G lv _ (.int _)) (fun ls' hl' => k H locs ls' hl' hR hS)
    · cases h
  · split at h
    · cases h
      exact lv_istore hx hb hd hl hC (s1_map G lv _ (.int _)) (fun ls' hl' => k H locs ls' hl' hR hS)
    · cases h
  · split at h
    · cases h
      exact lv_lstore_n hx hb hd rfl hl hC (s2_map G lv _ (.long _)) (fun ls' hl' => k H locs ls' hl' hR hS)
    · cases h
  · split at h
    · cases h
      exact lv_lstore hx hb hd hl hC (s2_map G lv _ (.long _)) (fun ls' hl' => k H locs ls' hl' hR hS)
    · cases h
  · split at h
    · cases h
      exact lv_astore_n hx hb hd rfl hl hC (s1_map G lv _ (.ref _)) (fun ls' hl' => k H locs ls' hl' hR hS)
    · cases h
      exact lv_astore_nN hx hb hd rfl hl hC (s1_map G lv _ .null) (fun ls' hl' => k H locs ls' hl' hR hS)
    · cases h
  · split at h
    · cases h
      exact lv_astore hx hb hd hl hC (s1_map G lv _ (.ref _)) (fun ls' hl' => k H locs ls' hl' hR hS)
    · cases h
      exact lv_astoreN hx hb hd hl hC (s1_map G lv _ .null) (fun ls' hl' => k H locs ls' hl' hR hS)
    · cases h
  · split at h
    · rename_i e
      cases h
      obtain ⟨j, hj⟩ := List.getElem?_of_mem (List.mem_map.mpr ⟨_, lk_mem e, rfl⟩ : _ ∈ lv.map fun q => (q.1, cv G q.2))
      exact lv_iinc hx hb hd hl hj rfl hC (s1_map G lv _ (.int _)) (fun ls' hl' => k H locs ls' hl' hR hS)
    · cases h
  · split at h
    · cases h
      exact lv_iadd hx hb hd (k H locs ls hl hR hS)
    · cases h
  · split at h
    · cases h
      exact lv_isub hx hb hd (k H locs ls hl hR hS)
    · cases h
  · split at h
    · cases h
      exact lv_imul hx hb hd (k H locs ls hl hR hS)
    · cases h
  · split at h
    · cases h
      exact lv_idiv hx hb hd hC (k H locs ls hl hR hS)
    · cases h
  · split at h
    · cases h
      exact lv_irem hx hb hd hC (k H locs ls hl hR hS)
    · cases h
  · split at h
    · cases h
      exact lv_iand hx hb hd (k H locs ls hl hR hS)
    · cases h
  · split at h
    · cases h
      exact lv_ishl hx hb hd (k H locs ls hl hR hS)
    · cases h
  · split at h
    · cases h
      exact lv_ladd hx hb hd (k H locs ls hl hR hS)
    · cases h
  · split at h
    · cases h
      exact lv_lsub hx hb hd (k H locs ls hl hR hS)
    · cases h
  · split at h
    · cases h
      exact lv_lmul hx hb hd (k H locs ls hl hR hS)
    · cases h
  · split at h
    · cases h
      exact lv_ldiv hx hb hd hC (k H locs ls hl hR hS)
    · cases h
  · split at h
    · cases h
      exact lv_lrem hx hb hd hC (k H locs ls hl hR hS)
    · cases h
  · split at h
    · cases h
      exact lv_land hx hb hd (k H locs ls hl hR hS)
    · cases h
  · split at h
    · cases h
      exact lv_lor hx hb hd (k H locs ls hl hR hS)
    · cases h
  · split at h
    · cases h
      exact lv_lxor hx hb hd (k H locs ls hl hR hS)
    · cases h
  · split at h
    · cases h
      exact lv_lshl hx hb hd rfl (k H locs ls hl hR hS)
    · cases h
  · split at h
    · cases h
      exact lv_lshr hx hb hd rfl (k H locs ls hl hR hS)
    · cases h
  · split at h
    · cases h
      exact lv_lushr hx hb hd rfl (k H locs ls hl hR hS)
    · cases h
  · split at h
    · cases h
      exact lv_lneg hx hb hd (k H locs ls hl hR hS)
    · cases h
  · split at h
    · cases h
      exact lv_i2l hx hb hd rfl (k H locs ls hl hR hS)
    · cases h
  · split at h
    · cases h
      exact lv_l2i hx hb hd rfl (k H locs ls hl hR hS)
    · cases h
  · split at h
    · cases h
      exact lv_i2b hx hb hd rfl (k H locs ls hl hR hS)
    · cases h
  · split at h
    · cases h
      exact lv_i2s hx hb hd rfl (k H locs ls hl hR hS)
    · cases h
  · split at h
    · cases h
      exact W.lcmp hx hb hd (k H locs ls hl hR hS)
    · cases h
  · split at h
    · cases h
      exact lv_dup hx hb hd rfl (k H locs ls hl hR hS)
    · cases h
      exact lv_dup hx hb hd rfl (k H locs ls hl hR hS)
    · cases h
  · split at h
    · cases h
      exact lv_dup2_2 hx hb hd rfl (k H locs ls hl hR hS)
    · cases h
      exact lv_dup2_11 hx hb hd rfl rfl (k H locs ls hl hR hS)
    · cases h
  · cases h
    exact lv_goto hx hb hd (by simp only [npc]; rw [Int.toNat_of_nonneg hC]) (k H locs ls hl hR hS)
  · split at h
    · rename_i c j e
      obtain ⟨r, hv, hk, hlk, -⟩ := hfl _ _ _ e
      split at h
      · split at h
        · rename_i et
          cases h
          refine w_get hx hb hts hK hown hR hC hv hk hlk hd ?_
          rw [fvl_1 et]
          exact k H locs ls hl hR hS
        · rename_i et
          cases h
          refine w_get hx hb hts hK hown hR hC.1 hv hk hlk hd ?_
          rw [fvl_2 et hC.2]
          exact k H locs ls hl hR hS
        · rename_i e1 e2
          cases h
          refine w_get hx hb hts hK hown hR hC hv hk hlk hd ?_
          rw [fvl_0 (fun q => e1 q) (fun q => e2 q)]
          exact k H locs ls hl hR hS
      · cases h
    · cases h
  · split at h
    · rename_i c j e
      obtain ⟨r, hv, hk, hlk, hfin⟩ := hfl _ _ _ e
      have htag := tag_of hv hk
      split at h
      · rename_i et
        rw [et] at htag hfin
        split at h
        · cases h
          refine w_put (M' := uI M _ j _) hx hb hts hK hown hR hS hC hv hk hlk (hfin (by decide)) (by rw [tag0 htag]; rfl) (by rw [tag0 htag]; rfl) hd ⟨uI_M.1, uI_M.2, by rw [fvl_0 (by rw [et]; decide) (by rw [et]; decide), mI_uI]⟩ (hR.2.2.pI (fun q => absurd q (bl_n hC.1 (List.getElem?_eq_some_iff.mp hv).1 (by rw [et]; decide)))) (fun H1 locs1 hR1 hS1 => k H1 locs1 ls hl hR1 hS1)
        · cases h
      · rename_i et
        rw [et] at htag hfin
        split at h
        · cases h
          refine w_put (M' := uL M _ j _) hx hb hts hK hown hR hS hC hv hk hlk (hfin (by decide)) (by rw [tag1 htag]; rfl) (by rw [tag1 htag]; rfl) hd ⟨uL_M.1, uL_M.2, by rw [fvl_1 et, mL_uL]⟩ hR.2.2.pL (fun H1 locs1 hR1 hS1 => k H1 locs1 ls hl hR1 hS1)
        · cases h
      · rename_i et
        rw [et] at htag hfin
        split at h
        · cases h
          refine w_put (M' := uI M _ j _) hx hb hts hK hown hR hS hC.1 hv hk hlk (hfin (by decide)) (by rw [tag3 htag]; exact nar_b hC.2) (by rw [tag3 htag]; rcases hC.2 with e | e <;> rw [e] <;> rfl) hd ⟨uI_M.1, uI_M.2, by rw [fvl_0 (by rw [et]; decide) (by rw [et]; decide), mI_uI]⟩ (hR.2.2.pI (fun _ => hC.2)) (fun H1 locs1 hR1 hS1 => k H1 locs1 ls hl hR1 hS1)
        · cases h
      · cases h
    · cases h
  · split at h
    · cases h
      have hlt := vin_lt hC.2.2.2
      exact W.iald hx hb (arr_at hR hC (by decide)) ((hK.2.1 20 (by decide) (by decide)).1 _ _) (fun q => by cases q) (by show ¬ (_ < 0 ∨ (arrV _ _ _).slots.size ≤ _); rw [arrV_size]; exact hC.2.2.2) (by show (arrV _ _ _).slots[_]? = _; rw [arrV_read _ _ hlt]; rfl) rfl rfl hd (k H locs ls hl hR hS)
    · cases h
  · split at h
    · cases h
      have hlt := vin_lt hC.2.2.2
      exact W.zald hx hb (arr_at hR hC (by decide)) ((hK.2.1 21 (by decide) (by decide)).1 _ _) (fun q => by cases q) (by show ¬ (_ < 0 ∨ (arrV _ _ _).slots.size ≤ _); rw [arrV_size]; exact hC.2.2.2) (by show (arrV _ _ _).slots[_]? = _; rw [arrV_read _ _ hlt]; rfl) rfl rfl hd (k H locs ls hl hR hS)
    · cases h
  · split at h
    · cases h
      have hlt := vin_lt hC.2.2.2
      exact W.lald hx hb (arr_at hR hC (by decide)) ((hK.2.1 22 (by decide) (by decide)).1 _ _) (fun q => by cases q) (by show ¬ (_ < 0 ∨ (arrV _ _ _).slots.size ≤ _); rw [arrV_size]; exact hC.2.2.2) (by show (arrV _ _ _).slots[_]? = _; rw [arrV_read _ _ hlt]; rfl) rfl rfl hd (k H locs ls hl hR hS)
    · cases h
  · split at h
    · cases h
      have hlt := vin_lt hC.2.2.2
      refine W.iast hx hb (arr_at hR hC (by decide)) ((hK.2.1 20 (by decide) (by decide)).1 _ _) (fun q => by cases q) (by show ¬ (_ < 0 ∨ (arrV _ _ _).slots.size ≤ _); rw [arrV_size]; exact hC.2.2.2) rfl rfl hd (fun H' e1 e2 e3 => ?_)
      exact k H' _ ls hl (rep_ast (M' := uI M _ _ _) hR hC.1 hC.2.1 (by decide) e1 e2 e3 ⟨uI_M.1, uI_M.2, by simp only [avl]; rw [if_pos (by decide)]; show cv G (.int (mI (uI M _ (ix _) _) _ (ix _))) = _; rw [mI_uI]; rfl⟩ (hR.2.2.pI (fun q => absurd q (bl_20 hC.1)))) (hS.put e2 e3 (A_ad hC.2.1))
    · cases h
  · split at h
    · cases h
      have hlt := vin_lt hC.1.2.2.2
      refine W.zast hx hb (arr_at hR hC.1 (by decide)) ((hK.2.1 21 (by decide) (by decide)).1 _ _) (fun q => by cases q) (by show ¬ (_ < 0 ∨ (arrV _ _ _).slots.size ≤ _); rw [arrV_size]; exact hC.1.2.2.2) rfl rfl hd (fun H' e1 e2 e3 => ?_)
      rw [nar_b hC.2] at e1
      exact k H' _ ls hl (rep_ast (M' := uI M _ _ _) hR hC.1.1 hC.1.2.1 (by decide) e1 e2 e3 ⟨uI_M.1, uI_M.2, by simp only [avl]; rw [if_pos (by decide)]; show cv G (.int (mI (uI M _ (ix _) _) _ (ix _))) = _; rw [mI_uI]; rfl⟩ (hR.2.2.pI (fun _ => hC.2))) (hS.put e2 e3 (A_ad hC.1.2.1))
    · cases h
  · split at h
    · cases h
      have hlt := vin_lt hC.2.2.2
      refine W.last hx hb (arr_at hR hC (by decide)) ((hK.2.1 22 (by decide) (by decide)).1 _ _) (fun q => by cases q) (by show ¬ (_ < 0 ∨ (arrV _ _ _).slots.size ≤ _); rw [arrV_size]; exact hC.2.2.2) rfl rfl hd (fun H' e1 e2 e3 => ?_)
      exact k H' _ ls hl (rep_ast (M' := uL M _ _ _) hR hC.1 hC.2.1 (by decide) e1 e2 e3 ⟨uL_M.1, uL_M.2, by simp only [avl]; rw [if_neg (by decide), if_pos (by trivial)]; show cv G (.long (mL (uL M _ (ix _) _) _ (ix _))) = _; rw [mL_uL]; rfl⟩ hR.2.2.pL) (hS.put e2 e3 (A_ad hC.2.1))
    · cases h
  · cases h
def sxs (fl : Nat → Option (Nat × Nat)) (cj : Nat → Option Int64) (nL : Nat) : List Instr → Nat → List (Nat × Value) → List Value → Mem → Option (Nat × List (Nat × Value) × List Value × Mem × Prop)
  | [], pc, lv, st, M => some (pc, lv, st, M, True)
  | i :: is, pc, lv, st, M => match sx1 fl cj nL pc i lv st M with
    | some (lv', st', M', C) => match sxs fl cj nL is (npc i pc) lv' st' M' with
      | some (pc2, lv2, st2, M2, C2) => some (pc2, lv2, st2, M2, C ∧ C2)
      | none => none
    | none => none
def decs (cc : ByteArray) : List Instr → Nat → Bool
  | [], _ => true
  | i :: is, pc => decide (decode cc pc = .ok (i, ilen i)) && decs cc is (npc i pc)
/-- a straight stretch as one step -/
theorem V.seg {G : Ctx} {X : Xt} {own : String} {cc : ByteArray} {nL : Nat} {ret : Option FieldType} {cells slots : Nat} {Q : State → Prop} {M2 : Mem} {fl : Nat → Option (Nat × Nat)} {cj : Nat → Option Int64} {pc2 : Nat} {lv2 : List (Nat × Value)} {st2 : List Value}
    (F : Fx G X own cc nL ret) (hfl : FlOK own fl) (hcj : CjOK own cj) : ∀ (is : List Instr) {pc : Nat} {lv : List (Nat × Value)} {st : List Value} {M : Mem} {C : Prop}, decs cc is pc = true → sxs fl cj nL is pc lv st M = some (pc2, lv2, st2, M2, C) → C → V G X nL cells slots Q pc2 lv2 st2 M2 → V G X nL cells slots Q pc lv st M
  | [], pc, lv, st, M, C, _, h, _, k => by
    simp only [sxs] at h
    cases h
    exact k
  | i :: is, pc, lv, st, M, C, hd, h, hC, k => by
    simp only [decs, Bool.and_eq_true, decide_eq_true_eq] at hd
    simp only [sxs] at h
    split at h
    · rename_i lv1 st1 M1 C1 e1
      split at h
      · rename_i pc3 lv3 st3 M3 C3 e3
        cases h
        exact sx1_ok F hfl hcj hd.1 e1 hC.1 (V.seg F hfl hcj is hd.2 e3 hC.2 k)
      · cases h
    · cases h
