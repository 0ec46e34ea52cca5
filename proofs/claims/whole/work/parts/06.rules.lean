section BR
variable {G : Ctx} {X : Xt} {own : String} {cc : ByteArray} {nL : Nat} {ret : Option FieldType} {cells slots : Nat} {Q : State → Prop} {pc tgt : Nat} {lv : List (Nat × Value)} {st : List Value} {M : Mem} {off : Int}
theorem V.if_eq (F : Fx G X own cc nL ret) {x : Int32} (hd : decode cc pc = .ok (.ifCond .eq off, 3)) (ht : (pc : Int) + off = (tgt : Int)) (kt : x = 0 → V G X nL cells slots Q tgt lv st M) (kf : ¬ (x = 0) → V G X nL cells slots Q (pc + 3) lv st M) : V G X nL cells slots Q pc lv (.int x :: st) M := by
  intro H locs ls hl hR hS
  obtain ⟨p, l, e, R, s, m, args, below, meth, c0⟩ := X
  obtain ⟨hx, hb, -⟩ := F
  exact lv_if_eq hx hb hd ht (fun q => kt q H locs ls hl hR hS) (fun q => kf q H locs ls hl hR hS)
theorem V.ic_eq (F : Fx G X own cc nL ret) {x y : Int32} (hd : decode cc pc = .ok (.if_icmp .eq off, 3)) (ht : (pc : Int) + off = (tgt : Int)) (kt : x = y → V G X nL cells slots Q tgt lv st M) (kf : ¬ (x = y) → V G X nL cells slots Q (pc + 3) lv st M) : V G X nL cells slots Q pc lv (.int y :: .int x :: st) M := by
  intro H locs ls hl hR hS
  obtain ⟨p, l, e, R, s, m, args, below, meth, c0⟩ := X
  obtain ⟨hx, hb, -⟩ := F
  exact lv_icmp_eq hx hb hd ht (fun q => kt q H locs ls hl hR hS) (fun q => kf q H locs ls hl hR hS)
theorem V.if_ne (F : Fx G X own cc nL ret) {x : Int32} (hd : decode cc pc = .ok (.ifCond .ne off, 3)) (ht : (pc : Int) + off = (tgt : Int)) (kt : ¬ x = 0 → V G X nL cells slots Q tgt lv st M) (kf : x = 0 → V G X nL cells slots Q (pc + 3) lv st M) : V G X nL cells slots Q pc lv (.int x :: st) M := by
  intro H locs ls hl hR hS
  obtain ⟨p, l, e, R, s, m, args, below, meth, c0⟩ := X
  obtain ⟨hx, hb, -⟩ := F
  exact lv_if_ne hx hb hd ht (fun q => kt q H locs ls hl hR hS) (fun q => kf q H locs ls hl hR hS)
theorem V.ic_ne (F : Fx G X own cc nL ret) {x y : Int32} (hd : decode cc pc = .ok (.if_icmp .ne off, 3)) (ht : (pc : Int) + off = (tgt : Int)) (kt : ¬ x = y → V G X nL cells slots Q tgt lv st M) (kf : x = y → V G X nL cells slots Q (pc + 3) lv st M) : V G X nL cells slots Q pc lv (.int y :: .int x :: st) M := by
  intro H locs ls hl hR hS
  obtain ⟨p, l, e, R, s, m, args, below, meth, c0⟩ := X
  obtain ⟨hx, hb, -⟩ := F
  exact lv_icmp_ne hx hb hd ht (fun q => kt q H locs ls hl hR hS) (fun q => kf q H locs ls hl hR hS)
theorem V.if_lt (F : Fx G X own cc nL ret) {x : Int32} (hd : decode cc pc = .ok (.ifCond .lt off, 3)) (ht : (pc : Int) + off = (tgt : Int)) (kt : x < 0 → V G X nL cells slots Q tgt lv st M) (kf : ¬ (x < 0) → V G X nL cells slots Q (pc + 3) lv st M) : V G X nL cells slots Q pc lv (.int x :: st) M := by
  intro H locs ls hl hR hS
  obtain ⟨p, l, e, R, s, m, args, below, meth, c0⟩ := X
  obtain ⟨hx, hb, -⟩ := F
  exact lv_if_lt hx hb hd ht (fun q => kt q H locs ls hl hR hS) (fun q => kf q H locs ls hl hR hS)
theorem V.ic_lt (F : Fx G X own cc nL ret) {x y : Int32} (hd : decode cc pc = .ok (.if_icmp .lt off, 3)) (ht : (pc : Int) + off = (tgt : Int)) (kt : x < y → V G X nL cells slots Q tgt lv st M) (kf : ¬ (x < y) → V G X nL cells slots Q (pc + 3) lv st M) : V G X nL cells slots Q pc lv (.int y :: .int x :: st) M := by
  intro H locs ls hl hR hS
  obtain ⟨p, l, e, R, s, m, args, below, meth, c0⟩ := X
  obtain ⟨hx, hb, -⟩ := F
  exact lv_icmp_lt hx hb hd ht (fun q => kt q H locs ls hl hR hS) (fun q => kf q H locs ls hl hR hS)
theorem V.if_ge (F : Fx G X own cc nL ret) {x : Int32} (hd : decode cc pc = .ok (.ifCond .ge off, 3)) (ht : (pc : Int) + off = (tgt : Int)) (kt : 0 ≤ x → V G X nL cells slots Q tgt lv st M) (kf : ¬ (0 ≤ x) → V G X nL cells slots Q (pc + 3) lv st M) : V G X nL cells slots Q pc lv (.int x :: st) M := by
  intro H locs ls hl hR hS
  obtain ⟨p, l, e, R, s, m, args, below, meth, c0⟩ := X
  obtain ⟨hx, hb, -⟩ := F
  exact lv_if_ge hx hb hd ht (fun q => kt q H locs ls hl hR hS) (fun q => kf q H locs ls hl hR hS)
theorem V.ic_ge (F : Fx G X own cc nL ret) {x y : Int32} (hd : decode cc pc = .ok (.if_icmp .ge off, 3)) (ht : (pc : Int) + off = (tgt : Int)) (kt : y ≤ x → V G X nL cells slots Q tgt lv st M) (kf : ¬ (y ≤ x) → V G X nL cells slots Q (pc + 3) lv st M) : V G X nL cells slots Q pc lv (.int y :: .int x :: st) M := by
  intro H locs ls hl hR hS
  obtain ⟨p, l, e, R, s, m, args, below, meth, c0⟩ := X
  obtain ⟨hx, hb, -⟩ := F
  exact lv_icmp_ge hx hb hd ht (fun q => kt q H locs ls hl hR hS) (fun q => kf q H locs ls hl hR hS)
theorem V.if_gt (F : Fx G X own cc nL ret) {x : Int32} (hd : decode cc pc = .ok (.ifCond .gt off, 3)) (ht : (pc : Int) + off = (tgt : Int)) (kt : 0 < x → V G X nL cells slots Q tgt lv st M) (kf : ¬ (0 < x) → V G X nL cells slots Q (pc + 3) lv st M) : V G X nL cells slots Q pc lv (.int x :: st) M := by
  intro H locs ls hl hR hS
  obtain ⟨p, l, e, R, s, m, args, below, meth, c0⟩ := X
  obtain ⟨hx, hb, -⟩ := F
  exact lv_if_gt hx hb hd ht (fun q => kt q H locs ls hl hR hS) (fun q => kf q H locs ls hl hR hS)
theorem V.ic_gt (F : Fx G X own cc nL ret) {x y : Int32} (hd : decode cc pc = .ok (.if_icmp .gt off, 3)) (ht : (pc : Int) + off = (tgt : Int)) (kt : y < x → V G X nL cells slots Q tgt lv st M) (kf : ¬ (y < x) → V G X nL cells slots Q (pc + 3) lv st M) : V G X nL cells slots Q pc lv (.int y :: .int x :: st) M := by
  intro H locs ls hl hR hS
  obtain ⟨p, l, e, R, s, m, args, below, meth, c0⟩ := X
  obtain ⟨hx, hb, -⟩ := F
  exact lv_icmp_gt hx hb hd ht (fun q => kt q H locs ls hl hR hS) (fun q => kf q H locs ls hl hR hS)
theorem V.if_le (F : Fx G X own cc nL ret) {x : Int32} (hd : decode cc pc = .ok (.ifCond .le off, 3)) (ht : (pc : Int) + off = (tgt : Int)) (kt : x ≤ 0 → V G X nL cells slots Q tgt lv st M) (kf : ¬ (x ≤ 0) → V G X nL cells slots Q (pc + 3) lv st M) : V G X nL cells slots Q pc lv (.int x :: st) M := by
  intro H locs ls hl hR hS
  obtain ⟨p, l, e, R, s, m, args, below, meth, c0⟩ := X
  obtain ⟨hx, hb, -⟩ := F
  exact lv_if_le hx hb hd ht (fun q => kt q H locs ls hl hR hS) (fun q => kf q H locs ls hl hR hS)
theorem V.ic_le (F : Fx G X own cc nL ret) {x y : Int32} (hd : decode cc pc = .ok (.if_icmp .le off, 3)) (ht : (pc : Int) + off = (tgt : Int)) (kt : x ≤ y → V G X nL cells slots Q tgt lv st M) (kf : ¬ (x ≤ y) → V G X nL cells slots Q (pc + 3) lv st M) : V G X nL cells slots Q pc lv (.int y :: .int x :: st) M := by
  intro H locs ls hl hR hS
  obtain ⟨p, l, e, R, s, m, args, below, meth, c0⟩ := X
  obtain ⟨hx, hb, -⟩ := F
  exact lv_icmp_le hx hb hd ht (fun q => kt q H locs ls hl hR hS) (fun q => kf q H locs ls hl hR hS)
theorem V.lc_eq (F : Fx G X own cc nL ret) {x y : Int64} (hd : decode cc pc = .ok (.ifCond .eq off, 3)) (ht : (pc : Int) + off = (tgt : Int)) (kt : x = y → V G X nL cells slots Q tgt lv st M) (kf : ¬ (x = y) → V G X nL cells slots Q (pc + 3) lv st M) : V G X nL cells slots Q pc lv (.int (lg_cmp x y) :: st) M :=
  V.if_eq F hd ht (fun q => kt ((lg_cmp_eq x y).mp q)) (fun q => kf (fun z => q ((lg_cmp_eq x y).mpr z)))
theorem V.lc_ne (F : Fx G X own cc nL ret) {x y : Int64} (hd : decode cc pc = .ok (.ifCond .ne off, 3)) (ht : (pc : Int) + off = (tgt : Int)) (kt : ¬ x = y → V G X nL cells slots Q tgt lv st M) (kf : x = y → V G X nL cells slots Q (pc + 3) lv st M) : V G X nL cells slots Q pc lv (.int (lg_cmp x y) :: st) M :=
  V.if_ne F hd ht (fun q => kt ((not_congr (lg_cmp_eq x y)).mp q)) (fun q => kf ((lg_cmp_eq x y).mp q))
theorem V.lc_lt (F : Fx G X own cc nL ret) {x y : Int64} (hd : decode cc pc = .ok (.ifCond .lt off, 3)) (ht : (pc : Int) + off = (tgt : Int)) (kt : x < y → V G X nL cells slots Q tgt lv st M) (kf : ¬ (x < y) → V G X nL cells slots Q (pc + 3) lv st M) : V G X nL cells slots Q pc lv (.int (lg_cmp x y) :: st) M :=
  V.if_lt F hd ht (fun q => kt ((lg_cmp_lt x y).mp q)) (fun q => kf (fun z => q ((lg_cmp_lt x y).mpr z)))
theorem V.lc_ge (F : Fx G X own cc nL ret) {x y : Int64} (hd : decode cc pc = .ok (.ifCond .ge off, 3)) (ht : (pc : Int) + off = (tgt : Int)) (kt : y ≤ x → V G X nL cells slots Q tgt lv st M) (kf : ¬ (y ≤ x) → V G X nL cells slots Q (pc + 3) lv st M) : V G X nL cells slots Q pc lv (.int (lg_cmp x y) :: st) M :=
  V.if_ge F hd ht (fun q => kt ((lg_cmp_ge x y).mp q)) (fun q => kf (fun z => q ((lg_cmp_ge x y).mpr z)))
theorem V.lc_gt (F : Fx G X own cc nL ret) {x y : Int64} (hd : decode cc pc = .ok (.ifCond .gt off, 3)) (ht : (pc : Int) + off = (tgt : Int)) (kt : y < x → V G X nL cells slots Q tgt lv st M) (kf : ¬ (y < x) → V G X nL cells slots Q (pc + 3) lv st M) : V G X nL cells slots Q pc lv (.int (lg_cmp x y) :: st) M :=
  V.if_gt F hd ht (fun q => kt ((lg_cmp_gt x y).mp q)) (fun q => kf (fun z => q ((lg_cmp_gt x y).mpr z)))
theorem V.lc_le (F : Fx G X own cc nL ret) {x y : Int64} (hd : decode cc pc = .ok (.ifCond .le off, 3)) (ht : (pc : Int) + off = (tgt : Int)) (kt : x ≤ y → V G X nL cells slots Q tgt lv st M) (kf : ¬ (x ≤ y) → V G X nL cells slots Q (pc + 3) lv st M) : V G X nL cells slots Q pc lv (.int (lg_cmp x y) :: st) M :=
  V.if_le F hd ht (fun q => kt ((lg_cmp_le x y).mp q)) (fun q => kf (fun z => q ((lg_cmp_le x y).mpr z)))
theorem V.nul_r (F : Fx G X own cc nL ret) {x : Nat} (hd : decode cc pc = .ok (.ifnull off, 3)) (k : V G X nL cells slots Q (pc + 3) lv st M) : V G X nL cells slots Q pc lv (.ref x :: st) M := by
  intro H locs ls hl hR hS
  obtain ⟨p, l, e, R, s, m, args, below, meth, c0⟩ := X
  obtain ⟨hx, hb, -⟩ := F
  exact lv_ifnull hx hb hd (k H locs ls hl hR hS)
theorem V.nul_n (F : Fx G X own cc nL ret) (hd : decode cc pc = .ok (.ifnull off, 3)) (ht : (pc : Int) + off = (tgt : Int)) (k : V G X nL cells slots Q tgt lv st M) : V G X nL cells slots Q pc lv (.null :: st) M := by
  intro H locs ls hl hR hS
  obtain ⟨p, l, e, R, s, m, args, below, meth, c0⟩ := X
  obtain ⟨hx, hb, -⟩ := F
  exact lv_ifnullN hx hb hd ht (k H locs ls hl hR hS)
theorem V.nonnul_r (F : Fx G X own cc nL ret) {x : Nat} (hd : decode cc pc = .ok (.ifnonnull off, 3)) (ht : (pc : Int) + off = (tgt : Int)) (k : V G X nL cells slots Q tgt lv st M) : V G X nL cells slots Q pc lv (.ref x :: st) M := by
  intro H locs ls hl hR hS
  obtain ⟨p, l, e, R, s, m, args, below, meth, c0⟩ := X
  obtain ⟨hx, hb, -⟩ := F
  exact lv_ifnonnull hx hb hd ht (k H locs ls hl hR hS)
theorem V.nonnul_n (F : Fx G X own cc nL ret) (hd : decode cc pc = .ok (.ifnonnull off, 3)) (k : V G X nL cells slots Q (pc + 3) lv st M) : V G X nL cells slots Q pc lv (.null :: st) M := by
  intro H locs ls hl hR hS
  obtain ⟨p, l, e, R, s, m, args, below, meth, c0⟩ := X
  obtain ⟨hx, hb, -⟩ := F
  exact lv_ifnonnullN hx hb hd (k H locs ls hl hR hS)
theorem V.sw_in (F : Fx G X own cc nL ret) {dflt lo hi : Int} {offs : Array Int} {len : Nat} {x : Int32} (hd : decode cc pc = .ok (.tableswitch dflt lo hi offs, len)) (h1 : ¬ x.toInt < lo) (h2 : ¬ hi < x.toInt) (ho : offs[(x.toInt - lo).toNat]? = some off) (ht : (pc : Int) + off = (tgt : Int)) (k : V G X nL cells slots Q tgt lv st M) : V G X nL cells slots Q pc lv (.int x :: st) M := by
  intro H locs ls hl hR hS
  obtain ⟨p, l, e, R, s, m, args, below, meth, c0⟩ := X
  obtain ⟨hx, hb, -⟩ := F
  exact lv_tableIn hx hb hd h1 h2 ho ht (k H locs ls hl hR hS)
theorem V.sw_out (F : Fx G X own cc nL ret) {dflt lo hi : Int} {offs : Array Int} {len : Nat} {x : Int32} (hd : decode cc pc = .ok (.tableswitch dflt lo hi offs, len)) (h : x.toInt < lo ∨ hi < x.toInt) (ht : (pc : Int) + dflt = (tgt : Int)) (k : V G X nL cells slots Q tgt lv st M) : V G X nL cells slots Q pc lv (.int x :: st) M := by
  intro H locs ls hl hR hS
  obtain ⟨p, l, e, R, s, m, args, below, meth, c0⟩ := X
  obtain ⟨hx, hb, -⟩ := F
  exact lv_tableOut hx hb hd h ht (k H locs ls hl hR hS)
/-- a place of an array of references that is set -/
theorem V.aald (F : Fx G X own cc nL ret) {a kd : Nat} {i : Int32} (hd : decode cc pc = .ok (.aaload, 1)) (h : isA M a kd i) (h23 : 23 ≤ kd ∧ kd ≤ 28) (hb1 : mB M a i.toNatClampNeg = true) (k : V G X nL cells slots Q (pc + 1) lv (.ref (el kd a i.toNatClampNeg) :: st) M) : V G X nL cells slots Q pc lv (.int i :: .ref a :: st) M := by
  intro H locs ls hl hR hS
  obtain ⟨p, l, e, R, s, m, args, below, meth, c0⟩ := X
  obtain ⟨hx, hb, hml, hown, hts, hK, -⟩ := F
  have hlt := vin_lt h.2.2.2
  refine W.aald (v := .ref (ad G (el kd a i.toNatClampNeg))) (ty := aty kd) hx hb (arr_at hR h (by omega)) ((hK.2.1 kd (by omega) (by omega)).1 _ _) ?_ (fun q => by cases q) (by show ¬ (_ < 0 ∨ (arrV _ _ _).slots.size ≤ _); rw [arrV_size]; exact h.2.2.2) ?_ rfl rfl hd (k H locs ls hl hR hS)
  · obtain ⟨h1, h2⟩ := h23
    rcases (show kd = 23 ∨ kd = 24 ∨ kd = 25 ∨ kd = 26 ∨ kd = 27 ∨ kd = 28 by omega) with rfl | rfl | rfl | rfl | rfl | rfl <;> rfl
  · show (arrV _ _ _).slots[_]? = _
    rw [arrV_read _ _ hlt]
    simp only [avl]
    rw [if_neg (by omega), if_neg (by omega), if_pos hb1]
    rfl
end BR
/-- a method: its name, code, locals, what it answers -/
abbrev Mth : Type := MethodName × ByteArray × Nat × Option FieldType
def rmd (d mc ms : Nat) : Room := { frames := d, cells := mc, slots := ms, locals := 50 * d }
def wsOf (k : Mth) : List Cond := .code k.1 k.2.1 k.2.2.1 k.2.2.2 :: TB
def PcG (G : Ctx) (as : List Value) (M : Mem) : Array Value → State → Prop := fun v U => v = (as.map (cv G)).toArray ∧ Rep G M U.heap ∧ KS G U
def QcG (G : Ctx) (post : Option Value → Mem → Prop) : Array Value → State → Outcome → State → Prop := fun _ st oc t => ∃ (r : Option Value) (M' : Mem), oc = .returned (r.map (cv G)) ∧ post r M' ∧ Rep G M' t.heap ∧ va_F (fun q => G.1 ≤ q) st t
/-- THE CONTRACT of a method at a memory: with room for D frames (or more), mc cells and ms slots it returns, and 'post' holds of its answer and the memory behind it -/
def CT (G : Ctx) (l : Launch) (D : Nat) (k : Mth) (as : List Value) (M : Mem) (mc ms : Nat) (post : Option Value → Mem → Prop) : Prop :=
  ∀ d, D ≤ d → Met l k.1 (wsOf k) (rmd d mc ms) (PcG G as M) (QcG G post) mc ms (fun q => G.1 ≤ q)
/-- where a walk of a method ends -/
def Qx (G : Ctx) (X : Xt) (mc ms : Nat) (post : Option Value → Mem → Prop) : State → Prop := MQ X.2.2.2.2.2.2.2.1 (QcG G post) X.2.2.2.2.2.2.1 X.2.2.2.2.1 mc ms (fun q => G.1 ≤ q)
section RT
variable {G : Ctx} {X : Xt} {own : String} {cc : ByteArray} {nL : Nat} {cells slots mc ms : Nat} {pc : Nat} {lv : List (Nat × Value)} {M : Mem} {post : Option Value → Mem → Prop}
theorem V.widen {Q : State → Prop} {st : List Value} (h1 : cells ≤ mc) (h2 : slots ≤ ms) (k : V G X nL mc ms Q pc lv st M) : V G X nL cells slots Q pc lv st M := fun H locs ls hl hR hS => W.widen h1 h2 (k H locs ls hl hR hS)
theorem V.iret (F : Fx G X own cc nL (some .int)) {v : Int32} (hd : decode cc pc = .ok (.ireturn, 1)) (hp : post (some (.int v)) M) : V G X nL mc ms (Qx G X mc ms post) pc lv [(.int v)] M := by
  intro H locs ls hl hR hS
  obtain ⟨p, l, e, R, s, m, args, below, meth, c0⟩ := X
  obtain ⟨hx, hb, hml, hown, hts, hK, hr, hlocks, hZ⟩ := F
  exact W.iret hx hb hr (fun t ht hW => ⟨(some (.int v)), M, rfl, hp, by rw [ht]; exact hR, hS.F ht⟩) hS.2.2 hd hlocks
theorem V.zret (F : Fx G X own cc nL (some .boolean)) {v : Int32} (h01 : v = 0 ∨ v = 1) (hd : decode cc pc = .ok (.ireturn, 1)) (hp : post (some (.int v)) M) : V G X nL mc ms (Qx G X mc ms post) pc lv [(.int v)] M := by
  intro H locs ls hl hR hS
  obtain ⟨p, l, e, R, s, m, args, below, meth, c0⟩ := X
  obtain ⟨hx, hb, hml, hown, hts, hK, hr, hlocks, hZ⟩ := F
  exact W.zret hx hb hr (nar_b h01) (fun t ht hW => ⟨(some (.int v)), M, rfl, hp, by rw [ht]; exact hR, hS.F ht⟩) hS.2.2 hd hlocks
theorem V.lret (F : Fx G X own cc nL (some .long)) {v : Int64} (hd : decode cc pc = .ok (.lreturn, 1)) (hp : post (some (.long v)) M) : V G X nL mc ms (Qx G X mc ms post) pc lv [(.long v)] M := by
  intro H locs ls hl hR hS
  obtain ⟨p, l, e, R, s, m, args, below, meth, c0⟩ := X
  obtain ⟨hx, hb, hml, hown, hts, hK, hr, hlocks, hZ⟩ := F
  exact W.lret hx hb hr (fun t ht hW => ⟨(some (.long v)), M, rfl, hp, by rw [ht]; exact hR, hS.F ht⟩) hS.2.2 hd hlocks
theorem V.vret (F : Fx G X own cc nL none) (hd : decode cc pc = .ok (.return_, 1)) (hp : post none M) : V G X nL mc ms (Qx G X mc ms post) pc lv [] M := by
  intro H locs ls hl hR hS
  obtain ⟨p, l, e, R, s, m, args, below, meth, c0⟩ := X
  obtain ⟨hx, hb, hml, hown, hts, hK, hr, hlocks, hZ⟩ := F
  exact W.vret hx hb hr (fun t ht hW => ⟨none, M, rfl, hp, by rw [ht]; exact hR, hS.F ht⟩) hS.2.2 hd hlocks
theorem V.aret {C : String} (F : Fx G X own cc nL (some (.object C))) {v : Nat} (hd : decode cc pc = .ok (.areturn, 1)) (hp : post (some (.ref v)) M) : V G X nL mc ms (Qx G X mc ms post) pc lv [(.ref v)] M := by
  intro H locs ls hl hR hS
  obtain ⟨p, l, e, R, s, m, args, below, meth, c0⟩ := X
  obtain ⟨hx, hb, hml, hown, hts, hK, hr, hlocks, hZ⟩ := F
  exact W.aret hx hb hr (Or.inl ⟨_, rfl⟩) (Or.inr ⟨_, rfl⟩) (fun t ht hW => ⟨(some (.ref v)), M, rfl, hp, by rw [ht]; exact hR, hS.F ht⟩) hS.2.2 hd hlocks
theorem V.nret {C : String} (F : Fx G X own cc nL (some (.object C))) (hd : decode cc pc = .ok (.areturn, 1)) (hp : post (some .null) M) : V G X nL mc ms (Qx G X mc ms post) pc lv [.null] M := by
  intro H locs ls hl hR hS
  obtain ⟨p, l, e, R, s, m, args, below, meth, c0⟩ := X
  obtain ⟨hx, hb, hml, hown, hts, hK, hr, hlocks, hZ⟩ := F
  exact W.aret hx hb hr (Or.inl ⟨_, rfl⟩) (Or.inl rfl) (fun t ht hW => ⟨(some .null), M, rfl, hp, by rw [ht]; exact hR, hS.F ht⟩) hS.2.2 hd hlocks
/-- a contract out of a walk from the method's entry -/
theorem CT.of {l : Launch} {D : Nat} {k : Mth} {as : List Value} (hy : plainName k.1.cls = true) (hlen : (lg_sl as).length ≤ k.2.2.1)
    (w : ∀ (X : Xt) (d : Nat), D ≤ d → X.2.1 = l → X.2.2.2.1 = rmd d mc ms → X.2.2.2.2.2.2.2.2.1.name = k.1.name → Fx G X k.1.cls k.2.1 k.2.2.1 k.2.2.2 → V G X k.2.2.1 0 0 (Qx G X mc ms post) 0 (lv_args 0 as) [] M) : CT G l D k as M mc ms post := by
  intro d hd
  refine Met.ofW (cc := k.2.1) (maxL := k.2.2.1) (ret := k.2.2.2) hy rfl ?_
  intro p e s m args below meth c s₁ B hml hv
  obtain ⟨rfl, hR, hK⟩ := hv
  have hts := atoms_spec (ws := wsOf k) B.pre
  have hF : Fx G (p, l, e, rmd d mc ms, s, m, (as.map (cv G)).toArray, below, meth, c) k.1.cls k.2.1 k.2.2.1 k.2.2.2 := ⟨B.exec, B.bytes, hml, findClass_of_methodNamed B.named, fun w hw => hts w (List.mem_cons_of_mem _ hw), hK, B.returns, B.notSynchronized, by show G.1 ≤ s.heap.size; rw [hR.1]; omega⟩
  have hw := w (p, l, e, rmd d mc ms, s, m, (as.map (cv G)).toArray, below, meth, c) d hd rfl rfl (name_of_methodNamed B.named B.method).1 hF
  have hcat : ∀ vs : List Value, (lg_sl (vs.map (cv G))).length = (lg_sl vs).length := by
    intro vs
    induction vs with
    | nil => rfl
    | cons v t ih =>
      simp only [lg_sl, List.map_cons, List.flatMap_cons, List.length_append] at ih ⊢
      rw [ih, cv_cat]
      split <;> rfl
  have hl := lv_entry (as.map (cv G)) (n := k.2.2.1) (by rw [hcat]; exact hlen)
  rw [lg_entry_eq]
  have hargs : ∀ (vs : List Value) (n : Nat), lv_args n (vs.map (cv G)) = (lv_args n vs).map fun q => (q.1, cv G q.2) := by
    intro vs
    induction vs with
    | nil => intro n; rfl
    | cons v t ih =>
      intro n
      simp only [List.map_cons, lv_args, ih, cv_cat]
  rw [hargs] at hl
  exact hw s.heap [] _ hl hR va_S.rf
end RT
