/-! THE MACHINE OVER LABELS: a judgement V (the walk stands at pc with these locals, this stack, this memory), and one rule a kind of instruction; straight stretches run as one list (sxs) -/
theorem Rep.upd {G : Ctx} {M M' : Mem} {H H' : Heap} {a : Nat} (h : Rep G M H) (ha : 0 < a) (hz : H'.size = H.size) (ho : ∀ q, q ≠ ad G a → H'[q]? = H[q]?) (hk : mK M' = mK M)
    (hr : ∀ b, b ≠ a → ∀ j, mB M' b j = mB M b j ∧ mI M' b j = mI M b j ∧ mL M' b j = mL M b j) (hc : cAt G M' H' a) (hBz : Bz M') : Rep G M' H' := by
  refine ⟨by rw [hz, hk]; exact h.1, fun b hb hbk => ?_, hBz⟩
  by_cases e : b = a
  · rw [e]; exact hc
  · rw [hk] at hbk
    have hq : H'[ad G b]? = H[ad G b]? := ho _ (fun q => e (ad_inj hb ha q))
    obtain ⟨h1, h2⟩ := h.2.1 b hb hbk
    refine ⟨fun c r hs hv => ?_, fun hs => ?_⟩
    · refine ((h1 c r hs hv).kept hq).to (fun j _ => ?_)
      obtain ⟨r1, r2, r3⟩ := hr b e j
      simp only [fvl, r1, r2, r3]
    · rw [hq, h2 hs]
      congr 2
      funext j
      obtain ⟨r1, r2, r3⟩ := hr b e j
      simp only [avl, r1, r2, r3]
theorem u2_ne {α : Type} {f : Nat → Nat → α} {a k b j : Nat} {v : α} (h : b ≠ a) : u2 f a k v b j = f b j := by simp [u2, h]
theorem u2_nk {α : Type} {f : Nat → Nat → α} {a k b j : Nat} {v : α} (h : j ≠ k) : u2 f a k v b j = f b j := by simp [u2, h]
theorem u2_self {α : Type} {f : Nat → Nat → α} {a k : Nat} {v : α} : u2 f a k v a k = v := by simp [u2]
theorem mI_uI_ne {M : Mem} {a k b j : Nat} {v : Int32} (h : b ≠ a) : mI (uI M a k v) b j = mI M b j := u2_ne h
theorem mI_uI_nk {M : Mem} {a k b j : Nat} {v : Int32} (h : j ≠ k) : mI (uI M a k v) b j = mI M b j := u2_nk h
theorem mI_uI {M : Mem} {a k : Nat} {v : Int32} : mI (uI M a k v) a k = v := u2_self
theorem mL_uL_ne {M : Mem} {a k b j : Nat} {v : Int64} (h : b ≠ a) : mL (uL M a k v) b j = mL M b j := u2_ne h
theorem mL_uL_nk {M : Mem} {a k b j : Nat} {v : Int64} (h : j ≠ k) : mL (uL M a k v) b j = mL M b j := u2_nk h
theorem mL_uL {M : Mem} {a k : Nat} {v : Int64} : mL (uL M a k v) a k = v := u2_self
theorem mB_uB_ne {M : Mem} {a k b j : Nat} (h : b ≠ a) : mB (uB M a k) b j = mB M b j := u2_ne h
theorem mB_uB_nk {M : Mem} {a k b j : Nat} (h : j ≠ k) : mB (uB M a k) b j = mB M b j := u2_nk h
theorem mB_uB {M : Mem} {a k : Nat} : mB (uB M a k) a k = true := u2_self
theorem mI_uL {M : Mem} {a k b j : Nat} {v : Int64} : mI (uL M a k v) b j = mI M b j := rfl
theorem mB_uL {M : Mem} {a k b j : Nat} {v : Int64} : mB (uL M a k v) b j = mB M b j := rfl
theorem mL_uI {M : Mem} {a k b j : Nat} {v : Int32} : mL (uI M a k v) b j = mL M b j := rfl
theorem mB_uI {M : Mem} {a k b j : Nat} {v : Int32} : mB (uI M a k v) b j = mB M b j := rfl
theorem mI_uB {M : Mem} {a k b j : Nat} : mI (uB M a k) b j = mI M b j := rfl
theorem mL_uB {M : Mem} {a k b j : Nat} : mL (uB M a k) b j = mL M b j := rfl
theorem mK_uI {M : Mem} {a k : Nat} {v : Int32} : mK (uI M a k v) = mK M := rfl
theorem mK_uL {M : Mem} {a k : Nat} {v : Int64} : mK (uL M a k v) = mK M := rfl
theorem mK_uB {M : Mem} {a k : Nat} : mK (uB M a k) = mK M := rfl
/-- an object's cell behind a write of its field k: M' is M but for (a, k) -/
theorem cAt.put {G : Ctx} {M M' : Mem} {H' : Heap} {a c k : Nat} {r : vw_C} {cell : Cell} (hs : (SH a).1 = c + 1) (hv : vwCl[c]? = some r)
    (hap : ∀ x y, x < r.2.2 → y < r.2.2 → x ≠ y → (G.2.2.1.2 c) x ≠ (G.2.2.1.2 c) y) (hk : k < r.2.2)
    (q2 : cell.cls = G.2.2.1.1 c) (q3 : cell.vm = .none) (q4 : ∀ j, j < r.2.2 → cell.slots[(G.2.2.1.2 c) j]? = some (cv G (fvl M c a j)))
    (e1 : H'[ad G a]? = some (cell.setSlot ((G.2.2.1.2 c) k) (cv G (fvl M' c a k)))) (hn : ∀ j, j ≠ k → fvl M' c a j = fvl M c a j) : cAt G M' H' a := by
  refine ⟨fun c' r' hs' hv' => ?_, fun h20 => ?_⟩
  · have ec : c' = c := by omega
    subst ec
    cases hv.symm.trans hv'
    refine t_OB.to (V := updV (fun j => cv G (fvl M c' a j)) k (cv G (fvl M' c' a k))) ⟨_, e1, q2, q3, t_set q4 hap hk _⟩ (fun j _ => ?_)
    by_cases e : j = k
    · subst e; simp [updV]
    · simp [updV, e, hn j e]
  · have h8 : c < 8 := (List.getElem?_eq_some_iff.mp hv).1
    omega
abbrev Xt : Type := Program × Launch × Env × Room × State × MethodId × Array Value × List Frame × Method × Code
def Xs (X : Xt) : State := X.2.2.2.2.1
def Xm (X : Xt) : MethodId := X.2.2.2.2.2.1
def Wx (X : Xt) (H : Heap) (locs : List Loc) (cells slots : Nat) (Q : State → Prop) (g : JFrame) : Prop :=
  W X.1 X.2.1 X.2.2.1 X.2.2.2.1 X.2.2.2.2.1 X.2.2.2.2.2.1 X.2.2.2.2.2.2.1 X.2.2.2.2.2.2.2.1 X.2.2.2.2.2.2.2.2.1 X.2.2.2.2.2.2.2.2.2 H locs cells slots Q g
/-- what stays the same during a method's walk -/
def Fx (G : Ctx) (X : Xt) (own : String) (cc : ByteArray) (nL : Nat) (ret : Option FieldType) : Prop :=
  X.1.tables.exec = Jvm.exec ∧ X.2.2.2.2.2.2.2.2.2.code = cc ∧ X.2.2.2.2.2.2.2.2.2.maxLocals = nL ∧ X.2.2.2.2.1.vm.findClass own = some X.2.2.2.2.2.1.cls ∧ (∀ w ∈ TB, w.before X.2.2.2.2.2.2.1 X.2.2.2.2.1 = true) ∧ KS G X.2.2.2.2.1 ∧ X.2.2.2.2.2.2.2.2.1.sig.returnType = ret ∧ X.2.2.2.2.2.2.2.2.1.locks = false ∧ G.1 ≤ X.2.2.2.2.1.heap.size
/-- the walk stands at pc, with these locals, this stack, this memory -/
def V (G : Ctx) (X : Xt) (nL cells slots : Nat) (Q : State → Prop) (pc : Nat) (lv : List (Nat × Value)) (st : List Value) (M : Mem) : Prop :=
  ∀ (H : Heap) (locs : List Loc) (ls : Array Slot), lv_has ls nL (lv.map fun q => (q.1, cv G q.2)) → Rep G M H → va_S (fun q => G.1 ≤ q) X.2.2.2.2.1.heap H locs →
    Wx X H locs cells slots Q (F0 X.2.2.2.2.2.1 pc ls (st.map (cv G)))
def lk : List (Nat × Value) → Nat → Option Value
  | [], _ => none
  | q :: t, i => if q.1 = i then some q.2 else lk t i
theorem lk_mem : ∀ {l : List (Nat × Value)} {i : Nat} {v : Value}, lk l i = some v → (i, v) ∈ l
  | [], _, _, h => by cases h
  | q :: t, i, v, h => by
    unfold lk at h
    split at h
    · rename_i e
      cases h
      rw [← e]
      exact List.mem_cons_self
    · exact List.mem_cons_of_mem _ (lk_mem h)
def s1 (lv : List (Nat × Value)) (i : Nat) (v : Value) : List (Nat × Value) := (i, v) :: lv.filter (fun q => !(q.1 == i) && !(q.1 + 1 == i && q.2.category == 2))
def s2 (lv : List (Nat × Value)) (i : Nat) (v : Value) : List (Nat × Value) := (i, v) :: lv.filter (fun q => !(q.1 == i) && (!(q.1 == i + 1) && !(q.1 + 1 == i && q.2.category == 2)))
theorem s1_map (G : Ctx) (lv : List (Nat × Value)) (i : Nat) (v : Value) : (i, cv G v) :: (lv.map fun q => (q.1, cv G q.2)).filter (fun q => !(q.1 == i) && !(q.1 + 1 == i && q.2.category == 2)) = (s1 lv i v).map fun q => (q.1, cv G q.2) := by
  simp only [s1, List.map_cons, List.filter_map, Function.comp_def, cv_cat]
theorem s2_map (G : Ctx) (lv : List (Nat × Value)) (i : Nat) (v : Value) : (i, cv G v) :: (lv.map fun q => (q.1, cv G q.2)).filter (fun q => !(q.1 == i) && (!(q.1 == i + 1) && !(q.1 + 1 == i && q.2.category == 2))) = (s2 lv i v).map fun q => (q.1, cv G q.2) := by
  simp only [s2, List.map_cons, List.filter_map, Function.comp_def, cv_cat]
theorem lk_at {G : Ctx} {ls : Array Slot} {nL : Nat} {lv : List (Nat × Value)} {i : Nat} {v : Value} (h : lv_has ls nL (lv.map fun q => (q.1, cv G q.2))) (hk : lk lv i = some v) : ls[i]? = some (.val (cv G v)) :=
  h.2.2 (i, cv G v) (List.mem_map.mpr ⟨(i, v), lk_mem hk, rfl⟩)
/-- an object of class c -/
def isO (M : Mem) (a c : Nat) : Prop := (SH a).1 = c + 1 ∧ 0 < a ∧ a ≤ mK M
/-- an array of this kind, with this place in it -/
def isA (M : Mem) (a kd : Nat) (i : Int32) : Prop := (SH a).1 = kd ∧ 0 < a ∧ a ≤ mK M ∧ vp_in i (SH a).2
def ilen (i : Instr) : Nat := match i with
  | .bipush _ => 2
  | .sipush _ => 3
  | .ldc2_w _ => 3
  | .iload _ => 2
  | .lload _ => 2
  | .aload _ => 2
  | .istore _ => 2
  | .lstore _ => 2
  | .astore _ => 2
  | .iinc _ _ => 3
  | .getfield _ => 3
  | .putfield _ => 3
  | .goto _ => 3
  | _ => 1
def npc (i : Instr) (pc : Nat) : Nat := match i with
  | .goto off => ((pc : Int) + off).toNat
  | i => pc + ilen i
/-- the long and int operations that Lean has no single word for -/
def jshl (x : Int64) (y : Int32) : Int64 := x <<< (y.toInt64 &&& 63)
def jshr (x : Int64) (y : Int32) : Int64 := x >>> (y.toInt64 &&& 63)
def jushr (x : Int64) (y : Int32) : Int64 := (x.toUInt64 >>> (y.toInt64.toUInt64 &&& Int64.toUInt64 63)).toInt64
def jrem (x y : Int64) : Int64 := x - x / y * y
def irem (x y : Int32) : Int32 := x - x / y * y
def ishl (x y : Int32) : Int32 := x <<< (y &&& 31)
def ix (i : Int32) : Nat := i.toNatClampNeg
def sx1 (fl : Nat → Option (Nat × Nat)) (cj : Nat → Option Int64) (nL pc : Nat) (i : Instr) (lv : List (Nat × Value)) (st : List Value) (M : Mem) : Option (List (Nat × Value) × List Value × Mem × Prop) :=
  match i with
  | .aconst_null => some (lv, .null :: st, M, True)
  | .iconst n => some (lv, .int (Int32.ofInt n) :: st, M, True)
  | .bipush n => some (lv, .int (Int8.ofInt n).toInt32 :: st, M, True)
  | .sipush n => some (lv, .int (Int16.ofInt n).toInt32 :: st, M, True)
  | .lconst n => some (lv, .long (Int64.ofNat (n : Nat)) :: st, M, True)
  | .ldc2_w x => match cj x with
    | some v => some (lv, .long v :: st, M, True)
    | none => none
  | .iload_n k => match lk lv (k : Nat) with
    | some (.int x) => some (lv, .int x :: st, M, True)
    | _ => none
  | .iload k => match lk lv k with
    | some (.int x) => some (lv, .int x :: st, M, True)
    | _ => none
  | .lload_n k => match lk lv (k : Nat) with
    | some (.long x) => some (lv, .long x :: st, M, True)
    | _ => none
  | .lload k => match lk lv k with
    | some (.long x) => some (lv, .long x :: st, M, True)
    | _ => none
  | .aload_n k => match lk lv (k : Nat) with
    | some (.ref x) => some (lv, .ref x :: st, M, True)
    | some .null => some (lv, .null :: st, M, True)
    | _ => none
  | .aload k => match lk lv k with
    | some (.ref x) => some (lv, .ref x :: st, M, True)
    | some .null => some (lv, .null :: st, M, True)
    | _ => none
  | .istore_n k => match st with
    | .int x :: r => some (s1 lv (k : Nat) (.int x), r, M, (k : Nat) < nL)
    | _ => none
  | .istore k => match st with
    | .int x :: r => some (s1 lv k (.int x), r, M, k < nL)
    | _ => none
  | .lstore_n k => match st with
    | .long x :: r => some (s2 lv (k : Nat) (.long x), r, M, (k : Nat) + 1 < nL)
    | _ => none
  | .lstore k => match st with
    | .long x :: r => some (s2 lv k (.long x), r, M, k + 1 < nL)
    | _ => none
  | .astore_n k => match st with
    | .ref x :: r => some (s1 lv (k : Nat) (.ref x), r, M, (k : Nat) < nL)
    | .null :: r => some (s1 lv (k : Nat) .null, r, M, (k : Nat) < nL)
    | _ => none
  | .astore k => match st with
    | .ref x :: r => some (s1 lv k (.ref x), r, M, k < nL)
    | .null :: r => some (s1 lv k .null, r, M, k < nL)
    | _ => none
  | .iinc k n => match lk lv k with
    | some (.int x) => some (s1 lv k (.int (x + Int32.ofInt n)), st, M, k < nL)
    | _ => none
  | .iadd => match st with
    | .int y :: .int x :: r => some (lv, .int (x + y) :: r, M, True)
    | _ => none
  | .isub => match st with
    | .int y :: .int x :: r => some (lv, .int (x - y) :: r, M, True)
    | _ => none
  | .imul => match st with
    | .int y :: .int x :: r => some (lv, .int (x * y) :: r, M, True)
    | _ => none
  | .idiv => match st with
    | .int y :: .int x :: r => some (lv, .int (x / y) :: r, M, ¬ y = 0)
    | _ => none
  | .irem => match st with
    | .int y :: .int x :: r => some (lv, .int (irem x y) :: r, M, ¬ y = 0)
    | _ => none
  | .iand => match st with
    | .int y :: .int x :: r => some (lv, .int (x &&& y) :: r, M, True)
    | _ => none
  | .ishl => match st with
    | .int y :: .int x :: r => some (lv, .int (ishl x y) :: r, M, True)
    | _ => none
  | .ladd => match st with
    | .long y :: .long x :: r => some (lv, .long (x + y) :: r, M, True)
    | _ => none
  | .lsub => match st with
    | .long y :: .long x :: r => some (lv, .long (x - y) :: r, M, True)
    | _ => none
  | .lmul => match st with
    | .long y :: .long x :: r => some (lv, .long (x * y) :: r, M, True)
    | _ => none
  | .ldiv => match st with
    | .long y :: .long x :: r => some (lv, .long (x / y) :: r, M, ¬ y = 0)
    | _ => none
  | .lrem => match st with
    | .long y :: .long x :: r => some (lv, .long (jrem x y) :: r, M, ¬ y = 0)
    | _ => none
  | .land => match st with
    | .long y :: .long x :: r => some (lv, .long (x &&& y) :: r, M, True)
    | _ => none
  | .lor => match st with
    | .long y :: .long x :: r => some (lv, .long (x ||| y) :: r, M, True)
    | _ => none
  | .lxor => match st with
    | .long y :: .long x :: r => some (lv, .long (x ^^^ y) :: r, M, True)
    | _ => none
  | .lshl => match st with
    | .int y :: .long x :: r => some (lv, .long (jshl x y) :: r, M, True)
    | _ => none
  | .lshr => match st with
    | .int y :: .long x :: r => some (lv, .long (jshr x y) :: r, M, True)
    | _ => none
  | .lushr => match st with
    | .int y :: .long x :: r => some (lv, .long (jushr x y) :: r, M, True)
    | _ => none
  | .lneg => match st with
    | .long x :: r => some (lv, .long (-x) :: r, M, True)
    | _ => none
  | .i2l => match st with
    | .int x :: r => some (lv, .long x.toInt64 :: r, M, True)
    | _ => none
  | .l2i => match st with
    | .long x :: r => some (lv, .int x.toInt32 :: r, M, True)
    | _ => none
  | .i2b => match st with
    | .int x :: r => some (lv, .int x.toInt8.toInt32 :: r, M, True)
    | _ => none
  | .i2s => match st with
    | .int x :: r => some (lv, .int x.toInt16.toInt32 :: r, M, True)
    | _ => none
  | .lcmp => match st with
    | .long y :: .long x :: r => some (lv, .int (lg_cmp x y) :: r, M, True)
    | _ => none
  | .dup => match st with
    | .ref x :: r => some (lv, .ref x :: .ref x :: r, M, True)
    | .int x :: r => some (lv, .int x :: .int x :: r, M, True)
    | _ => none
  | .dup2 => match st with
    | .long x :: r => some (lv, .long x :: .long x :: r, M, True)
    | .int x :: .ref y :: r => some (lv, .int x :: .ref y :: .int x :: .ref y :: r, M, True)
    | _ => none
  | .goto off => some (lv, st, M, 0 ≤ (pc : Int) + off)
  | .getfield x => match fl x with
    | some (c, k) => match st with
      | .ref a :: r => match (ft c k).1 with
        | 1 => some (lv, .long (mL M a k) :: r, M, isO M a c)
        | 2 => some (lv, .ref (a + (ft c k).2) :: r, M, isO M a c ∧ mB M a k = true)
        | _ => some (lv, .int (mI M a k) :: r, M, isO M a c)
      | _ => none
    | none => none
  | .putfield x => match fl x with
    | some (c, k) => match (ft c k).1 with
      | 0 => match st with
        | .int v :: .ref a :: r => some (lv, r, uI M a k v, isO M a c)
        | _ => none
      | 1 => match st with
        | .long v :: .ref a :: r => some (lv, r, uL M a k v, isO M a c)
        | _ => none
      | 3 => match st with
        | .int v :: .ref a :: r => some (lv, r, uI M a k v, isO M a c ∧ (v = 0 ∨ v = 1))
        | _ => none
      | _ => none
    | none => none
  | .iaload => match st with
    | .int i :: .ref a :: r => some (lv, .int (mI M a (ix i)) :: r, M, isA M a 20 i)
    | _ => none
  | .baload => match st with
    | .int i :: .ref a :: r => some (lv, .int (mI M a (ix i)) :: r, M, isA M a 21 i)
    | _ => none
  | .laload => match st with
    | .int i :: .ref a :: r => some (lv, .long (mL M a (ix i)) :: r, M, isA M a 22 i)
    | _ => none
  | .iastore => match st with
    | .int v :: .int i :: .ref a :: r => some (lv, r, uI M a (ix i) v, isA M a 20 i)
    | _ => none
  | .bastore => match st with
    | .int v :: .int i :: .ref a :: r => some (lv, r, uI M a (ix i) v, isA M a 21 i ∧ (v = 0 ∨ v = 1))
    | _ => none
  | .lastore => match st with
    | .long v :: .int i :: .ref a :: r => some (lv, r, uL M a (ix i) v, isA M a 22 i)
    | _ => none
  | _ => none
/-- what the constant pool of a class says, by index: fields and long constants -/
def FlOK (own : String) (fl : Nat → Option (Nat × Nat)) : Prop := ∀ x c k, fl x = some (c, k) → ∃ r : vw_C, vwCl[c]? = some r ∧ k < r.2.2 ∧ Cond.fieldLink own x (r.2.1 k).1 (r.2.1 k).2.1 (r.2.1 k).2.2.1 ∈ TB ∧ ((ft c k).1 ≠ 2 → (r.2.1 k).2.2.2 = false)
def CjOK (own : String) (cj : Nat → Option Int64) : Prop := ∀ x v, cj x = some v → Cond.constantLong own x v ∈ TB
