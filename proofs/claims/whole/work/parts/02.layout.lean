/-! LABELS AND MEMORY. Objects and arrays are numbered in the order in which they are made (0: the script; new ones are M.1 + 1); what a reference field or a place of an array of references holds, once it is set, is a fixed label; M: how many there are, which references are set, the ints (and booleans), the longs. -/
abbrev Mem : Type := Nat × (Nat → Nat → Bool) × (Nat → Nat → Int32) × (Nat → Nat → Int64)
def mK (M : Mem) : Nat := M.1
def mB (M : Mem) (a k : Nat) : Bool := M.2.1 a k
def mI (M : Mem) (a k : Nat) : Int32 := M.2.2.1 a k
def mL (M : Mem) (a k : Nat) : Int64 := M.2.2.2 a k
def u2 {α : Type} (f : Nat → Nat → α) (a k : Nat) (v : α) : Nat → Nat → α := fun b j => if b = a ∧ j = k then v else f b j
def uB (M : Mem) (a k : Nat) : Mem := (M.1, u2 M.2.1 a k true, M.2.2.1, M.2.2.2)
def uI (M : Mem) (a k : Nat) (v : Int32) : Mem := (M.1, M.2.1, u2 M.2.2.1 a k v, M.2.2.2)
def uL (M : Mem) (a k : Nat) (v : Int64) : Mem := (M.1, M.2.1, M.2.2.1, u2 M.2.2.2 a k v)
def mN (M : Mem) : Mem := (M.1 + 1, fun b j => if b = M.1 + 1 then false else M.2.1 b j, fun b j => if b = M.1 + 1 then 0 else M.2.2.1 b j, fun b j => if b = M.1 + 1 then 0 else M.2.2.2 b j)
/-- kind (1 .. 8: an object of class kind - 1 of vwCl; 20 int[], 21 boolean[], 22 long[], 23 .. 26 Fact[], 27 Routine[], 28 long[][]) and length -/
def SHt : List (Nat × Nat) := [(0, 0), (7, 0), (23, 16), (27, 6), (6, 0), (28, 4), (22, 16), (22, 16), (22, 16), (22, 16), (20, 4), (1, 0), (2, 0), (2, 0), (3, 0), (1, 0), (2, 0), (2, 0), (24, 8), (2, 0), (21, 32), (20, 256), (20, 256), (2, 0), (2, 0), (2, 0), (2, 0), (2, 0), (2, 0), (2, 0), (2, 0), (5, 0), (22, 8), (22, 8), (2, 0), (2, 0), (2, 0), (2, 0), (2, 0), (2, 0), (2, 0), (2, 0), (2, 0), (2, 0), (2, 0), (2, 0), (2, 0), (2, 0), (2, 0), (2, 0), (2, 0), (2, 0), (8, 0), (21, 1648), (22, 1648), (22, 1648), (22, 1648), (22, 1648), (22, 1648), (22, 1648), (20, 6), (20, 192), (20, 192), (20, 192), (20, 4), (22, 64), (21, 6), (21, 192), (20, 6), (21, 32), (20, 256), (20, 256), (22, 8), (22, 8)]
def SHr (o : Nat) : Nat × Nat := match o with
  | 0 => (4, 0)
  | 1 => (20, 32)
  | 2 => (20, 32)
  | 3 => (20, 32)
  | 4 => (25, 8)
  | 5 => (26, 256)
  | 6 => (21, 32)
  | _ => (2, 0)
def SH (a : Nat) : Nat × Nat := if a < 74 then SHt.getD a (0, 0) else if (a - 74) / 271 < 6 then SHr ((a - 74) % 271) else (0, 0)
/-- a field: 0 int, 1 long, 2 a reference to the label that is so much more, 3 boolean -/
def FTt : List (List (Nat × Nat)) := [[(2, 1), (2, 2)], [(3, 0), (1, 0), (1, 0), (1, 0), (1, 0), (1, 0), (1, 0)], [(2, 1), (2, 4), (2, 5), (2, 6), (2, 7), (2, 8)], [(2, 1), (2, 2), (2, 3), (0, 0), (2, 4), (2, 5), (2, 6), (3, 0), (0, 0)], [(2, 1), (0, 0), (0, 0), (0, 0)], [(2, 1), (2, 6)], [(2, 1), (2, 2), (0, 0), (2, 3), (2, 10), (2, 13), (2, 30), (2, 32), (2, 33), (2, 34)], [(2, 1), (2, 2), (2, 3), (2, 4), (2, 5), (2, 6), (2, 7), (3, 0), (3, 0), (0, 0), (2, 8), (2, 9), (2, 10), (2, 11), (2, 12), (2, 13), (2, 14), (2, 15), (2, 16), (2, 17), (2, 18), (2, 19), (2, 20), (2, 21), (0, 0), (0, 0), (0, 0)]]
def ft (c k : Nat) : Nat × Nat := (FTt.getD c []).getD k (0, 0)
/-- what a set place of an array of references holds -/
def el (kd a j : Nat) : Nat := match kd with
  | 23 => a + 34 + j
  | 24 => a + 5 + j
  | 25 => a + 3 + j
  | 26 => a + 10 + j
  | 27 => 74 + 271 * j
  | _ => a + 1 + j
def fvl (M : Mem) (c a k : Nat) : Value := match (ft c k).1 with
  | 1 => .long (mL M a k)
  | 2 => if mB M a k = true then .ref (a + (ft c k).2) else .null
  | _ => .int (mI M a k)
def avl (M : Mem) (kd a j : Nat) : Value := if kd < 22 then .int (mI M a j) else if kd = 22 then .long (mL M a j) else if mB M a j = true then .ref (el kd a j) else .null
/-- the first new address; the script's; the classes' numbers and slots; the array classes' numbers, by kind -/
abbrev Ctx : Type := Nat × Nat × va_G × (Nat → ClassId)
def ad (G : Ctx) : Nat → Nat
  | 0 => G.2.1
  | a + 1 => G.1 + a
def cv (G : Ctx) (v : Value) : Value := match v with
  | .ref a => .ref (ad G a)
  | v => v
def aty (kd : Nat) : FieldType := match kd with
  | 20 => .int
  | 21 => .boolean
  | 22 => .long
  | 27 => .object RX3
  | 28 => .array .long
  | _ => .object RX1
def cAt (G : Ctx) (M : Mem) (H : Heap) (a : Nat) : Prop :=
  (∀ (c : Nat) (r : vw_C), (SH a).1 = c + 1 → vwCl[c]? = some r → t_OB (ad G a) (G.2.2.1.1 c) r.2.2 (G.2.2.1.2 c) H (fun j => cv G (fvl M c a j))) ∧
  (20 ≤ (SH a).1 → H[ad G a]? = some (arrV (G.2.2.2 (SH a).1) (SH a).2 (fun j => cv G (avl M (SH a).1 a j))))
/-- where booleans lie -/
def bl (a k : Nat) : Bool := decide ((SH a).1 = 21) || decide ((ft ((SH a).1 - 1) k).1 = 3)
def Bz (M : Mem) : Prop := ∀ a k, bl a k = true → mI M a k = 0 ∨ mI M a k = 1
/-- the heap holds the memory, and its booleans are 0 or 1 -/
def Rep (G : Ctx) (M : Mem) (H : Heap) : Prop := H.size = G.1 + mK M ∧ (∀ a, 0 < a → a ≤ mK M → cAt G M H a) ∧ Bz M
theorem cv_cat (G : Ctx) (v : Value) : (cv G v).category = v.category := by cases v <;> rfl
theorem ad_pos {G : Ctx} {a : Nat} (h : 0 < a) : ad G a = G.1 + (a - 1) := by
  cases a with
  | zero => omega
  | succ n => rfl
theorem ad_inj {G : Ctx} {a b : Nat} (ha : 0 < a) (hb : 0 < b) (h : ad G a = ad G b) : a = b := by
  rw [ad_pos ha, ad_pos hb] at h; omega
/-- what the tables say, at any state -/
def isNest (w : Cond) : Bool := match w with
  | .methodLinkNest _ _ _ _ => true
  | _ => false
def nestWs : List Cond := lw_tbl.filter isNest
def KS (G : Ctx) (U : State) : Prop := va_K G.2.2.1 vwCl [] U ∧ (∀ kd, 20 ≤ kd → kd ≤ 28 → ArrOfT U (G.2.2.2 kd) (aty kd) ∧ va_RA U (G.2.2.2 kd) (aty kd)) ∧ (∀ w ∈ nestWs, va_Nw w U) ∧ va_AO RX1 U ∧ va_AO RX3 U ∧ (Cond.arrayOver (.array .long)).before #[] U = true
def TB : List Cond := lw_tbl.filter goodWord
theorem TB_good {w : Cond} (h : w ∈ TB) : w ∈ lw_tbl ∧ goodWord w = true := List.mem_filter.mp h
theorem TB_in {w : Cond} (h : w ∈ lw_tbl) (g : goodWord w = true) : w ∈ TB := List.mem_filter.mpr ⟨h, g⟩
theorem inTB {ws : List Cond} (h : ∀ w ∈ ws, w ∈ lw_tbl) (g : ws.all goodWord = true) : ∀ w ∈ ws, w ∈ TB := fun w hw => TB_in (h w hw) (List.all_eq_true.mp g w hw)
theorem tbX0 : ∀ w ∈ wsX00, w ∈ TB := inTB inX0 (by decide +kernel)
theorem tbX1 : ∀ w ∈ wsX10, w ∈ TB := inTB inX1 (by decide +kernel)
theorem tbX2 : ∀ w ∈ wsX20, w ∈ TB := inTB inX2 (by decide +kernel)
theorem tbX3 : ∀ w ∈ wsX30, w ∈ TB := inTB inX3 (by decide +kernel)
theorem tbX4 : ∀ w ∈ wsX40, w ∈ TB := inTB inX4 (by decide +kernel)
theorem tbX5 : ∀ w ∈ wsX50, w ∈ TB := inTB inX5 (by decide +kernel)
theorem tbX6 : ∀ w ∈ wsX60, w ∈ TB := inTB inX6 (by decide +kernel)
theorem tbX7 : ∀ w ∈ wsX70, w ∈ TB := inTB inX7 (by decide +kernel)
def tyc (c k : Nat) : FieldType := match c with
  | 0 => tyX0 k
  | 1 => tyX1 k
  | 2 => tyX2 k
  | 3 => tyX3 k
  | 4 => tyX4 k
  | 5 => tyX5 k
  | 6 => tyX6 k
  | _ => tyX7 k
/-- the classes' own tables, by number -/
theorem clOK {c : Nat} {r : vw_C} (h : vwCl[c]? = some r) : (∀ w ∈ u_ws r.1 r.2.1 r.2.2, w ∈ TB) ∧ (∀ k, k < r.2.2 → parseFieldDescriptor (r.2.1 k).2.2.1 = some (tyc c k)) ∧ (∀ a, a < r.2.2 → ∀ b, b < r.2.2 → a ≠ b → (r.2.1 a).2.1 ≠ (r.2.1 b).2.1) := by
  match c, h with
  | 0, h => cases h; exact ⟨tbX0, tyX0_ok, nmX0⟩
  | 1, h => cases h; exact ⟨tbX1, tyX1_ok, nmX1⟩
  | 2, h => cases h; exact ⟨tbX2, tyX2_ok, nmX2⟩
  | 3, h => cases h; exact ⟨tbX3, tyX3_ok, nmX3⟩
  | 4, h => cases h; exact ⟨tbX4, tyX4_ok, nmX4⟩
  | 5, h => cases h; exact ⟨tbX5, tyX5_ok, nmX5⟩
  | 6, h => cases h; exact ⟨tbX6, tyX6_ok, nmX6⟩
  | 7, h => cases h; exact ⟨tbX7, tyX7_ok, nmX7⟩
  | k + 8, h => simp [vwCl] at h
/-- a field's kind and its type are one -/
def tagOK (t : Nat) (ty : FieldType) : Bool := match t, ty with
  | 0, .int => true
  | 1, .long => true
  | 3, .boolean => true
  | 2, .object _ => true
  | 2, .array _ => true
  | _, _ => false
theorem tags_ok : (List.range 8).all (fun c => (List.range ((vwCl.getD c ("", fun _ => ("", "", "", false), 0)).2.2)).all (fun k => tagOK (ft c k).1 (tyc c k))) = true := by decide +kernel
theorem tag_of {c k : Nat} {r : vw_C} (h : vwCl[c]? = some r) (hk : k < r.2.2) : tagOK (ft c k).1 (tyc c k) = true := by
  have hc : c < 8 := (List.getElem?_eq_some_iff.mp h).1
  have h1 := List.all_eq_true.mp tags_ok c (List.mem_range.mpr hc)
  have h2 : vwCl.getD c ("", fun _ => ("", "", "", false), 0) = r := by rw [List.getD_eq_getElem?_getD, h]; rfl
  rw [h2] at h1
  exact List.all_eq_true.mp h1 k (List.mem_range.mpr hk)
