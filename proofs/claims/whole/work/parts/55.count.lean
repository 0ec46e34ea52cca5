/-! shifts: how many counts -/
def sfN (kb vb : Int64) : Nat → Nat → Int32 → Int32
  | 0, _, y => y
  | n + 1, j, y => sfN kb vb n (j + 1) (y + (if ((Int32.toInt64 (nI j)) &&& kb) = vb then 1 else 0))
theorem sfN_all : ∀ i, i < 64 → ∀ j, j < 64 → (lN j &&& lN i) = lN j → ((sfN (lN i) (lN j) 64 0 0 ≤ 8) ↔ ishl 1 (f_J13_bitCount_95d88 (((lN i) ^^^ ((-1))) &&& 63)) ≤ 8) := by decide +kernel
theorem uN_63 (x : Int64) : x &&& 63 = lN (uN x % 64) := by
  apply uN_inj
  have h1 : uN (x &&& 63) = uN x % 64 := by
    show (x.toUInt64 &&& Int64.toUInt64 63).toNat = _
    rw [UInt64.toNat_and]
    exact Nat.and_two_pow_sub_one_eq_mod _ 6
  have h2 : ∀ i, i < 64 → uN (lN i) = i := by decide +kernel
  rw [h1, h2 _ (Nat.mod_lt _ (by decide))]
theorem sf_le {k v : Int64} (h : v &&& k = v) : (sfN (k &&& 63) (v &&& 63) 64 0 0 ≤ 8) ↔ ishl 1 (f_J13_bitCount_95d88 ((k ^^^ ((-1))) &&& 63)) ≤ 8 := by
  have e : (k ^^^ (-1)) &&& 63 = ((k &&& 63) ^^^ (-1)) &&& 63 := tb_ext fun p hp => by
    rw [tb_and, tb_and, tb_not _ hp, tb_not _ hp, tb_and]
    cases tb k p <;> cases tb 63 p <;> rfl
  have hv : (v &&& 63) &&& (k &&& 63) = v &&& 63 := tb_ext fun p hp => by
    have h2 : tb v p = (tb v p && tb k p) := by rw [← tb_and, h]
    rw [tb_and, tb_and, tb_and, h2]
    cases tb v p <;> cases tb k p <;> cases tb 63 p <;> rfl
  rw [e]
  rw [uN_63 k, uN_63 v] at hv ⊢
  exact sfN_all _ (Nat.mod_lt _ (by decide)) _ (Nat.mod_lt _ (by decide)) hv
