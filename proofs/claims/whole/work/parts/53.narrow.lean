theorem tb_sar (x : Int64) {k : Nat} (hk : k < 64) {p : Nat} (hp : p < 64) : tb (jshr x (nI k)) p = tb x (if p + k < 64 then p + k else 63) := by
  have e : (jshr x (nI k)).toBitVec = x.toBitVec.sshiftRight (((nI k).toInt64 &&& 63).toBitVec.smod 64).toNat := rfl
  unfold tb
  rw [e, js_n hk, BitVec.getLsbD_sshiftRight]
  have h1 : ¬ 64 ≤ p := by omega
  simp only [h1, decide_false, Bool.not_false, Bool.true_and]
  by_cases h : p + k < 64
  · rw [if_pos h, if_pos (by omega), Nat.add_comm]
  · rw [if_neg h, if_neg (by omega), BitVec.msb_eq_getLsbD_last]
theorem vk_sar {k v : Int64} {s : Nat} (hs : s < 64) (h : v &&& k = v) : jshr v (nI s) &&& jshr k (nI s) = jshr v (nI s) := tb_ext fun p hp => by
  rw [tb_and, tb_sar _ hs hp, tb_sar _ hs hp, ← tb_and, h]
theorem vk_shl {k v : Int64} {s : Nat} (hs : s < 64) (h : v &&& k = v) : jshl v (nI s) &&& jshl k (nI s) = jshl v (nI s) := tb_ext fun p hp => by
  rw [tb_and, tb_shl _ hs hp, tb_shl _ hs hp]
  have h2 : tb v (p - s) = (tb v (p - s) && tb k (p - s)) := by rw [← tb_and, h]
  cases e1 : tb v (p - s) <;> cases e2 : tb k (p - s) <;> simp [e1, e2] at h2 ⊢
def naW (sg : Bool) (ls gr : Int64) (s : Int32) (x : Fk) : Fk := if sg = true then (0, ls, gr, jshr (jshl x.2.2.2.1 s) s, jshr (jshl x.2.2.2.2.1 s) s, 1, 0) else (0, ls, gr, x.2.2.2.1 ||| (gr ^^^ (-1)), x.2.2.2.2.1 &&& gr, 1, 0)
def naP (sg : Bool) (ls gr : Int64) (s : Int32) (x : Fk) : Fk := if x.2.1 < ls then naW sg ls gr s x else if gr < x.2.2.1 then naW sg ls gr s x else x
theorem Pf_naP {sg : Bool} {ls gr : Int64} {s : Nat} {x : Fk} (hs : s < 64) (hx : Gd x) (x0 : x.1 = 0) : Pf (naP sg ls gr (nI s) x) := by
  have px := (gd_P hx x0).1
  have hw : Pf (naW sg ls gr (nI s) x) := by
    unfold naW
    split
    · exact Pf_mk (Pd_1 (vk_sar hs (vk_shl hs px.1)))
    · exact Pf_mk (Pd_1 (tb_ext fun p hp => by
        have h2 : tb x.2.2.2.2.1 p = (tb x.2.2.2.2.1 p && tb x.2.2.2.1 p) := by rw [← tb_and, px.1]
        rw [tb_and, tb_or, tb_and, tb_not _ hp, h2]
        cases tb x.2.2.2.2.1 p <;> cases tb x.2.2.2.1 p <;> cases tb gr p <;> rfl))
  unfold naP
  split
  · exact hw
  · split
    · exact hw
    · exact ⟨x0, px⟩
def na (op : Int32) (x : Fk) : Fk := if op = 14 then naP true (-128) 127 56 x else if op = 15 then naP true (-32768) 32767 48 x else if op = 16 then naP true (-2147483648) 2147483647 32 x else if op = 17 then naP false 0 255 56 x else if op = 18 then naP false 0 65535 48 x else naP false 0 4294967295 32 x
theorem Pf_na {op : Int32} {x : Fk} (hx : Gd x) (x0 : x.1 = 0) : Pf (na op x) := by
  unfold na
  repeat' split
  · exact Pf_naP (s := 56) (by decide) hx x0
  · exact Pf_naP (s := 48) (by decide) hx x0
  · exact Pf_naP (s := 32) (by decide) hx x0
  · exact Pf_naP (s := 56) (by decide) hx x0
  · exact Pf_naP (s := 48) (by decide) hx x0
  · exact Pf_naP (s := 32) (by decide) hx x0
theorem na_C14 {M : Mem} {a t : Nat} (ha : a ≠ t) : f_X0_narrowed (pC M t AL) 14 a t = pC M t (naP true (-128) 127 56 (gC M a)) := by
  have w : ishl 8 (irem (((14 : Int32)) - 14) 3) = 8 := by decide
  have l : jshl (-1) (((8 : Int32)) - 1) = (-128) := by decide
  have g : ((-128 : Int64)) ^^^ (-1) = 127 := by decide
  have s : (64 : Int32) - 8 = 56 := by decide
  unfold f_X0_narrowed f_X0_narrowed_11 f_X0_narrowed_39 f_X0_narrowed_64 f_X0_narrowed_92 f_X0_narrowed_c129 f_X0_narrowed_172 f_X0_narrowed_c91
  rw [if_neg (by decide), if_neg (by decide), if_neg (by decide), w, l, g, s, cp_C, gC_n ha, pC_p]
  unfold AL naP naW
  simp only [qcnL ha, wc1, wc2, wc3, wc4, if_neg (show ¬ (1 : Int32) = 0 by decide), if_true]
  show (if (gC M a).2.1 < (-128) then _ else if 127 < (gC M a).2.2.1 then _ else _) = _
  by_cases q1 : (gC M a).2.1 < (-128)
  · rw [if_pos q1, if_pos q1]; rfl
  · rw [if_neg q1, if_neg q1]
    by_cases q2 : 127 < (gC M a).2.2.1
    · rw [if_pos q2, if_pos q2]; rfl
    · rw [if_neg q2, if_neg q2]
theorem na_C15 {M : Mem} {a t : Nat} (ha : a ≠ t) : f_X0_narrowed (pC M t AL) 15 a t = pC M t (naP true (-32768) 32767 48 (gC M a)) := by
  have w : ishl 8 (irem (((15 : Int32)) - 14) 3) = 16 := by decide
  have l : jshl (-1) (((16 : Int32)) - 1) = (-32768) := by decide
  have g : ((-32768 : Int64)) ^^^ (-1) = 32767 := by decide
  have s : (64 : Int32) - 16 = 48 := by decide
  unfold f_X0_narrowed f_X0_narrowed_11 f_X0_narrowed_39 f_X0_narrowed_64 f_X0_narrowed_92 f_X0_narrowed_c129 f_X0_narrowed_172 f_X0_narrowed_c91
  rw [if_neg (by decide), if_neg (by decide), if_neg (by decide), w, l, g, s, cp_C, gC_n ha, pC_p]
  unfold AL naP naW
  simp only [qcnL ha, wc1, wc2, wc3, wc4, if_neg (show ¬ (1 : Int32) = 0 by decide), if_true]
  show (if (gC M a).2.1 < (-32768) then _ else if 32767 < (gC M a).2.2.1 then _ else _) = _
  by_cases q1 : (gC M a).2.1 < (-32768)
  · rw [if_pos q1, if_pos q1]; rfl
  · rw [if_neg q1, if_neg q1]
    by_cases q2 : 32767 < (gC M a).2.2.1
    · rw [if_pos q2, if_pos q2]; rfl
    · rw [if_neg q2, if_neg q2]
theorem na_C16 {M : Mem} {a t : Nat} (ha : a ≠ t) : f_X0_narrowed (pC M t AL) 16 a t = pC M t (naP true (-2147483648) 2147483647 32 (gC M a)) := by
  have w : ishl 8 (irem (((16 : Int32)) - 14) 3) = 32 := by decide
  have l : jshl (-1) (((32 : Int32)) - 1) = (-2147483648) := by decide
  have g : ((-2147483648 : Int64)) ^^^ (-1) = 2147483647 := by decide
  have s : (64 : Int32) - 32 = 32 := by decide
  unfold f_X0_narrowed f_X0_narrowed_11 f_X0_narrowed_39 f_X0_narrowed_64 f_X0_narrowed_92 f_X0_narrowed_c129 f_X0_narrowed_172 f_X0_narrowed_c91
  rw [if_neg (by decide), if_neg (by decide), if_neg (by decide), w, l, g, s, cp_C, gC_n ha, pC_p]
  unfold AL naP naW
  simp only [qcnL ha, wc1, wc2, wc3, wc4, if_neg (show ¬ (1 : Int32) = 0 by decide), if_true]
  show (if (gC M a).2.1 < (-2147483648) then _ else if 2147483647 < (gC M a).2.2.1 then _ else _) = _
  by_cases q1 : (gC M a).2.1 < (-2147483648)
  · rw [if_pos q1, if_pos q1]; rfl
  · rw [if_neg q1, if_neg q1]
    by_cases q2 : 2147483647 < (gC M a).2.2.1
    · rw [if_pos q2, if_pos q2]; rfl
    · rw [if_neg q2, if_neg q2]
theorem na_C17 {M : Mem} {a t : Nat} (ha : a ≠ t) : f_X0_narrowed (pC M t AL) 17 a t = pC M t (naP false 0 255 56 (gC M a)) := by
  have w : ishl 8 (irem (((17 : Int32)) - 14) 3) = 8 := by decide
  have g : (jshl (-1) 8) ^^^ (-1) = 255 := by decide
  unfold f_X0_narrowed f_X0_narrowed_11 f_X0_narrowed_39 f_X0_narrowed_64 f_X0_narrowed_92 f_X0_narrowed_172 f_X0_narrowed_c91
  rw [if_pos (by decide), if_pos rfl, if_pos rfl, w, g, cp_C, gC_n ha, pC_p]
  unfold AL naP naW
  simp only [qcnL ha, wc1, wc2, wc3, wc4, if_pos (rfl : (0 : Int32) = 0), if_neg (show ¬ false = true by decide)]
  show (if (gC M a).2.1 < 0 then _ else if 255 < (gC M a).2.2.1 then _ else _) = _
  by_cases q1 : (gC M a).2.1 < 0
  · rw [if_pos q1, if_pos q1]; rfl
  · rw [if_neg q1, if_neg q1]
    by_cases q2 : 255 < (gC M a).2.2.1
    · rw [if_pos q2, if_pos q2]; rfl
    · rw [if_neg q2, if_neg q2]
theorem na_C18 {M : Mem} {a t : Nat} (ha : a ≠ t) : f_X0_narrowed (pC M t AL) 18 a t = pC M t (naP false 0 65535 48 (gC M a)) := by
  have w : ishl 8 (irem (((18 : Int32)) - 14) 3) = 16 := by decide
  have g : (jshl (-1) 16) ^^^ (-1) = 65535 := by decide
  unfold f_X0_narrowed f_X0_narrowed_11 f_X0_narrowed_39 f_X0_narrowed_64 f_X0_narrowed_92 f_X0_narrowed_172 f_X0_narrowed_c91
  rw [if_pos (by decide), if_pos rfl, if_pos rfl, w, g, cp_C, gC_n ha, pC_p]
  unfold AL naP naW
  simp only [qcnL ha, wc1, wc2, wc3, wc4, if_pos (rfl : (0 : Int32) = 0), if_neg (show ¬ false = true by decide)]
  show (if (gC M a).2.1 < 0 then _ else if 65535 < (gC M a).2.2.1 then _ else _) = _
  by_cases q1 : (gC M a).2.1 < 0
  · rw [if_pos q1, if_pos q1]; rfl
  · rw [if_neg q1, if_neg q1]
    by_cases q2 : 65535 < (gC M a).2.2.1
    · rw [if_pos q2, if_pos q2]; rfl
    · rw [if_neg q2, if_neg q2]
theorem na_C19 {M : Mem} {a t : Nat} (ha : a ≠ t) : f_X0_narrowed (pC M t AL) 19 a t = pC M t (naP false 0 4294967295 32 (gC M a)) := by
  have w : ishl 8 (irem (((19 : Int32)) - 14) 3) = 32 := by decide
  have g : (jshl (-1) 32) ^^^ (-1) = 4294967295 := by decide
  unfold f_X0_narrowed f_X0_narrowed_11 f_X0_narrowed_39 f_X0_narrowed_64 f_X0_narrowed_92 f_X0_narrowed_172 f_X0_narrowed_c91
  rw [if_pos (by decide), if_pos rfl, if_pos rfl, w, g, cp_C, gC_n ha, pC_p]
  unfold AL naP naW
  simp only [qcnL ha, wc1, wc2, wc3, wc4, if_pos (rfl : (0 : Int32) = 0), if_neg (show ¬ false = true by decide)]
  show (if (gC M a).2.1 < 0 then _ else if 4294967295 < (gC M a).2.2.1 then _ else _) = _
  by_cases q1 : (gC M a).2.1 < 0
  · rw [if_pos q1, if_pos q1]; rfl
  · rw [if_neg q1, if_neg q1]
    by_cases q2 : 4294967295 < (gC M a).2.2.1
    · rw [if_pos q2, if_pos q2]; rfl
    · rw [if_neg q2, if_neg q2]
section NR
variable {N : Mem} {x : Fk}
theorem na_e (h16 : gR N 16 = x) (z : Fk) : mL (pR N 18 z) 54 (ix 16) = x.2.1 ∧ mL (pR N 18 z) 55 (ix 16) = x.2.2.1 ∧ mL (pR N 18 z) 56 (ix 16) = x.2.2.2.1 ∧ mL (pR N 18 z) 57 (ix 16) = x.2.2.2.2.1 ∧ mL (pR N 18 z) 58 (ix 16) = x.2.2.2.2.2.1 ∧ mL (pR N 18 z) 59 (ix 16) = x.2.2.2.2.2.2 := by
  rw [ix16, qdnL (by decide), qdnL (by decide), qdnL (by decide), qdnL (by decide), qdnL (by decide), qdnL (by decide), ← h16]
  exact ⟨rfl, rfl, rfl, rfl, rfl, rfl⟩
theorem na_74 {w sg : Int32} {ls gr : Int64} (h16 : gR N 16 = x) (hw : 64 - w = 64 - w) : f_X7_narrow_74 w sg ls gr (pR N 18 AL) = pR N 18 (if x.2.1 < ls then (if sg = 0 then (0, ls, gr, x.2.2.2.1 ||| jshl (-1) w, x.2.2.2.2.1 &&& (jshl 1 w - 1), 1, 0) else (0, ls, gr, jshr (jshl x.2.2.2.1 (64 - w)) (64 - w), jshr (jshl x.2.2.2.2.1 (64 - w)) (64 - w), 1, 0)) else if gr < x.2.2.1 then (if sg = 0 then (0, ls, gr, x.2.2.2.1 ||| jshl (-1) w, x.2.2.2.2.1 &&& (jshl 1 w - 1), 1, 0) else (0, ls, gr, jshr (jshl x.2.2.2.1 (64 - w)) (64 - w), jshr (jshl x.2.2.2.2.1 (64 - w)) (64 - w), 1, 0)) else x) := by
  have key : f_X7_narrow_111 w sg ls gr (pR N 18 AL) = pR N 18 (if sg = 0 then (0, ls, gr, x.2.2.2.1 ||| jshl (-1) w, x.2.2.2.2.1 &&& (jshl 1 w - 1), 1, 0) else (0, ls, gr, jshr (jshl x.2.2.2.1 (64 - w)) (64 - w), jshr (jshl x.2.2.2.2.1 (64 - w)) (64 - w), 1, 0)) := by
    unfold f_X7_narrow_111 f_X7_narrow_174 f_X7_narrow_214 AL
    rw [ix18]
    simp only [wr1, wr2, wr3, wr4, (na_e h16 _).2.2.1, (na_e h16 _).2.2.2.1]
    by_cases e : sg = 0
    · simp only [if_pos e]
    · simp only [if_neg e]
  unfold f_X7_narrow_74 f_X7_narrow_c110
  rw [(na_e h16 _).1, (na_e h16 _).2.1, key, cp_R, ix18, ix16, gR_n (by decide), h16, pR_p]
  by_cases q1 : x.2.1 < ls
  · rw [if_pos q1, if_pos q1]
  · rw [if_neg q1, if_neg q1]
    by_cases q2 : gr < x.2.2.1
    · rw [if_pos q2, if_pos q2]
    · rw [if_neg q2, if_neg q2]
theorem na_R14 (h16 : gR N 16 = x) (h18 : gR N 18 = AL) : f_X7_narrow N 14 = pR N 18 (naP true (-128) 127 56 x) := by
  have hN : N = pR N 18 AL := by rw [← h18, pR_g]
  have m : irem (14 : Int32) 3 = 2 := by decide
  have l : jshl (-1) (((8 : Int32)) - 1) = (-128) := by decide
  have g : jshl 1 (((8 : Int32)) - 1) - 1 = 127 := by decide
  have s : (64 : Int32) - 8 = 56 := by decide
  conv => lhs; rw [hN]
  unfold f_X7_narrow f_X7_narrow_25 f_X7_narrow_37 f_X7_narrow_53
  rw [m, if_pos rfl, if_neg (by decide), if_neg (by decide), if_neg (by decide), l, g, na_74 h16 rfl, s]
  unfold naP naW
  simp only [if_neg (show ¬ (1 : Int32) = 0 by decide), if_true]
theorem na_R15 (h16 : gR N 16 = x) (h18 : gR N 18 = AL) : f_X7_narrow N 15 = pR N 18 (naP true (-32768) 32767 48 x) := by
  have hN : N = pR N 18 AL := by rw [← h18, pR_g]
  have m : irem (15 : Int32) 3 = 0 := by decide
  have l : jshl (-1) (((16 : Int32)) - 1) = (-32768) := by decide
  have g : jshl 1 (((16 : Int32)) - 1) - 1 = 32767 := by decide
  have s : (64 : Int32) - 16 = 48 := by decide
  conv => lhs; rw [hN]
  unfold f_X7_narrow f_X7_narrow_25 f_X7_narrow_37 f_X7_narrow_53
  rw [m, if_neg (by decide), if_pos rfl, if_neg (by decide), if_neg (by decide), if_neg (by decide), l, g, na_74 h16 rfl, s]
  unfold naP naW
  simp only [if_neg (show ¬ (1 : Int32) = 0 by decide), if_true]
theorem na_R16 (h16 : gR N 16 = x) (h18 : gR N 18 = AL) : f_X7_narrow N 16 = pR N 18 (naP true (-2147483648) 2147483647 32 x) := by
  have hN : N = pR N 18 AL := by rw [← h18, pR_g]
  have m : irem (16 : Int32) 3 = 1 := by decide
  have l : jshl (-1) (((32 : Int32)) - 1) = (-2147483648) := by decide
  have g : jshl 1 (((32 : Int32)) - 1) - 1 = 2147483647 := by decide
  have s : (64 : Int32) - 32 = 32 := by decide
  conv => lhs; rw [hN]
  unfold f_X7_narrow f_X7_narrow_25 f_X7_narrow_37 f_X7_narrow_53
  rw [m, if_neg (by decide), if_neg (by decide), if_neg (by decide), if_neg (by decide), if_neg (by decide), l, g, na_74 h16 rfl, s]
  unfold naP naW
  simp only [if_neg (show ¬ (1 : Int32) = 0 by decide), if_true]
theorem na_R17 (h16 : gR N 16 = x) (h18 : gR N 18 = AL) : f_X7_narrow N 17 = pR N 18 (naP false 0 255 56 x) := by
  have hN : N = pR N 18 AL := by rw [← h18, pR_g]
  have m : irem (17 : Int32) 3 = 2 := by decide
  have g : jshl 1 (8 : Int32) - 1 = 255 := by decide
  have l : jshl (-1) (8 : Int32) = (255 : Int64) ^^^ (-1) := by decide
  conv => lhs; rw [hN]
  unfold f_X7_narrow f_X7_narrow_25 f_X7_narrow_37 f_X7_narrow_53
  rw [m, if_pos rfl, if_pos (by decide), if_pos rfl, if_pos rfl, na_74 h16 rfl, g, l]
  unfold naP naW
  simp only [if_true, if_neg (show ¬ false = true by decide)]
theorem na_R18 (h16 : gR N 16 = x) (h18 : gR N 18 = AL) : f_X7_narrow N 18 = pR N 18 (naP false 0 65535 48 x) := by
  have hN : N = pR N 18 AL := by rw [← h18, pR_g]
  have m : irem (18 : Int32) 3 = 0 := by decide
  have g : jshl 1 (16 : Int32) - 1 = 65535 := by decide
  have l : jshl (-1) (16 : Int32) = (65535 : Int64) ^^^ (-1) := by decide
  conv => lhs; rw [hN]
  unfold f_X7_narrow f_X7_narrow_25 f_X7_narrow_37 f_X7_narrow_53
  rw [m, if_neg (by decide), if_pos rfl, if_pos (by decide), if_pos rfl, if_pos rfl, na_74 h16 rfl, g, l]
  unfold naP naW
  simp only [if_true, if_neg (show ¬ false = true by decide)]
theorem na_R19 (h16 : gR N 16 = x) (h18 : gR N 18 = AL) : f_X7_narrow N 19 = pR N 18 (naP false 0 4294967295 32 x) := by
  have hN : N = pR N 18 AL := by rw [← h18, pR_g]
  have m : irem (19 : Int32) 3 = 1 := by decide
  have g : jshl 1 (32 : Int32) - 1 = 4294967295 := by decide
  have l : jshl (-1) (32 : Int32) = (4294967295 : Int64) ^^^ (-1) := by decide
  conv => lhs; rw [hN]
  unfold f_X7_narrow f_X7_narrow_25 f_X7_narrow_37 f_X7_narrow_53
  rw [m, if_neg (by decide), if_neg (by decide), if_pos (by decide), if_pos rfl, if_pos rfl, na_74 h16 rfl, g, l]
  unfold naP naW
  simp only [if_true, if_neg (show ¬ false = true by decide)]
end NR
