/-! the count of a set, to its end -/
theorem bc_e5 {z : Int64} {p0 p1 p2 p3 p4 p5 p6 p7 : Nat} (e4 : uL z = by8 [p0, p1, p2, p3, p4, p5, p6, p7]) (c0 : p0 ≤ 16) (c1 : p1 ≤ 16) (c2 : p2 ≤ 16) (c3 : p3 ≤ 16) (c4 : p4 ≤ 16) (c5 : p5 ≤ 16) (c6 : p6 ≤ 16) (c7 : p7 ≤ 16) : uL (bc5 z) = by8 [p0 + p2, p1 + p3, p2 + p4, p3 + p5, p4 + p6, p5 + p7, p6, p7] := by
  have d : by8 [p0, p1, p2, p3, p4, p5, p6, p7] / 65536 = by8 [p2, p3, p4, p5, p6, p7] := by
    show (256 * (256 * by8 [p2, p3, p4, p5, p6, p7] + p1) + p0) / 65536 = _; omega
  have a : by8 [p0, p1, p2, p3, p4, p5, p6, p7] + by8 [p2, p3, p4, p5, p6, p7] = by8 [p0 + p2, p1 + p3, p2 + p4, p3 + p5, p4 + p6, p5 + p7, p6, p7] := by simp only [by8]; omega
  unfold bc5
  have q : uL ((z.toUInt64 >>> ((16 : Int32).toInt64.toUInt64 &&& Int64.toUInt64 63)).toInt64) = by8 [p2, p3, p4, p5, p6, p7] := by
    rw [uL_shK 16 z_16 (by decide), e4, show (2 ^ 16 : Nat) = 65536 from rfl, d]
  rw [uL_add (by rw [q, e4, a]; exact by8_lt rfl (by simp; omega)), q, e4, a]
theorem bc_e6 {z : Int64} {p0 p1 p2 p3 p4 p5 p6 p7 : Nat} (e4 : uL z = by8 [p0, p1, p2, p3, p4, p5, p6, p7]) (c0 : p0 ≤ 32) (c1 : p1 ≤ 32) (c2 : p2 ≤ 32) (c3 : p3 ≤ 32) (c4 : p4 ≤ 32) (c5 : p5 ≤ 32) (c6 : p6 ≤ 32) (c7 : p7 ≤ 32) : uL (bc6 z) = by8 [p0 + p4, p1 + p5, p2 + p6, p3 + p7, p4, p5, p6, p7] := by
  have d : by8 [p0, p1, p2, p3, p4, p5, p6, p7] / 4294967296 = by8 [p4, p5, p6, p7] := by
    show (256 * (256 * (256 * (256 * by8 [p4, p5, p6, p7] + p3) + p2) + p1) + p0) / 4294967296 = _; omega
  have a : by8 [p0, p1, p2, p3, p4, p5, p6, p7] + by8 [p4, p5, p6, p7] = by8 [p0 + p4, p1 + p5, p2 + p6, p3 + p7, p4, p5, p6, p7] := by simp only [by8]; omega
  unfold bc6
  have q : uL ((z.toUInt64 >>> ((32 : Int32).toInt64.toUInt64 &&& Int64.toUInt64 63)).toInt64) = by8 [p4, p5, p6, p7] := by
    rw [uL_shK 32 z_32 (by decide), e4, show (2 ^ 32 : Nat) = 4294967296 from rfl, d]
  rw [uL_add (by rw [q, e4, a]; exact by8_lt rfl (by simp; omega)), q, e4, a]
theorem bc_sum (x : Int64) : uL (bc6 (bc5 (bc4 (bc3 (bc2 (bc1 x)))))) % 128 = ct (bq x) 64 := by
  obtain ⟨l, h1, h2, h3, h4⟩ := uL_bytes x
  have e3 := bc_e3 h1 h2 (bc_e2 h1 h2 (bc_e1 h1 h2 h3))
  generalize bc3 (bc2 (bc1 x)) = y at *
  obtain ⟨a0, a1, a2, a3, a4, a5, a6, a7, rfl⟩ := len8 h1
  have c : ∀ k b, k < 8 → ([a0, a1, a2, a3, a4, a5, a6, a7] : List Nat)[k]? = some b → pcF3 b = ct (fun j => bq x (8 * k + j)) 8 ∧ pcF3 b ≤ 8 := by
    intro k b hk e
    obtain ⟨b', h5, h6⟩ := h4 k hk
    rw [e] at h5; cases h5
    have hb := h2 b (List.mem_of_getElem? e)
    exact ⟨by rw [pc_c b hb]; exact ct_cong h6, (pc_b b hb).2.2.2.2⟩
  have c0 := c 0 a0 (by decide) rfl; have c1 := c 1 a1 (by decide) rfl; have c2 := c 2 a2 (by decide) rfl; have c3 := c 3 a3 (by decide) rfl
  have c4 := c 4 a4 (by decide) rfl; have c5 := c 5 a5 (by decide) rfl; have c6 := c 6 a6 (by decide) rfl; have c7 := c 7 a7 (by decide) rfl
  rw [ct8, ← c0.1, ← c1.1, ← c2.1, ← c3.1, ← c4.1, ← c5.1, ← c6.1, ← c7.1]
  replace c0 := c0.2; replace c1 := c1.2; replace c2 := c2.2; replace c3 := c3.2; replace c4 := c4.2; replace c5 := c5.2; replace c6 := c6.2; replace c7 := c7.2
  have e4 : uL y = by8 [pcF3 a0, pcF3 a1, pcF3 a2, pcF3 a3, pcF3 a4, pcF3 a5, pcF3 a6, pcF3 a7] := e3
  clear e3 c h4 h2 h3 h1
  generalize pcF3 a0 = p0 at *; generalize pcF3 a1 = p1 at *; generalize pcF3 a2 = p2 at *; generalize pcF3 a3 = p3 at *
  generalize pcF3 a4 = p4 at *; generalize pcF3 a5 = p5 at *; generalize pcF3 a6 = p6 at *; generalize pcF3 a7 = p7 at *
  rw [bc_e6 (bc_e5 (bc_e4 e4 c0 c1 c2 c3 c4 c5 c6 c7) (by omega) (by omega) (by omega) (by omega) (by omega) (by omega) (by omega) (by omega)) (by omega) (by omega) (by omega) (by omega) (by omega) (by omega) (by omega) (by omega)]
  have hm : ∀ (a : Nat) (l : List Nat), a < 128 → by8 (a :: l) % 128 = a := fun a l h => by
    show (256 * by8 l + a) % 128 = a; omega
  rw [hm _ _ (by omega)]; omega
theorem i64_low (w : Int64) : w.toInt32.toBitVec.toNat = uL w % 2 ^ 32 := by
  unfold uL
  rw [Int64.toBitVec_toInt32, BitVec.signExtend_eq_setWidth_of_le _ (by decide), BitVec.toNat_setWidth]
theorem bc_last (w : Int64) : w.toInt32 &&& (127 : Int32) = nI (uL w % 128) := by
  rw [pk_and w.toInt32 7 (by decide), i64_low, show (2 ^ 7 : Nat) = 128 from rfl]
  congr 1
  omega
theorem bc_count (n : Nat) (x : Int64) : fJ13_bitCount_95d88 n x = some (nI (ct (bq x) 64)) := by
  rw [bc_eq, bc_last, bc_sum]
