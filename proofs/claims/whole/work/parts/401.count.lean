/-! how many cells a set has -/
def ct (p : Nat → Bool) : Nat → Nat
  | 0 => 0
  | n + 1 => ct p n + (if p n then 1 else 0)
theorem ct_cong {p q : Nat → Bool} : ∀ {n : Nat}, (∀ i, i < n → p i = q i) → ct p n = ct q n := by
  intro n
  induction n with
  | zero => intro _; rfl
  | succ n ih => intro h; rw [ct, ct, ih (fun i hi => h i (by omega)), h n (by omega)]
theorem ct_le (p : Nat → Bool) : ∀ n, ct p n ≤ n := by
  intro n
  induction n with
  | zero => exact Nat.le_refl 0
  | succ n ih => rw [ct]; split <;> omega
theorem ct_split (p : Nat → Bool) (m : Nat) : ∀ n, ct p (m + n) = ct p m + ct (fun k => p (m + k)) n := by
  intro n
  induction n with
  | zero => rfl
  | succ n ih => rw [← Nat.add_assoc, ct, ih, ct]; omega
theorem ct_none {p : Nat → Bool} : ∀ {n : Nat}, (∀ i, i < n → p i = false) → ct p n = 0 := by
  intro n
  induction n with
  | zero => intro _; rfl
  | succ n ih => intro h; rw [ct, ih (fun i hi => h i (by omega)), h n (by omega)]; rfl
def by8 : List Nat → Nat
  | [] => 0
  | a :: l => 256 * by8 l + a
theorem and8 {a b c d : Nat} (ha : a < 256) (hc : c < 256) : (256 * b + a) &&& (256 * d + c) = 256 * (b &&& d) + (a &&& c) := by
  have hac : (a &&& c) < 2 ^ 8 := Nat.lt_of_le_of_lt Nat.and_le_left ha
  apply Nat.eq_of_testBit_eq
  intro j
  rw [show 256 = 2 ^ 8 from rfl, Nat.testBit_and, Nat.testBit_two_pow_mul_add _ (by exact ha), Nat.testBit_two_pow_mul_add _ (by exact hc), Nat.testBit_two_pow_mul_add _ hac]
  split <;> rw [Nat.testBit_and]
def msk (c : Nat) : Nat → Nat
  | 0 => 0
  | n + 1 => 256 * msk c n + c
theorem by8_and {c : Nat} (hc : c < 256) : ∀ {l : List Nat}, (∀ a ∈ l, a < 256) → by8 l &&& msk c l.length = by8 (l.map (fun a => a &&& c)) := by
  intro l
  induction l with
  | nil => intro _; show (0 : Nat) &&& 0 = 0; decide
  | cons a l ih =>
    intro h
    show (256 * by8 l + a) &&& (256 * msk c l.length + c) = 256 * by8 (l.map _) + (a &&& c)
    rw [and8 (h a (List.mem_cons_self ..)) hc, ih (fun b hb => h b (List.mem_cons_of_mem _ hb))]
def by8s (d e : Nat) : List Nat → List Nat
  | [] => []
  | a :: l => (a / d + e * (by8 l % d)) :: by8s d e l
theorem by8s_len (d e : Nat) : ∀ l, (by8s d e l).length = l.length := by
  intro l
  induction l with
  | nil => rfl
  | cons a l ih => show (by8s d e l).length + 1 = _; rw [ih]; rfl
theorem by8_div2 : ∀ l, by8 l / 2 = by8 (by8s 2 128 l) := by
  intro l
  induction l with
  | nil => rfl
  | cons a l ih => show (256 * by8 l + a) / 2 = 256 * by8 (by8s 2 128 l) + (a / 2 + 128 * (by8 l % 2)); rw [← ih]; omega
theorem by8_div4 : ∀ l, by8 l / 4 = by8 (by8s 4 64 l) := by
  intro l
  induction l with
  | nil => rfl
  | cons a l ih => show (256 * by8 l + a) / 4 = 256 * by8 (by8s 4 64 l) + (a / 4 + 64 * (by8 l % 4)); rw [← ih]; omega
theorem by8_div16 : ∀ l, by8 l / 16 = by8 (by8s 16 16 l) := by
  intro l
  induction l with
  | nil => rfl
  | cons a l ih => show (256 * by8 l + a) / 16 = 256 * by8 (by8s 16 16 l) + (a / 16 + 16 * (by8 l % 16)); rw [← ih]; omega
theorem pc_t1 : ∀ a, a < 256 → ∀ t, t < 2 → (a / 2 + 128 * t) &&& 85 = (a / 2) &&& 85 := by decide +kernel
theorem pc_t2 : ∀ a, a < 256 → ∀ t, t < 4 → (a / 4 + 64 * t) &&& 51 = (a / 4) &&& 51 := by decide +kernel
theorem pc_sh1 : ∀ {l : List Nat}, (∀ a ∈ l, a < 256) → by8 l / 2 &&& msk 85 l.length = by8 (l.map (fun a => (a / 2) &&& 85)) := by
  intro l
  induction l with
  | nil => intro _; rfl
  | cons a l ih =>
    intro h
    have ha := h a (List.mem_cons_self ..)
    rw [by8_div2]
    show (256 * by8 (by8s 2 128 l) + (a / 2 + 128 * (by8 l % 2))) &&& (256 * msk 85 l.length + 85) = 256 * by8 (l.map _) + ((a / 2) &&& 85)
    rw [and8 (by omega) (by omega), ← by8_div2, ih (fun b hb => h b (List.mem_cons_of_mem _ hb)), pc_t1 a ha _ (Nat.mod_lt _ (by decide))]
theorem pc_sh2 : ∀ {l : List Nat}, (∀ a ∈ l, a < 256) → by8 l / 4 &&& msk 51 l.length = by8 (l.map (fun a => (a / 4) &&& 51)) := by
  intro l
  induction l with
  | nil => intro _; rfl
  | cons a l ih =>
    intro h
    have ha := h a (List.mem_cons_self ..)
    rw [by8_div4]
    show (256 * by8 (by8s 4 64 l) + (a / 4 + 64 * (by8 l % 4))) &&& (256 * msk 51 l.length + 51) = 256 * by8 (l.map _) + ((a / 4) &&& 51)
    rw [and8 (by omega) (by omega), ← by8_div4, ih (fun b hb => h b (List.mem_cons_of_mem _ hb)), pc_t2 a ha _ (Nat.mod_lt _ (by decide))]
theorem pc_t3 : ∀ a, a < 69 → ∀ t, t < 5 → (a + a / 16 + 16 * t) &&& 15 = (a + a / 16) &&& 15 := by decide +kernel
theorem pc_sh3 : ∀ {l : List Nat}, (∀ a ∈ l, a < 69 ∧ a % 16 < 5) → (by8 l + by8 l / 16) &&& msk 15 l.length = by8 (l.map (fun a => (a + a / 16) &&& 15)) := by
  intro l
  induction l with
  | nil => intro _; rfl
  | cons a l ih =>
    intro h
    have ha := h a (List.mem_cons_self ..)
    have ht : by8 l % 16 < 5 := by
      cases l with
      | nil => decide
      | cons b l => have hb := h b (List.mem_cons_of_mem _ (List.mem_cons_self ..)); show (256 * by8 l + b) % 16 < 5; omega
    have e : by8 (a :: l) + by8 (a :: l) / 16 = 256 * (by8 l + by8 l / 16) + (a + a / 16 + 16 * (by8 l % 16)) := by
      show (256 * by8 l + a) + (256 * by8 l + a) / 16 = _; omega
    rw [e]
    show (256 * (by8 l + by8 l / 16) + (a + a / 16 + 16 * (by8 l % 16))) &&& (256 * msk 15 l.length + 15) = 256 * by8 (l.map _) + ((a + a / 16) &&& 15)
    rw [and8 (by omega) (by omega), ih (fun b hb => h b (List.mem_cons_of_mem _ hb)), pc_t3 a ha.1 _ ht]
theorem by8_sub {g : Nat → Nat} : ∀ {l : List Nat}, (∀ a ∈ l, g a ≤ a) → by8 l - by8 (l.map g) = by8 (l.map (fun a => a - g a)) ∧ by8 (l.map g) ≤ by8 l := by
  intro l
  induction l with
  | nil => intro _; exact ⟨rfl, Nat.le_refl 0⟩
  | cons a l ih =>
    intro h
    have ha := h a (List.mem_cons_self ..)
    obtain ⟨i1, i2⟩ := ih (fun b hb => h b (List.mem_cons_of_mem _ hb))
    constructor
    · show (256 * by8 l + a) - (256 * by8 (l.map g) + g a) = 256 * by8 (l.map _) + (a - g a); rw [← i1]; omega
    · show (256 * by8 (l.map g) + g a) ≤ (256 * by8 l + a); omega
theorem by8_add (f g : Nat → Nat) : ∀ l : List Nat, by8 (l.map f) + by8 (l.map g) = by8 (l.map (fun a => f a + g a)) := by
  intro l
  induction l with
  | nil => rfl
  | cons a l ih => show (256 * by8 (l.map f) + f a) + (256 * by8 (l.map g) + g a) = 256 * by8 (l.map _) + (f a + g a); rw [← ih]; omega
def pcF1 (a : Nat) : Nat := a - ((a / 2) &&& 85)
def pcF2 (a : Nat) : Nat := (pcF1 a &&& 51) + ((pcF1 a / 4) &&& 51)
def pcF3 (a : Nat) : Nat := (pcF2 a + pcF2 a / 16) &&& 15
theorem pc_b : ∀ a, a < 256 → (a / 2) &&& 85 ≤ a ∧ pcF1 a < 256 ∧ pcF2 a < 69 ∧ pcF2 a % 16 < 5 ∧ pcF3 a ≤ 8 := by decide +kernel
theorem pc_c : ∀ a, a < 256 → pcF3 a = ct (fun i => a.testBit i) 8 := by decide +kernel
def uL (x : Int64) : Nat := x.toBitVec.toNat
theorem uL_lt (x : Int64) : uL x < 2 ^ 64 := x.toBitVec.isLt
theorem uL_bq (x : Int64) (i : Nat) : (uL x).testBit i = bq x i := BitVec.testBit_toNat _
theorem uL_and (x y : Int64) : uL (x &&& y) = uL x &&& uL y := by unfold uL; rw [Int64.toBitVec_and, BitVec.toNat_and]
theorem uL_add {x y : Int64} (h : uL x + uL y < 2 ^ 64) : uL (x + y) = uL x + uL y := by unfold uL at *; rw [Int64.toBitVec_add, BitVec.toNat_add, Nat.mod_eq_of_lt h]
theorem uL_sub {x y : Int64} (h : uL y ≤ uL x) : uL (x - y) = uL x - uL y := by
  unfold uL at *; rw [Int64.toBitVec_sub, BitVec.toNat_sub]
  have h1 := x.toBitVec.isLt; have h2 := y.toBitVec.isLt; omega
theorem uL_sh (n : Nat) (hn : n < 64) (x : Int64) : uL ((x.toUInt64 >>> ((nI n).toInt64.toUInt64 &&& Int64.toUInt64 63)).toInt64) = uL x / 2 ^ n := by
  have h1 : ∀ n, n < 64 → ((((nI n).toInt64.toUInt64 &&& Int64.toUInt64 63).toBitVec % 64).toNat) = n := by decide +kernel
  show ((x.toUInt64 >>> ((nI n).toInt64.toUInt64 &&& Int64.toUInt64 63)).toBitVec).toNat = _
  rw [UInt64.toBitVec_shiftRight, BitVec.ushiftRight_eq', BitVec.toNat_ushiftRight, h1 n hn, Nat.shiftRight_eq_div_pow]
  rfl
def bc1 (a : Int64) : Int64 := a - (((a.toUInt64 >>> ((1 : Int32).toInt64.toUInt64 &&& Int64.toUInt64 63)).toInt64) &&& (6148914691236517205 : Int64))
def bc2 (a : Int64) : Int64 := (a &&& (3689348814741910323 : Int64)) + (((a.toUInt64 >>> ((2 : Int32).toInt64.toUInt64 &&& Int64.toUInt64 63)).toInt64) &&& (3689348814741910323 : Int64))
def bc3 (a : Int64) : Int64 := (a + ((a.toUInt64 >>> ((4 : Int32).toInt64.toUInt64 &&& Int64.toUInt64 63)).toInt64)) &&& (1085102592571150095 : Int64)
def bc4 (a : Int64) : Int64 := a + ((a.toUInt64 >>> ((8 : Int32).toInt64.toUInt64 &&& Int64.toUInt64 63)).toInt64)
def bc5 (a : Int64) : Int64 := a + ((a.toUInt64 >>> ((16 : Int32).toInt64.toUInt64 &&& Int64.toUInt64 63)).toInt64)
def bc6 (a : Int64) : Int64 := a + ((a.toUInt64 >>> ((32 : Int32).toInt64.toUInt64 &&& Int64.toUInt64 63)).toInt64)
set_option maxRecDepth 100000 in
theorem bc_eq (n : Nat) (a : Int64) : fJ13_bitCount_95d88 n a = some ((bc6 (bc5 (bc4 (bc3 (bc2 (bc1 a)))))).toInt32 &&& (127 : Int32)) := by
  delta fJ13_bitCount_95d88 bc6 bc5 bc4 bc3 bc2 bc1
  rfl
theorem uL_bytes (x : Int64) : ∃ l : List Nat, l.length = 8 ∧ (∀ a ∈ l, a < 256) ∧ uL x = by8 l ∧ ∀ k, k < 8 → ∃ b, l[k]? = some b ∧ ∀ j, j < 8 → b.testBit j = bq x (8 * k + j) := by
  have key : ∀ n v : Nat, v < 256 ^ n → ∃ l : List Nat, l.length = n ∧ (∀ a ∈ l, a < 256) ∧ v = by8 l ∧ ∀ k, k < n → ∃ b, l[k]? = some b ∧ ∀ j, j < 8 → b.testBit j = v.testBit (8 * k + j) := by
    intro n
    induction n with
    | zero => intro v hv; exact ⟨[], rfl, fun a h => (by cases h), by rw [Nat.pow_zero] at hv; show v = 0; omega, fun k h => absurd h (Nat.not_lt_zero k)⟩
    | succ n ih =>
      intro v hv
      obtain ⟨l, h1, h2, h3, h4⟩ := ih (v / 256) (by rw [Nat.pow_succ] at hv; exact Nat.div_lt_of_lt_mul (by rw [Nat.mul_comm]; exact hv))
      have hv2 : v = 256 * (v / 256) + v % 256 := by omega
      have hlt : v % 256 < 2 ^ 8 := Nat.mod_lt _ (by decide)
      have ht : ∀ j, v.testBit j = if j < 8 then (v % 256).testBit j else (v / 256).testBit (j - 8) := by
        intro j
        have := Nat.testBit_two_pow_mul_add (v / 256) hlt j
        rw [← this]; congr 1
      refine ⟨v % 256 :: l, by rw [List.length_cons, h1], fun a ha => ?_, ?_, fun k hk => ?_⟩
      · rcases List.mem_cons.mp ha with rfl | h
        · exact hlt
        · exact h2 a h
      · show v = 256 * by8 l + v % 256; rw [← h3]; exact hv2
      · cases k with
        | zero => exact ⟨_, rfl, fun j hj => by rw [ht, if_pos (by omega)]; congr 1; omega⟩
        | succ k =>
          obtain ⟨b, hb, hj⟩ := h4 k (by omega)
          refine ⟨b, hb, fun j hj8 => ?_⟩
          rw [hj j hj8, ht, if_neg (by omega)]; congr 1; omega
  obtain ⟨l, h1, h2, h3, h4⟩ := key 8 (uL x) (uL_lt x)
  exact ⟨l, h1, h2, h3, fun k hk => by
    obtain ⟨b, hb, hj⟩ := h4 k hk
    exact ⟨b, hb, fun j hj8 => by rw [hj j hj8, uL_bq]⟩⟩
theorem len8 {l : List Nat} (h : l.length = 8) : ∃ a0 a1 a2 a3 a4 a5 a6 a7, l = [a0, a1, a2, a3, a4, a5, a6, a7] := by
  match l, h with
  | [a0, a1, a2, a3, a4, a5, a6, a7], _ => exact ⟨a0, a1, a2, a3, a4, a5, a6, a7, rfl⟩
theorem ct8 (p : Nat → Bool) : ct p 64 = ct (fun j => p (8 * 0 + j)) 8 + ct (fun j => p (8 * 1 + j)) 8 + ct (fun j => p (8 * 2 + j)) 8 + ct (fun j => p (8 * 3 + j)) 8 + ct (fun j => p (8 * 4 + j)) 8 + ct (fun j => p (8 * 5 + j)) 8 + ct (fun j => p (8 * 6 + j)) 8 + ct (fun j => p (8 * 7 + j)) 8 := by
  have e : ∀ m, ct p (m + 8) = ct p m + ct (fun k => p (m + k)) 8 := fun m => ct_split p m 8
  rw [show 64 = 56 + 8 from rfl, e, show 56 = 48 + 8 from rfl, e, show 48 = 40 + 8 from rfl, e, show 40 = 32 + 8 from rfl, e, show 32 = 24 + 8 from rfl, e, show 24 = 16 + 8 from rfl, e, show 16 = 8 + 8 from rfl, e]
  simp
theorem uL_shK {k : Int32} (n : Nat) (hk : k = nI n) (hn : n < 64) (x : Int64) : uL ((x.toUInt64 >>> (k.toInt64.toUInt64 &&& Int64.toUInt64 63)).toInt64) = uL x / 2 ^ n := by
  subst hk; exact uL_sh n hn x
theorem m55 : uL 6148914691236517205 = msk 85 8 := by decide +kernel
theorem m33 : uL 3689348814741910323 = msk 51 8 := by decide +kernel
theorem m0f : uL 1085102592571150095 = msk 15 8 := by decide +kernel
theorem by8_lt {l : List Nat} (hl : l.length = 8) (hb : ∀ a ∈ l, a < 256) : by8 l < 2 ^ 64 := by
  obtain ⟨a0, a1, a2, a3, a4, a5, a6, a7, rfl⟩ := len8 hl
  have c0 := hb a0 (by simp); have c1 := hb a1 (by simp); have c2 := hb a2 (by simp); have c3 := hb a3 (by simp)
  have c4 := hb a4 (by simp); have c5 := hb a5 (by simp); have c6 := hb a6 (by simp); have c7 := hb a7 (by simp)
  simp only [by8]
  omega
theorem bc_e1 {x : Int64} {l : List Nat} (h1 : l.length = 8) (h2 : ∀ a ∈ l, a < 256) (h3 : uL x = by8 l) : uL (bc1 x) = by8 (l.map pcF1) := by
  unfold bc1
  have q : uL (((x.toUInt64 >>> ((1 : Int32).toInt64.toUInt64 &&& Int64.toUInt64 63)).toInt64) &&& (6148914691236517205 : Int64)) = by8 (l.map (fun a => (a / 2) &&& 85)) := by
    rw [uL_and, m55, uL_shK 1 z_1 (by decide), h3, ← h1, Nat.pow_one]
    exact pc_sh1 h2
  have s := by8_sub (g := fun a => (a / 2) &&& 85) (l := l) (fun a ha => (pc_b a (h2 a ha)).1)
  rw [uL_sub (by rw [q, h3]; exact s.2), q, h3]
  exact s.1
theorem bc_e2 {y : Int64} {l : List Nat} (h1 : l.length = 8) (h2 : ∀ a ∈ l, a < 256) (e1 : uL y = by8 (l.map pcF1)) : uL (bc2 y) = by8 (l.map pcF2) := by
  have b1 : ∀ a ∈ l.map pcF1, a < 256 := fun a ha => by
    obtain ⟨b, hb, rfl⟩ := List.mem_map.mp ha
    exact (pc_b b (h2 b hb)).2.1
  have n1 : (l.map pcF1).length = 8 := by rw [List.length_map, h1]
  have b2 : ∀ a ∈ l.map pcF2, a < 256 := fun a ha => by
    obtain ⟨b, hb, rfl⟩ := List.mem_map.mp ha
    have := (pc_b b (h2 b hb)).2.2.1
    omega
  have n2 : (l.map pcF2).length = 8 := by rw [List.length_map, h1]
  unfold bc2
  have q1 : uL (y &&& (3689348814741910323 : Int64)) = by8 (l.map (fun a => pcF1 a &&& 51)) := by
    rw [uL_and, m33, e1, ← n1, by8_and (by decide) b1, List.map_map]; rfl
  have q2 : uL (((y.toUInt64 >>> ((2 : Int32).toInt64.toUInt64 &&& Int64.toUInt64 63)).toInt64) &&& (3689348814741910323 : Int64)) = by8 (l.map (fun a => (pcF1 a / 4) &&& 51)) := by
    rw [uL_and, m33, uL_shK 2 z_2 (by decide), e1, ← n1, show (2 ^ 2 : Nat) = 4 from rfl, pc_sh2 b1, List.map_map]; rfl
  have s : by8 (l.map (fun a => pcF1 a &&& 51)) + by8 (l.map (fun a => (pcF1 a / 4) &&& 51)) = by8 (l.map pcF2) := by8_add _ _ l
  rw [uL_add (by rw [q1, q2, s]; exact by8_lt n2 b2), q1, q2, s]
theorem bc_e3 {y : Int64} {l : List Nat} (h1 : l.length = 8) (h2 : ∀ a ∈ l, a < 256) (e2 : uL y = by8 (l.map pcF2)) : uL (bc3 y) = by8 (l.map pcF3) := by
  have b2 : ∀ a ∈ l.map pcF2, a < 69 ∧ a % 16 < 5 := fun a ha => by
    obtain ⟨b, hb, rfl⟩ := List.mem_map.mp ha
    exact ⟨(pc_b b (h2 b hb)).2.2.1, (pc_b b (h2 b hb)).2.2.2.1⟩
  have n2 : (l.map pcF2).length = 8 := by rw [List.length_map, h1]
  unfold bc3
  have hs : uL y + uL y / 2 ^ 4 < 2 ^ 64 := by
    rw [e2]
    generalize l.map pcF2 = l2 at *
    obtain ⟨a0, a1, a2, a3, a4, a5, a6, a7, rfl⟩ := len8 n2
    have c7 := (b2 a7 (by simp)).1
    have hl : by8 [a0, a1, a2, a3, a4, a5, a6] < 256 ^ 7 := by
      have c0 := (b2 a0 (by simp)).1; have c1 := (b2 a1 (by simp)).1; have c2 := (b2 a2 (by simp)).1; have c3 := (b2 a3 (by simp)).1
      have c4 := (b2 a4 (by simp)).1; have c5 := (b2 a5 (by simp)).1; have c6 := (b2 a6 (by simp)).1
      simp only [by8]; omega
    have hb : by8 [a0, a1, a2, a3, a4, a5, a6, a7] = by8 [a0, a1, a2, a3, a4, a5, a6] + 256 ^ 7 * a7 := by simp only [by8]; omega
    rw [hb]
    generalize by8 [a0, a1, a2, a3, a4, a5, a6] = z at *
    omega
  rw [uL_and, m0f, uL_add (by rw [uL_shK 4 z_4 (by decide)]; exact hs), uL_shK 4 z_4 (by decide), e2, ← n2, show (2 ^ 4 : Nat) = 16 from rfl, pc_sh3 b2, List.map_map]; rfl
theorem bc_e4 {y : Int64} {p0 p1 p2 p3 p4 p5 p6 p7 : Nat} (e4 : uL y = by8 [p0, p1, p2, p3, p4, p5, p6, p7]) (c0 : p0 ≤ 8) (c1 : p1 ≤ 8) (c2 : p2 ≤ 8) (c3 : p3 ≤ 8) (c4 : p4 ≤ 8) (c5 : p5 ≤ 8) (c6 : p6 ≤ 8) (c7 : p7 ≤ 8) : uL (bc4 y) = by8 [p0 + p1, p1 + p2, p2 + p3, p3 + p4, p4 + p5, p5 + p6, p6 + p7, p7] := by
  have d : by8 [p0, p1, p2, p3, p4, p5, p6, p7] / 256 = by8 [p1, p2, p3, p4, p5, p6, p7] := by
    show (256 * by8 [p1, p2, p3, p4, p5, p6, p7] + p0) / 256 = _; omega
  have a : by8 [p0, p1, p2, p3, p4, p5, p6, p7] + by8 [p1, p2, p3, p4, p5, p6, p7] = by8 [p0 + p1, p1 + p2, p2 + p3, p3 + p4, p4 + p5, p5 + p6, p6 + p7, p7] := by simp only [by8]; omega
  unfold bc4
  have q : uL ((y.toUInt64 >>> ((8 : Int32).toInt64.toUInt64 &&& Int64.toUInt64 63)).toInt64) = by8 [p1, p2, p3, p4, p5, p6, p7] := by
    rw [uL_shK 8 z_8 (by decide), e4, show (2 ^ 8 : Nat) = 256 from rfl, d]
  rw [uL_add (by rw [q, e4, a]; exact by8_lt rfl (by simp; omega)), q, e4, a]
