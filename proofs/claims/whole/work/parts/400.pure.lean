/-! PURE LAYER: words of numbers, loops, sets of cells -/
theorem z_0 : (0 : Int32) = nI 0 := rfl
theorem z_1 : (1 : Int32) = nI 1 := rfl
theorem z_2 : (2 : Int32) = nI 2 := rfl
theorem z_3 : (3 : Int32) = nI 3 := rfl
theorem z_4 : (4 : Int32) = nI 4 := rfl
theorem z_5 : (5 : Int32) = nI 5 := rfl
theorem z_6 : (6 : Int32) = nI 6 := rfl
theorem z_7 : (7 : Int32) = nI 7 := rfl
theorem z_8 : (8 : Int32) = nI 8 := rfl
theorem z_9 : (9 : Int32) = nI 9 := rfl
theorem z_10 : (10 : Int32) = nI 10 := rfl
theorem z_11 : (11 : Int32) = nI 11 := rfl
theorem z_12 : (12 : Int32) = nI 12 := rfl
theorem z_13 : (13 : Int32) = nI 13 := rfl
theorem z_14 : (14 : Int32) = nI 14 := rfl
theorem z_15 : (15 : Int32) = nI 15 := rfl
theorem z_16 : (16 : Int32) = nI 16 := rfl
theorem z_20 : (20 : Int32) = nI 20 := rfl
theorem z_30 : (30 : Int32) = nI 30 := rfl
theorem z_32 : (32 : Int32) = nI 32 := rfl
theorem z_35 : (35 : Int32) = nI 35 := rfl
theorem z_36 : (36 : Int32) = nI 36 := rfl
theorem z_37 : (37 : Int32) = nI 37 := rfl
theorem z_40 : (40 : Int32) = nI 40 := rfl
theorem z_48 : (48 : Int32) = nI 48 := rfl
theorem z_49 : (49 : Int32) = nI 49 := rfl
theorem z_57 : (57 : Int32) = nI 57 := rfl
theorem z_59 : (59 : Int32) = nI 59 := rfl
theorem z_60 : (60 : Int32) = nI 60 := rfl
theorem z_64 : (64 : Int32) = nI 64 := rfl
theorem z_85 : (85 : Int32) = nI 85 := rfl
theorem z_97 : (97 : Int32) = nI 97 := rfl
theorem z_99 : (99 : Int32) = nI 99 := rfl
theorem z_117 : (117 : Int32) = nI 117 := rfl
theorem z_120 : (120 : Int32) = nI 120 := rfl
theorem z_122 : (122 : Int32) = nI 122 := rfl
theorem z_127 : (127 : Int32) = nI 127 := rfl
theorem z_255 : (255 : Int32) = nI 255 := rfl
theorem z_999 : (999 : Int32) = nI 999 := rfl
theorem z_1000 : (1000 : Int32) = nI 1000 := rfl
theorem z_12345 : (12345 : Int32) = nI 12345 := rfl
theorem z_99999 : (99999 : Int32) = nI 99999 := rfl
def m1 : Int32 := -1
theorem z_m1 : (-1 : Int32) = m1 := rfl
theorem z_m1' : -(nI 1) = m1 := rfl
theorem m1_int : m1.toInt = -1 := by decide
theorem m1_lt (a : Nat) (h : a < 2 ^ 31) : (m1 < nI a) = True := eq_true (by rw [Int32.lt_iff_toInt_lt, nI_toInt h, m1_int]; omega)
theorem m1_le (a : Nat) (h : a < 2 ^ 31) : (m1 ≤ nI a) = True := eq_true (by rw [Int32.le_iff_toInt_le, nI_toInt h, m1_int]; omega)
theorem m1_nlt (a : Nat) (h : a < 2 ^ 31) : (nI a < m1) = False := eq_false (by rw [Int32.lt_iff_toInt_lt, nI_toInt h, m1_int]; omega)
theorem m1_nle (a : Nat) (h : a < 2 ^ 31) : (nI a ≤ m1) = False := eq_false (by rw [Int32.le_iff_toInt_le, nI_toInt h, m1_int]; omega)
theorem m1_ne (a : Nat) (h : a < 2 ^ 31) : (nI a = m1) = False := eq_false (fun e => by have q := congrArg Int32.toInt e; rw [nI_toInt h, m1_int] at q; omega)
theorem m1_ne' (a : Nat) (h : a < 2 ^ 31) : (m1 = nI a) = False := eq_false (fun e => by have q := congrArg Int32.toInt e; rw [nI_toInt h, m1_int] at q; omega)
theorem nI_leT {a b : Nat} (h : a ≤ b) (hb : b < 2 ^ 31) : (nI a ≤ nI b) = True := eq_true (nI_le h hb)
theorem nI_leF {a b : Nat} (h : b < a) (hb : a < 2 ^ 31) : (nI a ≤ nI b) = False := eq_false (nI_ge h hb)
theorem nI_ltT {a b : Nat} (h : a < b) (hb : b < 2 ^ 31) : (nI a < nI b) = True := eq_true (nI_lt h hb)
theorem nI_ltF {a b : Nat} (h : b ≤ a) (hb : a < 2 ^ 31) : (nI a < nI b) = False := eq_false (nI_nlt h hb)
theorem nI_eqT {a b : Nat} (h : a = b) : (nI a = nI b) = True := eq_true (by rw [h])
theorem nI_eqF {a b : Nat} (h : a < b ∨ b < a) (ha : a < 2 ^ 31) (hb : b < 2 ^ 31) : (nI a = nI b) = False := eq_false (fun e => by have := (nI_eq ha hb).mp e; omega)
theorem vi_T {a b : Nat} (h : a < b) (hb : b < 2 ^ 31) : vi (nI a) b = True := eq_true (vp_in_nI h hb)
theorem nI_leE {a b : Nat} (ha : a < 2 ^ 31) (hb : b < 2 ^ 31) : (nI a ≤ nI b) = (a ≤ b) := propext (nI_leI ha hb)
theorem nI_ltE {a b : Nat} (ha : a < 2 ^ 31) (hb : b < 2 ^ 31) : (nI a < nI b) = (a < b) := propext (nI_ltI ha hb)
theorem nI_eqE {a b : Nat} (ha : a < 2 ^ 31) (hb : b < 2 ^ 31) : (nI a = nI b) = (a = b) := propext (nI_eq ha hb)
theorem lp_it {σ ρ : Type} {b : σ → Option (σ ⊕ ρ)} {s0 : σ} {v : ρ} (e : Nat → σ) (N : Nat) (h0 : e 0 = s0) (hb : ∀ k, k < N → b (e k) = some (.inl (e (k + 1)))) (hN : b (e N) = some (.inr v)) {n : Nat} (hn : N < n) : lp b n s0 = some v := by
  subst h0
  have key : ∀ d k n, k + d = N → d < n → lp b n (e k) = some v := by
    intro d
    induction d with
    | zero =>
      intro k n hk hn
      obtain ⟨n, rfl⟩ : ∃ m, n = m + 1 := ⟨n - 1, by omega⟩
      have : k = N := by omega
      subst this
      rw [lp, hN]; rfl
    | succ d ih =>
      intro k n hk hn
      obtain ⟨n, rfl⟩ : ∃ m, n = m + 1 := ⟨n - 1, by omega⟩
      rw [lp, hb k (by omega)]
      exact ih (k + 1) n (by omega) (by omega)
  exact key N 0 n (by omega) hn
theorem lp_mono {σ ρ : Type} {b : σ → Option (σ ⊕ ρ)} {v : ρ} : ∀ {m : Nat} {s : σ}, lp b m s = some v → ∀ {n : Nat}, m ≤ n → lp b n s = some v := by
  intro m
  induction m with
  | zero => intro s h; cases h
  | succ m ih =>
    intro s h n hn
    obtain ⟨n, rfl⟩ : ∃ q, n = q + 1 := ⟨n - 1, by omega⟩
    rw [lp] at h ⊢
    obtain ⟨r, h1, h2⟩ := bd_some h
    rw [h1]
    cases r with
    | inl s' => exact ih h2 (by omega)
    | inr r => exact h2
def it {α : Type} (f : Nat → α → α) : Nat → α → α
  | 0, a => a
  | k + 1, a => f k (it f k a)
/-! sets -/
def bq (x : Int64) (c : Nat) : Bool := x.toBitVec.getLsbD c
abbrev bitL (c : Nat) : Int64 := (1 : Int64) <<< ((nI c).toInt64 &&& 63)
theorem bq_ext {x y : Int64} (h : ∀ i, i < 64 → bq x i = bq y i) : x = y := Int64.toBitVec_inj.mp (BitVec.eq_of_getLsbD_eq (fun i hi => h i hi))
theorem bq_or (x y : Int64) (i : Nat) : bq (x ||| y) i = (bq x i || bq y i) := by unfold bq; rw [Int64.toBitVec_or, BitVec.getLsbD_or]
theorem bq_and (x y : Int64) (i : Nat) : bq (x &&& y) i = (bq x i && bq y i) := by unfold bq; rw [Int64.toBitVec_and, BitVec.getLsbD_and]
theorem bq_xor (x y : Int64) (i : Nat) : bq (x ^^^ y) i = (bq x i ^^ bq y i) := by unfold bq; rw [Int64.toBitVec_xor, BitVec.getLsbD_xor]
theorem bq_0 (i : Nat) : bq 0 i = false := BitVec.getLsbD_zero
theorem bq_hi {x : Int64} {i : Nat} (h : 64 ≤ i) : bq x i = false := BitVec.getLsbD_of_ge _ _ h
theorem bq_m1 {i : Nat} (h : i < 64) : bq (-1) i = true := by
  have : ∀ i, i < 64 → bq (-1) i = true := by decide +kernel
  exact this i h
theorem bq_all : ∀ i, i < 64 → bq 68719476735 i = decide (i < 36) := by decide +kernel
theorem bitL_tp : ∀ c, c < 64 → (bitL c).toBitVec = BitVec.twoPow 64 c := by decide +kernel
theorem bq_bit {c i : Nat} (hc : c < 64) : bq (bitL c) i = decide (i = c) := by
  unfold bq; rw [bitL_tp c hc, BitVec.getLsbD_twoPow]
  by_cases h : i = c
  · subst h; simp [hc]
  · have : ¬ c = i := fun e => h e.symm
    simp [h, this]
theorem bq_test {x : Int64} {c : Nat} (hc : c < 64) : (x &&& bitL c = 0) = (bq x c = false) := propext (by
  constructor
  · intro h
    have q := congrArg (fun z => bq z c) h
    simpa [bq_and, bq_bit hc, bq_0] using q
  · intro h
    apply bq_ext
    intro i _
    rw [bq_and, bq_bit hc, bq_0]
    by_cases e : i = c
    · subst e; simp [h]
    · simp [e])
theorem bq_zero {x : Int64} (h : x ≠ 0) : ∃ i, i < 64 ∧ bq x i = true := Classical.byContradiction fun q => h (bq_ext fun i hi => by
  rw [bq_0]; cases e : bq x i with
  | false => rfl
  | true => exact absurd ⟨i, hi, e⟩ q)
def sb (p : Nat → Bool) : Nat → Int64
  | 0 => 0
  | n + 1 => if p n then sb p n ||| bitL n else sb p n
theorem bq_sb (p : Nat → Bool) {n : Nat} (hn : n ≤ 64) (i : Nat) : bq (sb p n) i = (decide (i < n) && p i) := by
  induction n with
  | zero => rw [sb, bq_0]; simp
  | succ n ih =>
    rw [sb]
    by_cases h : p n = true
    · rw [if_pos h, bq_or, ih (by omega), bq_bit (by omega)]
      by_cases e : i = n
      · subst e; simp [h]
      · have : (i < n + 1) = (i < n) := propext (by omega)
        simp [e, this]
    · rw [if_neg h, ih (by omega)]
      by_cases e : i = n
      · subst e; simp [h]
      · have : (i < n + 1) = (i < n) := propext (by omega)
        simp [this]
theorem sb_cong {p q : Nat → Bool} {n : Nat} (h : ∀ i, i < n → p i = q i) : sb p n = sb q n := by
  induction n with
  | zero => rfl
  | succ n ih => rw [sb, sb, ih (fun i hi => h i (by omega)), h n (by omega)]
/-- a set is what its cells say -/
theorem sb_of {x : Int64} {p : Nat → Bool} {n : Nat} (hn : n ≤ 64) (h : ∀ i, i < 64 → bq x i = (decide (i < n) && p i)) : x = sb p n := bq_ext fun i hi => by rw [h i hi, bq_sb p hn]
theorem bq_shl (n : Nat) (hn : n < 64) (x : Int64) {i : Nat} (hi : i < 64) : bq (x <<< ((nI n).toInt64 &&& 63)) i = (decide (n ≤ i) && bq x (i - n)) := by
  have h1 : ∀ n, n < 64 → ((((nI n).toInt64 &&& 63).toBitVec.smod 64).toNat) = n := by decide +kernel
  unfold bq
  rw [Int64.toBitVec_shiftLeft]
  rw [BitVec.shiftLeft_eq', BitVec.getLsbD_shiftLeft, h1 n hn]
  by_cases h : n ≤ i
  · have : ¬ i < n := by omega
    simp [hi, h, this]
  · have : i < n := by omega
    simp [h, this]
theorem bq_ushr (n : Nat) (hn : n < 64) (x : Int64) (i : Nat) : bq ((x.toUInt64 >>> ((nI n).toInt64.toUInt64 &&& Int64.toUInt64 63)).toInt64) i = bq x (n + i) := by
  have h1 : ∀ n, n < 64 → ((((nI n).toInt64.toUInt64 &&& Int64.toUInt64 63).toBitVec % 64).toNat) = n := by decide +kernel
  show ((x.toUInt64 >>> ((nI n).toInt64.toUInt64 &&& Int64.toUInt64 63)).toBitVec).getLsbD i = _
  rw [UInt64.toBitVec_shiftRight, BitVec.ushiftRight_eq', BitVec.getLsbD_ushiftRight, h1 n hn]
  rfl
