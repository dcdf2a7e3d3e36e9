/-! cells beside each other, how far apart they are -/
def nbc (c h : Nat) : Nat := if h = 0 then (if c < 6 then 36 else c - 6) else if h = 1 then (if c % 6 = 5 then 36 else c + 1) else if h = 2 then (if c + 6 < 36 then c + 6 else 36) else (if c % 6 = 0 then 36 else c - 1)
def nbI (v : Nat) : Int32 := if v < 36 then nI v else m1
def dst (a b : Nat) : Nat := (if a / 6 < b / 6 then b / 6 - a / 6 else a / 6 - b / 6) + (if a % 6 < b % 6 then b % 6 - a % 6 else a % 6 - b % 6)
theorem nbI_T {v : Nat} (h : v < 36) : nbI v = nI v := if_pos h
theorem nbI_F {v : Nat} (h : 36 ≤ v) : nbI v = m1 := if_neg (by omega)
theorem t_nb : ∀ c, c < 36 → ∀ h, h < 4 → fX0_neighbour 0 (nI c) (nI h) = some (nbI (nbc c h)) := by decide +kernel
theorem t_bs : ∀ c, c < 36 → ∀ h, h < 4 → fX7_beside 0 (nI c) (nI h) = some (nbI (nbc c h)) := by decide +kernel
theorem t_ds : ∀ a, a < 36 → ∀ b, b < 36 → fX0_distance 0 (nI a) (nI b) = some (nI (dst a b)) := by decide +kernel
theorem t_ap : ∀ a, a < 36 → ∀ b, b < 36 → fX7_apartOf 0 (nI a) (nI b) = some (nI (dst a b)) := by decide +kernel
theorem t_dl : ∀ a, a < 36 → ∀ b, b < 36 → dst a b < 11 ∧ (dst a b = 0 ↔ a = b) ∧ dst a b = dst b a ∧ (dst a b = 1 ↔ (nbc a 0 = b ∨ nbc a 1 = b ∨ nbc a 2 = b ∨ nbc a 3 = b)) := by decide +kernel
theorem t_nl : ∀ c, c < 36 → ∀ h, h < 4 → nbc c h ≤ 36 ∧ (nbc c h < 36 → nbc (nbc c h) ((h + 2) % 4) = c ∧ nbc c h ≠ c) := by decide +kernel
theorem t_tw : ∀ c, c < 36 → ∀ g, g < 36 → c ≠ g → ∃ h, h < 4 ∧ nbc c h < 36 ∧ dst (nbc c h) g < dst c g := by decide +kernel
theorem nbc_le (c h : Nat) (hc : c < 36) : nbc c h ≤ 36 := by
  unfold nbc
  repeat' split
  all_goals omega
theorem e_neighbour (n : Nat) {c h : Nat} (hc : c < 36) (hh : h < 4) : fX0_neighbour n (nI c) (nI h) = some (nbI (nbc c h)) := t_nb c hc h hh
theorem e_beside (n : Nat) {c h : Nat} (hc : c < 36) (hh : h < 4) : fX7_beside n (nI c) (nI h) = some (nbI (nbc c h)) := t_bs c hc h hh
theorem e_distance (n : Nat) {a b : Nat} (ha : a < 36) (hb : b < 36) : fX0_distance n (nI a) (nI b) = some (nI (dst a b)) := t_ds a ha b hb
theorem e_apartOf (n : Nat) {a b : Nat} (ha : a < 36) (hb : b < 36) : fX7_apartOf n (nI a) (nI b) = some (nI (dst a b)) := t_ap a ha b hb
theorem dst_lt {a b : Nat} (ha : a < 36) (hb : b < 36) : dst a b < 11 := (t_dl a ha b hb).1
/-! sets of cells beside a set -/
def nb1 (p : Nat → Bool) (v : Nat) : Bool := decide (v < 36) && p v
def nb4 (p : Nat → Bool) (i : Nat) : Bool := nb1 p (nbc i 0) || nb1 p (nbc i 1) || nb1 p (nbc i 2) || nb1 p (nbc i 3)
def nbS (x : Int64) : Int64 := (((x <<< ((6 : Int32).toInt64 &&& 63)) ||| ((x.toUInt64 >>> ((6 : Int32).toInt64.toUInt64 &&& Int64.toUInt64 63)).toInt64)) ||| (((x &&& (-34905131041 : Int64)) <<< ((1 : Int32).toInt64 &&& 63)) ||| (((x &&& (-1090785346 : Int64)).toUInt64 >>> ((1 : Int32).toInt64.toUInt64 &&& Int64.toUInt64 63)).toInt64))) &&& (68719476735 : Int64)
theorem e_neighbours (n : Nat) (x : Int64) : fX0_neighbours n x = some (nbS x) := rfl
theorem bq_nr : ∀ i, i < 64 → bq (-34905131041) i = !(decide (i < 36) && decide (i % 6 = 5)) := by decide +kernel
theorem bq_nl : ∀ i, i < 64 → bq (-1090785346) i = !(decide (i < 36) && decide (i % 6 = 0)) := by decide +kernel
theorem bq_shlK {k : Int32} (n : Nat) (hk : k = nI n) (hn : n < 64) (x : Int64) {i : Nat} (hi : i < 64) : bq (x <<< (k.toInt64 &&& 63)) i = (decide (n ≤ i) && bq x (i - n)) := by
  subst hk; exact bq_shl n hn x hi
theorem bq_ushrK {k : Int32} (n : Nat) (hk : k = nI n) (hn : n < 64) (x : Int64) (i : Nat) : bq ((x.toUInt64 >>> (k.toInt64.toUInt64 &&& Int64.toUInt64 63)).toInt64) i = bq x (n + i) := by
  subst hk; exact bq_ushr n hn x i
theorem bq_nbS {x : Int64} (hx : ∀ i, 36 ≤ i → bq x i = false) {i : Nat} (hi : i < 64) : bq (nbS x) i = (decide (i < 36) && nb4 (bq x) i) := by
  unfold nbS
  rw [bq_and, bq_all i hi]
  by_cases h36 : i < 36
  · rw [bq_or, bq_or, bq_or]
    rw [bq_shlK 6 z_6 (by decide) x hi, bq_ushrK 6 z_6 (by decide) x i, bq_shlK 1 z_1 (by decide) _ hi, bq_ushrK 1 z_1 (by decide) _ i,
      bq_and, bq_and, bq_nr (i - 1) (by omega), bq_nl (1 + i) (by omega)]
    have e0 : nb1 (bq x) (nbc i 0) = (decide (6 ≤ i) && bq x (i - 6)) := by
      unfold nb1 nbc
      by_cases h : i < 6
      · have : ¬ 6 ≤ i := by omega
        simp [h, this]
      · have h2 : 6 ≤ i := by omega
        have h3 : i - 6 < 36 := by omega
        simp [h, h2, h3]
    have e2 : nb1 (bq x) (nbc i 2) = bq x (6 + i) := by
      unfold nb1 nbc
      by_cases h : i + 6 < 36
      · rw [Nat.add_comm 6 i]; simp [h]
      · rw [hx (6 + i) (by omega)]; simp [h]
    have e3 : nb1 (bq x) (nbc i 3) = (decide (1 ≤ i) && (bq x (i - 1) && !(decide (i - 1 < 36) && decide ((i - 1) % 6 = 5)))) := by
      unfold nb1 nbc
      by_cases h : i % 6 = 0
      · by_cases h1 : 1 ≤ i
        · have a1 : i - 1 < 36 := by omega
          have a2 : (i - 1) % 6 = 5 := by omega
          simp [h, a1, a2]
        · simp [h, h1]
      · have a1 : i - 1 < 36 := by omega
        have a2 : ¬ (i - 1) % 6 = 5 := by omega
        have a3 : 1 ≤ i := by omega
        simp [h, a1, a2, a3]
    have e1 : nb1 (bq x) (nbc i 1) = (bq x (1 + i) && !(decide (1 + i < 36) && decide ((1 + i) % 6 = 0))) := by
      unfold nb1 nbc
      by_cases h : i % 6 = 5
      · by_cases h1 : 1 + i < 36
        · have a2 : (1 + i) % 6 = 0 := by omega
          simp [h, h1, a2]
        · rw [hx (1 + i) (by omega)]; simp [h]
      · have a1 : i + 1 < 36 := by omega
        have a2 : ¬ (1 + i) % 6 = 0 := by omega
        rw [Nat.add_comm 1 i] at *
        simp [h, a1, a2]
    unfold nb4
    rw [e0, e1, e2, e3]
    simp only [h36, decide_true, Bool.true_and, Bool.and_true]
    cases (decide (6 ≤ i) && bq x (i - 6)) <;> cases (bq x (6 + i)) <;> cases (decide (1 ≤ i) && (bq x (i - 1) && !(decide (i - 1 < 36) && decide ((i - 1) % 6 = 5)))) <;> cases (bq x (1 + i) && !(decide (1 + i < 36) && decide ((1 + i) % 6 = 0))) <;> rfl
  · simp [h36]
theorem nb4_iff {p : Nat → Bool} {i : Nat} : nb4 p i = true ↔ ∃ h, h < 4 ∧ nbc i h < 36 ∧ p (nbc i h) = true := by
  unfold nb4 nb1
  constructor
  · intro q
    simp only [Bool.or_eq_true, Bool.and_eq_true, decide_eq_true_eq] at q
    rcases q with ((q | q) | q) | q
    · exact ⟨0, by decide, q⟩
    · exact ⟨1, by decide, q⟩
    · exact ⟨2, by decide, q⟩
    · exact ⟨3, by decide, q⟩
  · rintro ⟨h, h4, q⟩
    simp only [Bool.or_eq_true, Bool.and_eq_true, decide_eq_true_eq]
    have : h = 0 ∨ h = 1 ∨ h = 2 ∨ h = 3 := by omega
    rcases this with rfl | rfl | rfl | rfl
    · exact Or.inl (Or.inl (Or.inl q))
    · exact Or.inl (Or.inl (Or.inr q))
    · exact Or.inl (Or.inr q)
    · exact Or.inr q
theorem nb4_cong {p q : Nat → Bool} {i : Nat} (h : ∀ j, j < 36 → p j = q j) : nb4 p i = nb4 q i := by
  have e : ∀ v, nb1 p v = nb1 q v := fun v => by
    unfold nb1
    by_cases hv : v < 36
    · rw [h v hv]
    · simp [hv]
  unfold nb4; rw [e, e, e, e]
/-! tests of a range -/
theorem rg (a : Int32) (n : Nat) (hn : n < 2 ^ 31) : (∃ j, j < n ∧ a = nI j) ∨ (a < nI 0 ∨ nI n ≤ a) := by
  rcases pk_ix a hn with h | h | h
  · exact Or.inr (Or.inl h)
  · exact Or.inr (Or.inr h)
  · exact Or.inl h
theorem i32_lt_of_le {n : Nat} (hn : n + 1 < 2 ^ 31) {a : Int32} : (nI (n + 1) ≤ a) = (nI n < a) := propext (by
  rw [Int32.le_iff_toInt_le, Int32.lt_iff_toInt_lt, nI_toInt hn, nI_toInt (by omega)]; omega)
theorem e6_within (n : Nat) {v l h : Nat} (h1 : l ≤ v) (h2 : v ≤ h) (h3 : h < 2 ^ 31) : fX6_within n (nI v) (nI l) (nI h) = some (nI 1) := by
  unfold fX6_within; rw [if_neg (nI_nlt h1 (by omega)), if_neg (nI_nlt h2 (by omega))]; rfl
theorem e7_within (n : Nat) {v l h : Nat} (h1 : l ≤ v) (h2 : v ≤ h) (h3 : h < 2 ^ 31) : fX7_within n (nI v) (nI l) (nI h) = some (nI 1) := e6_within n h1 h2 h3
theorem e6_withinB (n : Nat) {a l h : Int32} (q : a < l ∨ h < a) : fX6_within n a l h = some (nI 0) := by
  unfold fX6_within
  by_cases h1 : a < l
  · rw [if_pos h1]; rfl
  · rw [if_neg h1, if_pos (q.resolve_left h1)]; rfl
theorem e7_withinB (n : Nat) {a l h : Int32} (q : a < l ∨ h < a) : fX7_within n a l h = some (nI 0) := e6_withinB n q
theorem e6_isCell (n : Nat) {c : Nat} (h : c < 36) : fX6_isCell n (nI c) = some (nI 1) := by
  unfold fX6_isCell; rw [show fX6_within n (nI c) 0 35 = _ from e6_within n (Nat.zero_le c) (show c ≤ 35 by omega) (by decide)]; rfl
theorem e7_isCell (n : Nat) {c : Nat} (h : c < 36) : fX7_isCell n (nI c) = some (nI 1) := e6_isCell n h
theorem e6_isCellB (n : Nat) {a : Int32} (h : a < nI 0 ∨ nI 36 ≤ a) : fX6_isCell n a = some (nI 0) := by
  rw [i32_lt_of_le (by decide)] at h
  unfold fX6_isCell; rw [show fX6_within n a 0 35 = _ from e6_withinB n h]; rfl
theorem e7_isCellB (n : Nat) {a : Int32} (h : a < nI 0 ∨ nI 36 ≤ a) : fX7_isCell n a = some (nI 0) := e6_isCellB n h
theorem e_bit (n : Nat) (c : Nat) : fX6_bit n (nI c) = some (bitL c) := rfl
theorem ib_0 {P : Prop} [Decidable P] : ((if P then nI 1 else nI 0) = nI 0) = ¬ P := by
  by_cases h : P
  · rw [if_pos h]; exact propext ⟨fun e => absurd e (by decide), fun e => absurd h e⟩
  · rw [if_neg h]; exact propext ⟨fun _ => h, fun _ => rfl⟩
