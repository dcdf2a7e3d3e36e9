/-! texts: one token of both -/
def BY (tb mt : Nat → Int32) (B : Nat → Nat) (L : Nat) : Prop := L ≤ 120 ∧ ∀ i, i < L → B i < 256 ∧ tb i = nI (B i) ∧ mt i = nI (B i)
def TK (B : Nat → Nat) (L st en : Nat) (s6 v6 s7 v7 : Int32) : Prop :=
  st ≤ en ∧ en ≤ L ∧
  ((s6 = nI 0 ∧ s7 = nI 0 ∧ v6 = m1 ∧ v7 = nI 0 ∧ st = L ∧ en = L) ∨
   (s6 = nI 1 ∧ s7 = nI 1 ∧ v6 = m1 ∧ v7 = nI 0 ∧ st < en) ∨
   (s6 = nI 2 ∧ s7 = nI 2 ∧ (∃ v, v ≤ 1000 ∧ v6 = nI v ∧ v7 = nI v) ∧ st < en) ∨
   (s6 = nI 3 ∧ s7 = nI 3 ∧ v6 = m1 ∧ v7 = nI 0 ∧ st < en ∧ B st = 59) ∨
   (s6 = nI 4 ∧ s7 = nI 3 ∧ v6 = m1 ∧ v7 = nI 0 ∧ st < en ∧ ¬ B st = 59))
theorem t_let : ∀ b, b < 256 → fX5_isLetter 0 (nI b) = some (if 97 ≤ b ∧ b ≤ 122 then nI 1 else nI 0) ∧ fX7_within 0 (nI b) 97 122 = some (if 97 ≤ b ∧ b ≤ 122 then nI 1 else nI 0) := by decide +kernel
theorem t_dig : ∀ b, b < 256 → fX5_isDigit 0 (nI b) = some (if 48 ≤ b ∧ b ≤ 57 then nI 1 else nI 0) ∧ fX7_within 0 (nI b) 48 57 = some (if 48 ≤ b ∧ b ≤ 57 then nI 1 else nI 0) := by decide +kernel
theorem e5_let (n : Nat) {b : Nat} (hb : b < 256) : fX5_isLetter n (nI b) = some (if 97 ≤ b ∧ b ≤ 122 then nI 1 else nI 0) := (t_let b hb).1
theorem e7_let (n : Nat) {b : Nat} (hb : b < 256) : fX7_within n (nI b) 97 122 = some (if 97 ≤ b ∧ b ≤ 122 then nI 1 else nI 0) := (t_let b hb).2
theorem e5_dig (n : Nat) {b : Nat} (hb : b < 256) : fX5_isDigit n (nI b) = some (if 48 ≤ b ∧ b ≤ 57 then nI 1 else nI 0) := (t_dig b hb).1
theorem e7_dig (n : Nat) {b : Nat} (hb : b < 256) : fX7_within n (nI b) 48 57 = some (if 48 ≤ b ∧ b ≤ 57 then nI 1 else nI 0) := (t_dig b hb).2
theorem e7_byte (n : Nat) {mt tb : Nat → Int32} {B : Nat → Nat} {L i : Nat} (h : BY tb mt B L) (hi : i < L) : fX7_byteAt n (nI i) mt (nI L) = some (nI (B i)) := by
  have hL := h.1
  unfold fX7_byteAt
  rw [if_neg (nI_ge hi (by omega)), if_pos (vi_N (show i < 120 by omega) (by decide)), nI_clamp (by omega), (h.2 i hi).2.2]
theorem e7_byteE (n : Nat) {mt : Nat → Int32} {L : Nat} (hL : L ≤ 120) : fX7_byteAt n (nI L) mt (nI L) = some m1 := by
  unfold fX7_byteAt
  rw [if_pos (nI_le (Nat.le_refl _) (by omega))]; rfl
theorem e6_byte (n : Nat) {mt tb : Nat → Int32} {B : Nat → Nat} {L i : Nat} (h : BY tb mt B L) (hi : i < L) : fX6_at n 120 (nI i) tb = some (nI (B i)) := by
  have hL := h.1
  rw [e6_at n (show i < 120 by omega) (by decide), (h.2 i hi).2.1]
theorem blanks (n : Nat) (hn : 200 ≤ n) {mt tb : Nat → Int32} {B : Nat → Nat} {L e : Nat} (h : BY tb mt B L) (he : e ≤ L) :
    ∃ v w, lp (fun (s1 : Int32) => ((if (nI L) ≤ s1 then some (.inr s1) else ((fX6_at n 120 s1 tb).bind (fun q4 => (if q4 = (32 : Int32) then some (.inl (s1 + (1 : Int32))) else some (.inr s1))))) : Option ((Int32) ⊕ (Int32)))) n (nI e) = some v ∧ lp (fun (s1 : Int32) => (((fX7_byteAt n s1 mt (nI L)).bind (fun q3 => (if q3 = (32 : Int32) then some (.inl (s1 + (1 : Int32))) else some (.inr s1)))) : Option ((Int32) ⊕ (Int32)))) n (nI e) = some w ∧ ∃ st, e ≤ st ∧ st ≤ L ∧ v = nI st ∧ w = nI st := by
  have hL := h.1
  refine lpp (fun s t => ∃ i, e ≤ i ∧ i ≤ L ∧ s = nI i ∧ t = nI i) (fun s => L - s.toNatClampNeg) _ ?_ n _ _ ⟨e, Nat.le_refl _, he, rfl, rfl⟩ (by omega)
  rintro s t ⟨i, h1, h2, rfl, rfl⟩
  try dsimp +instances only
  by_cases hi : i < L
  · have hb := (h.2 i hi).1
    rw [if_neg (nI_ge hi (by omega)), e6_byte n h hi, Option.bind_some, e7_byte n h hi, Option.bind_some, nI_1]
    by_cases h32 : B i = 32
    · rw [if_pos (by rw [h32]; rfl)]
      exact Or.inr ⟨_, _, rfl, rfl, ⟨i + 1, by omega, by omega, rfl, rfl⟩, by rw [nI_clamp (by omega), nI_clamp (by omega)]; omega⟩
    · rw [if_neg (nIneK z_32 h32 (by omega) (by decide))]
      exact Or.inl ⟨_, _, rfl, rfl, i, h1, h2, rfl, rfl⟩
  · have : i = L := by omega
    subst this
    rw [if_pos (nI_le (Nat.le_refl _) (by omega)), e7_byteE n hL, Option.bind_some, if_neg (by decide)]
    exact Or.inl ⟨_, _, rfl, rfl, i, h1, h2, rfl, rfl⟩
theorem letters (n : Nat) (hn : 200 ≤ n) {mt tb : Nat → Int32} {B : Nat → Nat} {L st : Nat} (h : BY tb mt B L) (hs : st < L) (hl : 97 ≤ B st ∧ B st ≤ 122) :
    ∃ v w, lp (fun (s23 : Int32) => ((if (nI L) ≤ s23 then some (.inr s23) else ((fX6_at n 120 s23 tb).bind (fun q26 => ((fX5_isLetter n q26).bind (fun q28 => (if q28 = 0 then some (.inr s23) else some (.inl (s23 + (1 : Int32))))))))) : Option ((Int32) ⊕ (Int32)))) n (nI st) = some v ∧ lp (fun (s24 : Int32) => (((fX7_byteAt n s24 mt (nI L)).bind (fun q26 => ((fX7_within n q26 (97 : Int32) (122 : Int32)).bind (fun q28 => (if q28 = 0 then some (.inr s24) else some (.inl (s24 + (1 : Int32)))))))) : Option ((Int32) ⊕ (Int32)))) n (nI st) = some w ∧ ∃ en, st < en ∧ en ≤ L ∧ v = nI en ∧ w = nI en := by
  have hL := h.1
  refine lpp (fun s t => ∃ i, st ≤ i ∧ i ≤ L ∧ s = nI i ∧ t = nI i) (fun s => L - s.toNatClampNeg) _ ?_ n _ _ ⟨st, Nat.le_refl _, by omega, rfl, rfl⟩ (by omega)
  rintro s t ⟨i, h1, h2, rfl, rfl⟩
  try dsimp +instances only
  by_cases hi : i < L
  · have hb := (h.2 i hi).1
    rw [if_neg (nI_ge hi (by omega)), e6_byte n h hi, Option.bind_some, e7_byte n h hi, Option.bind_some, e5_let n hb, Option.bind_some, e7_let n hb, Option.bind_some, nI_1]
    by_cases h32 : 97 ≤ B i ∧ B i ≤ 122
    · rw [if_neg (b01_T h32)]
      exact Or.inr ⟨_, _, rfl, rfl, ⟨i + 1, by omega, by omega, rfl, rfl⟩, by rw [nI_clamp (by omega), nI_clamp (by omega)]; omega⟩
    · rw [if_pos (b01_F h32)]
      have : i ≠ st := fun e => h32 (by rw [e]; exact hl)
      exact Or.inl ⟨_, _, rfl, rfl, i, by omega, h2, rfl, rfl⟩
  · have : i = L := by omega
    subst this
    have hw : fX7_within n m1 97 122 = some (nI 0) := by unfold fX7_within; rw [if_pos (by decide)]; rfl
    rw [if_pos (nI_le (Nat.le_refl _) (by omega)), e7_byteE n hL, Option.bind_some, hw, Option.bind_some, if_pos (show nI 0 = 0 from rfl)]
    exact Or.inl ⟨_, _, rfl, rfl, i, by omega, h2, rfl, rfl⟩
def dgv (v d : Nat) : Nat := if 1000 < 10 * v + d - 48 then 1000 else 10 * v + d - 48
theorem dg6 {v d : Nat} (hv : v ≤ 1000) (h1 : 48 ≤ d) (h2 : d < 256) : (if (1000 : Int32) < ((nI v * (10 : Int32)) + nI d) - (48 : Int32) then (1000 : Int32) else ((nI v * (10 : Int32)) + nI d) - (48 : Int32)) = nI (dgv v d) := by
  rw [z_10, pk_mul, nI_add, z_48, pk_sub (by omega), Nat.mul_comm]
  unfold dgv
  by_cases h : 1000 < 10 * v + d - 48
  · rw [if_pos (Klt_T z_1000 h (by omega)), if_pos h]; rfl
  · rw [if_neg (Klt_F z_1000 (by omega) (by decide)), if_neg h]
theorem dg7 {v d : Nat} (hv : v ≤ 1000) (h1 : 48 ≤ d) (h2 : d < 256) : (if (((10 : Int32) * nI v) + nI d) - (48 : Int32) < (1000 : Int32) then (((10 : Int32) * nI v) + nI d) - (48 : Int32) else (1000 : Int32)) = nI (dgv v d) := by
  rw [z_10, pk_mul, nI_add, z_48, pk_sub (by omega)]
  unfold dgv
  by_cases h : 10 * v + d - 48 < 1000
  · rw [if_pos (ltK_T z_1000 h (by decide)), if_neg (by omega)]
  · rw [if_neg (ltK_F z_1000 (by omega) (by omega))]
    by_cases h3 : 1000 < 10 * v + d - 48
    · rw [if_pos h3]; rfl
    · rw [if_neg h3, show 10 * v + d - 48 = 1000 by omega]; rfl
theorem dgv_le (v d : Nat) : dgv v d ≤ 1000 := by unfold dgv; split <;> omega
theorem digits (n : Nat) (hn : 200 ≤ n) {mt tb : Nat → Int32} {B : Nat → Nat} {L st : Nat} (h : BY tb mt B L) (hs : st < L) (hl : 48 ≤ B st ∧ B st ≤ 57) (x : Int32) :
    ∃ v w, fX5_readNumber n tb (nI L) (nI st) x = some v ∧ lp (fun (s15 : Int32 × Int32) => (((fX7_byteAt n s15.1 mt (nI L)).bind (fun q17 => ((fX7_within n q17 (48 : Int32) (57 : Int32)).bind (fun q19 => (if q19 = 0 then some (.inr (s15.1, s15.2)) else ((fX7_byteAt n s15.1 mt (nI L)).bind (fun q22 => some (.inl ((s15.1 + (1 : Int32)), (if ((((10 : Int32) * s15.2) + q22) - (48 : Int32)) < (1000 : Int32) then ((((10 : Int32) * s15.2) + q22) - (48 : Int32)) else (1000 : Int32))))))))))) : Option ((Int32 × Int32) ⊕ (Int32 × Int32)))) n (nI st, (0 : Int32)) = some w ∧ ∃ en u, st < en ∧ en ≤ L ∧ u ≤ 1000 ∧ v = (nI en, nI u) ∧ w = (nI en, nI u) := by
  have hL := h.1
  obtain ⟨v, w, h1, h2, en, u, h3, h4, h5, h6, h7⟩ := lpp (b := (fun (s1 : Int32 × Int32) => ((if (nI L) ≤ s1.1 then some (.inr (s1.1, s1.2)) else ((fX6_at n 120 s1.1 tb).bind (fun q4 => ((fX5_isDigit n q4).bind (fun q6 => (if q6 = 0 then some (.inr (s1.1, s1.2)) else ((fX6_at n 120 s1.1 tb).bind (fun q9 => some (.inl ((s1.1 + (1 : Int32)), (if (1000 : Int32) < (((s1.2 * (10 : Int32)) + q9) - (48 : Int32)) then (1000 : Int32) else (((s1.2 * (10 : Int32)) + q9) - (48 : Int32))))))))))))) : Option ((Int32 × Int32) ⊕ (Int32 × Int32))))) (c := (fun (s15 : Int32 × Int32) => (((fX7_byteAt n s15.1 mt (nI L)).bind (fun q17 => ((fX7_within n q17 (48 : Int32) (57 : Int32)).bind (fun q19 => (if q19 = 0 then some (.inr (s15.1, s15.2)) else ((fX7_byteAt n s15.1 mt (nI L)).bind (fun q22 => some (.inl ((s15.1 + (1 : Int32)), (if ((((10 : Int32) * s15.2) + q22) - (48 : Int32)) < (1000 : Int32) then ((((10 : Int32) * s15.2) + q22) - (48 : Int32)) else (1000 : Int32))))))))))) : Option ((Int32 × Int32) ⊕ (Int32 × Int32))))) (fun s t => ∃ i v, st ≤ i ∧ i ≤ L ∧ v ≤ 1000 ∧ s = (nI i, nI v) ∧ t = (nI i, nI v)) (fun s => L - s.1.toNatClampNeg) (fun v w => ∃ en u, st < en ∧ en ≤ L ∧ u ≤ 1000 ∧ v = (nI en, nI u) ∧ w = (nI en, nI u)) (by
    rintro s t ⟨i, v, h1, h2, hv, rfl, rfl⟩
    try dsimp +instances only
    by_cases hi : i < L
    · have hb := (h.2 i hi).1
      rw [if_neg (nI_ge hi (by omega)), e6_byte n h hi, Option.bind_some, Option.bind_some, e7_byte n h hi, Option.bind_some, Option.bind_some, e5_dig n hb, Option.bind_some, e7_dig n hb, Option.bind_some, nI_1]
      by_cases h32 : 48 ≤ B i ∧ B i ≤ 57
      · rw [if_neg (b01_T h32), if_neg (b01_T h32), dg6 hv h32.1 hb, dg7 hv h32.1 hb]
        exact Or.inr ⟨_, _, rfl, rfl, ⟨i + 1, _, by omega, by omega, dgv_le v (B i), rfl, rfl⟩, by dsimp only; rw [nI_clamp (by omega), nI_clamp (by omega)]; omega⟩
      · rw [if_pos (b01_F h32), if_pos (b01_F h32)]
        have : i ≠ st := fun e => h32 (by rw [e]; exact hl)
        exact Or.inl ⟨_, _, rfl, rfl, i, v, by omega, h2, hv, rfl, rfl⟩
    · have : i = L := by omega
      subst this
      have hw : fX7_within n m1 48 57 = some (nI 0) := by unfold fX7_within; rw [if_pos (by decide)]; rfl
      rw [if_pos (nI_le (Nat.le_refl _) (by omega)), e7_byteE n hL, Option.bind_some, Option.bind_some, hw, Option.bind_some, if_pos (show nI 0 = 0 from rfl)]
      exact Or.inl ⟨_, _, rfl, rfl, i, v, by omega, h2, hv, rfl, rfl⟩) n (nI st, (0 : Int32)) (nI st, (0 : Int32)) ⟨st, 0, Nat.le_refl _, by omega, by decide, rfl, rfl⟩ (by dsimp only; omega)
  refine ⟨v, w, ?_, h2, en, u, h3, h4, h5, h6, h7⟩
  unfold fX5_readNumber
  rw [h1]; rfl
/-- the next token, of both -/
theorem nextJ (n : Nat) (hn : 200 ≤ n) {mt tb : Nat → Int32} {B : Nat → Nat} {L e : Nat} (h : BY tb mt B L) (he : e ≤ L) (a1 a2 a3 b1 b2 b3 : Int32) :
    ∃ st en s6 v6 s7 v7, fX5_next n tb (nI L) a1 a2 (nI e) a3 = some (s6, nI st, nI en, v6) ∧ fX7_next n mt (nI L) b1 (nI e) b2 b3 = some (nI st, nI en, s7, v7) ∧ e ≤ st ∧ TK B L st en s6 v6 s7 v7 := by
  have hL := h.1
  obtain ⟨v, w, h1, h2, st, h3, h4, rfl, rfl⟩ := blanks n hn h he
  unfold fX5_next fX7_next
  rw [h1, Option.bind_some, h2, Option.bind_some]
  by_cases hst : st < L
  · have hb := (h.2 st hst).1
    rw [if_pos (nI_lt hst (by omega)), e6_byte n h hst, Option.bind_some, Option.bind_some, Option.bind_some, e7_byte n h hst, Option.bind_some, if_pos (nI_pos' (by omega)), e5_let n hb, Option.bind_some, e7_let n hb, Option.bind_some, e5_dig n hb, Option.bind_some, e7_dig n hb, Option.bind_some]
    by_cases hlt : 97 ≤ B st ∧ B st ≤ 122
    · obtain ⟨v, w, l1, l2, en, l3, l4, rfl, rfl⟩ := letters n hn h hst hlt
      rw [if_neg (b01_T hlt), if_neg (b01_T hlt), l1, l2]
      exact ⟨st, en, _, _, _, _, rfl, rfl, h3, by omega, l4, Or.inr (Or.inl ⟨rfl, rfl, rfl, rfl, l3⟩)⟩
    · rw [if_pos (b01_F hlt), if_pos (b01_F hlt)]
      by_cases hdg : 48 ≤ B st ∧ B st ≤ 57
      · obtain ⟨v, w, l1, l2, en, u, l3, l4, l5, rfl, rfl⟩ := digits n hn h hst hdg (-1)
        rw [if_neg (b01_T hdg), if_neg (b01_T hdg), l1, l2]
        exact ⟨st, en, _, _, _, _, rfl, rfl, h3, by omega, l4, Or.inr (Or.inr (Or.inl ⟨rfl, rfl, ⟨u, l5, rfl, rfl⟩, l3⟩))⟩
      · rw [if_pos (b01_F hdg), if_pos (b01_F hdg), nI_1]
        by_cases h59 : B st = 59
        · rw [if_pos (by rw [h59]; rfl)]
          exact ⟨st, st + 1, _, _, _, _, rfl, rfl, h3, by omega, by omega, Or.inr (Or.inr (Or.inr (Or.inl ⟨rfl, rfl, rfl, rfl, by omega, h59⟩)))⟩
        · rw [if_neg (nIneK z_59 h59 (by omega) (by decide))]
          exact ⟨st, st + 1, _, _, _, _, rfl, rfl, h3, by omega, by omega, Or.inr (Or.inr (Or.inr (Or.inr ⟨rfl, rfl, rfl, rfl, by omega, h59⟩)))⟩
  · have : st = L := by omega
    subst this
    rw [if_neg (nI_nlt (Nat.le_refl _) (by omega)), e7_byteE n hL, Option.bind_some, if_neg (by decide)]
    exact ⟨st, st, _, _, _, _, rfl, rfl, h3, Nat.le_refl _, Nat.le_refl _, Or.inl ⟨rfl, rfl, rfl, rfl, rfl, rfl⟩⟩
