/-! compares with literals -/
theorem leK_T {k m : Nat} {K : Int32} (hK : K = nI m) (h : k ≤ m) (hm : m < 2 ^ 31) : nI k ≤ K := by subst hK; exact nI_le h hm
theorem leK_F {k m : Nat} {K : Int32} (hK : K = nI m) (h : m < k) (hk : k < 2 ^ 31) : ¬ nI k ≤ K := by subst hK; exact nI_ge h hk
theorem Kle_T {k m : Nat} {K : Int32} (hK : K = nI m) (h : m ≤ k) (hk : k < 2 ^ 31) : K ≤ nI k := by subst hK; exact nI_le h hk
theorem Kle_F {k m : Nat} {K : Int32} (hK : K = nI m) (h : k < m) (hm : m < 2 ^ 31) : ¬ K ≤ nI k := by subst hK; exact nI_ge h hm
theorem ltK_T {k m : Nat} {K : Int32} (hK : K = nI m) (h : k < m) (hm : m < 2 ^ 31) : nI k < K := by subst hK; exact nI_lt h hm
theorem ltK_F {k m : Nat} {K : Int32} (hK : K = nI m) (h : m ≤ k) (hk : k < 2 ^ 31) : ¬ nI k < K := by subst hK; exact nI_nlt h hk
theorem Klt_T {k m : Nat} {K : Int32} (hK : K = nI m) (h : m < k) (hk : k < 2 ^ 31) : K < nI k := by subst hK; exact nI_lt h hk
theorem Klt_F {k m : Nat} {K : Int32} (hK : K = nI m) (h : k ≤ m) (hm : m < 2 ^ 31) : ¬ K < nI k := by subst hK; exact nI_nlt h hm
theorem b01_T {P : Prop} [Decidable P] (h : P) : ¬ (if P then nI 1 else nI 0) = 0 := by rw [if_pos h]; decide
theorem b01_F {P : Prop} [Decidable P] (h : ¬ P) : (if P then nI 1 else nI 0) = 0 := by rw [if_neg h]; rfl
theorem bt_F {x : Bool} (h : ¬ x = true) : x = false := by cases x with
  | true => exact absurd rfl h
  | false => rfl
theorem sb_T {p : Nat → Bool} {k : Nat} (h : p k = true) : sb p (k + 1) = sb p k ||| bitL k := if_pos h
theorem sb_F {p : Nat → Bool} {k : Nat} (h : ¬ p k = true) : sb p (k + 1) = sb p k := if_neg h
theorem ct_T {p : Nat → Bool} {k : Nat} (h : p k = true) : ct p (k + 1) = ct p k + 1 := by rw [ct, if_pos h]
theorem ct_F {p : Nat → Bool} {k : Nat} (h : ¬ p k = true) : ct p (k + 1) = ct p k := by rw [ct, if_neg h]; rfl
def sm (f : Nat → Nat) : Nat → Nat
  | 0 => 0
  | n + 1 => sm f n + f n
/-- sets of at most eight, as numbers -/
def sbN (p : Nat → Bool) : Nat → Nat
  | 0 => 0
  | n + 1 => if p n then sbN p n + 2 ^ n else sbN p n
theorem sbN_T {p : Nat → Bool} {k : Nat} (h : p k = true) : sbN p (k + 1) = sbN p k + 2 ^ k := if_pos h
theorem sbN_F {p : Nat → Bool} {k : Nat} (h : ¬ p k = true) : sbN p (k + 1) = sbN p k := if_neg h
theorem sbN_lt (p : Nat → Bool) : ∀ n, sbN p n < 2 ^ n := by
  intro n
  induction n with
  | zero => exact Nat.one_pos
  | succ n ih =>
    rw [sbN, Nat.pow_succ]
    split <;> omega
theorem sbN_bit (p : Nat → Bool) : ∀ n i, (sbN p n).testBit i = (decide (i < n) && p i) := by
  intro n
  induction n with
  | zero => intro i; show (0 : Nat).testBit i = _; rw [Nat.zero_testBit]; rfl
  | succ n ih =>
    intro i
    by_cases h : p n = true
    · rw [sbN_T h, Nat.add_comm, show 2 ^ n = 2 ^ n * 1 from (Nat.mul_one _).symm, Nat.testBit_two_pow_mul_add _ (sbN_lt p n), ih]
      by_cases e : i < n
      · have : i < n + 1 := by omega
        simp [e, this]
      · by_cases e2 : i = n
        · subst e2; simp [h]
        · have h1 : ¬ i < n + 1 := by omega
          have h2 : ∃ j, i - n = j + 1 := ⟨i - n - 1, by omega⟩
          obtain ⟨j, hj⟩ := h2
          simp [e, h1, hj, Nat.testBit_succ]
    · rw [sbN_F h, ih]
      by_cases e2 : i = n
      · subst e2; simp [bt_F h]
      · have : (i < n + 1) = (i < n) := propext (by omega)
        simp [this]
theorem sbN_cong {p q : Nat → Bool} : ∀ {n : Nat}, (∀ i, i < n → p i = q i) → sbN p n = sbN q n := by
  intro n
  induction n with
  | zero => intro _; rfl
  | succ n ih => intro h; rw [sbN, sbN, ih (fun i hi => h i (by omega)), h n (by omega)]
theorem t_orI : ∀ k, k < 8 → ∀ a, a < 2 ^ k → nI a ||| ((1 : Int32) <<< (nI k &&& 31)) = nI (a + 2 ^ k) := by decide +kernel
theorem t_bits : ∀ v, v < 256 → fX7_bits 20 (nI v) = some (nI (ct (fun i => v.testBit i) 8)) := by decide +kernel
set_option maxRecDepth 100000 in
theorem t_bcI : ∀ v, v < 256 → fJ6_bitCount_0f7a4 0 (nI v) = some (nI (ct (fun i => v.testBit i) 8)) := by decide +kernel
theorem sbN_ct (p : Nat → Bool) {k : Nat} (hk : k ≤ 8) : ct (fun i => (sbN p k).testBit i) 8 = ct p k := by
  have e : ct (fun i => (sbN p k).testBit i) 8 = ct (fun i => decide (i < k) && p i) 8 := ct_cong fun i _ => sbN_bit p k i
  rw [e]
  have e2 := ct_split (fun i => decide (i < k) && p i) k (8 - k)
  rw [show k + (8 - k) = 8 from by omega] at e2
  rw [e2, ct_none (p := fun j => decide (k + j < k) && p (k + j)) (fun i _ => by have : ¬ k + i < k := by omega
                                                                                 simp [this])]
  exact ct_cong fun i hi => by simp [hi]
theorem sbN_256 (p : Nat → Bool) {k : Nat} (hk : k ≤ 8) : sbN p k < 256 := Nat.lt_of_lt_of_le (sbN_lt p k) (Nat.pow_le_pow_right (by decide) hk)
theorem e7_bits (n : Nat) (hn : 100 ≤ n) (p : Nat → Bool) {k : Nat} (hk : k ≤ 8) : fX7_bits n (nI (sbN p k)) = some (nI (ct p k)) := by
  have h := t_bits _ (sbN_256 p hk)
  rw [sbN_ct p hk] at h
  unfold fX7_bits at h ⊢
  obtain ⟨v, h1, h2⟩ := bd_some h
  rw [lp_mono h1 (by omega)]; exact h2
theorem e6_bcI (n : Nat) (p : Nat → Bool) {k : Nat} (hk : k ≤ 8) : fJ6_bitCount_0f7a4 n (nI (sbN p k)) = some (nI (ct p k)) := by
  have h := t_bcI _ (sbN_256 p hk)
  rw [sbN_ct p hk] at h
  exact h
/-! cells with path -/
def hp (q : Nat → Nat) (c : Nat) : Bool := decide (c < 36) && decide (0 < q (49 + c))
theorem hp_T {q : Nat → Nat} {c : Nat} (hc : c < 36) (h : 0 < q (49 + c)) : hp q c = true := by unfold hp; simp [hc, h]
theorem hp_F {q : Nat → Nat} {c : Nat} (h : ¬ 0 < q (49 + c)) : ¬ hp q c = true := by unfold hp; simp [h]
theorem hp_36 {q : Nat → Nat} {c : Nat} (h : hp q c = true) : c < 36 ∧ 0 < q (49 + c) := by unfold hp at h; simpa using h
theorem hp_hi {q : Nat → Nat} {c : Nat} (h : 36 ≤ c) : hp q c = false := by unfold hp; have : ¬ c < 36 := by omega
                                                                            simp [this]
theorem e2_pathSet (n : Nat) (hn : 100 ≤ n) {paths : Nat → Int32} {q : Nat → Nat} {b : Nat} (h1 : RP paths q) (hv : IV b q) : fX2_pathSet n paths = some (sb (hp q) 36) := by
  unfold fX2_pathSet
  refine lpb (fun k => (sb (hp q) k, nI k)) 36 (sb (hp q) 36, nI 36) rfl (fun k hk => ?_) rfl (by omega) rfl
  have h2 := (hv.2.2.1 k hk).1
  dsimp +instances only
  rw [if_neg (Kle_F z_36 hk (by decide)), if_pos (vi_N hk (by decide)), nI_clamp (by omega), h1 k hk]
  by_cases h : 0 < q (49 + k)
  · rw [if_neg (leK_F z_0 h (by omega)), e_bit, Option.bind_some, z_1, nI_add, sb_T (hp_T hk h)]
  · rw [if_pos (leK_T z_0 (by omega) (by decide)), z_1, nI_add, sb_F (hp_F h)]
theorem ct_hi {p : Nat → Bool} (h : ∀ i, 36 ≤ i → p i = false) : ct p 64 = ct p 36 := by
  have := ct_split p 36 28
  rw [show 36 + 28 = 64 from rfl] at this
  rw [this, ct_none (fun i _ => h (36 + i) (by omega))]; rfl
theorem ct_sb (p : Nat → Bool) : ct (bq (sb p 36)) 64 = ct p 36 := by
  rw [ct_hi (fun i hi => by rw [bq_sb p (by decide)]; have : ¬ i < 36 := by omega
                            simp [this])]
  exact ct_cong fun i hi => by rw [bq_sb p (by decide)]; simp [hi]
theorem e2_pathCells (n : Nat) (hn : 100 ≤ n) {paths : Nat → Int32} {q : Nat → Nat} {b : Nat} (h1 : RP paths q) (hv : IV b q) : fX2_pathCells n paths = some (nI (ct (hp q) 36)) := by
  unfold fX2_pathCells
  rw [e2_pathSet n hn h1 hv, Option.bind_some, bc_count, ct_sb]; rfl
theorem e7_hasPath (n : Nat) {c : Nat} {r : Nat → Int32} {q : Nat → Nat} {e : Nat → Int32} {b : Nat} (hr : RM r q e) (hv : IV b q) (hc : c < 36) : fX7_hasPath n (nI c) r = some (if hp q c = true then nI 1 else nI 0) := by
  have h2 := (hv.2.2.1 c hc).1
  unfold fX7_hasPath
  rw [z_49, nI_add, if_pos (vi_N (by omega) (by decide)), nI_clamp (by omega), hr.at (49 + c) (by omega) (by omega)]
  by_cases h : 0 < q (49 + c)
  · rw [if_neg (leK_F z_0 h (by omega)), if_pos (hp_T hc h)]; rfl
  · rw [if_pos (leK_T z_0 (by omega) (by decide)), if_neg (hp_F h)]; rfl
theorem e7_pathsNow (n : Nat) (hn : 100 ≤ n) {r : Nat → Int32} {q : Nat → Nat} {e : Nat → Int32} {b : Nat} (hr : RM r q e) (hv : IV b q) : fX7_pathsNow n r = some (nI (ct (hp q) 36)) := by
  unfold fX7_pathsNow
  refine lpb (fun k => (nI (ct (hp q) k), nI k)) 36 (nI (ct (hp q) 36), nI 36) rfl (fun k hk => ?_) rfl (by omega) rfl
  dsimp +instances only
  rw [if_neg (Kle_F z_36 hk (by decide)), e7_hasPath n hr hv hk, Option.bind_some]
  by_cases h : hp q k = true
  · rw [if_neg (b01_T h), z_1, nI_add, nI_add, ct_T h]
  · rw [if_pos (b01_F h), z_0, z_1, nI_add, nI_add, ct_F h]; rfl
theorem e7_pathSet (n : Nat) (hn : 100 ≤ n) {r : Nat → Int32} {q : Nat → Nat} {e : Nat → Int32} {b : Nat} (hr : RM r q e) (hv : IV b q) : fX7_pathSet n r = some (sb (hp q) 36) := by
  unfold fX7_pathSet
  refine lpb (fun k => (sb (hp q) k, nI k)) 36 (sb (hp q) 36, nI 36) rfl (fun k hk => ?_) rfl (by omega) rfl
  dsimp +instances only
  rw [if_neg (Kle_F z_36 hk (by decide)), e7_hasPath n hr hv hk, Option.bind_some]
  by_cases h : hp q k = true
  · rw [if_neg (b01_T h), z_1, nI_add, sb_T h]
  · rw [if_pos (b01_F h), z_1, nI_add, sb_F h, Int64.or_zero]
theorem e7_pathSum (n : Nat) (hn : 100 ≤ n) {r : Nat → Int32} {q : Nat → Nat} {e : Nat → Int32} (hr : RM r q e) : fX7_pathSum n r = some (nI (sm (fun c => q (49 + c)) 36)) := by
  unfold fX7_pathSum
  refine lpb (fun k => (nI (sm (fun c => q (49 + c)) k), nI k)) 36 (nI (sm (fun c => q (49 + c)) 36), nI 36) rfl (fun k hk => ?_) rfl (by omega) rfl
  dsimp +instances only
  rw [if_neg (Kle_F z_36 hk (by decide)), z_49, nI_add, if_pos (vi_N (by omega) (by decide)), nI_clamp (by omega), hr.at (49 + k) (by omega) (by omega), z_1, nI_add, nI_add]; rfl
theorem e2_pathOfAll (n : Nat) (hn : 100 ≤ n) {paths : Nat → Int32} {q : Nat → Nat} (h1 : RP paths q) : fX2_pathOfAll n paths = some (nI (sm (fun c => q (49 + c)) 36)) := by
  unfold fX2_pathOfAll
  refine lpb (fun k => (nI (sm (fun c => q (49 + c)) k), nI k)) 36 (nI (sm (fun c => q (49 + c)) 36), nI 36) rfl (fun k hk => ?_) rfl (by omega) rfl
  dsimp +instances only
  rw [if_neg (Kle_F z_36 hk (by decide)), if_pos (vi_N (by omega) (by decide)), nI_clamp (by omega), h1 k hk, z_1, nI_add, nI_add]; rfl
/-! seeds alive, heads on a cell -/
theorem e2_aliveSet (n : Nat) (hn : 100 ≤ n) {kind age : Nat → Int32} {q : Nat → Nat} {b : Nat} (hk : RF kind q 0) (ha : RF age q 3) (hv : IV b q) : fX2_aliveSet n kind age (nI (q 1)) = some (nI (sbN (aliv q) (q 1))) := by
  have h8 := hv.1
  unfold fX2_aliveSet
  refine lpb (fun k => (nI (sbN (aliv q) k), nI k)) (q 1) (nI (sbN (aliv q) (q 1)), nI (q 1)) rfl (fun k hk2 => ?_) ?_ (by omega) rfl
  · dsimp +instances only
    rw [if_neg (nI_ge hk2 (by omega)), e2_seedAt n hk2 h8, Option.bind_some, Option.elim_some, e3_isAlive n hk ha hv (by omega), Option.bind_some]
    by_cases h : aliv q k = true
    · rw [if_neg (b01_T h), t_orI k (by omega) _ (sbN_lt _ k), sbN_T h, z_1, nI_add]
    · rw [if_pos (b01_F h), sbN_F h, z_1, nI_add]
  · dsimp +instances only
    rw [if_pos (nI_le (Nat.le_refl _) (by omega))]
theorem e7_aliveNow (n : Nat) (hn : 100 ≤ n) {r lives : Nat → Int32} {q : Nat → Nat} {e : Nat → Int32} {b : Nat} (hr : RM r q e) (hl : LV lives) (hv : IV b q) : fX7_aliveNow n r lives = some (nI (sbN (aliv q) (q 1))) := by
  have h8 := hv.1
  have h1r : r (1 : Int32).toNatClampNeg = nI (q 1) := hr.at 1 (by decide) (by decide)
  unfold fX7_aliveNow
  rw [h1r]
  refine lpb (fun k => (nI (sbN (aliv q) k), nI k)) (q 1) (nI (sbN (aliv q) (q 1)), nI (q 1)) rfl (fun k hk2 => ?_) ?_ (by omega) rfl
  · dsimp +instances only
    rw [if_neg (nI_ge hk2 (by omega)), e7_isAlive n hr hl hv (by omega), Option.bind_some]
    by_cases h : aliv q k = true
    · rw [if_neg (b01_T h), t_orI k (by omega) _ (sbN_lt _ k), sbN_T h, z_1, nI_add]
    · rw [if_pos (b01_F h), sbN_F h, z_1, nI_add, Int32.or_zero]
  · dsimp +instances only
    rw [if_pos (nI_le (Nat.le_refl _) (by omega))]
def hd1 (q : Nat → Nat) (c s : Nat) : Bool := decide (q (85 + 4 * s + 1) = c)
theorem e2_headsOn (n : Nat) (hn : 100 ≤ n) {place : Nat → Int32} {q : Nat → Nat} {b c : Nat} (hp : RF place q 1) (hv : IV b q) (hc : c < 36) : fX2_headsOn n (nI c) place (nI (q 1)) = some (nI (sbN (hd1 q c) (q 1))) := by
  have h8 := hv.1
  unfold fX2_headsOn
  refine lpb (fun k => (nI (sbN (hd1 q c) k), nI k)) (q 1) (nI (sbN (hd1 q c) (q 1)), nI (q 1)) rfl (fun k hk2 => ?_) ?_ (by omega) rfl
  · have h3 := (hv.2.2.2 k (by omega)).2.1
    dsimp +instances only
    rw [if_neg (nI_ge hk2 (by omega)), e2_seedAt n hk2 h8, Option.bind_some, Option.elim_some, hp k (by omega)]
    by_cases h : q (85 + 4 * k + 1) = c
    · rw [if_pos (by rw [h]), t_orI k (by omega) _ (sbN_lt _ k), sbN_T (show hd1 q c k = true from by unfold hd1; simp [h]), z_1, nI_add]
    · rw [if_neg (nIneK rfl h (by omega) (by omega)), sbN_F (show ¬ hd1 q c k = true from by unfold hd1; simp [h]), z_1, nI_add]
  · dsimp +instances only
    rw [if_pos (nI_le (Nat.le_refl _) (by omega))]
theorem e7_headsOn (n : Nat) (hn : 100 ≤ n) {r : Nat → Int32} {q : Nat → Nat} {e : Nat → Int32} {b c : Nat} (hr : RM r q e) (hv : IV b q) (hc : c < 36) : fX7_headsOn n (nI c) r = some (nI (sbN (hd1 q c) (q 1))) := by
  have h8 := hv.1
  have h1r : r (1 : Int32).toNatClampNeg = nI (q 1) := hr.at 1 (by decide) (by decide)
  unfold fX7_headsOn
  rw [h1r]
  refine lpb (fun k => (nI (sbN (hd1 q c) k), nI k)) (q 1) (nI (sbN (hd1 q c) (q 1)), nI (q 1)) rfl (fun k hk2 => ?_) ?_ (by omega) rfl
  · have h3 := (hv.2.2.2 k (by omega)).2.1
    dsimp +instances only
    rw [if_neg (nI_ge hk2 (by omega)), e7_seedK n z_1 hr (by omega) (by decide), Option.bind_some]
    by_cases h : q (85 + 4 * k + 1) = c
    · rw [if_pos (by rw [h]), t_orI k (by omega) _ (sbN_lt _ k), sbN_T (show hd1 q c k = true from by unfold hd1; simp [h]), z_1, nI_add]
    · rw [if_neg (nIneK rfl h (by omega) (by omega)), sbN_F (show ¬ hd1 q c k = true from by unfold hd1; simp [h]), z_1, nI_add, Int32.or_zero]
  · dsimp +instances only
    rw [if_pos (nI_le (Nat.le_refl _) (by omega))]
/-! how many neighbours have path -/
def nbn (p : Nat → Bool) (c : Nat) : Nat := ct (fun h => nb1 p (nbc c h)) 4
def bn (p : Nat → Bool) (c : Nat) : Bool := p c && decide (3 ≤ nbn p c)
theorem ct_or1 (a : Nat) (p r : Nat → Bool) (hr : r a = false) : ∀ n, ct (fun i => (decide (i = a) && p i) || r i) n = (if a < n ∧ p a = true then 1 else 0) + ct r n := by
  intro n
  induction n with
  | zero => rw [if_neg (by omega)]; rfl
  | succ n ih =>
    rw [ct, ih, ct]
    by_cases e : n = a
    · subst e
      rw [if_neg (show ¬ (n < n ∧ p n = true) from by omega), hr]
      cases h : p n with
      | true => simp; omega
      | false => simp
    · have h1 : ((decide (n = a) && p n) || r n) = r n := by simp [e]
      have h2 : (a < n + 1 ∧ p a = true) = (a < n ∧ p a = true) := propext ⟨fun h => ⟨by omega, h.2⟩, fun h => ⟨by omega, h.2⟩⟩
      rw [h1]
      simp only [h2]
      omega
theorem t_adj : ∀ c, c < 36 → ∀ i, i < 36 → nb4 (fun j => decide (j = c)) i = (decide (i = nbc c 0) || (decide (i = nbc c 1) || (decide (i = nbc c 2) || decide (i = nbc c 3)))) := by decide +kernel
theorem t_nd : ∀ c, c < 36 → ∀ h, h < 4 → ∀ k, k < 4 → nbc c h = nbc c k → h = k ∨ nbc c h = 36 := by decide +kernel
theorem ct_adj {c : Nat} (hc : c < 36) (p : Nat → Bool) : ct (fun i => bq (nbS (bitL c)) i && (decide (i < 36) && p i)) 64 = nbn p c := by
  have e1 : ct (fun i => bq (nbS (bitL c)) i && (decide (i < 36) && p i)) 64 = ct (fun i => (decide (i = nbc c 0) && (decide (i < 36) && p i)) || ((decide (i = nbc c 1) && (decide (i < 36) && p i)) || ((decide (i = nbc c 2) && (decide (i < 36) && p i)) || ((decide (i = nbc c 3) && (decide (i < 36) && p i)) || false)))) 64 := by
    refine ct_cong fun i hi => ?_
    rw [bq_nbS (fun j hj => by rw [bq_bit (by omega)]; have : ¬ j = c := by omega
                               simp [this]) hi]
    by_cases h36 : i < 36
    · have : nb4 (bq (bitL c)) i = nb4 (fun j => decide (j = c)) i := nb4_cong fun j hj => bq_bit (by omega)
      rw [this, t_adj c hc i h36]
      simp only [h36, decide_true, Bool.true_and]
      cases p i <;> simp
    · simp [h36]
  have d : ∀ h, h < 4 → ∀ k, k < 4 → h ≠ k → (decide (nbc c h = nbc c k) && (decide (nbc c h < 36) && p (nbc c h))) = false := by
    intro h hh k hk hne
    by_cases e : nbc c h = nbc c k
    · rcases t_nd c hc h hh k hk e with q | q
      · exact absurd q hne
      · rw [q]; simp
    · simp [e]
  have f : ∀ h, h < 4 → (if nbc c h < 64 ∧ (decide (nbc c h < 36) && p (nbc c h)) = true then 1 else 0) = (if nb1 p (nbc c h) = true then 1 else 0) := by
    intro h hh
    unfold nb1
    by_cases g : nbc c h < 36
    · have : nbc c h < 64 := by omega
      simp [g, this]
    · simp [g]
  rw [e1]
  rw [ct_or1 (nbc c 0) (fun i => decide (i < 36) && p i) _ (by simp only [d 0 (by decide) 1 (by decide) (by decide), d 0 (by decide) 2 (by decide) (by decide), d 0 (by decide) 3 (by decide) (by decide), Bool.or_false])]
  rw [ct_or1 (nbc c 1) (fun i => decide (i < 36) && p i) _ (by simp only [d 1 (by decide) 2 (by decide) (by decide), d 1 (by decide) 3 (by decide) (by decide), Bool.or_false])]
  rw [ct_or1 (nbc c 2) (fun i => decide (i < 36) && p i) _ (by simp only [d 2 (by decide) 3 (by decide) (by decide), Bool.or_false])]
  rw [ct_or1 (nbc c 3) (fun i => decide (i < 36) && p i) (fun _ => false) rfl]
  rw [ct_none (p := fun _ => false) (fun _ _ => rfl)]
  rw [f 0 (by decide), f 1 (by decide), f 2 (by decide), f 3 (by decide)]
  unfold nbn
  simp only [ct]
  omega
theorem bc_adj (n : Nat) {c : Nat} (hc : c < 36) (p : Nat → Bool) : fJ13_bitCount_95d88 n (nbS (bitL c) &&& sb p 36) = some (nI (nbn p c)) := by
  rw [bc_count]
  have : ct (bq (nbS (bitL c) &&& sb p 36)) 64 = nbn p c := by
    rw [← ct_adj hc p]
    exact ct_cong fun i _ => by rw [bq_and, bq_sb p (by decide)]
  rw [this]
theorem nbn_le (p : Nat → Bool) (c : Nat) : nbn p c ≤ 4 := ct_le _ 4
theorem e7_pathsBeside (n : Nat) (hn : 100 ≤ n) {r : Nat → Int32} {q : Nat → Nat} {e : Nat → Int32} {b c : Nat} (hr : RM r q e) (hv : IV b q) (hc : c < 36) : fX7_pathsBeside n (nI c) r = some (nI (nbn (hp q) c)) := by
  unfold fX7_pathsBeside
  refine lpb (fun k => (nI (ct (fun h => nb1 (hp q) (nbc c h)) k), nI k)) 4 (nI (nbn (hp q) c), nI 4) rfl (fun k hk => ?_) rfl (by omega) rfl
  have hle := nbc_le c k hc
  dsimp +instances only
  rw [if_neg (Kle_F z_4 hk (by decide)), e_beside n hc hk, Option.bind_some]
  by_cases h : nbc c k < 36
  · rw [nbI_T h, if_neg (nI_pos (by omega)), Option.bind_some, e7_hasPath n hr hv h, Option.bind_some]
    by_cases h2 : hp q (nbc c k) = true
    · have h3 : nb1 (hp q) (nbc c k) = true := by unfold nb1; simp [h, h2]
      rw [if_neg (b01_T h2), ct_T (p := fun h => nb1 (hp q) (nbc c h)) h3, z_1, nI_add, nI_add]
    · have h3 : ¬ nb1 (hp q) (nbc c k) = true := by unfold nb1; simp [h2]
      rw [if_pos (b01_F h2), ct_F (p := fun h => nb1 (hp q) (nbc c h)) h3, z_0, z_1, nI_add, nI_add]; rfl
  · have h3 : ¬ nb1 (hp q) (nbc c k) = true := by unfold nb1; simp [h]
    rw [nbI_F (by omega), if_pos (by decide), ct_F (p := fun h => nb1 (hp q) (nbc c h)) h3, z_0, z_1, nI_add, nI_add]; rfl
theorem e0_benches (n : Nat) (hn : 100 ≤ n) (p : Nat → Bool) : fX0_benches n (sb p 36) = some (sb (bn p) 36) := by
  unfold fX0_benches
  refine lpb (fun k => (sb (bn p) k, nI k)) 36 (sb (bn p) 36, nI 36) rfl (fun k hk => ?_) rfl (by omega) rfl
  have h4 := nbn_le p k
  dsimp +instances only
  rw [if_neg (Kle_F z_36 hk (by decide)), e_bit, Option.bind_some]
  by_cases h : p k = true
  · have h1 : ¬ sb p 36 &&& bitL k = 0 := by rw [bq_test (by omega), bq_sb p (by decide)]; simp [hk, h]
    rw [if_neg h1, e_neighbours, Option.bind_some, bc_adj n hk, Option.bind_some]
    by_cases h2 : 3 ≤ nbn p k
    · rw [if_neg (ltK_F z_3 h2 (by omega)), sb_T (show bn p k = true from by unfold bn; simp [h, h2]), z_1, nI_add]
    · rw [if_pos (ltK_T z_3 (by omega) (by decide)), sb_F (show ¬ bn p k = true from by unfold bn; simp [h2]), z_1, nI_add]
  · have h1 : sb p 36 &&& bitL k = 0 := by rw [bq_test (by omega), bq_sb p (by decide)]; simp [bt_F h]
    rw [if_pos h1, sb_F (show ¬ bn p k = true from by unfold bn; simp [h]), z_1, nI_add]
theorem e7_isBench (n : Nat) (hn : 100 ≤ n) {r : Nat → Int32} {q : Nat → Nat} {e : Nat → Int32} {b c : Nat} (hr : RM r q e) (hv : IV b q) (hc : c < 36) : fX7_isBench n (nI c) r = some (if bn (hp q) c = true then nI 1 else nI 0) := by
  have h4 := nbn_le (hp q) c
  unfold fX7_isBench
  rw [e7_hasPath n hr hv hc, Option.bind_some]
  by_cases h : hp q c = true
  · rw [if_neg (b01_T h), e7_pathsBeside n hn hr hv hc, Option.bind_some]
    by_cases h2 : 3 ≤ nbn (hp q) c
    · rw [if_neg (leK_F z_2 (by omega) (by omega)), if_pos (show bn (hp q) c = true from by unfold bn; simp [h, h2])]; rfl
    · rw [if_pos (leK_T z_2 (by omega) (by decide)), if_neg (show ¬ bn (hp q) c = true from by unfold bn; simp [h2])]; rfl
  · rw [if_pos (b01_F h), if_neg (show ¬ bn (hp q) c = true from by unfold bn; simp [h])]; rfl
theorem e7_benches (n : Nat) (hn : 100 ≤ n) {r : Nat → Int32} {q : Nat → Nat} {e : Nat → Int32} {b : Nat} (hr : RM r q e) (hv : IV b q) : fX7_benches n r = some (nI (ct (bn (hp q)) 36)) := by
  unfold fX7_benches
  refine lpb (fun k => (nI (ct (bn (hp q)) k), nI k)) 36 (nI (ct (bn (hp q)) 36), nI 36) rfl (fun k hk => ?_) rfl (by omega) rfl
  dsimp +instances only
  rw [if_neg (Kle_F z_36 hk (by decide)), e7_isBench n hn hr hv hk, Option.bind_some]
  by_cases h : bn (hp q) k = true
  · rw [if_neg (b01_T h), z_1, nI_add, nI_add, ct_T h]
  · rw [if_pos (b01_F h), z_0, z_1, nI_add, nI_add, ct_F h]; rfl
