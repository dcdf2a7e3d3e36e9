/-! spreading of a set over open cells -/
def spx (o s : Nat → Bool) : Nat → Bool := fun c => s c || (o c && nb4 s c)
def spk (o s : Nat → Bool) : Nat → Nat → Bool
  | 0 => s
  | k + 1 => spx o (spk o s k)
def clo (o s : Nat → Bool) : Nat → Bool := spk o s 36
theorem nb4_mono {p q : Nat → Bool} (h : ∀ c, p c = true → q c = true) {i : Nat} (hi : nb4 p i = true) : nb4 q i = true := by
  obtain ⟨k, h1, h2, h3⟩ := nb4_iff.mp hi
  exact nb4_iff.mpr ⟨k, h1, h2, h _ h3⟩
theorem nb4_fun {p q : Nat → Bool} (h : ∀ j, j < 36 → p j = q j) : nb4 p = nb4 q := funext fun _ => nb4_cong h
theorem spx_iff {o s : Nat → Bool} {c : Nat} : spx o s c = true ↔ s c = true ∨ (o c = true ∧ nb4 s c = true) := by
  unfold spx; simp
theorem spk_up {o s : Nat → Bool} : ∀ {k m : Nat}, k ≤ m → ∀ c, spk o s k c = true → spk o s m c = true := by
  intro k m
  induction m with
  | zero => intro h c hc; have : k = 0 := by omega
            subst this; exact hc
  | succ m ih =>
    intro h c hc
    by_cases e : k = m + 1
    · subst e; exact hc
    · exact spx_iff.mpr (Or.inl (ih (by omega) c hc))
theorem spk_step {o s : Nat → Bool} {k c d : Nat} (hd : o d = true) (hn : ∃ h, h < 4 ∧ nbc d h = c) (hc : c < 36) (h : spk o s k c = true) : spk o s (k + 1) d = true := by
  obtain ⟨h', h1, h2⟩ := hn
  exact spx_iff.mpr (Or.inr ⟨hd, nb4_iff.mpr ⟨h', h1, by rw [h2]; exact hc, by rw [h2]; exact h⟩⟩)
theorem ct_mono {p q : Nat → Bool} (h : ∀ c, p c = true → q c = true) : ∀ n, ct p n ≤ ct q n := by
  intro n
  induction n with
  | zero => exact Nat.le_refl 0
  | succ n ih =>
    by_cases e : p n = true
    · rw [ct_T e, ct_T (h n e)]; omega
    · rw [ct_F e, ct]; omega
theorem ct_mono_lt {p q : Nat → Bool} (h : ∀ c, p c = true → q c = true) : ∀ {n c : Nat}, c < n → q c = true → ¬ p c = true → ct p n < ct q n := by
  intro n
  induction n with
  | zero => intro c hc _ _; exact absurd hc (Nat.not_lt_zero _)
  | succ n ih =>
    intro c hc h1 h2
    by_cases e : c = n
    · subst e
      rw [ct_F h2, ct_T h1]
      have := ct_mono h c
      omega
    · have := ih (show c < n by omega) h1 h2
      by_cases e2 : p n = true
      · rw [ct_T e2, ct_T (h n e2)]; omega
      · rw [ct_F e2, ct]; omega
/-- once it stands it stands for good -/
theorem spk_fix {o s : Nat → Bool} {k : Nat} (h : ∀ c, c < 36 → spk o s (k + 1) c = spk o s k c) : ∀ m c, c < 36 → spk o s (k + m) c = spk o s k c := by
  intro m
  induction m with
  | zero => intro c _; rfl
  | succ m ih =>
    intro c hc
    show spx o (spk o s (k + m)) c = _
    have e : nb4 (spk o s (k + m)) c = nb4 (spk o s k) c := nb4_cong ih
    rw [← h c hc]
    show (spk o s (k + m) c || (o c && nb4 (spk o s (k + m)) c)) = (spk o s k c || (o c && nb4 (spk o s k) c))
    rw [ih c hc, e]
theorem spk_grow {o s : Nat → Bool} : ∀ k, (∃ j, j < k ∧ ∀ c, c < 36 → spk o s (j + 1) c = spk o s j c) ∨ ct s 36 + k ≤ ct (spk o s k) 36 := by
  intro k
  induction k with
  | zero => exact Or.inr (Nat.le_refl _)
  | succ k ih =>
    rcases ih with ⟨j, h1, h2⟩ | h
    · exact Or.inl ⟨j, by omega, h2⟩
    · by_cases e : ∀ c, c < 36 → spk o s (k + 1) c = spk o s k c
      · exact Or.inl ⟨k, by omega, e⟩
      · refine Or.inr ?_
        obtain ⟨c, hc⟩ := Classical.not_forall.mp e
        obtain ⟨hc36, hne⟩ := Classical.not_imp.mp hc
        have hy : ¬ spk o s k c = true := fun h1 => hne (by rw [h1, spk_up (Nat.le_succ k) c h1])
        have hx : spk o s (k + 1) c = true := by
          cases h1 : spk o s (k + 1) c with
          | true => rfl
          | false => exact absurd (by rw [h1, bt_F hy]) hne
        have : ct (spk o s k) 36 < ct (spk o s (k + 1)) 36 := ct_mono_lt (fun c hc => spk_up (o := o) (s := s) (Nat.le_succ k) c hc) hc36 hx hy
        omega
theorem spk_stop {o s : Nat → Bool} (n : Nat) (hn : 37 ≤ ct s 36 + n) : ∀ m, n ≤ m + 1 → ∀ c, c < 36 → spk o s m c = spk o s (m + 1) c ∧ True := by
  intro m hm c hc
  refine ⟨?_, trivial⟩
  rcases spk_grow (o := o) (s := s) n with ⟨j, h1, h2⟩ | h
  · have e1 := spk_fix h2 (m - j) c hc
    have e2 := spk_fix h2 (m + 1 - j) c hc
    rw [show j + (m - j) = m from by omega] at e1
    rw [show j + (m + 1 - j) = m + 1 from by omega] at e2
    rw [e1, e2]
  · have := ct_le (spk o s n) 36
    omega
theorem clo_fix {o s : Nat → Bool} {m c : Nat} (hm : 36 ≤ m) (hc : c < 36) : spk o s m c = clo o s c := by
  have h : ∀ c, c < 36 → spk o s (36 + 1) c = spk o s 36 c := fun c hc => ((spk_stop 37 (by omega) 36 (by omega) c hc).1).symm
  have := spk_fix h (m - 36) c hc
  rw [show 36 + (m - 36) = m from by omega] at this
  exact this
theorem clo_any {o s : Nat → Bool} {k c : Nat} (hc : c < 36) (h : spk o s k c = true) : clo o s c = true := by
  have := spk_up (o := o) (s := s) (show k ≤ k + 36 by omega) c h
  rwa [clo_fix (by omega) hc] at this
/-- a cell more brings nothing beyond -/
theorem clo_step {o s : Nat → Bool} {c d : Nat} (hd : o d = true) (hd36 : d < 36) (hn : ∃ h, h < 4 ∧ nbc d h = c) (hc : c < 36) (h : clo o s c = true) : clo o s d = true :=
  clo_any hd36 (spk_step hd hn hc h)
theorem clo_in {o s : Nat → Bool} {c : Nat} (h : s c = true) : clo o s c = true := spk_up (Nat.zero_le 36) c h
/-- what holds of the begin and goes on over open cells holds of all -/
theorem spk_ind {o s : Nat → Bool} (P : Nat → Prop) (h0 : ∀ c, c < 36 → s c = true → P c) (h1 : ∀ c d, c < 36 → d < 36 → o d = true → (∃ h, h < 4 ∧ nbc d h = c) → P c → P d) : ∀ k c, c < 36 → spk o s k c = true → P c := by
  intro k
  induction k with
  | zero => exact h0
  | succ k ih =>
    intro c hc h
    rcases spx_iff.mp h with h | ⟨h2, h3⟩
    · exact ih c hc h
    · obtain ⟨h', a1, a2, a3⟩ := nb4_iff.mp h3
      exact h1 _ c a2 hc h2 ⟨h', a1, rfl⟩ (ih _ a2 a3)
theorem clo_ind {o s : Nat → Bool} (P : Nat → Prop) (h0 : ∀ c, c < 36 → s c = true → P c) (h1 : ∀ c d, c < 36 → d < 36 → o d = true → (∃ h, h < 4 ∧ nbc d h = c) → P c → P d) {c : Nat} (hc : c < 36) (h : clo o s c = true) : P c := spk_ind P h0 h1 36 c hc h
theorem nbc_sym {c d : Nat} (hc : c < 36) (hd : d < 36) (h : ∃ k, k < 4 ∧ nbc d k = c) : ∃ k, k < 4 ∧ nbc c k = d := by
  obtain ⟨k, h1, h2⟩ := h
  have h3 := (t_nl d hd k h1).2 (by omega)
  exact ⟨(k + 2) % 4, by omega, by rw [← h2]; exact h3.1⟩
/-! as bits -/
theorem bq_sb36 (p : Nat → Bool) {i : Nat} (hi : i < 36) : bq (sb p 36) i = p i := by rw [bq_sb p (by decide)]; simp [hi]
theorem sb_eq {p q : Nat → Bool} : (sb p 36 = sb q 36) ↔ ∀ i, i < 36 → p i = q i := by
  constructor
  · intro h i hi
    rw [← bq_sb36 p hi, ← bq_sb36 q hi, h]
  · exact sb_cong
theorem sb_out (p : Nat → Bool) {i : Nat} (hi : 36 ≤ i) : bq (sb p 36) i = false := by
  rw [bq_sb p (by decide)]; have : ¬ i < 36 := by omega
  simp [this]
theorem bq_nbs (p : Nat → Bool) {i : Nat} (hi : i < 64) : bq (nbS (sb p 36)) i = (decide (i < 36) && nb4 p i) := by
  rw [bq_nbS (fun j hj => sb_out p hj) hi, nb4_cong fun j hj => bq_sb36 p hj]
theorem sb_spx (o s : Nat → Bool) : sb s 36 ||| (nbS (sb s 36) &&& sb o 36) = sb (spx o s) 36 := by
  refine sb_of (by decide) fun i hi => ?_
  rw [bq_or, bq_and, bq_nbs s hi, bq_sb s (by decide), bq_sb o (by decide)]
  unfold spx
  by_cases h : i < 36
  · simp only [h, decide_true, Bool.true_and]
    cases s i <;> cases o i <;> cases nb4 s i <;> rfl
  · simp [h]
theorem sb_and (p q : Nat → Bool) : sb p 36 &&& sb q 36 = sb (fun c => p c && q c) 36 := by
  refine sb_of (by decide) fun i hi => ?_
  rw [bq_and, bq_sb p (by decide), bq_sb q (by decide)]
  by_cases h : i < 36 <;> simp [h]
theorem sb_or (p q : Nat → Bool) : sb p 36 ||| sb q 36 = sb (fun c => p c || q c) 36 := by
  refine sb_of (by decide) fun i hi => ?_
  rw [bq_or, bq_sb p (by decide), bq_sb q (by decide)]
  by_cases h : i < 36 <;> simp [h]
theorem sb_andn (p q : Nat → Bool) : sb p 36 &&& (sb q 36 ^^^ (-1)) = sb (fun c => p c && !q c) 36 := by
  refine sb_of (by decide) fun i hi => ?_
  rw [bq_and, bq_xor, bq_sb p (by decide), bq_sb q (by decide), bq_m1 hi]
  by_cases h : i < 36 <;> simp [h]
theorem sb_bit {c : Nat} (hc : c < 36) : bitL c = sb (fun i => decide (i = c)) 36 := by
  refine sb_of (by decide) fun i hi => ?_
  rw [bq_bit (by omega)]
  by_cases e : i = c
  · subst e; simp [hc]
  · simp [e]
theorem sb_test (p : Nat → Bool) {c : Nat} (hc : c < 36) : (sb p 36 &&& bitL c = 0) = (p c = false) := by rw [bq_test (by omega), bq_sb36 p hc]
theorem e0_spread (n : Nat) (hn : 100 ≤ n) (o s : Nat → Bool) : fX0_spread n (sb s 36) (sb o 36) = some (sb (clo o s) 36) := by
  unfold fX0_spread
  suffices h : ∃ v, lp (fun (s1 : Int64 × Int32) => ((if (36 : Int32) ≤ s1.2 then some (.inr (.inl (s1.1, s1.2))) else ((fX0_neighbours n s1.1).bind (fun q4 => (if (s1.1 ||| (q4 &&& sb o 36)) = s1.1 then some (.inr (.inr s1.1)) else some (.inl ((s1.1 ||| (q4 &&& sb o 36)), (s1.2 + (1 : Int32)))))))) : Option ((Int64 × Int32) ⊕ ((Int64 × Int32) ⊕ (Int64))))) n (sb s 36, (0 : Int32)) = some v ∧ Sum.elim (fun (v2 : Int64 × Int32) => some v2.1) (fun x => some x) v = some (sb (clo o s) 36) by
    obtain ⟨v, h1, h2⟩ := h
    rw [h1]; exact h2
  refine lp_ms (fun st => ∃ k, k ≤ 36 ∧ st = (sb (spk o s k) 36, nI k)) (fun st => 36 - st.2.toNatClampNeg) _ ?_ n _ ⟨0, by omega, rfl⟩ (by omega)
  rintro st ⟨k, hk, rfl⟩
  dsimp +instances only
  rw [nI_clamp (by omega)]
  by_cases h : k < 36
  · rw [if_neg (Kle_F z_36 h (by decide)), e_neighbours, Option.bind_some, sb_spx]
    by_cases e : sb (spx o (spk o s k)) 36 = sb (spk o s k) 36
    · rw [if_pos e]
      refine Or.inl ⟨_, rfl, ?_⟩
      show some (sb (spk o s k) 36) = _
      have h1 := spk_fix (o := o) (s := s) (k := k) (fun c hc => sb_eq.mp e c hc) (36 - k)
      rw [show k + (36 - k) = 36 from by omega] at h1
      rw [sb_cong fun i hi => (h1 i hi).symm]; rfl
    · rw [if_neg e]
      exact Or.inr ⟨_, rfl, ⟨k + 1, by omega, by rw [z_1, nI_add]; rfl⟩, by rw [z_1, nI_add, nI_clamp (by omega)]; omega⟩
  · have : k = 36 := by omega
    subst this
    exact Or.inl ⟨_, rfl, rfl⟩
/-! what is joined to a cell -/
def one (p : Nat → Bool) (a : Nat) : Nat → Bool := fun c => decide (c = a) && p c
def jn (p : Nat → Bool) (a : Nat) : Nat → Bool := clo p (one p a)
theorem sb_one (p : Nat → Bool) {a : Nat} (ha : a < 36) : bitL a &&& sb p 36 = sb (one p a) 36 := by rw [sb_bit ha, sb_and]; rfl
theorem e0_reach (n : Nat) (hn : 100 ≤ n) (p : Nat → Bool) {a : Nat} (ha : a < 36) : fX0_reach n (nI a) (sb p 36) = some (sb (jn p a) 36) := by
  unfold fX0_reach
  rw [e_bit, Option.bind_some, sb_one p ha, e0_spread n hn]; rfl
theorem e0_areJoined (n : Nat) (hn : 100 ≤ n) (p : Nat → Bool) {a b : Nat} (ha : a < 36) (hb : b < 36) : fX0_areJoined n (nI a) (nI b) (sb p 36) = some (if jn p a b = true then nI 1 else nI 0) := by
  unfold fX0_areJoined
  rw [e0_reach n hn p ha, Option.bind_some, e_bit, Option.bind_some]
  by_cases h : jn p a b = true
  · rw [if_neg (by rw [sb_test _ hb, h]; decide), if_pos h]; rfl
  · rw [if_pos (by rw [sb_test _ hb, bt_F h]), if_neg h]; rfl
/-- the steps to a cell: the least k; 36: none -/
def dsk (p : Nat → Bool) (a c : Nat) : Nat := fs (fun k => spk p (one p a) k c) 36
theorem dsk_jn {p : Nat → Bool} {a c : Nat} (hc : c < 36) (h : jn p a c = true) : dsk p a c < 36 := by
  apply Classical.byContradiction
  intro hn
  have h1 := fs_no (fun k => spk p (one p a) k c) 36 35 (by unfold dsk at hn; omega)
  by_cases hp : ∃ i, i < 36 ∧ one p a i = true
  · obtain ⟨i, hi, ho⟩ := hp
    have h2 : 1 ≤ ct (one p a) 36 := by
      have := ct_mono_lt (p := fun _ => false) (q := one p a) (fun c h => absurd h (by decide)) hi ho (by decide)
      omega
    have h3 := (spk_stop (o := p) (s := one p a) 36 (by omega) 35 (by omega) c hc).1
    have h4 : jn p a c = spk p (one p a) 35 c := h3.symm
    rw [h4] at h
    exact absurd h (by rw [h1]; decide)
  · have : ∀ k c, c < 36 → spk p (one p a) k c = true → False := spk_ind (fun _ => False) (fun c hc h => hp ⟨c, hc, h⟩) (fun _ _ _ _ _ _ h => h)
    exact this 36 c hc h
theorem dsk_no {p : Nat → Bool} {a c : Nat} (hc : c < 36) (h : ¬ jn p a c = true) : dsk p a c = 36 := by
  have h1 := fs_le (fun k => spk p (one p a) k c) 36
  apply Classical.byContradiction
  intro hn
  have h2 := fs_yes (fun k => spk p (one p a) k c) 36 (by unfold dsk at hn; omega)
  exact h (clo_any hc h2)
/-- what has its steps told so is the least number -/
theorem dsk_is {p : Nat → Bool} {a c k : Nat} (hk : k < 36) (h1 : spk p (one p a) k c = true) (h2 : ∀ j, j < k → ¬ spk p (one p a) j c = true) : dsk p a c = k := by
  have h3 := fs_le (fun k => spk p (one p a) k c) 36
  unfold dsk
  rcases Nat.lt_trichotomy (fs (fun k => spk p (one p a) k c) 36) k with h | h | h
  · exact absurd (fs_yes (fun k => spk p (one p a) k c) 36 (by omega)) (h2 _ h)
  · exact h
  · have := fs_no (fun k => spk p (one p a) k c) 36 k h
    rw [h1] at this; exact absurd this (by decide)
theorem e0_steps (n : Nat) (hn : 100 ≤ n) (p : Nat → Bool) {a b : Nat} (ha : a < 36) (hb : b < 36) : fX0_steps n (nI a) (nI b) (sb p 36) = some (nbI (dsk p a b)) := by
  unfold fX0_steps
  rw [e_bit, Option.bind_some, sb_one p ha]
  have hle := fs_le (fun k => spk p (one p a) k b) 36
  have hno := fs_no (fun k => spk p (one p a) k b) 36
  have hstep : ∀ k, k < dsk p a b → spk p (one p a) k b = false := hno
  by_cases h : dsk p a b < 36
  · refine lpb (fun k => (sb (spk p (one p a) k) 36, nI k)) (dsk p a b) (.inr (nI (dsk p a b))) rfl (fun k hk => ?_) ?_ (by omega) ?_
    · dsimp +instances only
      rw [if_neg (Kle_F z_36 (by omega) (by decide)), e_bit, Option.bind_some, if_pos (by rw [sb_test _ hb, hstep k hk]), e_neighbours, Option.bind_some, sb_spx, z_1, nI_add]; rfl
    · have hy : spk p (one p a) (dsk p a b) b = true := fs_yes (fun k => spk p (one p a) k b) 36 h
      dsimp +instances only
      rw [if_neg (Kle_F z_36 h (by decide)), e_bit, Option.bind_some, if_neg (by rw [sb_test _ hb, hy]; decide)]
    · rw [nbI_T h]; rfl
  · have h36 : dsk p a b = 36 := by unfold dsk at h ⊢; omega
    refine lpb (fun k => (sb (spk p (one p a) k) 36, nI k)) 36 (.inl (sb (spk p (one p a) 36) 36, nI 36)) rfl (fun k hk => ?_) rfl (by omega) ?_
    · dsimp +instances only
      rw [if_neg (Kle_F z_36 (by omega) (by decide)), e_bit, Option.bind_some, if_pos (by rw [sb_test _ hb, hstep k (by omega)]), e_neighbours, Option.bind_some, sb_spx, z_1, nI_add]; rfl
    · rw [nbI_F (by omega)]; rfl
