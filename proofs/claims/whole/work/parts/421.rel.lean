/-! the two objects held against each other: findings, parks -/
def XT (told found : Nat → Int32) : Prop := ∃ T : Nat → Nat, (∀ w, w < 7 → told w = nI (T w) ∧ found (w + 1) = nI (T w)) ∧ found 0 = nI (sm T 7)
def low (w : Nat) : Int32 := -1000001 - nI w
theorem t_low : ∀ w, w < 7 → (-1000001 : Int32) - low w + 1 = nI (w + 1) := by decide +kernel
theorem e6_at (n : Nat) {N c : Nat} {f : Nat → Int32} (hc : c < N) (hN : N < 2 ^ 31) : fX6_at n N (nI c) f = some (f c) := by
  unfold fX6_at
  rw [if_neg (nI_pos (by omega)), if_neg (nI_ge hc hN), if_pos (vi_N hc hN), nI_clamp (by omega)]
theorem fnd (n : Nat) {told found : Nat → Int32} (h : XT told found) {K L : Int32} (w : Nat) (hw : w < 7) (hK : K = nI w) (hL : L = low w) : ∃ t' f', fX6_finding n K told = some (L, t') ∧ fX7_finding n L found = some (L, f') ∧ XT t' f' := by
  subst hK hL
  obtain ⟨T, h1, h2⟩ := h
  unfold fX6_finding fX7_finding
  rw [e6_at n hw (by decide), Option.bind_some, e6_put n hw (by decide), Option.bind_some, t_low w hw, if_pos (vi_N (show w + 1 < 8 by omega) (by decide)), if_pos (vi_N (show w + 1 < 8 by omega) (by decide)), nI_clamp (by omega)]
  refine ⟨_, _, rfl, rfl, upq T w (T w + 1), fun v hv => ?_, ?_⟩
  · have h0 : (0 : Int32).toNatClampNeg = 0 := by decide
    rw [h0]
    by_cases e : v = w
    · subst e
      rw [upd_T rfl, upq_T rfl, upd_F (by omega), upd_T rfl, (h1 v hv).1, (h1 v hv).2, z_1, nI_add]
      exact ⟨rfl, rfl⟩
    · rw [upd_F (by omega), upq_F (by omega), upd_F (by omega), upd_F (by omega)]; exact h1 v hv
  · have h0 : (0 : Int32).toNatClampNeg = 0 := by decide
    rw [h0, upd_T rfl, upd_F (by omega), h2, z_1, nI_add]
    have h3 := sm_upq (S := T) (t := w) (v := T w + 1) 7
    rw [if_pos hw, if_pos hw] at h3
    congr 1; omega
def SPT (e : Nat → Int32) (k : Nat) : Prop := ∀ i, i < 10 → e (3 + i) = m1 ∨ ∃ s, s < k ∧ e (3 + i) = nI s
def CP (paths : Nat → Int32) (water wall : Int64) (kind place facing age : Nat → Int32) (seeds season z : Int32) (spots : Nat → Int32) (q : Nat → Nat) (e : Nat → Int32) : Prop :=
  RP paths q ∧ RS water q 1 ∧ RS wall q 2 ∧ RF kind q 0 ∧ RF place q 1 ∧ RF facing q 2 ∧ RF age q 3 ∧ seeds = nI (q 1) ∧ season = nI (q 0) ∧ z = e 2 ∧ ∀ i, i < 10 → spots i = e (3 + i)
def XK (paths : Nat → Int32) (water wall : Int64) (kind place facing age : Nat → Int32) (seeds season z : Int32) (spots : Nat → Int32) (r : Nat → Int32) (b : Nat) : Prop :=
  ∃ q e, CP paths water wall kind place facing age seeds season z spots q e ∧ RM r q e ∧ IV b q ∧ SPT e (q 1)
/-! seeds by number -/
theorem e7_isSeed (n : Nat) {r : Nat → Int32} {q : Nat → Nat} {e : Nat → Int32} (hr : RM r q e) (h8 : q 1 ≤ 8) {s : Nat} (hs : s < q 1) : fX7_isSeed n (nI s) r = some (nI 1) := by
  have h1r : r (1 : Int32).toNatClampNeg = nI (q 1) := hr.at 1 (by decide) (by decide)
  unfold fX7_isSeed
  rw [h1r, z_1, pk_sub (by omega), z_0, e7_within n (Nat.zero_le _) (show s ≤ q 1 - 1 by omega) (by omega)]; rfl
theorem e7_isSeedB (n : Nat) {r : Nat → Int32} {q : Nat → Nat} {e : Nat → Int32} (hr : RM r q e) (h8 : q 1 ≤ 8) {a : Int32} (h : a < nI 0 ∨ nI (q 1) ≤ a) : fX7_isSeed n a r = some (nI 0) := by
  have h1r : r (1 : Int32).toNatClampNeg = nI (q 1) := hr.at 1 (by decide) (by decide)
  unfold fX7_isSeed
  rw [h1r, e7_withinB n]; rfl
  rcases h with h | h
  · exact Or.inl h
  · by_cases h0 : q 1 = 0
    · right
      rw [h0] at h ⊢
      have h2 : nI 0 - 1 = m1 := by decide
      rw [h2]
      rw [Int32.le_iff_toInt_le, nI_toInt (by decide)] at h
      rw [Int32.lt_iff_toInt_lt, m1_int]; omega
    · right
      obtain ⟨k, hk⟩ : ∃ k, q 1 = k + 1 := ⟨q 1 - 1, by omega⟩
      rw [hk] at h ⊢
      rw [z_1, pk_sub (by omega), Nat.add_sub_cancel, ← i32_lt_of_le (by omega)]; exact h
theorem ran {a : Int32} (l h : Nat) (hl : l ≤ h) (hh : h + 1 < 2 ^ 31) : (∃ j, l ≤ j ∧ j ≤ h ∧ a = nI j) ∨ (a < nI l ∨ nI h < a) := by
  rcases rg a (h + 1) hh with ⟨j, h1, rfl⟩ | h1 | h1
  · by_cases e : l ≤ j
    · exact Or.inl ⟨j, e, by omega, rfl⟩
    · exact Or.inr (Or.inl (nI_lt (by omega) (by omega)))
  · refine Or.inr (Or.inl ?_)
    rw [Int32.lt_iff_toInt_lt, nI_toInt (by decide)] at h1
    rw [Int32.lt_iff_toInt_lt, nI_toInt (by omega)]; omega
  · rw [i32_lt_of_le hh] at h1; exact Or.inr (Or.inr h1)
theorem outN {a : Int32} {l h k : Nat} (q : a < nI l ∨ nI h < a) (h1 : l ≤ k) (h2 : k ≤ h) (hh : h < 2 ^ 31) : ¬ a = nI k := by
  rintro rfl
  rcases q with q | q
  · exact nI_nlt h1 (by omega) q
  · exact nI_nlt h2 (by omega) q
theorem outK {a K : Int32} {l h k : Nat} (hK : K = nI k) (q : a < nI l ∨ nI h < a) (h1 : l ≤ k) (h2 : k ≤ h) (hh : h < 2 ^ 31) : (a = K) = False := by
  subst hK; exact eq_false (outN q h1 h2 hh)
theorem t10 : (nI 1 = 0) = False := eq_false (by decide)
theorem t00 : (nI 0 = 0) = True := eq_true rfl
theorem wi (n : Nat) {a L H : Int32} (l h : Nat) (hL : L = nI l) (hH : H = nI h) (hl : l ≤ h) (hh : h + 1 < 2 ^ 31) : (∃ j, l ≤ j ∧ j ≤ h ∧ a = nI j ∧ fX6_within n a L H = some (nI 1) ∧ fX7_within n a L H = some (nI 1)) ∨ ((a < nI l ∨ nI h < a) ∧ fX6_within n a L H = some (nI 0) ∧ fX7_within n a L H = some (nI 0)) := by
  subst hL hH
  rcases ran (a := a) l h hl hh with ⟨j, h1, h2, rfl⟩ | h1
  · exact Or.inl ⟨j, h1, h2, rfl, e6_within n h1 h2 (by omega), e7_within n h1 h2 (by omega)⟩
  · exact Or.inr ⟨h1, e6_withinB n h1, e7_withinB n h1⟩
theorem ce (n : Nat) (a : Int32) : (∃ j, j < 36 ∧ a = nI j ∧ fX6_isCell n a = some (nI 1) ∧ fX7_isCell n a = some (nI 1)) ∨ ((a < nI 0 ∨ nI 35 < a) ∧ fX6_isCell n a = some (nI 0) ∧ fX7_isCell n a = some (nI 0)) := by
  rcases wi n (a := a) 0 35 z_0 z_35 (by decide) (by decide) with ⟨j, _, h2, h3, h4, h5⟩ | ⟨h1, h2, h3⟩
  · exact Or.inl ⟨j, by omega, h3, by unfold fX6_isCell; rw [h4]; rfl, by unfold fX7_isCell; rw [h5]; rfl⟩
  · exact Or.inr ⟨h1, by unfold fX6_isCell; rw [h2]; rfl, by unfold fX7_isCell; rw [h3]; rfl⟩
theorem kd (n : Nat) (a : Int32) : (∃ j, j < 7 ∧ a = nI j ∧ fX6_isKind n a = some (nI 1) ∧ fX7_isKind n a = some (nI 1)) ∨ ((a < nI 0 ∨ nI 6 < a) ∧ fX6_isKind n a = some (nI 0) ∧ fX7_isKind n a = some (nI 0)) := by
  rcases wi n (a := a) 0 6 z_0 z_6 (by decide) (by decide) with ⟨j, _, h2, h3, h4, h5⟩ | ⟨h1, h2, h3⟩
  · exact Or.inl ⟨j, by omega, h3, by unfold fX6_isKind; rw [h4]; rfl, by unfold fX7_isKind; rw [h5]; rfl⟩
  · exact Or.inr ⟨h1, by unfold fX6_isKind; rw [h2]; rfl, by unfold fX7_isKind; rw [h3]; rfl⟩
theorem hg (n : Nat) (a : Int32) : (∃ j, j < 4 ∧ a = nI j ∧ fX6_isHeading n a = some (nI 1) ∧ fX7_isHeading n a = some (nI 1)) ∨ ((a < nI 0 ∨ nI 3 < a) ∧ fX6_isHeading n a = some (nI 0) ∧ fX7_isHeading n a = some (nI 0)) := by
  rcases wi n (a := a) 0 3 z_0 z_3 (by decide) (by decide) with ⟨j, _, h2, h3, h4, h5⟩ | ⟨h1, h2, h3⟩
  · exact Or.inl ⟨j, by omega, h3, by unfold fX6_isHeading; rw [h4]; rfl, by unfold fX7_isHeading; rw [h5]; rfl⟩
  · exact Or.inr ⟨h1, by unfold fX6_isHeading; rw [h2]; rfl, by unfold fX7_isHeading; rw [h3]; rfl⟩
theorem pt (n : Nat) (a : Int32) : (∃ j, j ≤ 99 ∧ a = nI j ∧ fX6_within n a 0 99 = some (nI 1) ∧ fX7_isPath n a = some (nI 1)) ∨ ((a < nI 0 ∨ nI 99 < a) ∧ fX6_within n a 0 99 = some (nI 0) ∧ fX7_isPath n a = some (nI 0)) := by
  rcases wi n (a := a) 0 99 z_0 z_99 (by decide) (by decide) with ⟨j, _, h2, h3, h4, h5⟩ | ⟨h1, h2, h3⟩
  · exact Or.inl ⟨j, by omega, h3, h4, by unfold fX7_isPath; rw [h5]; rfl⟩
  · exact Or.inr ⟨h1, h2, by unfold fX7_isPath; rw [h3]; rfl⟩
theorem sd (n : Nat) {a seeds : Int32} {r : Nat → Int32} {q : Nat → Nat} {e : Nat → Int32} (hr : RM r q e) (h8 : q 1 ≤ 8) (hs : seeds = nI (q 1)) : (∃ j, j < q 1 ∧ a = nI j ∧ fX2_seedAt n a seeds = some (some j) ∧ fX7_isSeed n a r = some (nI 1)) ∨ (fX2_seedAt n a seeds = some none ∧ fX7_isSeed n a r = some (nI 0)) := by
  subst hs
  rcases rg a (q 1) (by omega) with ⟨j, h1, rfl⟩ | h1
  · exact Or.inl ⟨j, h1, rfl, e2_seedAt n h1 h8, e7_isSeed n hr h8 h1⟩
  · exact Or.inr ⟨e2_seedAtB n h8 h1, e7_isSeedB n hr h8 h1⟩
/-! ground -/
theorem bq_clr (x : Int64) {c : Nat} (hc : c < 64) (i : Nat) : bq (x &&& (bitL c ^^^ (-1))) i = (bq x i && !decide (i = c)) := by
  by_cases hi : i < 64
  · rw [bq_and, bq_xor, bq_bit hc, bq_m1 hi]; simp
  · rw [bq_hi (by omega), bq_hi (by omega)]; rfl
theorem RS.clr {x : Int64} {q q' : Nat → Nat} {w c : Nat} (h : RS x q w) (hc : c < 36) (h1 : q' (13 + c) ≠ w) (h2 : ∀ i, i < 36 → i ≠ c → q' (13 + i) = q (13 + i)) : RS (x &&& (bitL c ^^^ (-1))) q' w := by
  intro i
  rw [bq_clr x (by omega), h i]
  by_cases e : i = c
  · subst e; simp [h1]
  · by_cases hi : i < 36
    · rw [h2 i hi e]; simp [e]
    · simp [hi]
theorem RS.setb {x : Int64} {q q' : Nat → Nat} {w c : Nat} (h : RS x q w) (hc : c < 36) (h1 : q' (13 + c) = w) (h2 : ∀ i, i < 36 → i ≠ c → q' (13 + i) = q (13 + i)) : RS ((x &&& (bitL c ^^^ (-1))) ||| bitL c) q' w := by
  intro i
  rw [bq_or, bq_clr x (by omega), h i, bq_bit (by omega)]
  by_cases e : i = c
  · subst e; simp [h1, hc]
  · by_cases hi : i < 36
    · rw [h2 i hi e]; simp [e]
    · simp [hi, e]
def gset (q : Nat → Nat) (c v : Nat) : Nat → Nat := upq (if v = 0 then q else upq q (49 + c) 0) (13 + c) v
theorem gset_c {q : Nat → Nat} {c v : Nat} : gset q c v (13 + c) = v := upq_T rfl
theorem gset_o {q : Nat → Nat} {c v i : Nat} (h1 : i ≠ 13 + c) (h2 : i ≠ 49 + c) : gset q c v i = q i := by
  unfold gset
  rw [upq_F (by omega)]
  split
  · rfl
  · rw [upq_F (by omega)]
theorem gset_p {q : Nat → Nat} {c v : Nat} : gset q c v (49 + c) = if v = 0 then q (49 + c) else 0 := by
  unfold gset
  rw [upq_F (by omega)]
  split
  · rfl
  · rw [upq_T rfl]
theorem IV_gset {b : Nat} {q : Nat → Nat} {c v : Nat} (hv : IV b q) (hc : c < 36) (h2 : v ≤ 2) : IV b (gset q c v) := by
  refine ⟨by rw [gset_o (by omega) (by omega)]; exact hv.1, by rw [gset_o (by omega) (by omega)]; exact hv.2.1, fun d hd => ?_, fun s hs => ?_⟩
  · have h := hv.2.2.1 d hd
    by_cases e : d = c
    · subst e
      rw [gset_c, gset_p]
      refine ⟨by split <;> omega, h2, fun h0 => if_neg h0⟩
    · rw [gset_o (i := 13 + d) (by omega) (by omega), gset_o (i := 49 + d) (by omega) (by omega)]; exact h
  · rw [gset_o (by omega) (by omega), gset_o (by omega) (by omega), gset_o (by omega) (by omega), gset_o (by omega) (by omega)]; exact hv.2.2.2 s hs
theorem e2_groundOf (n : Nat) {water wall : Int64} {q : Nat → Nat} {b c : Nat} (hw : RS water q 1) (ha : RS wall q 2) (hv : IV b q) (hc : c < 36) : fX2_groundOf n (nI c) water wall = some (nI (q (13 + c))) := by
  have h := (hv.2.2.1 c hc).2.1
  unfold fX2_groundOf
  rw [e_bit, Option.bind_some]
  by_cases h1 : q (13 + c) = 1
  · rw [if_neg (by rw [bq_test (by omega), hw c]; simp [hc, h1]), h1]; rfl
  · rw [if_pos (by rw [bq_test (by omega), hw c]; simp [h1]), Option.bind_some]
    by_cases h2 : q (13 + c) = 2
    · rw [if_neg (by rw [bq_test (by omega), ha c]; simp [hc, h2]), h2]; rfl
    · rw [if_pos (by rw [bq_test (by omega), ha c]; simp [h2]), show q (13 + c) = 0 by omega]; rfl
theorem e2_becomeGround (n : Nat) {paths : Nat → Int32} {water wall : Int64} {q : Nat → Nat} {b c v : Nat} (hp : RP paths q) (hw : RS water q 1) (ha : RS wall q 2) (hv : IV b q) (hc : c < 36) (h2 : v ≤ 2) :
    ∃ x, fX2_becomeGround n (nI c) (nI v) paths water wall = some x ∧ RP x.1 (gset q c v) ∧ RS x.2.1 (gset q c v) 1 ∧ RS x.2.2 (gset q c v) 2 := by
  have go : ∀ i, i < 36 → i ≠ c → gset q c v (13 + i) = q (13 + i) := fun i hi e => gset_o (by omega) (by omega)
  have hp0 : v ≠ 0 → RP (upd paths c (0 : Int32)) (gset q c v) := fun h0 d hd => by
    by_cases e : d = c
    · subst e; rw [upd_T rfl, gset_p, if_neg h0]; rfl
    · rw [upd_F (by omega), gset_o (by omega) (by omega)]; exact hp d hd
  unfold fX2_becomeGround
  rw [e_bit, Option.bind_some, Option.bind_some, e6_put n hc (by decide)]
  have hcase : v = 0 ∨ v = 1 ∨ v = 2 := by omega
  rcases hcase with rfl | rfl | rfl
  · rw [if_neg (by decide), if_neg (by decide), if_pos (by rfl)]
    refine ⟨_, rfl, hp.eq fun d hd => ?_, hw.clr hc (by rw [gset_c]; decide) go, ha.clr hc (by rw [gset_c]; decide) go⟩
    by_cases e : d = c
    · subst e; rw [gset_p, if_pos rfl]
    · exact gset_o (by omega) (by omega)
  · rw [if_pos (by rfl), Option.bind_some, if_neg (by decide), Option.bind_some]
    exact ⟨_, rfl, hp0 (by decide), hw.setb hc gset_c go, ha.clr hc (by rw [gset_c]; decide) go⟩
  · rw [if_neg (by decide), if_pos (by rfl), Option.bind_some, if_neg (by decide), Option.bind_some]
    exact ⟨_, rfl, hp0 (by decide), hw.clr hc (by rw [gset_c]; decide) go, ha.setb hc gset_c go⟩
theorem e7_lay (n : Nat) {r : Nat → Int32} {q : Nat → Nat} {e : Nat → Int32} {c v : Nat} (hr : RM r q e) (hc : c < 36) (h2 : v ≤ 2) :
    ∃ x, fX7_lay n (nI c) (nI v) r = some x ∧ x.1 = nI (q (13 + c)) ∧ RM x.2 (gset q c v) e := by
  unfold fX7_lay fX7_become
  have v1 : vi (nI (13 + c)) 117 := vi_N (by omega) (by decide)
  have v2 : vi (nI (49 + c)) 117 := vi_N (by omega) (by decide)
  have h13 := hr.at (13 + c) (by omega) (by omega)
  by_cases h : v = 0
  · subst h
    rw [if_pos (by rfl), z_49, nI_add, z_13, nI_add, if_pos v2, if_pos v2, if_pos v1, if_pos v1, nI_clamp (by omega), nI_clamp (by omega), upd_self, Option.bind_some]
    refine ⟨_, rfl, h13, ?_⟩
    have h3 := hr.up (13 + c) 0 (by omega)
    unfold gset
    rw [if_pos rfl]; exact h3
  · rw [if_neg (nIneK z_0 h (by omega) (by decide)), z_49, nI_add, z_13, nI_add, if_pos v2, if_pos v1, if_pos v1, nI_clamp (by omega), nI_clamp (by omega), Option.bind_some]
    refine ⟨_, rfl, by rw [← h13]; exact upd_F (by omega), ?_⟩
    have h3 := (hr.up (49 + c) 0 (by omega)).up (13 + c) v (by omega)
    unfold gset
    rw [if_neg h]; exact h3
