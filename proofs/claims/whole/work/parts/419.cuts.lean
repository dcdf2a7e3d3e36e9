/-! the cells that part two places; weeding: the reference -/
theorem m1_opI {v : Nat} (hv : v < 2 ^ 31) : m1 ≤ opI v := by
  unfold opI
  by_cases h : v = 0
  · rw [if_pos h]; decide
  · rw [if_neg h, m1_le _ (by omega)]; trivial
theorem opI_nm1 {v : Nat} (hv : v < 2 ^ 31) : ¬ opI v < m1 := by
  unfold opI
  by_cases h : v = 0
  · rw [if_pos h]; decide
  · rw [if_neg h, m1_nlt _ (by omega)]; exact id
theorem e7_weedL (n : Nat) (hn : 100 ≤ n) {r steps queue : Nat → Int32} {q : Nat → Nat} {e : Nat → Int32} {b : Nat} (hr : RM r q e) (hv : IV b q) :
    ∃ v, lp (fun (s1 : Int32 × Int32 × Int32 × (Nat → Int32) × (Nat → Int32) × (Nat → Int32)) => ((if (36 : Int32) ≤ s1.2.2.1 then some (.inr (s1.1, s1.2.1, s1.2.2.1, s1.2.2.2.1, s1.2.2.2.2.1, s1.2.2.2.2.2)) else (if vi ((49 : Int32) + s1.2.2.1) 117 then (if vi ((49 : Int32) + s1.2.2.1) 117 then (if (s1.2.2.2.1 ((49 : Int32) + s1.2.2.1).toNatClampNeg) ≤ 0 then (if vi ((49 : Int32) + s1.2.2.1) 117 then (if (-1 : Int32) ≤ s1.2.1 then some (.inl (s1.1, (if s1.2.1 < (-1 : Int32) then (-1 : Int32) else s1.2.1), (s1.2.2.1 + (1 : Int32)), (upd (upd s1.2.2.2.1 ((49 : Int32) + s1.2.2.1).toNatClampNeg (0 : Int32)) ((49 : Int32) + s1.2.2.1).toNatClampNeg (s1.2.2.2.1 ((49 : Int32) + s1.2.2.1).toNatClampNeg)), s1.2.2.2.2.1, s1.2.2.2.2.2)) else some (.inl (s1.2.2.1, (if s1.2.1 < (-1 : Int32) then (-1 : Int32) else s1.2.1), (s1.2.2.1 + (1 : Int32)), (upd (upd s1.2.2.2.1 ((49 : Int32) + s1.2.2.1).toNatClampNeg (0 : Int32)) ((49 : Int32) + s1.2.2.1).toNatClampNeg (s1.2.2.2.1 ((49 : Int32) + s1.2.2.1).toNatClampNeg)), s1.2.2.2.2.1, s1.2.2.2.2.2))) else none) else ((fX7_groupsNow n (upd s1.2.2.2.1 ((49 : Int32) + s1.2.2.1).toNatClampNeg (0 : Int32)) s1.2.2.2.2.1 s1.2.2.2.2.2).bind (fun q9 => (if vi ((49 : Int32) + s1.2.2.1) 117 then (if q9.1 ≤ s1.2.1 then some (.inl (s1.1, (if s1.2.1 < q9.1 then q9.1 else s1.2.1), (s1.2.2.1 + (1 : Int32)), (upd (upd s1.2.2.2.1 ((49 : Int32) + s1.2.2.1).toNatClampNeg (0 : Int32)) ((49 : Int32) + s1.2.2.1).toNatClampNeg (s1.2.2.2.1 ((49 : Int32) + s1.2.2.1).toNatClampNeg)), q9.2.1, q9.2.2)) else some (.inl (s1.2.2.1, (if s1.2.1 < q9.1 then q9.1 else s1.2.1), (s1.2.2.1 + (1 : Int32)), (upd (upd s1.2.2.2.1 ((49 : Int32) + s1.2.2.1).toNatClampNeg (0 : Int32)) ((49 : Int32) + s1.2.2.1).toNatClampNeg (s1.2.2.2.1 ((49 : Int32) + s1.2.2.1).toNatClampNeg)), q9.2.1, q9.2.2))) else none)))) else none) else none)) : Option ((Int32 × Int32 × Int32 × (Nat → Int32) × (Nat → Int32) × (Nat → Int32)) ⊕ (Int32 × Int32 × Int32 × (Nat → Int32) × (Nat → Int32) × (Nat → Int32))))) n ((-1 : Int32), (-1 : Int32), (0 : Int32), r, steps, queue) = some v ∧ v.1 = nbI (bst (hp q) (fun c => gn (wo (hp q) c) 36) 36).1 ∧ v.2.2.2.1 = r := by
  refine lp_ex (fun k s => ∃ st qu, s = (nbI (bst (hp q) (fun c => gn (wo (hp q) c) 36) k).1, opI (bst (hp q) (fun c => gn (wo (hp q) c) 36) k).2, nI k, r, st, qu)) 36 (fun (v : Int32 × Int32 × Int32 × (Nat → Int32) × (Nat → Int32) × (Nat → Int32)) => v.1 = nbI (bst (hp q) (fun c => gn (wo (hp q) c) 36) 36).1 ∧ v.2.2.2.1 = r) ⟨_, _, rfl⟩ (fun k s hk hI => ?_) (fun s hI => ?_) (by omega)
  · obtain ⟨st, qu, rfl⟩ := hI
    have hB := (bst_le (ok := hp q) (f := fun c => gn (wo (hp q) c) 36) (B := 36) (fun c => gn_le _ 36) k).1
    have hg := gn_le (wo (hp q) k) 36
    have h2 := (hv.2.2.1 k hk).1
    have h0 := hr.at (49 + k) (by omega) (by omega)
    dsimp +instances only
    rw [if_neg (Kle_F z_36 hk (by decide)), z_49, nI_add]
    have hvi : vi (nI (49 + k)) 117 := vi_N (by omega) (by decide)
    simp only [if_pos hvi, nI_clamp (show 49 + k < 2 ^ 31 by omega), upd_upd, upd_self]
    by_cases h : 0 < q (49 + k)
    · have hpk := hp_T hk h
      obtain ⟨v, w1, w2⟩ := e7_groupsNow n hn (r := upd r (49 + k) (0 : Int32)) (steps := st) (queue := qu) (hr.up (49 + k) 0 (by omega)) (hv.path hk (Nat.zero_le _) (fun _ => rfl))
      rw [hp_wo hk] at w2
      rw [if_neg (by rw [h0]; exact leK_F z_0 h (by omega)), w1, Option.bind_some, w2]
      by_cases h3 : (bst (hp q) (fun c => gn (wo (hp q) c) 36) k).2 ≤ gn (wo (hp q) k) 36
      · rw [if_neg (by rw [le_opI (by omega) (by omega)]; omega), if_pos (by rw [opI_lt (by omega) (by omega)]; exact h3), z_1, nI_add]
        refine ⟨_, rfl, v.2.1, v.2.2, ?_⟩
        rw [bst, if_pos ⟨hpk, h3⟩, nbI_T hk, opI_s]
      · rw [if_pos (by rw [le_opI (by omega) (by omega)]; omega), if_neg (by rw [opI_lt (by omega) (by omega)]; exact h3), z_1, nI_add]
        refine ⟨_, rfl, v.2.1, v.2.2, ?_⟩
        rw [bst, if_neg (fun hh => h3 hh.2)]
    · rw [if_pos (by rw [h0]; exact leK_T z_0 (by omega) (by decide)), z_m1, if_pos (m1_opI (by omega)), if_neg (opI_nm1 (by omega)), z_1, nI_add]
      refine ⟨_, rfl, st, qu, ?_⟩
      rw [bst, if_neg (fun hh => hp_F h hh.1)]
  · obtain ⟨st, qu, rfl⟩ := hI
    exact ⟨_, rfl, rfl, rfl⟩
def cut (p : Nat → Bool) (a b : Nat) : Nat → Bool := fun c => jn p a b && (p c && !(decide (c = a) || decide (c = b)) && !jn (wo p c) a b)
theorem sb_none {p : Nat → Bool} (h : ∀ i, i < 36 → p i = false) : sb p 36 = 0 := sb_zero.mpr fun i hi => by rw [h i hi]; decide
theorem e0_cuts (n : Nat) (hn : 100 ≤ n) (p : Nat → Bool) {a b : Nat} (ha : a < 36) (hb : b < 36) : fX0_cuts n (nI a) (nI b) (sb p 36) = some (sb (cut p a b) 36) := by
  unfold fX0_cuts
  rw [e0_areJoined n hn p ha hb, Option.bind_some]
  by_cases hj : jn p a b = true
  · rw [if_neg (b01_T hj), e_bit, Option.bind_some, e_bit, Option.bind_some]
    have hS : sb p 36 &&& ((bitL a ||| bitL b) ^^^ (-1)) = sb (fun c => p c && !(decide (c = a) || decide (c = b))) 36 := by
      rw [sb_bit ha, sb_bit hb, sb_or, sb_andn]
    rw [hS]
    refine lpb (fun k => (sb (cut p a b) k, nI k)) 36 (sb (cut p a b) 36, nI 36) rfl (fun k hk => ?_) rfl (by omega) rfl
    dsimp +instances only
    rw [if_neg (Kle_F z_36 hk (by decide)), e_bit, Option.bind_some, z_1, nI_add]
    by_cases h : (p k && !(decide (k = a) || decide (k = b))) = true
    · rw [if_neg (by rw [sb_test _ hk, h]; decide), Option.bind_some, sb_wo p hk, e0_areJoined n hn _ ha hb, Option.bind_some]
      by_cases h2 : jn (wo p k) a b = true
      · rw [if_neg (b01_T h2), sb_F (show ¬ cut p a b k = true from by unfold cut; rw [h2]; simp)]
      · rw [if_pos (b01_F h2), Option.bind_some, sb_T (show cut p a b k = true from by unfold cut; rw [hj, h, bt_F h2]; rfl)]
    · rw [if_pos (by rw [sb_test _ hk, bt_F h]), sb_F (show ¬ cut p a b k = true from by unfold cut; rw [bt_F h]; simp)]
  · rw [if_pos (b01_F hj)]
    rw [sb_none fun i _ => by unfold cut; rw [bt_F hj]; rfl]
theorem e0_least (n : Nat) (hn : 100 ≤ n) (p : Nat → Bool) : fX0_least n (sb p 36) = some (nbI (fs p 36)) := by
  unfold fX0_least
  have hno := fs_no p 36
  have hle := fs_le p 36
  by_cases h : fs p 36 < 36
  · have hy := fs_yes p 36 h
    refine lpb (fun k => nI k) (fs p 36) (.inr (nI (fs p 36))) rfl (fun k hk => ?_) ?_ (by omega) ?_
    · try dsimp +instances only
      rw [if_neg (Kle_F z_36 (by omega) (by decide)), e_bit, Option.bind_some, if_pos (by rw [sb_test _ (by omega), hno k hk]), z_1, nI_add]
    · try dsimp +instances only
      rw [if_neg (Kle_F z_36 (by omega) (by decide)), e_bit, Option.bind_some, if_neg (by rw [sb_test _ (by omega), hy]; decide)]
    · rw [nbI_T h]; rfl
  · refine lpb (fun k => nI k) 36 (.inl (nI 36)) rfl (fun k hk => ?_) rfl (by omega) ?_
    · try dsimp +instances only
      rw [if_neg (Kle_F z_36 (by omega) (by decide)), e_bit, Option.bind_some, if_pos (by rw [sb_test _ (by omega), hno k (by omega)]), z_1, nI_add]
    · rw [nbI_F (by omega)]; rfl
theorem wo_no {p : Nat → Bool} {c : Nat} (h : ¬ p c = true) : wo p c = p := funext fun x => by
  unfold wo
  by_cases e : x = c
  · subst e; simp [bt_F h]
  · simp [e]
theorem e7_bridgesOf (n : Nat) (hn : 100 ≤ n) {r steps queue : Nat → Int32} {q : Nat → Nat} {e : Nat → Int32} {b x y : Nat} (hr : RM r q e) (hv : IV b q) (hx : x < 36) (hy : y < 36) :
    ∃ v, fX7_bridgesOf n (nI x) (nI y) r steps queue = some v ∧ v.1 = sb (cut (hp q) x y) 36 ∧ v.2.1 = r := by
  obtain ⟨v, w1, w2⟩ := e7_areJoined n hn (steps := steps) (queue := queue) hr hv hx hy
  unfold fX7_bridgesOf
  rw [w1, Option.bind_some, w2]
  by_cases hj : jn (hp q) x y = true
  · rw [if_neg (b01_T hj)]
    refine lpx (fun k s => ∃ st qu, s = (sb (cut (hp q) x y) k, nI k, r, st, qu)) 36 (fun v => v.1 = sb (cut (hp q) x y) 36 ∧ v.2.2.1 = r) ⟨_, _, rfl⟩ (fun k s hk hI => ?_) (fun s hI => ?_) (by omega) (fun v hX => ⟨_, rfl, hX⟩)
    · obtain ⟨st, qu, rfl⟩ := hI
      have hvi : vi (nI (49 + k)) 117 := vi_N (by omega) (by decide)
      dsimp +instances only
      rw [if_neg (Kle_F z_36 hk (by decide)), z_49, nI_add, z_1, nI_add]
      simp only [if_pos hvi, nI_clamp (show 49 + k < 2 ^ 31 by omega), upd_upd, upd_self]
      obtain ⟨v1, a1, a2⟩ := e7_areJoined n hn (steps := st) (queue := qu) hr hv hx hy
      have h0 : ¬ cut (hp q) x y k = true ∨ (k ≠ x ∧ k ≠ y) := by
        by_cases e1 : k = x
        · exact Or.inl (by unfold cut; simp [e1])
        · by_cases e2 : k = y
          · exact Or.inl (by unfold cut; simp [e2])
          · exact Or.inr ⟨e1, e2⟩
      by_cases e1 : k = x
      · rw [if_pos (by rw [e1]), a1, Option.bind_some, a2, if_neg (b01_T hj), Int64.or_zero]
        exact ⟨_, rfl, _, _, by rw [sb_F (show ¬ cut (hp q) x y k = true from by unfold cut; simp [e1])]⟩
      · rw [if_neg (nIneK rfl e1 (by omega) (by omega))]
        by_cases e2 : k = y
        · rw [if_pos (by rw [e2]), a1, Option.bind_some, a2, if_neg (b01_T hj), Int64.or_zero]
          exact ⟨_, rfl, _, _, by rw [sb_F (show ¬ cut (hp q) x y k = true from by unfold cut; simp [e2])]⟩
        · rw [if_neg (nIneK rfl e2 (by omega) (by omega))]
          obtain ⟨v2, b1, b2⟩ := e7_areJoined n hn (r := upd r (49 + k) (0 : Int32)) (steps := st) (queue := qu) (hr.up (49 + k) 0 (by omega)) (hv.path hk (Nat.zero_le _) (fun _ => rfl)) hx hy
          rw [hp_wo hk] at b2
          rw [b1, Option.bind_some, b2]
          by_cases h2 : jn (wo (hp q) k) x y = true
          · rw [if_neg (b01_T h2), Int64.or_zero]
            exact ⟨_, rfl, _, _, by rw [sb_F (show ¬ cut (hp q) x y k = true from by unfold cut; rw [h2]; simp)]⟩
          · have hpk : hp q k = true := by
              cases h3 : hp q k with
              | true => rfl
              | false => rw [wo_no (by rw [h3]; decide)] at h2; exact absurd hj h2
            rw [if_pos (b01_F h2)]
            exact ⟨_, rfl, _, _, by rw [sb_T (show cut (hp q) x y k = true from by unfold cut; rw [hj, hpk, bt_F h2]; simp [e1, e2])]⟩
    · obtain ⟨st, qu, rfl⟩ := hI
      exact ⟨_, rfl, rfl, rfl⟩
  · rw [if_pos (b01_F hj)]
    exact ⟨_, rfl, (sb_none fun i _ => by unfold cut; rw [bt_F hj]; rfl).symm, rfl⟩
/-! a count by the lowest bit -/
theorem sb_decr (s : Nat → Bool) (h : fs s 36 < 36) : sb s 36 &&& (sb s 36 - 1) = sb (wo s (fs s 36)) 36 := by
  have hy := fs_yes s 36 h
  have hno := fs_no s 36
  refine sb_of (by decide) fun i hi => ?_
  rw [bq_and]
  have hn : bq (sb s 36 - 1) i = !(bq (sb s 36) i ^^ decide (∃ j, j < i ∧ bq (sb s 36) j = true)) := by
    have e : bq (sb s 36 - 1) i = (~~~(-(sb s 36).toBitVec)).getLsbD i := by
      rw [BitVec.not_neg]; rfl
    rw [e, BitVec.getLsbD_not, BitVec.getLsbD_neg]
    simp only [hi, decide_true, Bool.true_and]; rfl
  rw [hn, bq_sb s (by decide)]
  unfold wo
  by_cases e : i = fs s 36
  · have h0 : ¬ ∃ j, j < i ∧ bq (sb s 36) j = true := by
      rintro ⟨j, h1, h2⟩
      rw [bq_sb36 s (by omega), hno j (by omega)] at h2
      exact absurd h2 (by decide)
    rw [decide_eq_false h0, e, hy]; simp [h]
  · have hd : decide (i = fs s 36) = false := decide_eq_false e
    rw [hd]
    by_cases g : i < fs s 36
    · rw [hno i g]; simp
    · have h0 : ∃ j, j < i ∧ bq (sb s 36) j = true := ⟨fs s 36, by omega, by rw [bq_sb36 s h, hy]⟩
      rw [decide_eq_true h0]
      by_cases h36 : i < 36
      · cases s i <;> simp [h36]
      · simp [h36]
theorem ct_wo {s : Nat → Bool} {l : Nat} (hl : s l = true) : ∀ n, ct (wo s l) n + (if l < n then 1 else 0) = ct s n := by
  intro n
  induction n with
  | zero => rfl
  | succ n ih =>
    rw [ct, ct, ← ih]
    by_cases e : n = l
    · subst e
      have : wo s n n = false := by unfold wo; simp
      rw [this, hl, if_neg (Nat.lt_irrefl n), if_pos (Nat.lt_succ_self n)]; simp
    · have : wo s l n = s n := by unfold wo; simp [e]
      rw [this]
      by_cases h : l < n
      · rw [if_pos h, if_pos (show l < n + 1 by omega)]; omega
      · rw [if_neg h, if_neg (show ¬ l < n + 1 by omega)]; omega
theorem e7_cnt (n : Nat) (hn : 100 ≤ n) (p : Nat → Bool) : ∃ v, lp (fun (s6 : Int32 × Int64) => ((if s6.2 = (0 : Int64) then some (.inr (s6.1, s6.2)) else some (.inl ((s6.1 + (1 : Int32)), (s6.2 &&& (s6.2 - (1 : Int64)))))) : Option ((Int32 × Int64) ⊕ (Int32 × Int64)))) n ((0 : Int32), sb p 36) = some v ∧ v.1 = nI (ct p 36) := by
  refine lp_ms (fun s => ∃ k t, s = (nI k, sb t 36) ∧ k + ct t 36 = ct p 36) (fun s => 36 - (s.1).toNatClampNeg) _ ?_ n _ ⟨0, p, rfl, Nat.zero_add _⟩ (by omega)
  rintro s ⟨k, t, rfl, hk⟩
  have h36 := ct_le p 36
  dsimp +instances only
  by_cases h0 : sb t 36 = 0
  · rw [if_pos h0]
    refine Or.inl ⟨_, rfl, ?_⟩
    have : ct t 36 = 0 := ct_none fun i hi => bt_F (sb_zero.mp h0 i hi)
    show nI k = _
    rw [← hk, this, Nat.add_zero]
  · have hl := fs_36 (fun h => h0 (sb_zero.mpr h))
    have hc := ct_wo (fs_yes t 36 hl) 36
    rw [if_pos hl] at hc
    rw [if_neg h0, sb_decr t hl, z_1, nI_add]
    exact Or.inr ⟨_, rfl, ⟨k + 1, _, rfl, by omega⟩, by rw [nI_clamp (by omega), nI_clamp (by omega)]; omega⟩
theorem e7_fst (n : Nat) (hn : 100 ≤ n) (p : Nat → Bool) : lp (fun (s6 : Int32) => ((if (36 : Int32) ≤ s6 then some (.inr s6) else (if (((sb p 36) >>> (s6.toInt64 &&& 63)) &&& (1 : Int64)) = (0 : Int64) then some (.inl (s6 + (1 : Int32))) else some (.inr s6))) : Option ((Int32) ⊕ (Int32)))) n (0 : Int32) = some (nI (fs p 36)) := by
  have hno := fs_no p 36
  have hle := fs_le p 36
  refine lp_it (fun k => nI k) (fs p 36) rfl (fun k hk => ?_) ?_ (by omega)
  · rw [if_neg (Kle_F z_36 (by omega) (by decide)), if_pos (by rw [and1_0, bq_sar k (by omega), bq_sb36 _ (by omega), hno k hk]), z_1, nI_add]
  · by_cases h : fs p 36 < 36
    · rw [if_neg (Kle_F z_36 (by omega) (by decide)), if_neg (by rw [and1_0, bq_sar _ (by omega), bq_sb36 _ (by omega), fs_yes p 36 h]; decide)]
    · rw [if_pos (Kle_T z_36 (by omega) (by omega))]
