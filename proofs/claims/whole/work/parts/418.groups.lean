/-! groups -/
def gl (p : Nat → Bool) : Nat → Nat → Bool
  | 0 => p
  | k + 1 => fun c => gl p k c && !(gl p k k && jn p k c)
def gn (p : Nat → Bool) : Nat → Nat
  | 0 => 0
  | k + 1 => gn p k + (if gl p k k then 1 else 0)
theorem gl_p {p : Nat → Bool} {c : Nat} : ∀ {k}, gl p k c = true → p c = true := by
  intro k
  induction k with
  | zero => intro h; exact h
  | succ k ih =>
    intro h
    have h' : (gl p k c && !(gl p k k && jn p k c)) = true := h
    simp only [Bool.and_eq_true] at h'
    exact ih h'.1
theorem jn_self {p : Nat → Bool} {a : Nat} (h : p a = true) : jn p a a = true := clo_in (by unfold one; simp [h])
theorem gl_ge {p : Nat → Bool} {c : Nat} : ∀ {k}, gl p k c = true → k ≤ c := by
  intro k
  induction k with
  | zero => intro _; exact Nat.zero_le _
  | succ k ih =>
    intro h
    have h' : (gl p k c && !(gl p k k && jn p k c)) = true := h
    simp only [Bool.and_eq_true] at h'
    have h1 := ih h'.1
    by_cases e : c = k
    · subst e
      have h2 := h'.2
      rw [h'.1, jn_self (gl_p h'.1)] at h2
      exact absurd h2 (by decide)
    · omega
theorem gl_skip {p : Nat → Bool} {k : Nat} (h : ¬ gl p k k = true) : gl p (k + 1) = gl p k ∧ gn p (k + 1) = gn p k := by
  refine ⟨funext fun c => ?_, ?_⟩
  · show (gl p k c && !(gl p k k && jn p k c)) = _
    rw [bt_F h]; simp
  · show gn p k + (if gl p k k then 1 else 0) = _
    rw [if_neg h]; rfl
theorem gl_skips {p : Nat → Bool} {k l : Nat} (h : ∀ c, c < l → ¬ gl p k c = true) : ∀ m, k ≤ m → m ≤ l → gl p m = gl p k ∧ gn p m = gn p k := by
  intro m
  induction m with
  | zero => intro hk _; have : k = 0 := by omega
            subst this; exact ⟨rfl, rfl⟩
  | succ m ih =>
    intro hk hm
    by_cases e : k = m + 1
    · subst e; exact ⟨rfl, rfl⟩
    · obtain ⟨i1, i2⟩ := ih (by omega) (by omega)
      have h1 : ¬ gl p m m = true := by rw [i1]; exact h m (by omega)
      obtain ⟨j1, j2⟩ := gl_skip h1
      exact ⟨j1.trans i1, j2.trans i2⟩
theorem gl_take {p : Nat → Bool} {k : Nat} (h : gl p k k = true) : gl p (k + 1) = (fun c => gl p k c && !jn p k c) ∧ gn p (k + 1) = gn p k + 1 := by
  refine ⟨funext fun c => ?_, ?_⟩
  · show (gl p k c && !(gl p k k && jn p k c)) = _
    rw [h]; rfl
  · show gn p k + (if gl p k k then 1 else 0) = _
    rw [if_pos h]
theorem gn_le (p : Nat → Bool) : ∀ k, gn p k ≤ k := by
  intro k
  induction k with
  | zero => exact Nat.le_refl 0
  | succ k ih => rw [gn]; split <;> omega
/-- the lowest bit -/
theorem sb_low (s : Nat → Bool) (h : fs s 36 < 36) : sb s 36 &&& (- sb s 36) = bitL (fs s 36) := by
  have hy := fs_yes s 36 h
  have hno := fs_no s 36
  refine bq_ext fun i hi => ?_
  rw [bq_and, bq_bit (by omega)]
  have hn : bq (- sb s 36) i = (bq (sb s 36) i ^^ decide (∃ j, j < i ∧ bq (sb s 36) j = true)) := by
    unfold bq
    rw [Int64.toBitVec_neg, BitVec.getLsbD_neg]
    simp only [hi, decide_true, Bool.true_and]
  rw [hn]
  by_cases e : i = fs s 36
  · have h0 : ¬ ∃ j, j < i ∧ bq (sb s 36) j = true := by
      rintro ⟨j, h1, h2⟩
      rw [bq_sb36 s (by omega), hno j (by omega)] at h2
      exact absurd h2 (by decide)
    rw [decide_eq_false h0, e, bq_sb36 s h, hy]; simp
  · have hd : decide (i = fs s 36) = false := decide_eq_false e
    rw [hd]
    by_cases g : i < fs s 36
    · rw [bq_sb36 s (by omega), hno i g]; rfl
    · have h0 : ∃ j, j < i ∧ bq (sb s 36) j = true := ⟨fs s 36, by omega, by rw [bq_sb36 s h, hy]⟩
      rw [decide_eq_true h0]
      cases bq (sb s 36) i <;> rfl
theorem sb_zero {s : Nat → Bool} : (sb s 36 = 0) ↔ ∀ i, i < 36 → ¬ s i = true := by
  constructor
  · intro h i hi hs
    have := bq_sb36 s hi
    rw [h, bq_0, hs] at this
    exact absurd this (by decide)
  · intro h
    refine bq_ext fun i hi => ?_
    rw [bq_sb s (by decide), bq_0]
    by_cases e : i < 36
    · simp [e, bt_F (h i e)]
    · simp [e]
theorem fs_36 {s : Nat → Bool} (h : ¬ ∀ i, i < 36 → ¬ s i = true) : fs s 36 < 36 := by
  apply Classical.byContradiction
  intro hn
  refine h fun i hi hs => ?_
  have := fs_no s 36 i (by omega)
  rw [hs] at this; exact absurd this (by decide)
theorem e0_countGroups (n : Nat) (hn : 100 ≤ n) (p : Nat → Bool) : fX0_countGroups n (sb p 36) = some (nI (gn p 36)) := by
  unfold fX0_countGroups
  suffices h : ∃ v, lp (fun (s1 : Int64 × Int32 × Int32) => ((if (36 : Int32) ≤ s1.2.2 then some (.inr (s1.1, s1.2.1, s1.2.2)) else (if s1.1 = (0 : Int64) then some (.inr (s1.1, s1.2.1, s1.2.2)) else ((fX0_spread n (s1.1 &&& (-s1.1)) (sb p 36)).bind (fun q5 => some (.inl ((s1.1 &&& (q5 ^^^ (-1 : Int64))), (s1.2.1 + (1 : Int32)), (s1.2.2 + (1 : Int32)))))))) : Option ((Int64 × Int32 × Int32) ⊕ (Int64 × Int32 × Int32)))) n (sb p 36, (0 : Int32), (0 : Int32)) = some v ∧ v.2.1 = nI (gn p 36) by
    obtain ⟨v, h1, h2⟩ := h
    rw [h1]
    show some v.2.1 = _
    rw [h2]
  refine lp_ms (fun s => ∃ k i, i ≤ k ∧ k ≤ 36 ∧ s = (sb (gl p k) 36, nI (gn p k), nI i)) (fun s => 36 - s.2.2.toNatClampNeg) _ ?_ n _ ⟨0, 0, Nat.le_refl _, by decide, rfl⟩ (by omega)
  rintro s ⟨k, i, hik, hk, rfl⟩
  dsimp +instances only
  rw [nI_clamp (by omega)]
  by_cases hi : i < 36
  · rw [if_neg (Kle_F z_36 hi (by decide))]
    by_cases h0 : sb (gl p k) 36 = 0
    · rw [if_pos h0]
      refine Or.inl ⟨_, rfl, ?_⟩
      show nI (gn p k) = _
      rw [(gl_skips (p := p) (k := k) (l := 36) (fun c hc => sb_zero.mp h0 c hc) 36 hk (Nat.le_refl _)).2]
    · have hl := fs_36 (fun h => h0 (sb_zero.mpr h))
      have hy := fs_yes (gl p k) 36 hl
      have hno := fs_no (gl p k) 36
      have hge := gl_ge hy
      obtain ⟨j1, j2⟩ := gl_skips (p := p) (k := k) (l := fs (gl p k) 36) (fun c hc => by rw [hno c hc]; decide) _ hge (Nat.le_refl _)
      rw [if_neg h0, sb_low _ hl]
      generalize fs (gl p k) 36 = l at *
      have hyl : gl p l l = true := by rw [j1]; exact hy
      obtain ⟨t1, t2⟩ := gl_take hyl
      have e1 : one p l = fun c => decide (c = l) := funext fun c => by
        unfold one
        by_cases e : c = l
        · subst e; rw [gl_p hy]; simp
        · simp [e]
      have e2 : clo p (fun c => decide (c = l)) = jn p l := by unfold jn; rw [e1]
      rw [sb_bit hl, e0_spread n hn, Option.bind_some, e2, sb_andn]
      rw [j1] at t1
      rw [← t1, ← j2, z_1, nI_add, nI_add, ← t2]
      exact Or.inr ⟨_, rfl, ⟨l + 1, i + 1, by omega, by omega, rfl⟩, by show 36 - (nI (i + 1)).toNatClampNeg < _; rw [nI_clamp (by omega)]; omega⟩
  · have h1 : k = 36 := by omega
    have h2 : i = 36 := by omega
    subst h1 h2
    exact Or.inl ⟨_, rfl, rfl⟩
/-! a bit by shifting down -/
theorem bq_sar (c : Nat) (hc : c < 64) (x : Int64) : bq (x >>> ((nI c).toInt64 &&& 63)) 0 = bq x c := by
  have h1 : ∀ n, n < 64 → ((((nI n).toInt64 &&& 63).toBitVec.smod 64).toNat) = n := by decide +kernel
  unfold bq
  rw [Int64.toBitVec_shiftRight, BitVec.sshiftRight_eq', BitVec.getLsbD_sshiftRight, h1 c hc]
  simp [hc]
theorem bq_one : ∀ i, i < 64 → bq 1 i = decide (i = 0) := by decide +kernel
theorem and1_1 (y : Int64) : (y &&& 1 = 1) = (bq y 0 = true) := propext (by
  constructor
  · intro h
    have q := congrArg (fun z => bq z 0) h
    simpa [bq_and, bq_one 0 (by decide)] using q
  · intro h
    refine bq_ext fun i hi => ?_
    rw [bq_and, bq_one i hi]
    by_cases e : i = 0
    · subst e; rw [h]; rfl
    · simp [e])
theorem and1_0 (y : Int64) : (y &&& 1 = 0) = (bq y 0 = false) := propext (by
  constructor
  · intro h
    have q := congrArg (fun z => bq z 0) h
    simpa [bq_and, bq_one 0 (by decide), bq_0] using q
  · intro h
    refine bq_ext fun i hi => ?_
    rw [bq_and, bq_one i hi, bq_0]
    by_cases e : i = 0
    · subst e; rw [h]; rfl
    · simp [e])
theorem and_m1 (x : Int64) : x &&& (-1) = x := bq_ext fun i hi => by rw [bq_and, bq_m1 hi, Bool.and_true]
theorem e7_groupsNow (n : Nat) (hn : 100 ≤ n) {r steps queue : Nat → Int32} {q : Nat → Nat} {e : Nat → Int32} {b : Nat} (hr : RM r q e) (hv : IV b q) :
    ∃ v, fX7_groupsNow n r steps queue = some v ∧ v.1 = nI (gn (hp q) 36) := by
  unfold fX7_groupsNow
  rw [e7_pathSet n hn hr hv, Option.bind_some]
  refine lpx (fun k s => ∃ st qu, s = (sb (gl (hp q) k) 36, nI (gn (hp q) k), nI k, st, qu)) 36 (fun v => v.2.1 = nI (gn (hp q) 36)) ⟨_, _, rfl⟩ (fun k s hk hI => ?_) (fun s hI => ?_) (by omega) (fun v hX => ⟨_, rfl, hX⟩)
  · obtain ⟨st, qu, rfl⟩ := hI
    dsimp +instances only
    rw [if_neg (Kle_F z_36 hk (by decide))]
    by_cases h : gl (hp q) k k = true
    · obtain ⟨v, w1, w2⟩ := e7_walk n hn (steps := st) (queue := qu) hr hv hk
      obtain ⟨t1, t2⟩ := gl_take h
      rw [if_pos (by rw [and1_1, bq_sar k (by omega), bq_sb36 _ hk]; exact h), w1, Option.bind_some]
      refine exl ?_
      refine lpxb (fun i => (sb (fun c => gl (hp q) k c && !(decide (c < i) && jn (hp q) k c)) 36, nI i)) 36 (sb (fun c => gl (hp q) k c && !jn (hp q) k c) 36, nI 36) ?_ (fun i hi => ?_) ?_ (by omega) ?_
      · have : sb (fun c => gl (hp q) k c && !(decide (c < 0) && jn (hp q) k c)) 36 = sb (gl (hp q) k) 36 := sb_cong fun c _ => by simp
        rw [this]; rfl
      · dsimp +instances only
        rw [if_neg (Kle_F z_36 hi (by decide)), if_pos (vi_N hi (by decide)), nI_clamp (by omega), w2 i hi]
        by_cases hj : jn (hp q) k i = true
        · rw [if_neg (by rw [nbI_neg, dsk_iff hi]; simp [hj]), z_1, nI_add]
          have e1 : sb (fun c => gl (hp q) k c && !(decide (c < i) && jn (hp q) k c)) 36 &&& (((1 : Int64) <<< ((nI i).toInt64 &&& 63)) ^^^ (-1)) = sb (fun c => gl (hp q) k c && !(decide (c < i + 1) && jn (hp q) k c)) 36 := by
            rw [show ((1 : Int64) <<< ((nI i).toInt64 &&& 63)) = bitL i from rfl, sb_bit hi, sb_andn]
            refine sb_cong fun c hc => ?_
            by_cases e : c = i
            · subst e; simp [hj]
            · have : (c < i + 1) = (c < i) := propext (by omega)
              simp [e, this]
          rw [e1]
        · rw [if_pos (by rw [nbI_neg, dsk_iff hi]; exact hj), z_1, nI_add, and_m1]
          have e1 : sb (fun c => gl (hp q) k c && !(decide (c < i) && jn (hp q) k c)) 36 = sb (fun c => gl (hp q) k c && !(decide (c < i + 1) && jn (hp q) k c)) 36 := by
            refine sb_cong fun c hc => ?_
            by_cases e : c = i
            · subst e; simp [bt_F hj]
            · have : (c < i + 1) = (c < i) := propext (by omega)
              simp [this]
          rw [e1]
      · have : sb (fun c => gl (hp q) k c && !(decide (c < 36) && jn (hp q) k c)) 36 = sb (fun c => gl (hp q) k c && !jn (hp q) k c) 36 := sb_cong fun c hc => by simp [hc]
        dsimp +instances only
        rw [this]; rfl
      · rw [z_1, nI_add, nI_add]
        refine ⟨_, rfl, _, rfl, v.1, v.2, ?_⟩
        rw [t1, t2]
    · obtain ⟨t1, t2⟩ := gl_skip h
      rw [if_neg (by rw [and1_1, bq_sar k (by omega), bq_sb36 _ hk]; exact h), z_1, nI_add]
      exact ⟨_, rfl, _, _, by rw [t1, t2]⟩
  · obtain ⟨st, qu, rfl⟩ := hI
    exact ⟨_, rfl, rfl⟩
/-! without a cell's path -/
def wo (p : Nat → Bool) (c : Nat) : Nat → Bool := fun x => p x && !decide (x = c)
theorem hp_wo {q : Nat → Nat} {c : Nat} (hc : c < 36) : hp (upq q (49 + c) 0) = wo (hp q) c := funext fun x => by
  unfold wo hp
  by_cases e : x = c
  · subst e; rw [upq_T rfl]; simp
  · rw [upq_F (by omega)]; simp [e]
theorem sb_wo (p : Nat → Bool) {c : Nat} (hc : c < 36) : sb p 36 &&& (bitL c ^^^ (-1)) = sb (wo p c) 36 := by rw [sb_bit hc, sb_andn]; rfl
theorem IV.path {b : Nat} {q : Nat → Nat} (hv : IV b q) {c v : Nat} (hc : c < 36) (h99 : v ≤ 99) (hg : q (13 + c) ≠ 0 → v = 0) : IV b (upq q (49 + c) v) := by
  refine ⟨by rw [upq_F (by omega)]; exact hv.1, by rw [upq_F (by omega)]; exact hv.2.1, fun d hd => ?_, fun s hs => ?_⟩
  · rw [upq_F (j := 13 + d) (by omega)]
    by_cases e : d = c
    · subst e; rw [upq_T rfl]; exact ⟨h99, (hv.2.2.1 d hd).2.1, hg⟩
    · rw [upq_F (by omega)]; exact hv.2.2.1 d hd
  · rw [upq_F (by omega), upq_F (by omega), upq_F (by omega), upq_F (by omega)]; exact hv.2.2.2 s hs
theorem upq_self {q : Nat → Nat} {i : Nat} : upq q i (q i) = q := funext fun j => by
  by_cases e : j = i
  · subst e; rw [upq_T rfl]
  · rw [upq_F (by omega)]
theorem upd_self {q : Nat → Int32} {i : Nat} : upd q i (q i) = q := funext fun j => by
  by_cases e : j = i
  · subst e; rw [upd_T rfl]
  · rw [upd_F (by omega)]
theorem upd_upd {q : Nat → Int32} {i : Nat} {x y : Int32} : upd (upd q i x) i y = upd q i y := funext fun j => by
  by_cases e : j = i
  · subst e; rw [upd_T rfl, upd_T rfl]
  · rw [upd_F (by omega), upd_F (by omega), upd_F (by omega)]
/-! -1, or a number -/
def opI (v : Nat) : Int32 := if v = 0 then m1 else nI (v - 1)
theorem opI_0 : opI 0 = m1 := rfl
theorem opI_s (v : Nat) : opI (v + 1) = nI v := rfl
theorem le_opI {c v : Nat} (hc : c < 2 ^ 31) (hv : v < 2 ^ 31) : (nI c ≤ opI v) = (c < v) := propext (by
  unfold opI
  by_cases h : v = 0
  · rw [if_pos h]; exact ⟨fun h1 => absurd h1 (by rw [m1_nle c hc]; exact id), fun h1 => absurd h1 (by omega)⟩
  · rw [if_neg h, nI_leI hc (by omega)]; omega)
theorem opI_lt {c v : Nat} (hc : c < 2 ^ 31) (hv : v < 2 ^ 31) : (opI v < nI c) = (v ≤ c) := propext (by
  unfold opI
  by_cases h : v = 0
  · rw [if_pos h, m1_lt c hc]; exact ⟨fun _ => by omega, fun _ => trivial⟩
  · rw [if_neg h, nI_ltI (by omega) hc]; omega)
/-- the least place of the most, and the most plus one -/
def bst (ok : Nat → Bool) (f : Nat → Nat) : Nat → Nat × Nat
  | 0 => (36, 0)
  | k + 1 => if ok k = true ∧ (bst ok f k).2 ≤ f k then (k, f k + 1) else bst ok f k
theorem bst_le {ok : Nat → Bool} {f : Nat → Nat} {B : Nat} (h : ∀ k, f k ≤ B) : ∀ k, (bst ok f k).2 ≤ B + 1 ∧ ((bst ok f k).1 < k ∨ (bst ok f k).1 = 36) := by
  intro k
  induction k with
  | zero => exact ⟨Nat.zero_le _, Or.inr rfl⟩
  | succ k ih =>
    rw [bst]
    split
    · exact ⟨by have := h k; dsimp only; omega, Or.inl (by dsimp only; omega)⟩
    · exact ⟨ih.1, by omega⟩
theorem e6_weedL (n : Nat) (hn : 100 ≤ n) (p : Nat → Bool) : lp (fun (s3 : Int32 × Int32 × Int32) => ((if (36 : Int32) ≤ s3.2.2 then some (.inr (s3.1, s3.2.1, s3.2.2)) else ((fX6_bit n s3.2.2).bind (fun q6 => (if ((sb p 36) &&& q6) = (0 : Int64) then some (.inl (s3.1, s3.2.1, (s3.2.2 + (1 : Int32)))) else ((fX6_bit n s3.2.2).bind (fun q9 => ((fX0_countGroups n ((sb p 36) &&& (q9 ^^^ (-1 : Int64)))).bind (fun q11 => (if q11 ≤ s3.2.1 then some (.inl (s3.1, s3.2.1, (s3.2.2 + (1 : Int32)))) else some (.inl (s3.2.2, q11, (s3.2.2 + (1 : Int32))))))))))))) : Option ((Int32 × Int32 × Int32) ⊕ (Int32 × Int32 × Int32)))) n ((-1 : Int32), (-1 : Int32), (0 : Int32)) = some (nbI (bst p (fun c => gn (wo p c) 36) 36).1, opI (bst p (fun c => gn (wo p c) 36) 36).2, nI 36) := by
  refine lp_it (fun k => (nbI (bst p (fun c => gn (wo p c) 36) k).1, opI (bst p (fun c => gn (wo p c) 36) k).2, nI k)) 36 rfl (fun k hk => ?_) rfl (by omega)
  have hB := (bst_le (ok := p) (f := fun c => gn (wo p c) 36) (B := 36) (fun c => gn_le _ 36) k).1
  have hg := gn_le (wo p k) 36
  dsimp +instances only
  rw [if_neg (Kle_F z_36 hk (by decide)), e_bit, Option.bind_some, z_1, nI_add]
  by_cases h : p k = true
  · rw [if_neg (by rw [sb_test p hk, h]; decide), Option.bind_some, sb_wo p hk, e0_countGroups n hn, Option.bind_some]
    by_cases h2 : (bst p (fun c => gn (wo p c) 36) k).2 ≤ gn (wo p k) 36
    · rw [if_neg (by rw [le_opI (by omega) (by omega)]; omega)]
      rw [bst, if_pos ⟨h, h2⟩, nbI_T hk, opI_s]
    · rw [if_pos (by rw [le_opI (by omega) (by omega)]; omega)]
      rw [bst, if_neg (fun hh => h2 hh.2)]
  · rw [if_pos (by rw [sb_test p hk, bt_F h]), bst, if_neg (fun hh => h hh.1)]
