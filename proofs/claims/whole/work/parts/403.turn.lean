/-! the park as one row of numbers q; r holds it, with e at 2 .. 12 -/
def upq (q : Nat → Nat) (i v : Nat) : Nat → Nat := fun j => if j = i then v else q j
def lv (k : Nat) : Nat := if k = 1 then 4 else if k = 2 then 30 else if k = 3 then 15 else if k = 4 then 16 else if k = 6 then 8 else 20
def tr (k : Nat) : Nat := if k = 1 then 6 else if k = 2 then 32 else if k = 3 then 32 else if k = 4 then 16 else if k = 5 then 9 else if k = 6 then 6 else 12
def RM (r : Nat → Int32) (q : Nat → Nat) (e : Nat → Int32) : Prop := ∀ i, i < 117 → r i = if 2 ≤ i ∧ i < 13 then e i else nI (q i)
def RP (f : Nat → Int32) (q : Nat → Nat) : Prop := ∀ c, c < 36 → f c = nI (q (49 + c))
def RS (x : Int64) (q : Nat → Nat) (v : Nat) : Prop := ∀ c, bq x c = (decide (c < 36) && decide (q (13 + c) = v))
def RF (f : Nat → Int32) (q : Nat → Nat) (k : Nat) : Prop := ∀ s, s < 8 → f s = nI (q (85 + 4 * s + k))
def IV (b : Nat) (q : Nat → Nat) : Prop := q 1 ≤ 8 ∧ q 0 ≤ b ∧ (∀ c, c < 36 → q (49 + c) ≤ 99 ∧ q (13 + c) ≤ 2 ∧ (q (13 + c) ≠ 0 → q (49 + c) = 0)) ∧ ∀ s, s < 8 → q (85 + 4 * s) ≤ 6 ∧ q (85 + 4 * s + 1) < 36 ∧ q (85 + 4 * s + 2) < 4 ∧ q (85 + 4 * s + 3) ≤ 999
def LV (f : Nat → Int32) : Prop := ∀ k, k < 7 → f k = nI (lv k)
def TR (f : Nat → Int32) : Prop := ∀ k, k < 7 → f k = nI (tr k)
theorem RM.at {r : Nat → Int32} {q : Nat → Nat} {e : Nat → Int32} (h : RM r q e) (i : Nat) (h1 : i < 117) (h2 : i < 2 ∨ 13 ≤ i) : r i = nI (q i) := by
  rw [h i h1, if_neg (by omega)]
theorem upd_T {f : Nat → Int32} {i j : Nat} {x : Int32} (h : j = i) : upd f i x j = x := if_pos h
theorem upd_F {f : Nat → Int32} {i j : Nat} {x : Int32} (h : j < i ∨ i < j) : upd f i x j = f j := if_neg (by omega)
theorem upq_T {f : Nat → Nat} {i j : Nat} {x : Nat} (h : j = i) : upq f i x j = x := if_pos h
theorem upq_F {f : Nat → Nat} {i j : Nat} {x : Nat} (h : j < i ∨ i < j) : upq f i x j = f j := if_neg (by omega)
theorem RM.up {r : Nat → Int32} {q : Nat → Nat} {e : Nat → Int32} (h : RM r q e) (i v : Nat) (h2 : i < 2 ∨ 13 ≤ i) : RM (upd r i (nI v)) (upq q i v) e := by
  intro j hj
  by_cases c : j = i
  · subst c; rw [upd_T rfl, upq_T rfl, if_neg (by omega)]
  · rw [upd_F (by omega), upq_F (by omega), h j hj]
theorem RP.up {r : Nat → Int32} {q : Nat → Nat} (h : RP r q) (c v : Nat) : RP (upd r c (nI v)) (upq q (49 + c) v) := by
  intro j hj
  by_cases e : j = c
  · subst e; rw [upd_T rfl, upq_T rfl]
  · rw [upd_F (by omega), upq_F (by omega), h j hj]
theorem RP.skip {r : Nat → Int32} {q : Nat → Nat} (h : RP r q) (i v : Nat) (hi : i < 49 ∨ 85 ≤ i) : RP r (upq q i v) := by
  intro j hj; rw [upq_F (by omega), h j hj]
theorem RS.skip {x : Int64} {q : Nat → Nat} {w : Nat} (h : RS x q w) (i v : Nat) (hi : i < 13 ∨ 49 ≤ i) : RS x (upq q i v) w := by
  intro j; rw [h j]
  by_cases hj : j < 36
  · rw [upq_F (by omega)]
  · simp [hj]
theorem RF.up {r : Nat → Int32} {q : Nat → Nat} {k : Nat} (h : RF r q k) (s v : Nat) (hk : k < 4) : RF (upd r s (nI v)) (upq q (85 + 4 * s + k) v) k := by
  intro j hj
  by_cases e : j = s
  · subst e; rw [upd_T rfl, upq_T rfl]
  · rw [upd_F (by omega), upq_F (by omega), h j hj]
theorem RF.skip {r : Nat → Int32} {q : Nat → Nat} {k : Nat} (h : RF r q k) (i v : Nat) (hi : i < 85 ∨ i % 4 ≠ (k + 1) % 4) : RF r (upq q i v) k := by
  intro j hj; rw [upq_F (by omega), h j hj]
/-! first that is so -/
def fs (p : Nat → Bool) : Nat → Nat
  | 0 => 0
  | n + 1 => if fs p n < n then fs p n else if p n then n else n + 1
theorem fs_le (p : Nat → Bool) : ∀ n, fs p n ≤ n := by
  intro n
  induction n with
  | zero => exact Nat.le_refl 0
  | succ n ih => rw [fs]; split
                 · omega
                 · split <;> omega
theorem fs_no (p : Nat → Bool) : ∀ n k, k < fs p n → p k = false := by
  intro n
  induction n with
  | zero => intro k h; exact absurd h (Nat.not_lt_zero k)
  | succ n ih =>
    intro k h
    rw [fs] at h
    by_cases c : fs p n < n
    · rw [if_pos c] at h; exact ih k h
    · rw [if_neg c] at h
      have hn : fs p n = n := by have := fs_le p n; omega
      cases e : p n with
      | true => rw [e, if_pos rfl] at h; exact ih k (by omega)
      | false =>
        rw [e] at h
        by_cases q : k = n
        · rw [q]; exact e
        · have h' : k < n + 1 := h
          exact ih k (by omega)
theorem fs_yes (p : Nat → Bool) : ∀ n, fs p n < n → p (fs p n) = true := by
  intro n
  induction n with
  | zero => intro h; exact absurd h (Nat.not_lt_zero _)
  | succ n ih =>
    intro h
    rw [fs] at h ⊢
    by_cases c : fs p n < n
    · rw [if_pos c] at h ⊢; exact ih c
    · rw [if_neg c] at h ⊢
      cases e : p n with
      | true => rw [if_pos rfl]; exact e
      | false => rw [e] at h; exact absurd h (Nat.lt_irrefl _)
theorem fs_cong {p q : Nat → Bool} : ∀ {n : Nat}, (∀ i, i < n → p i = q i) → fs p n = fs q n := by
  intro n
  induction n with
  | zero => intro _; rfl
  | succ n ih => intro h; rw [fs, fs, ih (fun i hi => h i (by omega)), h n (by omega)]
/-! where the nearest is, which way to turn -/
def near (c : Nat) (ok : Nat → Bool) (at_ : Nat → Nat) : Nat → Nat
  | 0 => 36
  | w + 1 => if ok w = true ∧ (near c ok at_ w = 36 ∨ dst c (at_ w) < dst c (near c ok at_ w)) then at_ w else near c ok at_ w
theorem near_le {c : Nat} {ok : Nat → Bool} {at_ : Nat → Nat} : ∀ n, (∀ i, i < n → at_ i < 36) → near c ok at_ n ≤ 36 := by
  intro n
  induction n with
  | zero => intro _; exact Nat.le_refl _
  | succ n ih =>
    intro h; rw [near]
    split
    · have := h n (by omega); omega
    · exact ih (fun i hi => h i (by omega))
theorem near_ne {c : Nat} {ok : Nat → Bool} {at_ : Nat → Nat} (g : Nat) : ∀ n, (∀ i, i < n → ok i = true → at_ i ≠ g) → near c ok at_ n = 36 ∨ near c ok at_ n ≠ g := by
  intro n
  induction n with
  | zero => intro _; exact Or.inl rfl
  | succ n ih =>
    intro h; rw [near]
    split
    · rename_i q; exact Or.inr (h n (by omega) q.1)
    · exact ih (fun i hi => h i (by omega))
def nwat (q : Nat → Nat) (c : Nat) : Nat := near c (fun w => decide (q (13 + w) = 1)) (fun w => w) 36
def aliv (q : Nat → Nat) (s : Nat) : Bool := decide (q (85 + 4 * s + 3) < lv (q (85 + 4 * s)))
def nhd (q : Nat → Nat) (c : Nat) : Nat := near c (fun o => decide (q (85 + 4 * o + 1) ≠ c) && aliv q o) (fun o => q (85 + 4 * o + 1)) (q 1)
def tws (c g : Nat) : Nat := fs (fun h => decide (nbc c h < 36) && decide (dst (nbc c h) g < dst c g)) 4
def btu (q : Nat → Nat) (s : Nat) : Nat := let c := q (85 + 4 * s + 1); if nwat q c = 36 ∨ nwat q c = c then q (85 + 4 * s + 2) else tws c (nwat q c)
def rtu (q : Nat → Nat) (s : Nat) : Nat := let c := q (85 + 4 * s + 1); if nhd q c = 36 then btu q s else tws c (nhd q c)
def turn (q : Nat → Nat) (s : Nat) : Nat :=
  let k := q (85 + 4 * s)
  if k = 2 then btu q s else if k = 3 then rtu q s else if k = 4 then (rtu q s + q 0 % 2) % 4 else if k = 5 then (q (85 + 4 * s + 2) + 1) % 4 else if k = 6 then (q (85 + 4 * s + 2) + q (85 + 4 * s + 3) % 2) % 4 else q (85 + 4 * s + 2)
theorem tws_lt {c g : Nat} (hc : c < 36) (hg : g < 36) (h : c ≠ g) : tws c g < 4 := by
  obtain ⟨k, hk, h1, h2⟩ := t_tw c hc g hg h
  apply Classical.byContradiction
  intro q
  have := fs_no _ 4 k (Nat.lt_of_lt_of_le hk (Nat.le_of_not_lt q))
  simp [h1, h2] at this
theorem nwat_le (q : Nat → Nat) (c : Nat) : nwat q c ≤ 36 := near_le 36 (fun i h => h)
theorem nhd_le {b : Nat} {q : Nat → Nat} (h : IV b q) (c : Nat) : nhd q c ≤ 36 := near_le _ (fun i hi => (h.2.2.2 i (by have := h.1; omega)).2.1)
theorem nhd_ne {q : Nat → Nat} (c : Nat) : nhd q c = 36 ∨ nhd q c ≠ c := near_ne c _ (fun i _ h => by simp at h; exact h.1)
theorem btu_lt {b : Nat} {q : Nat → Nat} (h : IV b q) {s : Nat} (hs : s < 8) : btu q s < 4 := by
  have := h.2.2.2 s hs
  unfold btu
  simp only []
  split
  · exact this.2.2.1
  · rename_i e
    have := nwat_le q (q (85 + 4 * s + 1))
    exact tws_lt (by omega) (by omega) (by omega)
theorem rtu_lt {b : Nat} {q : Nat → Nat} (h : IV b q) {s : Nat} (hs : s < 8) : rtu q s < 4 := by
  have := h.2.2.2 s hs
  unfold rtu
  simp only []
  split
  · exact btu_lt h hs
  · rename_i e
    have := nhd_le h (q (85 + 4 * s + 1))
    have h3 := nhd_ne (q := q) (q (85 + 4 * s + 1))
    exact tws_lt (by omega) (by omega) (by omega)
theorem turn_lt {b : Nat} {q : Nat → Nat} (h : IV b q) {s : Nat} (hs : s < 8) : turn q s < 4 := by
  have := h.2.2.2 s hs
  have h1 := btu_lt h hs
  have h2 := rtu_lt h hs
  unfold turn
  simp only []
  repeat' split
  all_goals omega
