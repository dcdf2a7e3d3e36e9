/-! texts: words of a list, numbers, items -/
def opw (f nn : Nat) : Int32 := if f < nn then nI f else m1
theorem opw_T {f nn : Nat} (h : f < nn) : opw f nn = nI f := if_pos h
theorem opw_F {f nn : Nat} (h : ¬ f < nn) : opw f nn = m1 := if_neg h
theorem t_nk : ∀ k, k < 7 → fX1_nameOfKind 0 (nI k) = some k := by decide +kernel
theorem t_ng : ∀ k, k < 3 → fX1_nameOfGround 0 (nI k) = some (7 + k) := by decide +kernel
theorem t_nh : ∀ k, k < 4 → fX1_nameOfHeading 0 (nI k) = some (10 + k) := by decide +kernel
theorem e1_nk (n : Nat) {k : Nat} (h : k < 7) : fX1_nameOfKind n (nI k) = some k := t_nk k h
theorem e1_ng (n : Nat) {k : Nat} (h : k < 3) : fX1_nameOfGround n (nI k) = some (7 + k) := t_ng k h
theorem e1_nh (n : Nat) {k : Nat} (h : k < 4) : fX1_nameOfHeading n (nI k) = some (10 + k) := t_nh k h
section
theorem kindJ (n : Nat) (hn : 200 ≤ n) {mt tb : Nat → Int32} {B : Nat → Nat} {L st en : Nat} {s6 v6 s7 v7 : Int32} (h : BY tb mt B L) (hk : TK B L st en s6 v6 s7 v7) : fX1_kindOf n tb s6 (nI st) (nI en) = some (opw (fs (fun k => wrd tb s6 st en (0 + k)) 7) 7) := by
  have hno := fs_no (fun k => wrd tb s6 st en (0 + k)) 7
  have hle := fs_le (fun k => wrd tb s6 st en (0 + k)) 7
  have hw : ∀ k, k < 7 → fX5_isWord n k tb s6 (nI st) (nI en) = some (if wrd tb s6 st en (0 + k) = true then nI 1 else nI 0) := fun k hk2 => by rw [(wordJ n hn h hk (show k < 16 by omega)).1, Nat.zero_add]
  unfold fX1_kindOf
  by_cases hf : fs (fun k => wrd tb s6 st en (0 + k)) 7 < 7
  · have hy := fs_yes (fun k => wrd tb s6 st en (0 + k)) 7 hf
    refine lpb (fun k => nI k) (fs (fun k => wrd tb s6 st en (0 + k)) 7) (.inr (nI (fs (fun k => wrd tb s6 st en (0 + k)) 7))) rfl (fun k hk2 => ?_) ?_ (by omega) ?_
    · try dsimp +instances only
      rw [if_neg (Kle_F z_7 (by omega) (by decide)), e1_nk n (by omega), Option.bind_some, hw k (by omega), Option.bind_some, if_pos (b01_F (by rw [hno k hk2]; decide)), nI_1]
    · try dsimp +instances only
      rw [if_neg (Kle_F z_7 hf (by decide)), e1_nk n hf, Option.bind_some, hw _ hf, Option.bind_some, if_neg (b01_T hy)]
    · rw [opw_T hf]; rfl
  · refine lpb (fun k => nI k) 7 (.inl (nI 7)) rfl (fun k hk2 => ?_) rfl (by omega) ?_
    · try dsimp +instances only
      rw [if_neg (Kle_F z_7 (by omega) (by decide)), e1_nk n (by omega), Option.bind_some, hw k (by omega), Option.bind_some, if_pos (b01_F (by rw [hno k (by omega)]; decide)), nI_1]
    · rw [opw_F hf]; rfl
theorem groundJ (n : Nat) (hn : 200 ≤ n) {mt tb : Nat → Int32} {B : Nat → Nat} {L st en : Nat} {s6 v6 s7 v7 : Int32} (h : BY tb mt B L) (hk : TK B L st en s6 v6 s7 v7) : fX1_groundOf n tb s6 (nI st) (nI en) = some (opw (fs (fun k => wrd tb s6 st en (7 + k)) 3) 3) := by
  have hno := fs_no (fun k => wrd tb s6 st en (7 + k)) 3
  have hle := fs_le (fun k => wrd tb s6 st en (7 + k)) 3
  have hw : ∀ k, k < 3 → fX5_isWord n (7 + k) tb s6 (nI st) (nI en) = some (if wrd tb s6 st en (7 + k) = true then nI 1 else nI 0) := fun k hk2 => (wordJ n hn h hk (show 7 + k < 16 by omega)).1
  unfold fX1_groundOf
  by_cases hf : fs (fun k => wrd tb s6 st en (7 + k)) 3 < 3
  · have hy := fs_yes (fun k => wrd tb s6 st en (7 + k)) 3 hf
    refine lpb (fun k => nI k) (fs (fun k => wrd tb s6 st en (7 + k)) 3) (.inr (nI (fs (fun k => wrd tb s6 st en (7 + k)) 3))) rfl (fun k hk2 => ?_) ?_ (by omega) ?_
    · try dsimp +instances only
      rw [if_neg (Klt_F z_2 (by omega) (by decide)), e1_ng n (by omega), Option.bind_some, hw k (by omega), Option.bind_some, if_pos (b01_F (by rw [hno k hk2]; decide)), nI_1]
    · try dsimp +instances only
      rw [if_neg (Klt_F z_2 (by omega) (by decide)), e1_ng n hf, Option.bind_some, hw _ hf, Option.bind_some, if_neg (b01_T hy)]
    · rw [opw_T hf]; rfl
  · refine lpb (fun k => nI k) 3 (.inl (nI 3)) rfl (fun k hk2 => ?_) rfl (by omega) ?_
    · try dsimp +instances only
      rw [if_neg (Klt_F z_2 (by omega) (by decide)), e1_ng n (by omega), Option.bind_some, hw k (by omega), Option.bind_some, if_pos (b01_F (by rw [hno k (by omega)]; decide)), nI_1]
    · rw [opw_F hf]; rfl
theorem headingJ (n : Nat) (hn : 200 ≤ n) {mt tb : Nat → Int32} {B : Nat → Nat} {L st en : Nat} {s6 v6 s7 v7 : Int32} (h : BY tb mt B L) (hk : TK B L st en s6 v6 s7 v7) : fX1_headingOf n tb s6 (nI st) (nI en) = some (opw (fs (fun k => wrd tb s6 st en (10 + k)) 4) 4) := by
  have hno := fs_no (fun k => wrd tb s6 st en (10 + k)) 4
  have hle := fs_le (fun k => wrd tb s6 st en (10 + k)) 4
  have hw : ∀ k, k < 4 → fX5_isWord n (10 + k) tb s6 (nI st) (nI en) = some (if wrd tb s6 st en (10 + k) = true then nI 1 else nI 0) := fun k hk2 => (wordJ n hn h hk (show 10 + k < 16 by omega)).1
  unfold fX1_headingOf
  by_cases hf : fs (fun k => wrd tb s6 st en (10 + k)) 4 < 4
  · have hy := fs_yes (fun k => wrd tb s6 st en (10 + k)) 4 hf
    refine lpb (fun k => nI k) (fs (fun k => wrd tb s6 st en (10 + k)) 4) (.inr (nI (fs (fun k => wrd tb s6 st en (10 + k)) 4))) rfl (fun k hk2 => ?_) ?_ (by omega) ?_
    · try dsimp +instances only
      rw [if_neg (Kle_F z_4 (by omega) (by decide)), e1_nh n (by omega), Option.bind_some, hw k (by omega), Option.bind_some, if_pos (b01_F (by rw [hno k hk2]; decide)), nI_1]
    · try dsimp +instances only
      rw [if_neg (Kle_F z_4 hf (by decide)), e1_nh n hf, Option.bind_some, hw _ hf, Option.bind_some, if_neg (b01_T hy)]
    · rw [opw_T hf]; rfl
  · refine lpb (fun k => nI k) 4 (.inl (nI 4)) rfl (fun k hk2 => ?_) rfl (by omega) ?_
    · try dsimp +instances only
      rw [if_neg (Kle_F z_4 (by omega) (by decide)), e1_nh n (by omega), Option.bind_some, hw k (by omega), Option.bind_some, if_pos (b01_F (by rw [hno k (by omega)]; decide)), nI_1]
    · rw [opw_F hf]; rfl
end
theorem wordOfJ (n : Nat) (hn : 200 ≤ n) {mt tb : Nat → Int32} {B : Nat → Nat} {L st en : Nat} {s6 v6 s7 v7 : Int32} (h : BY tb mt B L) (hk : TK B L st en s6 v6 s7 v7) (base nn : Nat) (hb : base + nn ≤ 16) : fX7_wordOf n base nn mt (nI st) (nI en) s7 (0 : Int32) = some (opw (fs (fun k => wrd tb s6 st en (base + k)) nn) nn) := by
  have hno := fs_no (fun k => wrd tb s6 st en (base + k)) nn
  have hle := fs_le (fun k => wrd tb s6 st en (base + k)) nn
  unfold fX7_wordOf
  refine lpb (fun k => (opw (fs (fun k => wrd tb s6 st en (base + k)) nn) k, nI k)) nn (opw (fs (fun k => wrd tb s6 st en (base + k)) nn) nn, nI nn) ?_ (fun k hk2 => ?_) ?_ (by omega) rfl
  · rw [opw_F (Nat.not_lt_zero _)]; rfl
  · dsimp +instances only
    rw [if_neg (nI_ge hk2 (by omega)), if_pos rfl, if_pos (vi_N hk2 (by omega)), nI_clamp (by omega), (wordJ n hn h hk (show base + k < 16 by omega)).2, Option.bind_some, nI_1]
    by_cases hw : wrd tb s6 st en (base + k) = true
    · have hfk : fs (fun k => wrd tb s6 st en (base + k)) nn = k := by
        rcases Nat.lt_trichotomy (fs (fun k => wrd tb s6 st en (base + k)) nn) k with h1 | h1 | h1
        · have hy := fs_yes (fun k => wrd tb s6 st en (base + k)) nn (by omega)
          have := wrd_one (by omega) (by omega) hy hw
          omega
        · exact h1
        · have := hno k h1
          rw [hw] at this; exact absurd this (by decide)
      rw [if_neg (b01_T hw), hfk, opw_T (Nat.lt_succ_self k)]
    · have hfk : fs (fun k => wrd tb s6 st en (base + k)) nn ≠ k := fun e => by
        have hy := fs_yes (fun k => wrd tb s6 st en (base + k)) nn (by omega)
        rw [e] at hy; exact hw hy
      rw [if_pos (b01_F hw)]
      by_cases h1 : fs (fun k => wrd tb s6 st en (base + k)) nn < k
      · rw [opw_T h1, opw_T (by omega)]
      · rw [opw_F h1, opw_F (by omega)]
  · dsimp +instances only
    rw [if_pos (nI_le (Nat.le_refl _) (by omega))]
theorem wordOfW (n : Nat) (hn : 200 ≤ n) (base nn : Nat) (h1 : 0 < nn) (h2 : nn < 2 ^ 31) (mt : Nat → Int32) (b e s : Int32) : fX7_wordOf n base nn mt b e s (1 : Int32) = some m1 := by
  unfold fX7_wordOf
  obtain ⟨m, rfl⟩ : ∃ m, n = m + 1 := ⟨n - 1, by omega⟩
  rw [lp]
  dsimp +instances only
  rw [if_neg (leK_F z_0 h1 h2), if_neg (by decide)]; rfl
theorem mustW (n : Nat) (a : Int32) (mt : Nat → Int32) (l b e s v : Int32) : fX7_must n a mt l b e s v (1 : Int32) = some (b, e, s, v, 1) := by
  unfold fX7_must
  rw [if_neg (by decide), if_neg (by decide)]
theorem must0 (n : Nat) (mt : Nat → Int32) (l b e s v : Int32) : fX7_must n (0 : Int32) mt l b e s v (0 : Int32) = some (b, e, s, v, 1) := by
  unfold fX7_must
  rw [if_pos rfl, if_pos rfl, if_neg (by decide)]
theorem must1 (n : Nat) (mt : Nat → Int32) (l b e s v : Int32) : fX7_must n (1 : Int32) mt l b e s v (0 : Int32) = (fX7_next n mt l b e s v).bind (fun q => some (q.1, q.2.1, q.2.2.1, q.2.2.2, (0 : Int32))) := by
  unfold fX7_must
  rw [if_pos rfl, if_neg (by decide), if_pos rfl]
theorem numberW (n : Nat) (lo hi : Int32) (mt : Nat → Int32) (l b e s v : Int32) : fX7_number n lo hi mt l b e s v (1 : Int32) = some (v, b, e, s, v, 1) := by
  unfold fX7_number
  by_cases h : s = 2
  · rw [if_pos h]
    unfold fX7_within
    simp only [mustW]
    by_cases h1 : v < lo
    · rw [if_pos h1, Option.bind_some, if_pos rfl]; rfl
    · rw [if_neg h1]
      by_cases h2 : hi < v
      · rw [if_pos h2, Option.bind_some, if_pos rfl]; rfl
      · rw [if_neg h2, Option.bind_some, if_neg (by decide)]; rfl
  · rw [if_neg h, mustW]; rfl
theorem numJ (n : Nat) {mt : Nat → Int32} {B : Nat → Nat} {L st en : Nat} {s6 v6 s7 v7 : Int32} (hk : TK B L st en s6 v6 s7 v7) {K : Int32} (M : Nat) (hK : K = nI M) (hM : M < 2 ^ 30) :
    (∃ v, v ≤ M ∧ v6 = nI v ∧ v7 = nI v ∧ s7 = 2 ∧ st < en ∧ fX5_isNumber n K s6 v6 = some (nI 1) ∧ fX7_number n (0 : Int32) K mt (nI L) (nI st) (nI en) s7 v7 (0 : Int32) = (fX7_next n mt (nI L) (nI st) (nI en) s7 v7).bind (fun q => some (v7, q.1, q.2.1, q.2.2.1, q.2.2.2, (0 : Int32)))) ∨
    ((s7 = 2 → ∃ v, M < v ∧ v ≤ 1000 ∧ v7 = nI v) ∧ fX5_isNumber n K s6 v6 = some (nI 0) ∧ fX7_number n (0 : Int32) K mt (nI L) (nI st) (nI en) s7 v7 (0 : Int32) = some (v7, nI st, nI en, s7, v7, 1)) := by
  subst hK
  have hs := hk.sort.2.1
  unfold fX5_isNumber fX7_number
  obtain ⟨-, -, h3⟩ := hk
  by_cases h2 : s6 = nI 2
  · have h7 := hs.mp h2
    have hv : ∃ v, v ≤ 1000 ∧ v6 = nI v ∧ v7 = nI v ∧ st < en := by
      rcases h3 with ⟨h4, -⟩ | ⟨h4, -⟩ | ⟨-, -, ⟨v, h5, h6, h8⟩, h9⟩ | ⟨h4, -⟩ | ⟨h4, -⟩
      · rw [h4] at h2; exact absurd ((nI_eq (by decide) (by decide)).mp h2) (by decide)
      · rw [h4] at h2; exact absurd ((nI_eq (by decide) (by decide)).mp h2) (by decide)
      · exact ⟨v, h5, h6, h8, h9⟩
      · rw [h4] at h2; exact absurd ((nI_eq (by decide) (by decide)).mp h2) (by decide)
      · rw [h4] at h2; exact absurd ((nI_eq (by decide) (by decide)).mp h2) (by decide)
    obtain ⟨v, h5, rfl, rfl, h9⟩ := hv
    have h2' : s6 = 2 := h2
    have h7' : s7 = 2 := h7
    rw [if_pos h2', if_pos h7']
    by_cases hle : v ≤ M
    · refine Or.inl ⟨v, hle, rfl, rfl, h7, h9, by rw [if_neg (nI_nlt hle (by omega))]; rfl, ?_⟩
      rw [show fX7_within n (nI v) 0 (nI M) = _ from e7_within n (Nat.zero_le v) hle (by omega), Option.bind_some, if_neg (by decide), must1]
      cases fX7_next n mt (nI L) (nI st) (nI en) s7 (nI v) <;> rfl
    · refine Or.inr ⟨fun _ => ⟨v, by omega, h5, rfl⟩, by rw [if_pos (nI_lt (by omega) (by omega))]; rfl, ?_⟩
      rw [show fX7_within n (nI v) 0 (nI M) = _ from e7_withinB n (Or.inr (nI_lt (by omega) (by omega))), Option.bind_some, if_pos (show nI 0 = 0 from rfl), must0]; rfl
  · have h7 : ¬ s7 = 2 := fun e => h2 (hs.mpr e)
    have h2' : ¬ s6 = 2 := h2
    rw [if_neg h2', if_neg h7, must0]
    exact Or.inr ⟨fun e => absurd e h7, rfl, rfl⟩
def it4 (f : Nat → Int32) (m : Nat) (a b c d : Int32) : Nat → Int32 := upd (upd (upd (upd f (4 * m) a) (4 * m + 1) b) (4 * m + 2) c) (4 * m + 3) d
theorem e7_item (n : Nat) {m : Nat} (hm : m < 120) (f : Nat → Int32) (a b c d : Int32) : fX7_item n a b c d f (nI m) = some (it4 f m a b c d, nI (m + 1)) := by
  unfold fX7_item
  rw [z_4, pk_mul, z_1, nI_add, nI_add, z_2, nI_add, z_3, nI_add, if_pos (vi_N (by omega) (by decide)), if_pos (vi_N (by omega) (by decide)), if_pos (vi_N (by omega) (by decide)), if_pos (vi_N (by omega) (by decide)), nI_clamp (by omega), nI_clamp (by omega), nI_clamp (by omega), nI_clamp (by omega)]; rfl
theorem opw_neg {f nn : Nat} (h : nn < 2 ^ 31) : (opw f nn < 0) = ¬ f < nn := propext (by
  by_cases h1 : f < nn
  · rw [opw_T h1]; exact ⟨fun h2 => absurd h2 (nI_pos (by omega)), fun h2 => absurd h1 h2⟩
  · rw [opw_F h1]; exact ⟨fun _ => h1, fun _ => by decide⟩)
theorem opw_pos {f nn : Nat} (h : nn < 2 ^ 31) : (0 ≤ opw f nn) = (f < nn) := propext (by
  by_cases h1 : f < nn
  · rw [opw_T h1]; exact ⟨fun _ => h1, fun _ => nI_pos' (by omega)⟩
  · rw [opw_F h1]; exact ⟨fun h2 => absurd h2 (by decide), fun h2 => absurd h2 h1⟩)
theorem opw_max {f nn : Nat} (h : nn < 2 ^ 31) : (if (0 : Int32) < opw f nn then opw f nn else (0 : Int32)) = nI (if f < nn then f else 0) := by
  by_cases h1 : f < nn
  · rw [opw_T h1, if_pos h1]
    by_cases h2 : 0 < f
    · rw [if_pos (Klt_T z_0 h2 (by omega))]
    · rw [if_neg (Klt_F z_0 (by omega) (by decide)), show f = 0 by omega]; rfl
  · rw [opw_F h1, if_neg h1, if_neg (by decide)]; rfl
