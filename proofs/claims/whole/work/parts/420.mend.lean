/-! mending: the class's layers, the reference's lessening -/
def lvm (p g : Nat → Bool) (a : Nat) : Nat → Nat → Bool
  | 0 => jn p a
  | k + 1 => clo p (fun c => lvm p g a k c || ((decide (c = a) || nb4 (lvm p g a k) c) && g c))
def mdk (p g : Nat → Bool) (a b : Nat) : Nat := fs (fun k => lvm p g a k b) 37
theorem lvm_step {p g : Nat → Bool} {a k c d : Nat} (hp : p d = true) (hd : d < 36) (hn : ∃ h, h < 4 ∧ nbc d h = c) (hc : c < 36) (h : lvm p g a k c = true) : lvm p g a k d = true := by
  cases k with
  | zero => exact clo_step hp hd hn hc h
  | succ k => exact clo_step hp hd hn hc h
theorem e0_fewestNew (n : Nat) (hn : 100 ≤ n) (p g : Nat → Bool) {a b : Nat} (ha : a < 36) (hb : b < 36) : fX0_fewestNew n (nI a) (nI b) (sb p 36) (sb g 36) = some (if mdk p g a b < 37 then nI (mdk p g a b) else m1) := by
  unfold fX0_fewestNew
  rw [e0_reach n hn p ha, Option.bind_some]
  have hle := fs_le (fun k => lvm p g a k b) 37
  have hno : ∀ k, k < mdk p g a b → lvm p g a k b = false := fs_no (fun k => lvm p g a k b) 37
  have step : ∀ k, sb (lvm p g a k) 36 ||| ((bitL a ||| nbS (sb (lvm p g a k) 36)) &&& sb g 36) = sb (fun c => lvm p g a k c || ((decide (c = a) || nb4 (lvm p g a k) c) && g c)) 36 := by
    intro k
    refine sb_of (by decide) fun i hi => ?_
    rw [bq_or, bq_and, bq_or, bq_nbs _ hi, bq_sb _ (by decide), bq_sb g (by decide), bq_bit (by omega)]
    by_cases h : i < 36
    · simp [h]
    · have : ¬ i = a := by omega
      simp [h]
  by_cases h : mdk p g a b < 37
  · refine lpb (fun k => (sb (lvm p g a k) 36, nI k)) (mdk p g a b) (.inr (nI (mdk p g a b))) rfl (fun k hk => ?_) ?_ (by omega) ?_
    · dsimp +instances only
      rw [if_neg (Klt_F z_36 (by omega) (by decide)), e_bit, Option.bind_some, if_pos (by rw [sb_test _ hb, hno k hk]), e_bit, Option.bind_some, e_neighbours, Option.bind_some, step, e0_spread n hn, Option.bind_some, z_1, nI_add]; rfl
    · have hy : lvm p g a (mdk p g a b) b = true := fs_yes (fun k => lvm p g a k b) 37 h
      dsimp +instances only
      rw [if_neg (Klt_F z_36 (by omega) (by decide)), e_bit, Option.bind_some, if_neg (by rw [sb_test _ hb, hy]; decide)]
    · rw [if_pos h]; rfl
  · have h37 : mdk p g a b = 37 := by unfold mdk at h ⊢; omega
    refine lpb (fun k => (sb (lvm p g a k) 36, nI k)) 37 (.inl (sb (lvm p g a 37) 36, nI 37)) rfl (fun k hk => ?_) ?_ (by omega) ?_
    · dsimp +instances only
      rw [if_neg (Klt_F z_36 (by omega) (by decide)), e_bit, Option.bind_some, if_pos (by rw [sb_test _ hb, hno k (by omega)]), e_bit, Option.bind_some, e_neighbours, Option.bind_some, step, e0_spread n hn, Option.bind_some, z_1, nI_add]; rfl
    · dsimp +instances only
      rw [if_pos (Klt_T z_36 (by decide) (by decide))]
    · rw [if_neg h]; rfl
def wgt (p : Nat → Bool) (c : Nat) : Nat := if p c = true then 0 else 1
def MI (p g : Nat → Bool) (a : Nat) (S : Nat → Nat) : Prop := (∀ c, c < 36 → S c ≤ 37 ∧ (S c < 37 → lvm p g a (S c) c = true)) ∧ (g a = true → S a ≤ 1) ∧ (p a = true → S a = 0)
def FX (p g : Nat → Bool) (S : Nat → Nat) (c : Nat) : Prop := ∀ h, h < 4 → nbc c h < 36 → g (nbc c h) = true → S (nbc c h) ≤ S c + wgt p (nbc c h)
theorem MI.less {p g : Nat → Bool} {a : Nat} {S : Nat → Nat} (w : MI p g a S) {c h : Nat} (hc : c < 36) (hh : h < 4) (ht : nbc c h < 36) (hg : g (nbc c h) = true) (hl : S c + wgt p (nbc c h) < S (nbc c h)) : MI p g a (upq S (nbc c h) (S c + wgt p (nbc c h))) := by
  obtain ⟨w1, w2, w3⟩ := w
  have hn : ∃ k, k < 4 ∧ nbc (nbc c h) k = c := ⟨(h + 2) % 4, by omega, ((t_nl c hc h hh).2 ht).1⟩
  have h1 := w1 c hc
  have h2 := w1 _ ht
  generalize nbc c h = t at *
  refine ⟨fun d hd => ?_, fun ha => ?_, fun ha => ?_⟩
  · by_cases e : d = t
    · subst e
      rw [upq_T rfl]
      refine ⟨by omega, fun _ => ?_⟩
      have h3 := h1.2 (by omega)
      unfold wgt
      by_cases hp : p d = true
      · rw [if_pos hp]; exact lvm_step hp hd hn hc h3
      · rw [if_neg hp]
        refine clo_in ?_
        obtain ⟨k, k1, k2⟩ := hn
        have : nb4 (lvm p g a (S c)) d = true := nb4_iff.mpr ⟨k, k1, by rw [k2]; exact hc, by rw [k2]; exact h3⟩
        rw [this, hg]; simp
    · rw [upq_F (by omega)]; exact w1 d hd
  · by_cases e : a = t
    · subst e; rw [upq_T rfl]; have := w2 ha; omega
    · rw [upq_F (by omega)]; exact w2 ha
  · have := w3 ha
    by_cases e : a = t
    · subst e; omega
    · rw [upq_F (by omega)]; exact w3 ha
theorem MI.done {p g : Nat → Bool} {a : Nat} {S : Nat → Nat} (w : MI p g a S) (ha : a < 36) (hpg : ∀ c, p c = true → g c = true) (f : ∀ c, c < 36 → FX p g S c) {b : Nat} (hb : b < 36) : S b = mdk p g a b := by
  obtain ⟨w1, w2, w3⟩ := w
  have stp : ∀ k c d, c < 36 → d < 36 → p d = true → (∃ h, h < 4 ∧ nbc d h = c) → S c ≤ k → S d ≤ k := by
    intro k c d hc hd hp hn h
    obtain ⟨h', k1, k2⟩ := nbc_sym hc hd hn
    have := f c hc h' k1 (by rw [k2]; exact hd) (by rw [k2]; exact hpg d hp)
    rw [k2] at this
    unfold wgt at this
    rw [if_pos hp] at this
    omega
  have cp : ∀ k c, c < 36 → lvm p g a k c = true → S c ≤ k := by
    intro k
    induction k with
    | zero =>
      intro c hc h
      refine clo_ind (fun c => S c ≤ 0) (fun c hc h => ?_) (fun c d hc hd hp hn h => stp 0 c d hc hd hp hn h) hc h
      unfold one at h
      simp only [Bool.and_eq_true, decide_eq_true_eq] at h
      obtain ⟨rfl, h2⟩ := h
      rw [w3 h2]; exact Nat.le_refl _
    | succ k ih =>
      intro c hc h
      refine clo_ind (fun c => S c ≤ k + 1) (fun c hc h => ?_) (fun c d hc hd hp hn h => stp (k + 1) c d hc hd hp hn h) hc h
      simp only [Bool.or_eq_true, Bool.and_eq_true, decide_eq_true_eq] at h
      rcases h with h | ⟨h1 | h1, h2⟩
      · have := ih c hc h; omega
      · subst h1; have := w2 h2; omega
      · obtain ⟨h', k1, k2, k3⟩ := nb4_iff.mp h1
        have h4 := ih _ k2 k3
        obtain ⟨g', m1, m2⟩ := nbc_sym k2 hc ⟨h', k1, rfl⟩
        have := f _ k2 g' m1 (by rw [m2]; exact hc) (by rw [m2]; exact h2)
        rw [m2] at this
        unfold wgt at this
        split at this <;> omega
  obtain ⟨h1, h2⟩ := w1 b hb
  have hle := fs_le (fun k => lvm p g a k b) 37
  unfold mdk
  rcases Nat.lt_trichotomy (fs (fun k => lvm p g a k b) 37) (S b) with h | h | h
  · have hy := fs_yes (fun k => lvm p g a k b) 37 (by omega)
    have := cp _ b hb hy
    omega
  · exact h.symm
  · have := fs_no (fun k => lvm p g a k b) 37 (S b) h
    have h3 := h2 (by omega)
    rw [this] at h3; exact absurd h3 (by decide)
def SL (S : Nat → Nat) (st : Nat → Int32) : Prop := ∀ c, c < 36 → st c = nI (S c)
theorem SL.up {S : Nat → Nat} {st : Nat → Int32} (h : SL S st) (t v : Nat) : SL (upq S t v) (upd st t (nI v)) := fun c hc => by
  by_cases e : c = t
  · subst e; rw [upd_T rfl, upq_T rfl]
  · rw [upd_F (by omega), upq_F (by omega)]; exact h c hc
theorem sm_upq {S : Nat → Nat} {t v : Nat} : ∀ n, sm (upq S t v) n + (if t < n then S t else 0) = sm S n + (if t < n then v else 0) := by
  intro n
  induction n with
  | zero => rfl
  | succ n ih =>
    rw [sm, sm]
    by_cases e : n = t
    · subst e
      rw [if_neg (Nat.lt_irrefl n), if_neg (Nat.lt_irrefl n)] at ih
      rw [upq_T rfl, if_pos (Nat.lt_succ_self n), if_pos (Nat.lt_succ_self n)]; omega
    · rw [upq_F (by omega)]
      by_cases h : t < n
      · rw [if_pos h, if_pos h] at ih
        rw [if_pos (show t < n + 1 by omega), if_pos (show t < n + 1 by omega)]; omega
      · rw [if_neg h, if_neg h] at ih
        rw [if_neg (show ¬ t < n + 1 by omega), if_neg (show ¬ t < n + 1 by omega)]; omega
theorem sm_cong {f g : Nat → Nat} : ∀ {n : Nat}, (∀ i, i < n → f i = g i) → sm f n = sm g n := by
  intro n
  induction n with
  | zero => intro _; rfl
  | succ n ih => intro h; rw [sm, sm, ih (fun i hi => h i (by omega)), h n (by omega)]
theorem sm_le {f : Nat → Nat} {B : Nat} : ∀ {n : Nat}, (∀ i, i < n → f i ≤ B) → sm f n ≤ B * n := by
  intro n
  induction n with
  | zero => intro _; exact Nat.le_refl 0
  | succ n ih => intro h; have h1 := ih (fun i hi => h i (by omega)); have h2 := h n (by omega); rw [sm, Nat.mul_succ]; omega
def gr (q : Nat → Nat) (c : Nat) : Bool := decide (c < 36) && decide (q (13 + c) = 0)
theorem gr_iff {q : Nat → Nat} {c : Nat} (hc : c < 36) : gr q c = true ↔ q (13 + c) = 0 := by unfold gr; simp [hc]
/-- a round of one cell: nothing to do, or something is less -/
def LR (p g : Nat → Bool) (a : Nat) (S S' : Nat → Nat) (f : Nat) (X : Prop) : Prop := MI p g a S' ∧ ((f = 0 ∧ S' = S ∧ X) ∨ (f = 1 ∧ sm S' 36 < sm S 36))
theorem e7_lessens (n : Nat) (hn : 100 ≤ n) {r st : Nat → Int32} {q S : Nat → Nat} {e : Nat → Int32} {b a c : Nat} (hr : RM r q e) (hv : IV b q) (hc : c < 36) (hS : SL S st) (w : MI (hp q) (gr q) a S) :
    ∃ v, fX7_lessens n (nI c) r st = some v ∧ ∃ f S', v.1 = nI f ∧ SL S' v.2 ∧ LR (hp q) (gr q) a S S' f (FX (hp q) (gr q) S c) := by
  unfold fX7_lessens
  refine lpx (fun h s => ∃ f S' st, s = (nI f, nI h, st) ∧ SL S' st ∧ S' c = S c ∧ LR (hp q) (gr q) a S S' f (∀ k, k < h → nbc c k < 36 → gr q (nbc c k) = true → S (nbc c k) ≤ S c + wgt (hp q) (nbc c k))) 4 (fun v => ∃ f S', v.1 = nI f ∧ SL S' v.2.2 ∧ LR (hp q) (gr q) a S S' f (FX (hp q) (gr q) S c)) ⟨0, S, st, rfl, hS, rfl, w, Or.inl ⟨rfl, rfl, fun k hk => absurd hk (Nat.not_lt_zero _)⟩⟩ (fun h s hh hI => ?_) (fun s hI => ?_) (by omega) (fun v hX => ?_)
  · obtain ⟨f, S', st, rfl, hS', hSc, wM, wO⟩ := hI
    have hnb := nbc_le c h hc
    have skip : (nbc c h < 36 → gr q (nbc c h) = true → S' (nbc c h) ≤ S' c + wgt (hp q) (nbc c h)) → LR (hp q) (gr q) a S S' f (∀ k, k < h + 1 → nbc c k < 36 → gr q (nbc c k) = true → S (nbc c k) ≤ S c + wgt (hp q) (nbc c k)) := by
      intro hs
      refine ⟨wM, ?_⟩
      rcases wO with ⟨o1, o2, o3⟩ | o
      · refine Or.inl ⟨o1, o2, fun k hk => ?_⟩
        by_cases e : k = h
        · subst e; rw [← o2]; exact hs
        · exact o3 k (by omega)
      · exact Or.inr o
    dsimp +instances only
    rw [if_neg (Kle_F z_4 hh (by decide)), e_beside n hc hh, Option.bind_some]
    by_cases g1 : nbc c h < 36
    · have hne := ((t_nl c hc h hh).2 g1).2
      have hv1 := (wM.1 c hc).1
      have hv2 := (wM.1 _ g1).1
      have hvc : vi (nI c) 36 := vi_N hc (by decide)
      have hng : ¬ nI (nbc c h) < 0 := nI_pos (by omega)
      rw [nbI_T g1, if_pos (nI_pos' (by omega)), e7_hasPath n hr hv g1, e7_isGrass n hr hv g1]
      simp only [if_pos hvc, Option.bind_some, nI_clamp (show c < 2 ^ 31 by omega), nI_clamp (show nbc c h < 2 ^ 31 by omega), if_neg hng]
      have key : ∀ wv : Nat, wv = wgt (hp q) (nbc c h) → ∃ s', (if (if q (13 + nbc c h) = 0 then nI 1 else nI 0) = 0 then some (Sum.inl (nI f, nI h + (1 : Int32), st)) else if vi (nI (nbc c h)) 36 then (if st (nbc c h) ≤ st c + nI wv then some (.inl (nI f, nI h + (1 : Int32), st)) else if vi (nI (nbc c h)) 36 then some (.inl ((1 : Int32), nI h + (1 : Int32), upd st (nbc c h) (st c + nI wv))) else none) else none : Option ((Int32 × Int32 × (Nat → Int32)) ⊕ (Int32 × Int32 × (Nat → Int32)))) = some (.inl s') ∧ ∃ f S' st, s' = (nI f, nI (h + 1), st) ∧ SL S' st ∧ S' c = S c ∧ LR (hp q) (gr q) a S S' f (∀ k, k < h + 1 → nbc c k < 36 → gr q (nbc c k) = true → S (nbc c k) ≤ S c + wgt (hp q) (nbc c k)) := by
        intro wv hw
        rw [z_1, nI_add]
        by_cases g2 : q (13 + nbc c h) = 0
        · have hg := (gr_iff g1).mpr g2
          rw [if_neg (b01_T g2), if_pos (vi_N g1 (by decide)), if_pos (vi_N g1 (by decide)), hS' _ g1, hS' c hc, nI_add]
          have hw1 : wv ≤ 1 := by rw [hw]; unfold wgt; split <;> omega
          by_cases g3 : S' (nbc c h) ≤ S' c + wv
          · rw [if_pos (nI_le g3 (by omega))]
            exact ⟨_, rfl, f, S', st, rfl, hS', hSc, skip (fun _ _ => by rw [← hw]; exact g3)⟩
          · rw [if_neg (nI_ge (by omega) (by omega))]
            have hl : S' c + wgt (hp q) (nbc c h) < S' (nbc c h) := by rw [← hw]; omega
            have h2 := wM.less hc hh g1 hg hl
            rw [← hw] at h2
            refine ⟨_, rfl, 1, _, _, rfl, hS'.up _ _, by rw [upq_F (by omega)]; exact hSc, h2, Or.inr ⟨rfl, ?_⟩⟩
            have h3 := sm_upq (S := S') (t := nbc c h) (v := S' c + wv) 36
            rw [if_pos g1, if_pos g1] at h3
            rcases wO with ⟨_, o2, _⟩ | ⟨_, o2⟩
            · rw [o2] at h3 g3 ⊢; omega
            · omega
        · rw [if_pos (b01_F g2)]
          exact ⟨_, rfl, f, S', st, rfl, hS', hSc, skip (fun _ h2 => absurd ((gr_iff g1).mp h2) g2)⟩
      by_cases g4 : hp q (nbc c h) = true
      · rw [if_neg (b01_T g4)]
        exact key 0 (by unfold wgt; rw [if_pos g4])
      · rw [if_pos (b01_F g4)]
        exact key 1 (by unfold wgt; rw [if_neg g4])
    · rw [nbI_F (by omega), if_neg (by decide), if_pos (by decide), z_1, nI_add]
      exact ⟨_, rfl, f, S', st, rfl, hS', hSc, skip (fun h1 => absurd h1 g1)⟩
  · obtain ⟨f, S', st, rfl, hS', hSc, wM, wO⟩ := hI
    refine ⟨_, rfl, f, S', rfl, hS', wM, ?_⟩
    rcases wO with ⟨o1, o2, o3⟩ | o
    · exact Or.inl ⟨o1, o2, o3⟩
    · exact Or.inr o
  · obtain ⟨f, S', h1, h2, h3, h4⟩ := hX
    have hf : v.1 = 0 ∨ v.1 = 1 := by
      rcases h4 with ⟨o, _⟩ | ⟨o, _⟩
      · left; rw [h1, o]; rfl
      · right; rw [h1, o]; rfl
    rw [if_pos hf]
    exact ⟨_, rfl, f, S', h1, h2, h3, h4⟩
theorem orf {f g : Nat} (hf : f = 0 ∨ f = 1) (hg : g = 0 ∨ g = 1) : nI f ||| nI g = nI (if f = 0 then g else 1) := by
  rcases hf with rfl | rfl <;> rcases hg with rfl | rfl <;> rfl
theorem e7_fmL (n : Nat) (hn : 2000 ≤ n) {r st : Nat → Int32} {q S : Nat → Nat} {e : Nat → Int32} {b a : Nat} (hr : RM r q e) (hv : IV b q) (ha : a < 36) (hS : SL S st) (w : MI (hp q) (gr q) a S) :
    ∃ v, lp (fun (s30 : Int32 × (Nat → Int32)) => ((if s30.1 = 0 then some (.inr (s30.1, s30.2)) else ((lp (fun (s33 : Int32 × Int32 × (Nat → Int32)) => ((if (36 : Int32) ≤ s33.2.1 then some (.inr (s33.1, s33.2.1, s33.2.2)) else ((fX7_lessens n s33.2.1 r s33.2.2).bind (fun q36 => some (.inl ((s33.1 ||| q36.1), (s33.2.1 + (1 : Int32)), q36.2))))) : Option ((Int32 × Int32 × (Nat → Int32)) ⊕ (Int32 × Int32 × (Nat → Int32))))) n ((0 : Int32), (0 : Int32), s30.2)).bind (fun (v34 : Int32 × Int32 × (Nat → Int32)) => some (.inl (v34.1, v34.2.2))))) : Option ((Int32 × (Nat → Int32)) ⊕ (Int32 × (Nat → Int32))))) n ((1 : Int32), st) = some v ∧ ∀ c, c < 36 → v.2 c = nI (mdk (hp q) (gr q) a c) := by
  have hpg : ∀ c, hp q c = true → gr q c = true := fun c h => by
    obtain ⟨h1, h2⟩ := hp_36 h
    rw [gr_iff h1]
    have h3 := (hv.2.2.1 c h1).2.2
    apply Classical.byContradiction
    intro h4
    have := h3 h4; omega
  have hB : sm S 36 ≤ 37 * 36 := sm_le fun i hi => (w.1 i hi).1
  have hmS : ∀ {S : Nat → Nat} {st : Nat → Int32}, MI (hp q) (gr q) a S → SL S st → sm (fun c => (st c).toNatClampNeg) 36 = sm S 36 := fun {S st} w h => sm_cong fun i hi => by
    have := (w.1 i hi).1
    show (st i).toNatClampNeg = S i
    rw [h i hi, nI_clamp (by omega)]
  refine lp_ms (fun s => ∃ f S st, s = (nI f, st) ∧ SL S st ∧ MI (hp q) (gr q) a S ∧ (f = 1 ∨ (f = 0 ∧ ∀ c, c < 36 → FX (hp q) (gr q) S c))) (fun s => sm (fun c => (s.2 c).toNatClampNeg) 36 + (if s.1 = 0 then 0 else 1)) _ ?_ n _ ⟨1, S, st, rfl, hS, w, Or.inl rfl⟩ (by
    dsimp +instances only
    rw [hmS w hS, if_neg (by decide)]; omega)
  clear hB w hS
  rintro s ⟨f, S, st, rfl, hS, w, hf⟩
  dsimp +instances only
  rcases hf with rfl | ⟨rfl, hF⟩
  · rw [if_neg (by decide)]
    refine Or.inr ?_
    suffices h : ∃ y, (lp (fun (s33 : Int32 × Int32 × (Nat → Int32)) => ((if (36 : Int32) ≤ s33.2.1 then some (.inr (s33.1, s33.2.1, s33.2.2)) else ((fX7_lessens n s33.2.1 r s33.2.2).bind (fun q36 => some (.inl ((s33.1 ||| q36.1), (s33.2.1 + (1 : Int32)), q36.2))))) : Option ((Int32 × Int32 × (Nat → Int32)) ⊕ (Int32 × Int32 × (Nat → Int32))))) n ((0 : Int32), (0 : Int32), st)).bind (fun (v34 : Int32 × Int32 × (Nat → Int32)) => (some (.inl (v34.1, v34.2.2)) : Option ((Int32 × (Nat → Int32)) ⊕ (Int32 × (Nat → Int32))))) = some y ∧ ∃ s', y = .inl s' ∧ ((∃ f S st, s' = (nI f, st) ∧ SL S st ∧ MI (hp q) (gr q) a S ∧ (f = 1 ∨ (f = 0 ∧ ∀ c, c < 36 → FX (hp q) (gr q) S c))) ∧ sm (fun c => (s'.2 c).toNatClampNeg) 36 + (if s'.1 = 0 then 0 else 1) < sm (fun c => (st c).toNatClampNeg) 36 + (if nI 1 = 0 then 0 else 1)) by
      obtain ⟨s', h1, h2, h3⟩ := exl h
      exact ⟨s', h1, h2, h3⟩
    refine lpx (fun k s => ∃ f S' st', s = (nI f, nI k, st') ∧ SL S' st' ∧ LR (hp q) (gr q) a S S' f (∀ c, c < k → FX (hp q) (gr q) S c)) 36 (fun v => ∃ f S', v.1 = nI f ∧ SL S' v.2.2 ∧ LR (hp q) (gr q) a S S' f (∀ c, c < 36 → FX (hp q) (gr q) S c)) ⟨0, S, st, rfl, hS, w, Or.inl ⟨rfl, rfl, fun c hc => absurd hc (Nat.not_lt_zero _)⟩⟩ (fun k s hk hI => ?_) (fun s hI => ?_) (by omega) (fun v hX => ?_)
    · obtain ⟨f, S', st', rfl, hS', wM, wO⟩ := hI
      obtain ⟨v, v1, f', S'', v2, v3, v4, v5⟩ := e7_lessens n (by omega) hr hv hk hS' wM
      have hf1 : f = 0 ∨ f = 1 := by rcases wO with o | o
                                     · exact Or.inl o.1
                                     · exact Or.inr o.1
      have hf2 : f' = 0 ∨ f' = 1 := by rcases v5 with o | o
                                       · exact Or.inl o.1
                                       · exact Or.inr o.1
      dsimp +instances only
      rw [if_neg (Kle_F z_36 hk (by decide)), v1, Option.bind_some, v2, orf hf1 hf2, z_1, nI_add]
      refine ⟨_, rfl, _, S'', v.2, rfl, v3, v4, ?_⟩
      rcases wO with ⟨rfl, o2, o3⟩ | ⟨rfl, o2⟩
      · rw [if_pos rfl]
        rcases v5 with ⟨rfl, k2, k3⟩ | ⟨rfl, k2⟩
        · refine Or.inl ⟨rfl, k2.trans o2, fun c hc => ?_⟩
          by_cases e : c = k
          · subst e; rw [← o2]; exact k3
          · exact o3 c (by omega)
        · exact Or.inr ⟨rfl, by rw [← o2]; exact k2⟩
      · rw [if_neg (by decide)]
        rcases v5 with ⟨rfl, k2, k3⟩ | ⟨rfl, k2⟩
        · exact Or.inr ⟨rfl, by rw [k2]; exact o2⟩
        · exact Or.inr ⟨rfl, by omega⟩
    · obtain ⟨f, S', st', rfl, hS', wM, wO⟩ := hI
      exact ⟨_, rfl, f, S', rfl, hS', wM, wO⟩
    · obtain ⟨f, S', h1, h2, wM, wO⟩ := hX
      refine ⟨_, rfl, _, rfl, ⟨f, S', v.2.2, by rw [h1], h2, wM, ?_⟩, ?_⟩
      · rcases wO with ⟨o1, o2, o3⟩ | o
        · exact Or.inr ⟨o1, by rw [o2]; exact o3⟩
        · exact Or.inl o.1
      · dsimp +instances only
        rw [hmS wM h2, hmS w hS, h1, if_neg (show ¬ nI 1 = 0 from by decide)]
        rcases wO with ⟨o1, o2, o3⟩ | ⟨o1, o2⟩
        · rw [o1, o2, if_pos (show nI 0 = 0 from rfl)]; omega
        · rw [o1, if_neg (show ¬ nI 1 = 0 from by decide)]; omega
  · rw [if_pos (show nI 0 = (0 : Int32) from rfl)]
    refine Or.inl ⟨_, rfl, fun c hc => ?_⟩
    show st c = _
    rw [hS c hc, w.done ha hpg hF hc]
theorem e7_fewestMore (n : Nat) (hn : 2000 ≤ n) {r steps : Nat → Int32} {q : Nat → Nat} {e : Nat → Int32} {b a : Nat} (hr : RM r q e) (hv : IV b q) (ha : a < 36) :
    ∃ v, fX7_fewestMore n (nI a) r steps = some v ∧ ∀ c, c < 36 → v c = nI (mdk (hp q) (gr q) a c) := by
  have mi : ∀ v, v ≤ 37 → (v < 37 → lvm (hp q) (gr q) a v a = true) → (gr q a = true → v ≤ 1) → (hp q a = true → v = 0) → MI (hp q) (gr q) a (upq (fun _ => 37) a v) := by
    intro v h1 h2 h3 h4
    refine ⟨fun c hc => ?_, fun h => by rw [upq_T rfl]; exact h3 h, fun h => by rw [upq_T rfl]; exact h4 h⟩
    by_cases e : c = a
    · subst e; rw [upq_T rfl]; exact ⟨h1, h2⟩
    · rw [upq_F (by omega)]; exact ⟨Nat.le_refl _, fun h => absurd h (by decide)⟩
  have sl : ∀ v, SL (upq (fun _ => 37) a v) (upd (fun i => if i < 36 then nI 37 else steps i) a (nI v)) := fun v => SL.up (fun c hc => if_pos hc) a v
  unfold fX7_fewestMore
  refine lpxb (fun k => (nI k, fun i => if i < k then nI 37 else steps i)) 36 (nI 36, fun i => if i < 36 then nI 37 else steps i) ?_ (fun k hk => ?_) rfl (by omega) ?_
  · have : (fun i => if i < 0 then nI 37 else steps i) = steps := funext fun i => if_neg (by omega)
    rw [this]; rfl
  · have eU : upd (fun i => if i < k then nI 37 else steps i) k (nI 37) = fun i => if i < k + 1 then nI 37 else steps i := by
      funext i
      by_cases e : i = k
      · subst e; rw [upd_T rfl, if_pos (by omega)]
      · rw [upd_F (by omega)]
        by_cases h : i < k
        · rw [if_pos h, if_pos (by omega)]
        · rw [if_neg h, if_neg (by omega)]
    dsimp +instances only
    rw [if_neg (Kle_F z_36 hk (by decide)), if_pos (vi_N hk (by decide)), nI_clamp (by omega), z_37, eU, z_1, nI_add]
  · dsimp +instances only
    rw [e7_isGrass n hr hv ha, Option.bind_some]
    by_cases h : q (13 + a) = 0
    · have hg := (gr_iff ha).mpr h
      rw [if_neg (b01_T h), e7_hasPath n hr hv ha, Option.bind_some, if_pos (vi_N ha (by decide)), if_pos (vi_N ha (by decide)), nI_clamp (by omega)]
      by_cases h2 : hp q a = true
      · rw [if_neg (b01_T h2)]
        obtain ⟨v, h3, h4⟩ := e7_fmL n hn hr hv ha (sl 0) (mi 0 (by decide) (fun _ => jn_self h2) (fun _ => by decide) (fun _ => rfl))
        rw [show nI 0 = (0 : Int32) from rfl] at h3
        rw [h3]; exact ⟨_, rfl, h4⟩
      · rw [if_pos (b01_F h2)]
        obtain ⟨v, h3, h4⟩ := e7_fmL n hn hr hv ha (sl 1) (mi 1 (by decide) (fun _ => clo_in (by rw [hg]; simp)) (fun _ => by decide) (fun h5 => absurd h5 h2))
        rw [show nI 1 = (1 : Int32) from rfl] at h3
        rw [h3]; exact ⟨_, rfl, h4⟩
    · have hg : ¬ gr q a = true := fun h1 => h ((gr_iff ha).mp h1)
      have h2 : ¬ hp q a = true := fun h1 => by
        have h3 := (hv.2.2.1 a ha).2.2 h
        have := (hp_36 h1).2; omega
      rw [if_pos (b01_F h), if_pos (vi_N ha (by decide)), nI_clamp (by omega)]
      obtain ⟨v, h3, h4⟩ := e7_fmL n hn (st := upd (fun i => if i < 36 then nI 37 else steps i) a (37 : Int32)) hr hv ha (sl 37) (mi 37 (by decide) (fun h5 => absurd h5 (by decide)) (fun h5 => absurd h5 hg) (fun h5 => absurd h5 h2))
      rw [h3]; exact ⟨_, rfl, h4⟩
