/-! texts: grounds, paths, items -/
def apI (q : Nat → Nat) (a b c d : Nat) : Nat → Nat := if a = 10 then gset q b c else if a = 11 then upq q (49 + b) c else qpl q a b c d
def okI (q : Nat → Nat) (a b c d : Nat) : Prop := b < 36 ∧ ((a = 10 ∧ c ≤ 2) ∨ (a = 11 ∧ c ≤ 99 ∧ q (13 + b) = 0) ∨ (a < 7 ∧ c < 4 ∧ d ≤ 999 ∧ q 1 < 8))
theorem apI_g {q : Nat → Nat} {b c d : Nat} : apI q 10 b c d = gset q b c := if_pos rfl
theorem apI_p {q : Nat → Nat} {b c d : Nat} : apI q 11 b c d = upq q (49 + b) c := by unfold apI; rw [if_neg (by decide), if_pos rfl]
theorem apI_s {q : Nat → Nat} {a b c d : Nat} (h : a < 7) : apI q a b c d = qpl q a b c d := by unfold apI; rw [if_neg (by omega), if_neg (by omega)]
theorem CP_gset (n : Nat) {p1_paths : Nat → Int32} {p1_water : Int64} {p1_wall : Int64} {p1_kind : Nat → Int32} {p1_place : Nat → Int32} {p1_facing : Nat → Int32} {p1_age : Nat → Int32} {p1_seeds : Int32} {p1_season : Int32} {p1_z : Int32} {p1_spots : Nat → Int32} {q : Nat → Nat} {e : Nat → Int32} {b c v : Nat} (kk : CP p1_paths p1_water p1_wall p1_kind p1_place p1_facing p1_age p1_seeds p1_season p1_z p1_spots q e) (hv : IV b q) (hc : c < 36) (h2 : v ≤ 2) :
    ∃ x, fX2_becomeGround n (nI c) (nI v) p1_paths p1_water p1_wall = some x ∧ CP x.1 x.2.1 x.2.2 p1_kind p1_place p1_facing p1_age p1_seeds p1_season p1_z p1_spots (gset q c v) e := by
  obtain ⟨k1, k2, k3, k4, k5, k6, k7, k8, k9, k10, k11⟩ := kk
  obtain ⟨x, x1, x2, x3, x4⟩ := e2_becomeGround n k1 k2 k3 hv hc h2
  have o : ∀ i, 85 ≤ i ∨ i < 13 → gset q c v i = q i := fun i hi => gset_o (by omega) (by omega)
  exact ⟨x, x1, x2, x3, x4, k4.eq fun s _ => o _ (by omega), k5.eq fun s _ => o _ (by omega), k6.eq fun s _ => o _ (by omega), k7.eq fun s _ => o _ (by omega), by rw [o 1 (by omega)]; exact k8, by rw [o 0 (by omega)]; exact k9, k10, k11⟩
theorem CP_path {p1_paths : Nat → Int32} {p1_water : Int64} {p1_wall : Int64} {p1_kind : Nat → Int32} {p1_place : Nat → Int32} {p1_facing : Nat → Int32} {p1_age : Nat → Int32} {p1_seeds : Int32} {p1_season : Int32} {p1_z : Int32} {p1_spots : Nat → Int32} {q : Nat → Nat} {e : Nat → Int32} (kk : CP p1_paths p1_water p1_wall p1_kind p1_place p1_facing p1_age p1_seeds p1_season p1_z p1_spots q e) (c v : Nat) (hc : c < 36) : CP (upd p1_paths c (nI v)) p1_water p1_wall p1_kind p1_place p1_facing p1_age p1_seeds p1_season p1_z p1_spots (upq q (49 + c) v) e := by
  obtain ⟨k1, k2, k3, k4, k5, k6, k7, k8, k9, k10, k11⟩ := kk
  exact ⟨k1.up c v, k2.skip _ _ (by omega), k3.skip _ _ (by omega), k4.eq fun s _ => upq_F (by omega), k5.eq fun s _ => upq_F (by omega), k6.eq fun s _ => upq_F (by omega), k7.eq fun s _ => upq_F (by omega), by rw [upq_F (by omega)]; exact k8, by rw [upq_F (by omega)]; exact k9, k10, k11⟩
theorem readGroundJ (n : Nat) (hn : 200 ≤ n) {mt tb : Nat → Int32} {B : Nat → Nat} {L st en : Nat} {s6 v6 s7 v7 : Int32} (h : BY tb mt B L) (hk : TK B L st en s6 v6 s7 v7) (hlt : st < en) {p1_paths : Nat → Int32} {p1_water : Int64} {p1_wall : Int64} {p1_kind : Nat → Int32} {p1_place : Nat → Int32} {p1_facing : Nat → Int32} {p1_age : Nat → Int32} {p1_seeds : Int32} {p1_season : Int32} {p1_z : Int32} {p1_spots : Nat → Int32} {q : Nat → Nat} {e : Nat → Int32} {b g m : Nat} (kk : CP p1_paths p1_water p1_wall p1_kind p1_place p1_facing p1_age p1_seeds p1_season p1_z p1_spots q e) (hv : IV b q) (hg : g < 3) (hm : m < 120) (items gt : Nat → Int32) (hgt : ∀ c, c < 36 → gt c = nI (q (13 + c))) :
    (∃ (st' en' : Nat) (s6' v6' s7' v7' : Int32) (c : Nat) (X : (Nat → Int32) × Int64 × Int64) (gt' : Nat → Int32), c < 36 ∧ TK B L st' en' s6' v6' s7' v7' ∧ st + 2 ≤ st' ∧
      fX1_readGround n (nI g) p1_paths p1_water p1_wall tb (nI L) s6 (nI st) (nI en) v6 = some ((1 : Int32), X.1, X.2.1, X.2.2, s6', nI st', nI en', v6') ∧
      CP X.1 X.2.1 X.2.2 p1_kind p1_place p1_facing p1_age p1_seeds p1_season p1_z p1_spots (gset q c g) e ∧ (∀ i, i < 36 → gt' i = nI (gset q c g (13 + i))) ∧
      fX7_readGround n (nI g) mt (nI L) (nI st) (nI en) s7 v7 (0 : Int32) items (nI m) gt = some (nI st', nI en', s7', v7', (0 : Int32), it4 items m (nI 10) (nI c) (nI g) (nI 0), nI (m + 1), gt')) ∨
    (∃ (f : Nat) (R6 : Int32 × (Nat → Int32) × Int64 × Int64 × Int32 × Int32 × Int32 × Int32) (R7 : Int32 × Int32 × Int32 × Int32 × Int32 × (Nat → Int32) × Int32 × (Nat → Int32)), f ≤ L ∧
      fX1_readGround n (nI g) p1_paths p1_water p1_wall tb (nI L) s6 (nI st) (nI en) v6 = some R6 ∧ R6.1 = 0 ∧ R6.2.2.2.2.2.1 = nI f ∧
      fX7_readGround n (nI g) mt (nI L) (nI st) (nI en) s7 v7 (0 : Int32) items (nI m) gt = some R7 ∧ R7.1 = nI f ∧ R7.2.2.2.2.1 = 1) := by
  have heL := hk.2.1
  have hI := e7_item n hm items
  obtain ⟨st1, en1, s61, v61, s71, v71, n6, n7, hst1, hk1⟩ := nextJ n hn h heL s6 (nI st) v6 (nI st) s7 v7
  have heL1 := hk1.2.1
  have hle1 := hk1.1
  rcases numJ n (mt := mt) hk1 35 z_35 (by decide) with ⟨c, hc, rfl, rfl, hs71, hlt1, m6, m7⟩ | ⟨-, m6, m7⟩
  · obtain ⟨st2, en2, s62, v62, s72, v72, n62, n72, hst2, hk2⟩ := nextJ n hn h heL1 s61 (nI st1) (nI c) (nI st1) s71 (nI c)
    obtain ⟨x, x1, x2⟩ := CP_gset n kk hv (show c < 36 by omega) (show g ≤ 2 by omega)
    have v1 : vi (nI c) 36 := vi_N (by omega) (by decide)
    refine Or.inl ⟨st2, en2, s62, v62, s72, v72, c, x, upd gt c (nI g), by omega, hk2, by omega, ?_, x2, fun i hi => ?_, ?_⟩
    · simp only [fX1_readGround, n6, m6, x1, n62, Option.bind_some, Option.elim_some, Option.elim_none, t10, t00, if_true, if_false]
    · by_cases e : i = c
      · subst e; rw [upd_T rfl, gset_c]
      · rw [upd_F (by omega), gset_o (by omega) (by omega)]; exact hgt i hi
    · simp only [fX7_readGround, must1, n7, m7, n72, o00, hI, if_pos v1, nI_clamp (show c < 2 ^ 31 by omega), Option.bind_some, Option.elim_some, Option.elim_none, t10, t00, if_true, if_false]; rfl
  · refine Or.inr ⟨st1, ?_⟩
    simp only [fX1_readGround, fX7_readGround, must1, n6, n7, m6, m7, o10, hI, Option.bind_some, Option.elim_some, Option.elim_none, t10, t00, if_true, if_false]
    exact ⟨_, _, by omega, rfl, rfl, rfl, rfl, rfl, rfl⟩
theorem fs_T {p : Nat → Bool} {n : Nat} (h : fs p n < n) : p (fs p n) = true := fs_yes p n h
theorem wrd_lt {B : Nat → Nat} {L st en : Nat} {s6 v6 s7 v7 : Int32} (hk : TK B L st en s6 v6 s7 v7) {tb : Nat → Int32} {i : Nat} (hw : wrd tb s6 st en i = true) : st < en := by
  unfold wrd at hw
  simp only [Bool.and_eq_true, decide_eq_true_eq] at hw
  have h1 := hw.1
  have d : ∀ a, a < 5 → (nI a = nI 1 ↔ a = 1) := fun a ha => nI_eq (by omega) (by omega)
  rcases hk.2.2 with ⟨h4, -⟩ | ⟨-, -, -, -, h4⟩ | ⟨h4, -⟩ | ⟨h4, -⟩ | ⟨h4, -⟩
  · rw [h4] at h1; exact absurd ((d 0 (by decide)).mp h1) (by decide)
  · exact h4
  · rw [h4] at h1; exact absurd ((d 2 (by decide)).mp h1) (by decide)
  · rw [h4] at h1; exact absurd ((d 3 (by decide)).mp h1) (by decide)
  · rw [h4] at h1; exact absurd ((d 4 (by decide)).mp h1) (by decide)
theorem readItemJ (n : Nat) (hn : 200 ≤ n) {mt tb : Nat → Int32} {B : Nat → Nat} {L st en : Nat} {s6 v6 s7 v7 : Int32} (h : BY tb mt B L) (hk : TK B L st en s6 v6 s7 v7) {p1_paths : Nat → Int32} {p1_water : Int64} {p1_wall : Int64} {p1_kind : Nat → Int32} {p1_place : Nat → Int32} {p1_facing : Nat → Int32} {p1_age : Nat → Int32} {p1_seeds : Int32} {p1_season : Int32} {p1_z : Int32} {p1_spots : Nat → Int32} {q : Nat → Nat} {e : Nat → Int32} {b m : Nat} (kk : CP p1_paths p1_water p1_wall p1_kind p1_place p1_facing p1_age p1_seeds p1_season p1_z p1_spots q e) (hv : IV b q) (hm : m < 120) (items gt : Nat → Int32) (hgt : ∀ c, c < 36 → gt c = nI (q (13 + c))) :
    (∃ (st' en' : Nat) (s6' v6' s7' v7' : Int32) (a c d o : Nat) (X : (Nat → Int32) × Int64 × Int64 × (Nat → Int32) × (Nat → Int32) × (Nat → Int32) × (Nat → Int32) × Int32) (gt' : Nat → Int32), okI q a c d o ∧ TK B L st' en' s6' v6' s7' v7' ∧ st + 2 ≤ st' ∧
      fX1_readItem n p1_paths p1_water p1_wall p1_kind p1_place p1_facing p1_age p1_seeds tb (nI L) s6 (nI st) (nI en) v6 = some ((1 : Int32), X.1, X.2.1, X.2.2.1, X.2.2.2.1, X.2.2.2.2.1, X.2.2.2.2.2.1, X.2.2.2.2.2.2.1, X.2.2.2.2.2.2.2, s6', nI st', nI en', v6') ∧
      CP X.1 X.2.1 X.2.2.1 X.2.2.2.1 X.2.2.2.2.1 X.2.2.2.2.2.1 X.2.2.2.2.2.2.1 X.2.2.2.2.2.2.2 p1_season p1_z p1_spots (apI q a c d o) e ∧ (∀ i, i < 36 → gt' i = nI (apI q a c d o (13 + i))) ∧
      fX7_readItem n mt (nI L) (nI st) (nI en) s7 v7 (0 : Int32) items (nI m) (nI (q 1)) gt = some (nI st', nI en', s7', v7', (0 : Int32), it4 items m (nI a) (nI c) (nI d) (nI o), nI (m + 1), nI (apI q a c d o 1), gt')) ∨
    (∃ (f : Nat) (R6 : Int32 × (Nat → Int32) × Int64 × Int64 × (Nat → Int32) × (Nat → Int32) × (Nat → Int32) × (Nat → Int32) × Int32 × Int32 × Int32 × Int32 × Int32) (R7 : Int32 × Int32 × Int32 × Int32 × Int32 × (Nat → Int32) × Int32 × Int32 × (Nat → Int32)), f ≤ L ∧
      fX1_readItem n p1_paths p1_water p1_wall p1_kind p1_place p1_facing p1_age p1_seeds tb (nI L) s6 (nI st) (nI en) v6 = some R6 ∧ R6.1 = 0 ∧ R6.2.2.2.2.2.2.2.2.2.2.1 = nI f ∧
      fX7_readItem n mt (nI L) (nI st) (nI en) s7 v7 (0 : Int32) items (nI m) (nI (q 1)) gt = some R7 ∧ R7.1 = nI f ∧ R7.2.2.2.2.1 = 1) := by
  have heL := hk.2.1
  have hle := hk.1
  have hI := e7_item n hm items
  have a6 := kindJ n hn h hk
  have a7 := wordOfJ n hn h hk 0 7 (by decide)
  have b6 := groundJ n hn h hk
  have b7 := wordOfJ n hn h hk 7 3 (by decide)
  have hfa : fs (fun k => wrd tb s6 st en (0 + k)) 7 < 7 → st < en := fun hf => wrd_lt hk (fs_T (p := fun k => wrd tb s6 st en (0 + k)) hf)
  have hfb : fs (fun k => wrd tb s6 st en (7 + k)) 3 < 3 → st < en := fun hf => wrd_lt hk (fs_T (p := fun k => wrd tb s6 st en (7 + k)) hf)
  generalize fs (fun k => wrd tb s6 st en (0 + k)) 7 = fa at a6 a7 hfa
  generalize fs (fun k => wrd tb s6 st en (7 + k)) 3 = fb at b6 b7 hfb
  by_cases ha : fa < 7
  · have na : (opw fa 7 < 0) = False := by rw [opw_neg (by decide)]; exact eq_false (fun h => h ha)
    rcases readSeedJ n hn h hk (hfa ha) kk hv ha hm items with ⟨st', en', s6', v6', s7', v7', c, hd, a, X, h1, h2, h3, h4, h5, h6, h7, h8, h9⟩ | ⟨f, R6, R7, h1, h2, h3, h4, h5, h6, h7⟩
    · refine Or.inl ⟨st', en', s6', v6', s7', v7', fa, c, hd, a, ⟨p1_paths, p1_water, p1_wall, X.1, X.2.1, X.2.2.1, X.2.2.2.1, X.2.2.2.2⟩, gt, ⟨h1, Or.inr (Or.inr ⟨ha, h2, h3, h4⟩)⟩, h5, h6, ?_, ?_, fun i hi => ?_, ?_⟩
      · rw [← opw_T ha] at h7
        simp only [fX1_readItem, a6, na, h7, Option.bind_some, Option.elim_some, Option.elim_none, t10, t00, if_true, if_false]
      · rw [apI_s ha]; exact h8
      · rw [apI_s ha, hgt i hi]; unfold qpl; rw [upq_F (by omega), upq_F (by omega), upq_F (by omega), upq_F (by omega), upq_F (by omega)]
      · have h9' := h9
        rw [← opw_T ha] at h9'
        have hq1 : apI q fa c hd a 1 = q 1 + 1 := by rw [apI_s ha]; unfold qpl; rw [upq_T rfl]
        simp only [fX7_readItem, a7, b7, na, h9', hq1, Option.bind_some, Option.elim_some, Option.elim_none, t10, t00, if_true, if_false]
        rw [opw_T ha]
    · rw [← opw_T ha] at h2 h5
      refine Or.inr ⟨f, ?_⟩
      simp only [fX1_readItem, fX7_readItem, a6, a7, b7, na, h2, h5, Option.bind_some, Option.elim_some, Option.elim_none, t10, t00, if_true, if_false]
      exact ⟨_, _, h1, rfl, h3, h4, rfl, h6, h7⟩
  · have na : (opw fa 7 < 0) = True := by rw [opw_neg (by decide)]; exact eq_true ha
    by_cases hb : fb < 3
    · have nb : (opw fb 3 < 0) = False := by rw [opw_neg (by decide)]; exact eq_false (fun h => h hb)
      rcases readGroundJ n hn h hk (hfb hb) kk hv hb hm items gt hgt with ⟨st', en', s6', v6', s7', v7', c, X, gt', h1, h5, h6, h7, h8, h10, h9⟩ | ⟨f, R6, R7, h1, h2, h3, h4, h5, h6, h7⟩
      · refine Or.inl ⟨st', en', s6', v6', s7', v7', 10, c, fb, 0, ⟨X.1, X.2.1, X.2.2, p1_kind, p1_place, p1_facing, p1_age, p1_seeds⟩, gt', ⟨h1, Or.inl ⟨rfl, by omega⟩⟩, h5, h6, ?_, ?_, ?_, ?_⟩
        · rw [← opw_T hb] at h7
          simp only [fX1_readItem, a6, b6, na, nb, h7, Option.bind_some, Option.elim_some, Option.elim_none, t10, t00, if_true, if_false]
        · rw [apI_g]; exact h8
        · rw [apI_g]; exact h10
        · have h9' := h9
          rw [← opw_T hb] at h9'
          have hq1 : apI q 10 c fb 0 1 = q 1 := by rw [apI_g]; exact gset_o (by omega) (by omega)
          simp only [fX7_readItem, a7, b7, na, nb, h9', hq1, Option.bind_some, Option.elim_some, Option.elim_none, t10, t00, if_true, if_false]
          rw [opw_T hb]
      · rw [← opw_T hb] at h2 h5
        refine Or.inr ⟨f, ?_⟩
        simp only [fX1_readItem, fX7_readItem, a6, a7, b6, b7, na, nb, h2, h5, Option.bind_some, Option.elim_some, Option.elim_none, t10, t00, if_true, if_false]
        exact ⟨_, _, h1, rfl, h3, h4, rfl, h6, h7⟩
    · have nb : (opw fb 3 < 0) = True := by rw [opw_neg (by decide)]; exact eq_true hb
      obtain ⟨w6, w7⟩ := wordJ n hn h hk (show 14 < 16 by decide)
      by_cases hw : wrd tb s6 st en 14 = true
      · rw [if_pos hw] at w6 w7
        have hlt := wrd_lt hk hw
        obtain ⟨st1, en1, s61, v61, s71, v71, n6, n7, hst1, hk1⟩ := nextJ n hn h heL s6 (nI st) v6 (nI st) s7 v7
        have heL1 := hk1.2.1
        have hle1 := hk1.1
        rw [show nI 1 = (1 : Int32) from rfl] at w7
        rcases numJ n (mt := mt) hk1 35 z_35 (by decide) with ⟨c, hc, rfl, rfl, hs71, hlt1, m6, m7⟩ | ⟨hbad, m6, m7⟩
        · have kk0 := kk
          obtain ⟨k1, k2, k3, -⟩ := kk0
          have hc36 : c < 36 := by omega
          have g6 := e2_isGrass n k2 k3 hv hc36
          have ic := e7_isCell n hc36
          have v1 : vi (nI c) 36 := vi_N (by omega) (by decide)
          have t2 : (s71 = 2) = True := eq_true hs71
          by_cases hg : q (13 + c) = 0
          · rw [if_pos hg] at g6
            have gc : (gt c = 0) = True := by rw [hgt c hc36, hg]; exact eq_true rfl
            obtain ⟨st2, en2, s62, v62, s72, v72, n62, n72, hst2, hk2⟩ := nextJ n hn h heL1 s61 (nI st1) (nI c) (nI st1) s71 (nI c)
            have heL2 := hk2.2.1
            have hle2 := hk2.1
            rcases numJ n (mt := mt) hk2 99 z_99 (by decide) with ⟨o, ho, rfl, rfl, hs72, hlt2, m62, m72⟩ | ⟨-, m62, m72⟩
            · obtain ⟨st3, en3, s63, v63, s73, v73, n63, n73, hst3, hk3⟩ := nextJ n hn h heL2 s62 (nI st2) (nI o) (nI st2) s72 (nI o)
              have hb := e2_becomePath n (v := nI o) (paths := p1_paths) k2 k3 hv hc36
              rw [if_pos hg] at hb
              have hq1 : apI q 11 c o 0 1 = q 1 := by rw [apI_p]; exact upq_F (by omega)
              refine Or.inl ⟨st3, en3, s63, v63, s73, v73, 11, c, o, 0, ⟨upd p1_paths c (nI o), p1_water, p1_wall, p1_kind, p1_place, p1_facing, p1_age, p1_seeds⟩, gt, ⟨hc36, Or.inr (Or.inl ⟨rfl, ho, hg⟩)⟩, hk3, by omega, ?_, ?_, fun i hi => ?_, ?_⟩
              · simp only [fX1_readItem, fX1_readPath, a6, b6, na, nb, w6, n6, m6, g6, n62, m62, hb, n63, o10, Option.bind_some, Option.elim_some, Option.elim_none, t10, t00, if_true, if_false]
              · rw [apI_p]; exact CP_path kk c o hc36
              · rw [apI_p, upq_F (by omega)]; exact hgt i hi
              · simp only [fX7_readItem, a7, b7, na, nb, w7, must1, n7, t2, ic, if_pos v1, nI_clamp (show c < 2 ^ 31 by omega), gc, n72, m72, n73, hI, hq1, Option.bind_some, Option.elim_some, Option.elim_none, t10, t00, if_true, if_false]; rfl
            · refine Or.inr ⟨st2, ?_⟩
              simp only [fX1_readItem, fX1_readPath, a6, b6, na, nb, w6, n6, m6, g6, n62, m62, o10, o00, fX7_readItem, a7, b7, w7, must1, n7, t2, ic, if_pos v1, nI_clamp (show c < 2 ^ 31 by omega), gc, n72, m72, hI, Option.bind_some, Option.elim_some, Option.elim_none, t10, t00, if_true, if_false]
              exact ⟨_, _, by omega, rfl, rfl, rfl, rfl, rfl, rfl⟩
          · rw [if_neg hg] at g6
            have gc : (gt c = 0) = False := by rw [hgt c hc36]; exact eq_false (nIneK z_0 hg (by have := (hv.2.2.1 c hc36).2.1; omega) (by decide))
            refine Or.inr ⟨st1, ?_⟩
            simp only [fX1_readItem, fX1_readPath, a6, b6, na, nb, w6, n6, m6, g6, o10, o00, fX7_readItem, a7, b7, w7, must1, must0, numberW, n7, t2, ic, if_pos v1, nI_clamp (show c < 2 ^ 31 by omega), gc, hI, Option.bind_some, Option.elim_some, Option.elim_none, t10, t00, if_true, if_false]
            exact ⟨_, _, by omega, rfl, rfl, rfl, rfl, rfl, rfl⟩
        · refine Or.inr ⟨st1, ?_⟩
          by_cases h2 : s71 = 2
          · obtain ⟨v, hv1, hv2, rfl⟩ := hbad h2
            have t2 : (s71 = 2) = True := eq_true h2
            have ic := e7_isCellB n (a := nI v) (Or.inr (nI_le (by omega) (by omega)))
            simp only [fX1_readItem, fX1_readPath, a6, b6, na, nb, w6, n6, m6, o10, o00, fX7_readItem, a7, b7, w7, must1, must0, numberW, n7, t2, ic, hI, Option.bind_some, Option.elim_some, Option.elim_none, t10, t00, if_true, if_false]
            exact ⟨_, _, by omega, rfl, rfl, rfl, rfl, rfl, rfl⟩
          · have t2 : (s71 = 2) = False := eq_false h2
            simp only [fX1_readItem, fX1_readPath, a6, b6, na, nb, w6, n6, m6, o10, o00, fX7_readItem, a7, b7, w7, must1, must0, numberW, n7, t2, hI, Option.bind_some, Option.elim_some, Option.elim_none, t10, t00, if_true, if_false]
            exact ⟨_, _, by omega, rfl, rfl, rfl, rfl, rfl, rfl⟩
      · rw [if_neg hw] at w6 w7
        rw [show nI 0 = (0 : Int32) from rfl] at w7
        refine Or.inr ⟨st, ?_⟩
        by_cases h2 : s7 = 2
        · have t2 : (s7 = 2) = True := eq_true h2
          rcases ce n v7 with ⟨j, hj, rfl, -, ic⟩ | ⟨-, -, ic⟩
          · have v1 : vi (nI j) 36 := vi_N (by omega) (by decide)
            by_cases hg : gt j = 0
            · have gc : (gt j = 0) = True := eq_true hg
              simp only [fX1_readItem, a6, b6, na, nb, w6, o10, o00, fX7_readItem, a7, b7, w7, must0, mustW, numberW, t2, ic, if_pos v1, nI_clamp (show j < 2 ^ 31 by omega), gc, hI, Option.bind_some, Option.elim_some, Option.elim_none, t10, t00, if_true, if_false]
              exact ⟨_, _, by omega, rfl, rfl, rfl, rfl, rfl, rfl⟩
            · have gc : (gt j = 0) = False := eq_false hg
              simp only [fX1_readItem, a6, b6, na, nb, w6, o10, o00, fX7_readItem, a7, b7, w7, must0, mustW, numberW, t2, ic, if_pos v1, nI_clamp (show j < 2 ^ 31 by omega), gc, hI, Option.bind_some, Option.elim_some, Option.elim_none, t10, t00, if_true, if_false]
              exact ⟨_, _, by omega, rfl, rfl, rfl, rfl, rfl, rfl⟩
          · simp only [fX1_readItem, a6, b6, na, nb, w6, o10, o00, fX7_readItem, a7, b7, w7, must0, mustW, numberW, t2, ic, hI, Option.bind_some, Option.elim_some, Option.elim_none, t10, t00, if_true, if_false]
            exact ⟨_, _, by omega, rfl, rfl, rfl, rfl, rfl, rfl⟩
        · have t2 : (s7 = 2) = False := eq_false h2
          simp only [fX1_readItem, a6, b6, na, nb, w6, o10, o00, fX7_readItem, a7, b7, w7, must0, mustW, numberW, t2, hI, Option.bind_some, Option.elim_some, Option.elim_none, t10, t00, if_true, if_false]
          exact ⟨_, _, by omega, rfl, rfl, rfl, rfl, rfl, rfl⟩
