/-! BASE: what the two objects hold, as cells; rows for calls -/
abbrev PK : Type := (Nat → Int32) × Int64 × Int64 × (Nat → Int32) × (Nat → Int32) × (Nat → Int32) × (Nat → Int32) × Int32 × Int32 × Int32 × (Nat → Int32)
abbrev TP : Type := (Nat → Int32) × Int32 × Int32 × Int32 × Int32 × Int32
abbrev SH : Type := (Nat → Nat → Int32) × (Nat → Int32) × (Nat → Int32)
abbrev CS : Type := (Nat → PK) × Int32 × TP × SH × (Nat → Int32)
abbrev GC : Type := va_G × (ClassId × ClassId × ClassId) × (Nat → Nat) × (Nat → Nat) × (Nat → Nat)
abbrev ga (g : GC) (i : Nat) : Nat := g.2.2.1 i
abbrev gK (g : GC) (i : Nat) : Nat := g.2.2.2.1 i
abbrev gV (g : GC) (i : Nat) : Nat := g.2.2.2.2 i
def pkZ : PK := (fun _ => 0, 0, 0, fun _ => 0, fun _ => 0, fun _ => 0, fun _ => 0, 0, 0, 0, fun _ => 0)
def pk3 (a b c : PK) : Nat → PK := fun k => match k with
  | 0 => a
  | 1 => b
  | 2 => c
  | _ => pkZ
def updN (f : Nat → Nat → Int32) (k : Nat) (x : Nat → Int32) : Nat → Nat → Int32 := fun j => if j = k then x else f j
abbrev cSP (g : GC) (x : Int32) : va_E := .inr (4, [.ref (ga g 1), .ref (ga g 2), .ref (ga g 3), .int x, .ref (ga g 4), .ref (ga g 6), .ref (ga g 5)])
abbrev cPK (g : GC) (k : Nat) (P : PK) : va_E := .inr (0, [.ref (ga g (16 + k)), .long P.2.1, .long P.2.2.1, .ref (ga g (19 + k)), .int P.2.2.2.2.2.2.2.1, .int P.2.2.2.2.2.2.2.2.1, .int P.2.2.2.2.2.2.2.2.2.1, .ref (ga g (22 + k))])
abbrev cTP (g : GC) (t : TP) : va_E := .inr (3, [.ref (ga g 7), .int t.2.1, .int t.2.2.1, .int t.2.2.2.1, .int t.2.2.2.2.1, .int t.2.2.2.2.2])
abbrev cIA (g : GC) (n : Nat) (f : Nat → Int32) : va_E := .inl (g.2.1.1, n, .inl f)
abbrev cSW (g : GC) (k : Nat) : va_E := .inl (g.2.1.2.1, 8, .inr (.inr (.inr (.inr (fun j => some (ga g (25 + 8 * k + j)))))))
abbrev cSA (g : GC) : va_E := .inl (g.2.1.2.2, 4, .inr (.inr (.inr (.inr (fun j => some (ga g (8 + j)))))))
abbrev cSD (P : PK) (j : Nat) : va_E := .inr (1, [.int (P.2.2.2.1 j), .int (P.2.2.2.2.1 j), .int (P.2.2.2.2.2.1 j), .int (P.2.2.2.2.2.2.1 j)])
abbrev cSH (g : GC) (h : SH) (j : Nat) : va_E := .inr (2, [.ref (ga g (12 + j)), .int (h.2.1 j), .int (h.2.2 j)])
def cwl (g : GC) (P Q R : PK) (r : Int32 × TP × SH × (Nat → Int32)) : va_W := [(ga g 0, cSP g r.1), (ga g 1, cPK g 0 P), (ga g 2, cPK g 1 Q), (ga g 3, cPK g 2 R), (ga g 4, cTP g r.2.1), (ga g 5, cIA g 7 r.2.2.2), (ga g 6, cSA g), (ga g 7, cIA g 120 r.2.1.1), (ga g 8, cSH g r.2.2.1 0), (ga g 9, cSH g r.2.2.1 1), (ga g 10, cSH g r.2.2.1 2), (ga g 11, cSH g r.2.2.1 3), (ga g 12, cIA g 40 (r.2.2.1.1 0)), (ga g 13, cIA g 40 (r.2.2.1.1 1)), (ga g 14, cIA g 40 (r.2.2.1.1 2)), (ga g 15, cIA g 40 (r.2.2.1.1 3)), (ga g 16, cIA g 36 P.1), (ga g 17, cIA g 36 Q.1), (ga g 18, cIA g 36 R.1), (ga g 19, cSW g 0), (ga g 20, cSW g 1), (ga g 21, cSW g 2), (ga g 22, cIA g 10 P.2.2.2.2.2.2.2.2.2.2), (ga g 23, cIA g 10 Q.2.2.2.2.2.2.2.2.2.2), (ga g 24, cIA g 10 R.2.2.2.2.2.2.2.2.2.2), (ga g 25, cSD P 0), (ga g 26, cSD P 1), (ga g 27, cSD P 2), (ga g 28, cSD P 3), (ga g 29, cSD P 4), (ga g 30, cSD P 5), (ga g 31, cSD P 6), (ga g 32, cSD P 7), (ga g 33, cSD Q 0), (ga g 34, cSD Q 1), (ga g 35, cSD Q 2), (ga g 36, cSD Q 3), (ga g 37, cSD Q 4), (ga g 38, cSD Q 5), (ga g 39, cSD Q 6), (ga g 40, cSD Q 7), (ga g 41, cSD R 0), (ga g 42, cSD R 1), (ga g 43, cSD R 2), (ga g 44, cSD R 3), (ga g 45, cSD R 4), (ga g 46, cSD R 5), (ga g 47, cSD R 6), (ga g 48, cSD R 7)]
def cw (g : GC) (σ : CS) : va_W := cwl g (σ.1 0) (σ.1 1) (σ.1 2) σ.2
/-- the world as a function of one park, of the tape, of the sheets: the rest stays -/
def zP (k : Nat) (S : PK → CS) : Prop := (∀ P, (S P).1 k = P) ∧ (∀ P P' j, j ≠ k → (S P).1 j = (S P').1 j) ∧ ∀ P P', (S P).2 = (S P').2
def zT (S : TP → CS) : Prop := ∀ T T', (S T).2.2.1 = T ∧ (S T).1 = (S T').1 ∧ (S T).2.1 = (S T').2.1 ∧ (S T).2.2.2 = (S T').2.2.2
def zH (S : SH → CS) : Prop := ∀ T T', (S T).2.2.2.1 = T ∧ (S T).1 = (S T').1 ∧ (S T).2.1 = (S T').2.1 ∧ (S T).2.2.1 = (S T').2.2.1 ∧ (S T).2.2.2.2 = (S T').2.2.2.2
theorem zP0 {b c : PK} {r : Int32 × TP × SH × (Nat → Int32)} : zP 0 (fun P => (pk3 P b c, r)) := ⟨fun _ => rfl, fun _ _ j h => by
  match j, h with
  | 1, _ => rfl
  | 2, _ => rfl
  | j + 3, _ => rfl, fun _ _ => rfl⟩
theorem zP1 {a c : PK} {r : Int32 × TP × SH × (Nat → Int32)} : zP 1 (fun P => (pk3 a P c, r)) := ⟨fun _ => rfl, fun _ _ j h => by
  match j, h with
  | 0, _ => rfl
  | 2, _ => rfl
  | j + 3, _ => rfl, fun _ _ => rfl⟩
theorem zP2 {a b : PK} {r : Int32 × TP × SH × (Nat → Int32)} : zP 2 (fun P => (pk3 a b P, r)) := ⟨fun _ => rfl, fun _ _ j h => by
  match j, h with
  | 0, _ => rfl
  | 1, _ => rfl
  | j + 3, _ => rfl, fun _ _ => rfl⟩
theorem zT0 {F : Nat → PK} {x : Int32} {h : SH} {t : Nat → Int32} : zT (fun T => (F, x, T, h, t)) := fun _ _ => ⟨rfl, rfl, rfl, rfl⟩
theorem zH0 {F : Nat → PK} {x : Int32} {T : TP} {t : Nat → Int32} : zH (fun h => (F, x, T, h, t)) := fun _ _ => ⟨rfl, rfl, rfl, rfl, rfl⟩
theorem lt3 {k : Nat} (h : k < 3) : k = 0 ∨ k = 1 ∨ k = 2 := by omega
theorem lt4 {k : Nat} (h : k < 4) : k = 0 ∨ k = 1 ∨ k = 2 ∨ k = 3 := by omega
theorem lt8 {k : Nat} (h : k < 8) : k = 0 ∨ k = 1 ∨ k = 2 ∨ k = 3 ∨ k = 4 ∨ k = 5 ∨ k = 6 ∨ k = 7 := by omega
/-! places -/
theorem q_sp {g : GC} {σ : CS} : (cw g σ)[0]? = some (ga g 0, cSP g σ.2.1) := rfl
theorem q_tp {g : GC} {σ : CS} : (cw g σ)[4]? = some (ga g 4, cTP g σ.2.2.1) := rfl
theorem q_told {g : GC} {σ : CS} : (cw g σ)[5]? = some (ga g 5, cIA g 7 σ.2.2.2.2) := rfl
theorem q_sa {g : GC} {σ : CS} : (cw g σ)[6]? = some (ga g 6, cSA g) := rfl
theorem q_by {g : GC} {σ : CS} : (cw g σ)[7]? = some (ga g 7, cIA g 120 σ.2.2.1.1) := rfl
theorem q_sh {g : GC} {σ : CS} {j : Nat} (h : j < 4) : (cw g σ)[8 + j]? = some (ga g (8 + j), cSH g σ.2.2.2.1 j) := by
  rcases lt4 h with rfl | rfl | rfl | rfl <;> rfl
theorem q_nu {g : GC} {σ : CS} {j : Nat} (h : j < 4) : (cw g σ)[12 + j]? = some (ga g (12 + j), cIA g 40 (σ.2.2.2.1.1 j)) := by
  rcases lt4 h with rfl | rfl | rfl | rfl <;> rfl
theorem q_pk {g : GC} {σ : CS} {k : Nat} (h : k < 3) : (cw g σ)[1 + k]? = some (ga g (1 + k), cPK g k (σ.1 k)) := by
  rcases lt3 h with rfl | rfl | rfl <;> rfl
theorem q_pa {g : GC} {σ : CS} {k : Nat} (h : k < 3) : (cw g σ)[16 + k]? = some (ga g (16 + k), cIA g 36 (σ.1 k).1) := by
  rcases lt3 h with rfl | rfl | rfl <;> rfl
theorem q_sw {g : GC} {σ : CS} {k : Nat} (h : k < 3) : (cw g σ)[19 + k]? = some (ga g (19 + k), cSW g k) := by
  rcases lt3 h with rfl | rfl | rfl <;> rfl
theorem q_so {g : GC} {σ : CS} {k : Nat} (h : k < 3) : (cw g σ)[22 + k]? = some (ga g (22 + k), cIA g 10 (σ.1 k).2.2.2.2.2.2.2.2.2.2) := by
  rcases lt3 h with rfl | rfl | rfl <;> rfl
theorem q_sd {g : GC} {σ : CS} {k j : Nat} (h : k < 3) (hj : j < 8) : (cw g σ)[25 + 8 * k + j]? = some (ga g (25 + 8 * k + j), cSD (σ.1 k) j) := by
  rcases lt3 h with rfl | rfl | rfl <;> rcases lt8 hj with rfl | rfl | rfl | rfl | rfl | rfl | rfl | rfl <;> rfl
theorem p_pk {g : GC} {k : Nat} {S : PK → CS} (hL : zP k S) (h : k < 3) (P : PK) : (cw g (S P))[1 + k]? = some (ga g (1 + k), cPK g k P) := by rw [q_pk h, hL.1]
theorem p_pa {g : GC} {k : Nat} {S : PK → CS} (hL : zP k S) (h : k < 3) (P : PK) : (cw g (S P))[16 + k]? = some (ga g (16 + k), cIA g 36 P.1) := by rw [q_pa h, hL.1]
theorem p_so {g : GC} {k : Nat} {S : PK → CS} (hL : zP k S) (h : k < 3) (P : PK) : (cw g (S P))[22 + k]? = some (ga g (22 + k), cIA g 10 P.2.2.2.2.2.2.2.2.2.2) := by rw [q_so h, hL.1]
theorem p_sd {g : GC} {k j : Nat} {S : PK → CS} (hL : zP k S) (h : k < 3) (hj : j < 8) (P : PK) : (cw g (S P))[25 + 8 * k + j]? = some (ga g (25 + 8 * k + j), cSD P j) := by rw [q_sd h hj, hL.1]
theorem p_tp {g : GC} {S : TP → CS} (hL : zT S) (T : TP) : (cw g (S T))[4]? = some (ga g 4, cTP g T) := by rw [q_tp, (hL T T).1]
theorem p_by {g : GC} {S : TP → CS} (hL : zT S) (T : TP) : (cw g (S T))[7]? = some (ga g 7, cIA g 120 T.1) := by rw [q_by, (hL T T).1]
theorem p_sh {g : GC} {j : Nat} {S : SH → CS} (hL : zH S) (hj : j < 4) (T : SH) : (cw g (S T))[8 + j]? = some (ga g (8 + j), cSH g T j) := by rw [q_sh hj, (hL T T).1]
theorem p_nu {g : GC} {j : Nat} {S : SH → CS} (hL : zH S) (hj : j < 4) (T : SH) : (cw g (S T))[12 + j]? = some (ga g (12 + j), cIA g 40 (T.1 j)) := by rw [q_nu hj, (hL T T).1]
theorem zT.at {S : TP → CS} (h : zT S) (T : TP) : (S T).2.2.1 = T := (h T T).1
theorem zH.at {S : SH → CS} (h : zH S) (T : SH) : (S T).2.2.2.1 = T := (h T T).1
theorem e_pk {g : GC} {σ : CS} {k : Nat} {Q : PK} (h : k < 3) (e : σ.1 k = Q) : (cw g σ)[1 + k]? = some (ga g (1 + k), cPK g k Q) := by rw [q_pk h, e]
theorem e_pa {g : GC} {σ : CS} {k : Nat} {Q : PK} (h : k < 3) (e : σ.1 k = Q) : (cw g σ)[16 + k]? = some (ga g (16 + k), cIA g 36 Q.1) := by rw [q_pa h, e]
theorem e_so {g : GC} {σ : CS} {k : Nat} {Q : PK} (h : k < 3) (e : σ.1 k = Q) : (cw g σ)[22 + k]? = some (ga g (22 + k), cIA g 10 Q.2.2.2.2.2.2.2.2.2.2) := by rw [q_so h, e]
theorem e_sd {g : GC} {σ : CS} {k j : Nat} {Q : PK} (h : k < 3) (hj : j < 8) (e : σ.1 k = Q) : (cw g σ)[25 + 8 * k + j]? = some (ga g (25 + 8 * k + j), cSD Q j) := by rw [q_sd h hj, e]
theorem e_tp {g : GC} {σ : CS} {T : TP} (e : σ.2.2.1 = T) : (cw g σ)[4]? = some (ga g 4, cTP g T) := by rw [q_tp, e]
theorem e_by {g : GC} {σ : CS} {T : TP} (e : σ.2.2.1 = T) : (cw g σ)[7]? = some (ga g 7, cIA g 120 T.1) := by rw [q_by, e]
theorem e_sh {g : GC} {σ : CS} {j : Nat} {T : SH} (hj : j < 4) (e : σ.2.2.2.1 = T) : (cw g σ)[8 + j]? = some (ga g (8 + j), cSH g T j) := by rw [q_sh hj, e]
theorem e_nu {g : GC} {σ : CS} {j : Nat} {T : SH} (hj : j < 4) (e : σ.2.2.2.1 = T) : (cw g σ)[12 + j]? = some (ga g (12 + j), cIA g 40 (T.1 j)) := by rw [q_nu hj, e]
theorem w_eq {D : va_G} {cl : List vw_C} {ws ws' : va_W} {H : Heap} (e : ws = ws') (h : va_P D cl ws H) : va_P D cl ws' H := e ▸ h
/-! writing -/
theorem s_gen {g : GC} {k i : Nat} {S : PK → CS} {P P' : PK} {x : Nat × va_E} (hk : k < 3) (hL : zP k S) (h0 : k = 0 → ∀ X Y r, (cwl g P X Y r).set i x = cwl g P' X Y r) (h1 : k = 1 → ∀ X Y r, (cwl g X P Y r).set i x = cwl g X P' Y r)
    (h2 : k = 2 → ∀ X Y r, (cwl g X Y P r).set i x = cwl g X Y P' r) : (cw g (S P)).set i x = cw g (S P') := by
  have a := hL.1 P
  have a' := hL.1 P'
  have e := hL.2.2 P' P
  unfold cw
  rcases lt3 hk with rfl | rfl | rfl
  · rw [a, a', hL.2.1 P' P 1 (by decide), hL.2.1 P' P 2 (by decide), e]; exact h0 rfl _ _ _
  · rw [a, a', hL.2.1 P' P 0 (by decide), hL.2.1 P' P 2 (by decide), e]; exact h1 rfl _ _ _
  · rw [a, a', hL.2.1 P' P 0 (by decide), hL.2.1 P' P 1 (by decide), e]; exact h2 rfl _ _ _
theorem s_water {g : GC} {k : Nat} {S : PK → CS} {P : PK} (v : Int64) (hk : k < 3) (hL : zP k S) : (cw g (S P)).set (1 + k) (ga g (1 + k), cPK g k (P.1, v, P.2.2.1, P.2.2.2.1, P.2.2.2.2.1, P.2.2.2.2.2.1, P.2.2.2.2.2.2.1, P.2.2.2.2.2.2.2.1, P.2.2.2.2.2.2.2.2.1, P.2.2.2.2.2.2.2.2.2.1, P.2.2.2.2.2.2.2.2.2.2)) = cw g (S (P.1, v, P.2.2.1, P.2.2.2.1, P.2.2.2.2.1, P.2.2.2.2.2.1, P.2.2.2.2.2.2.1, P.2.2.2.2.2.2.2.1, P.2.2.2.2.2.2.2.2.1, P.2.2.2.2.2.2.2.2.2.1, P.2.2.2.2.2.2.2.2.2.2)) := s_gen hk hL (fun e _ _ _ => by subst e; rfl) (fun e _ _ _ => by subst e; rfl) (fun e _ _ _ => by subst e; rfl)
theorem s_wall {g : GC} {k : Nat} {S : PK → CS} {P : PK} (v : Int64) (hk : k < 3) (hL : zP k S) : (cw g (S P)).set (1 + k) (ga g (1 + k), cPK g k (P.1, P.2.1, v, P.2.2.2.1, P.2.2.2.2.1, P.2.2.2.2.2.1, P.2.2.2.2.2.2.1, P.2.2.2.2.2.2.2.1, P.2.2.2.2.2.2.2.2.1, P.2.2.2.2.2.2.2.2.2.1, P.2.2.2.2.2.2.2.2.2.2)) = cw g (S (P.1, P.2.1, v, P.2.2.2.1, P.2.2.2.2.1, P.2.2.2.2.2.1, P.2.2.2.2.2.2.1, P.2.2.2.2.2.2.2.1, P.2.2.2.2.2.2.2.2.1, P.2.2.2.2.2.2.2.2.2.1, P.2.2.2.2.2.2.2.2.2.2)) := s_gen hk hL (fun e _ _ _ => by subst e; rfl) (fun e _ _ _ => by subst e; rfl) (fun e _ _ _ => by subst e; rfl)
theorem s_seeds {g : GC} {k : Nat} {S : PK → CS} {P : PK} (v : Int32) (hk : k < 3) (hL : zP k S) : (cw g (S P)).set (1 + k) (ga g (1 + k), cPK g k (P.1, P.2.1, P.2.2.1, P.2.2.2.1, P.2.2.2.2.1, P.2.2.2.2.2.1, P.2.2.2.2.2.2.1, v, P.2.2.2.2.2.2.2.2.1, P.2.2.2.2.2.2.2.2.2.1, P.2.2.2.2.2.2.2.2.2.2)) = cw g (S (P.1, P.2.1, P.2.2.1, P.2.2.2.1, P.2.2.2.2.1, P.2.2.2.2.2.1, P.2.2.2.2.2.2.1, v, P.2.2.2.2.2.2.2.2.1, P.2.2.2.2.2.2.2.2.2.1, P.2.2.2.2.2.2.2.2.2.2)) := s_gen hk hL (fun e _ _ _ => by subst e; rfl) (fun e _ _ _ => by subst e; rfl) (fun e _ _ _ => by subst e; rfl)
theorem s_season {g : GC} {k : Nat} {S : PK → CS} {P : PK} (v : Int32) (hk : k < 3) (hL : zP k S) : (cw g (S P)).set (1 + k) (ga g (1 + k), cPK g k (P.1, P.2.1, P.2.2.1, P.2.2.2.1, P.2.2.2.2.1, P.2.2.2.2.2.1, P.2.2.2.2.2.2.1, P.2.2.2.2.2.2.2.1, v, P.2.2.2.2.2.2.2.2.2.1, P.2.2.2.2.2.2.2.2.2.2)) = cw g (S (P.1, P.2.1, P.2.2.1, P.2.2.2.1, P.2.2.2.2.1, P.2.2.2.2.2.1, P.2.2.2.2.2.2.1, P.2.2.2.2.2.2.2.1, v, P.2.2.2.2.2.2.2.2.2.1, P.2.2.2.2.2.2.2.2.2.2)) := s_gen hk hL (fun e _ _ _ => by subst e; rfl) (fun e _ _ _ => by subst e; rfl) (fun e _ _ _ => by subst e; rfl)
theorem s_z {g : GC} {k : Nat} {S : PK → CS} {P : PK} (v : Int32) (hk : k < 3) (hL : zP k S) : (cw g (S P)).set (1 + k) (ga g (1 + k), cPK g k (P.1, P.2.1, P.2.2.1, P.2.2.2.1, P.2.2.2.2.1, P.2.2.2.2.2.1, P.2.2.2.2.2.2.1, P.2.2.2.2.2.2.2.1, P.2.2.2.2.2.2.2.2.1, v, P.2.2.2.2.2.2.2.2.2.2)) = cw g (S (P.1, P.2.1, P.2.2.1, P.2.2.2.1, P.2.2.2.2.1, P.2.2.2.2.2.1, P.2.2.2.2.2.2.1, P.2.2.2.2.2.2.2.1, P.2.2.2.2.2.2.2.2.1, v, P.2.2.2.2.2.2.2.2.2.2)) := s_gen hk hL (fun e _ _ _ => by subst e; rfl) (fun e _ _ _ => by subst e; rfl) (fun e _ _ _ => by subst e; rfl)
theorem s_paths {g : GC} {k : Nat} {S : PK → CS} {P : PK} (v : Nat → Int32) (hk : k < 3) (hL : zP k S) : (cw g (S P)).set (16 + k) (ga g (16 + k), cIA g 36 v) = cw g (S (v, P.2.1, P.2.2.1, P.2.2.2.1, P.2.2.2.2.1, P.2.2.2.2.2.1, P.2.2.2.2.2.2.1, P.2.2.2.2.2.2.2.1, P.2.2.2.2.2.2.2.2.1, P.2.2.2.2.2.2.2.2.2.1, P.2.2.2.2.2.2.2.2.2.2)) := s_gen hk hL (fun e _ _ _ => by subst e; rfl) (fun e _ _ _ => by subst e; rfl) (fun e _ _ _ => by subst e; rfl)
theorem s_spots {g : GC} {k : Nat} {S : PK → CS} {P : PK} (v : Nat → Int32) (hk : k < 3) (hL : zP k S) : (cw g (S P)).set (22 + k) (ga g (22 + k), cIA g 10 v) = cw g (S (P.1, P.2.1, P.2.2.1, P.2.2.2.1, P.2.2.2.2.1, P.2.2.2.2.2.1, P.2.2.2.2.2.2.1, P.2.2.2.2.2.2.2.1, P.2.2.2.2.2.2.2.2.1, P.2.2.2.2.2.2.2.2.2.1, v)) := s_gen hk hL (fun e _ _ _ => by subst e; rfl) (fun e _ _ _ => by subst e; rfl) (fun e _ _ _ => by subst e; rfl)
theorem s_kind {g : GC} {k j : Nat} {S : PK → CS} {P : PK} (v : Int32) (hk : k < 3) (hj : j < 8) (hL : zP k S) : (cw g (S P)).set (25 + 8 * k + j) (ga g (25 + 8 * k + j), .inr (1, [.int v, .int (P.2.2.2.2.1 j), .int (P.2.2.2.2.2.1 j), .int (P.2.2.2.2.2.2.1 j)])) = cw g (S (P.1, P.2.1, P.2.2.1, (upd P.2.2.2.1 j v), P.2.2.2.2.1, P.2.2.2.2.2.1, P.2.2.2.2.2.2.1, P.2.2.2.2.2.2.2.1, P.2.2.2.2.2.2.2.2.1, P.2.2.2.2.2.2.2.2.2.1, P.2.2.2.2.2.2.2.2.2.2)) := s_gen hk hL (fun e _ _ _ => by subst e; rcases lt8 hj with rfl | rfl | rfl | rfl | rfl | rfl | rfl | rfl <;> rfl) (fun e _ _ _ => by subst e; rcases lt8 hj with rfl | rfl | rfl | rfl | rfl | rfl | rfl | rfl <;> rfl) (fun e _ _ _ => by subst e; rcases lt8 hj with rfl | rfl | rfl | rfl | rfl | rfl | rfl | rfl <;> rfl)
theorem s_place {g : GC} {k j : Nat} {S : PK → CS} {P : PK} (v : Int32) (hk : k < 3) (hj : j < 8) (hL : zP k S) : (cw g (S P)).set (25 + 8 * k + j) (ga g (25 + 8 * k + j), .inr (1, [.int (P.2.2.2.1 j), .int v, .int (P.2.2.2.2.2.1 j), .int (P.2.2.2.2.2.2.1 j)])) = cw g (S (P.1, P.2.1, P.2.2.1, P.2.2.2.1, (upd P.2.2.2.2.1 j v), P.2.2.2.2.2.1, P.2.2.2.2.2.2.1, P.2.2.2.2.2.2.2.1, P.2.2.2.2.2.2.2.2.1, P.2.2.2.2.2.2.2.2.2.1, P.2.2.2.2.2.2.2.2.2.2)) := s_gen hk hL (fun e _ _ _ => by subst e; rcases lt8 hj with rfl | rfl | rfl | rfl | rfl | rfl | rfl | rfl <;> rfl) (fun e _ _ _ => by subst e; rcases lt8 hj with rfl | rfl | rfl | rfl | rfl | rfl | rfl | rfl <;> rfl) (fun e _ _ _ => by subst e; rcases lt8 hj with rfl | rfl | rfl | rfl | rfl | rfl | rfl | rfl <;> rfl)
theorem s_facing {g : GC} {k j : Nat} {S : PK → CS} {P : PK} (v : Int32) (hk : k < 3) (hj : j < 8) (hL : zP k S) : (cw g (S P)).set (25 + 8 * k + j) (ga g (25 + 8 * k + j), .inr (1, [.int (P.2.2.2.1 j), .int (P.2.2.2.2.1 j), .int v, .int (P.2.2.2.2.2.2.1 j)])) = cw g (S (P.1, P.2.1, P.2.2.1, P.2.2.2.1, P.2.2.2.2.1, (upd P.2.2.2.2.2.1 j v), P.2.2.2.2.2.2.1, P.2.2.2.2.2.2.2.1, P.2.2.2.2.2.2.2.2.1, P.2.2.2.2.2.2.2.2.2.1, P.2.2.2.2.2.2.2.2.2.2)) := s_gen hk hL (fun e _ _ _ => by subst e; rcases lt8 hj with rfl | rfl | rfl | rfl | rfl | rfl | rfl | rfl <;> rfl) (fun e _ _ _ => by subst e; rcases lt8 hj with rfl | rfl | rfl | rfl | rfl | rfl | rfl | rfl <;> rfl) (fun e _ _ _ => by subst e; rcases lt8 hj with rfl | rfl | rfl | rfl | rfl | rfl | rfl | rfl <;> rfl)
theorem s_age {g : GC} {k j : Nat} {S : PK → CS} {P : PK} (v : Int32) (hk : k < 3) (hj : j < 8) (hL : zP k S) : (cw g (S P)).set (25 + 8 * k + j) (ga g (25 + 8 * k + j), .inr (1, [.int (P.2.2.2.1 j), .int (P.2.2.2.2.1 j), .int (P.2.2.2.2.2.1 j), .int v])) = cw g (S (P.1, P.2.1, P.2.2.1, P.2.2.2.1, P.2.2.2.2.1, P.2.2.2.2.2.1, (upd P.2.2.2.2.2.2.1 j v), P.2.2.2.2.2.2.2.1, P.2.2.2.2.2.2.2.2.1, P.2.2.2.2.2.2.2.2.2.1, P.2.2.2.2.2.2.2.2.2.2)) := s_gen hk hL (fun e _ _ _ => by subst e; rcases lt8 hj with rfl | rfl | rfl | rfl | rfl | rfl | rfl | rfl <;> rfl) (fun e _ _ _ => by subst e; rcases lt8 hj with rfl | rfl | rfl | rfl | rfl | rfl | rfl | rfl <;> rfl) (fun e _ _ _ => by subst e; rcases lt8 hj with rfl | rfl | rfl | rfl | rfl | rfl | rfl | rfl <;> rfl)
theorem s_genT {g : GC} {i : Nat} {S : TP → CS} {T T' : TP} {x : Nat × va_E} (hL : zT S) (h : ∀ P Q R a b, (cwl g P Q R (a, T, b)).set i x = cwl g P Q R (a, T', b)) : (cw g (S T)).set i x = cw g (S T') := by
  obtain ⟨e1, e2, e3, e4⟩ := hL T T'
  obtain ⟨f1, f2, f3, f4⟩ := hL T' T'
  have h1 := h ((S T').1 0) ((S T').1 1) ((S T').1 2) (S T').2.1 (S T').2.2.2
  have g1 : (S T).2 = ((S T').2.1, T, (S T').2.2.2) := by rw [← e3, ← e4]; exact congrArg (fun y => ((S T).2.1, y, (S T).2.2.2)) e1
  have g2 : (S T').2 = ((S T').2.1, T', (S T').2.2.2) := congrArg (fun y => ((S T').2.1, y, (S T').2.2.2)) f1
  unfold cw
  rw [e2, g1, g2]
  exact h1
theorem s_bytes {g : GC} {S : TP → CS} {T : TP} (v : Nat → Int32) (hL : zT S) : (cw g (S T)).set 7 (ga g 7, cIA g 120 v) = cw g (S (v, T.2.1, T.2.2.1, T.2.2.2.1, T.2.2.2.2.1, T.2.2.2.2.2)) := s_genT hL (fun _ _ _ _ _ => rfl)
theorem s_length {g : GC} {S : TP → CS} {T : TP} (v : Int32) (hL : zT S) : (cw g (S T)).set 4 (ga g 4, cTP g (T.1, v, T.2.2.1, T.2.2.2.1, T.2.2.2.2.1, T.2.2.2.2.2)) = cw g (S (T.1, v, T.2.2.1, T.2.2.2.1, T.2.2.2.2.1, T.2.2.2.2.2)) := s_genT hL (fun _ _ _ _ _ => rfl)
theorem s_sort {g : GC} {S : TP → CS} {T : TP} (v : Int32) (hL : zT S) : (cw g (S T)).set 4 (ga g 4, cTP g (T.1, T.2.1, v, T.2.2.2.1, T.2.2.2.2.1, T.2.2.2.2.2)) = cw g (S (T.1, T.2.1, v, T.2.2.2.1, T.2.2.2.2.1, T.2.2.2.2.2)) := s_genT hL (fun _ _ _ _ _ => rfl)
theorem s_start {g : GC} {S : TP → CS} {T : TP} (v : Int32) (hL : zT S) : (cw g (S T)).set 4 (ga g 4, cTP g (T.1, T.2.1, T.2.2.1, v, T.2.2.2.2.1, T.2.2.2.2.2)) = cw g (S (T.1, T.2.1, T.2.2.1, v, T.2.2.2.2.1, T.2.2.2.2.2)) := s_genT hL (fun _ _ _ _ _ => rfl)
theorem s_end {g : GC} {S : TP → CS} {T : TP} (v : Int32) (hL : zT S) : (cw g (S T)).set 4 (ga g 4, cTP g (T.1, T.2.1, T.2.2.1, T.2.2.2.1, v, T.2.2.2.2.2)) = cw g (S (T.1, T.2.1, T.2.2.1, T.2.2.2.1, v, T.2.2.2.2.2)) := s_genT hL (fun _ _ _ _ _ => rfl)
theorem s_value {g : GC} {S : TP → CS} {T : TP} (v : Int32) (hL : zT S) : (cw g (S T)).set 4 (ga g 4, cTP g (T.1, T.2.1, T.2.2.1, T.2.2.2.1, T.2.2.2.2.1, v)) = cw g (S (T.1, T.2.1, T.2.2.1, T.2.2.2.1, T.2.2.2.2.1, v)) := s_genT hL (fun _ _ _ _ _ => rfl)
theorem s_genH {g : GC} {i : Nat} {S : SH → CS} {T T' : SH} {x : Nat × va_E} (hL : zH S) (h : ∀ P Q R a b c, (cwl g P Q R (a, b, T, c)).set i x = cwl g P Q R (a, b, T', c)) : (cw g (S T)).set i x = cw g (S T') := by
  obtain ⟨e1, e2, e3, e4, e5⟩ := hL T T'
  obtain ⟨f1, -⟩ := hL T' T'
  have h1 := h ((S T').1 0) ((S T').1 1) ((S T').1 2) (S T').2.1 (S T').2.2.1 (S T').2.2.2.2
  have g1 : (S T).2 = ((S T').2.1, (S T').2.2.1, T, (S T').2.2.2.2) := by rw [← e3, ← e4, ← e5]; exact congrArg (fun y => ((S T).2.1, (S T).2.2.1, y, (S T).2.2.2.2)) e1
  have g2 : (S T').2 = ((S T').2.1, (S T').2.2.1, T', (S T').2.2.2.2) := congrArg (fun y => ((S T').2.1, (S T').2.2.1, y, (S T').2.2.2.2)) f1
  unfold cw
  rw [e2, g1, g2]
  exact h1
theorem s_nums {g : GC} {j : Nat} {S : SH → CS} {T : SH} (v : Nat → Int32) (hj : j < 4) (hL : zH S) : (cw g (S T)).set (12 + j) (ga g (12 + j), cIA g 40 v) = cw g (S (updN T.1 j v, T.2.1, T.2.2)) := s_genH hL (fun _ _ _ _ _ _ => by rcases lt4 hj with rfl | rfl | rfl | rfl <;> rfl)
theorem s_bits {g : GC} {j : Nat} {S : SH → CS} {T : SH} (v : Int32) (hj : j < 4) (hL : zH S) : (cw g (S T)).set (8 + j) (ga g (8 + j), .inr (2, [.ref (ga g (12 + j)), .int v, .int (T.2.2 j)])) = cw g (S (T.1, upd T.2.1 j v, T.2.2)) := s_genH hL (fun _ _ _ _ _ _ => by rcases lt4 hj with rfl | rfl | rfl | rfl <;> rfl)
theorem s_size {g : GC} {j : Nat} {S : SH → CS} {T : SH} (v : Int32) (hj : j < 4) (hL : zH S) : (cw g (S T)).set (8 + j) (ga g (8 + j), .inr (2, [.ref (ga g (12 + j)), .int (T.2.1 j), .int v])) = cw g (S (T.1, T.2.1, upd T.2.2 j v)) := s_genH hL (fun _ _ _ _ _ _ => by rcases lt4 hj with rfl | rfl | rfl | rfl <;> rfl)
theorem s_told {g : GC} {F : Nat → PK} {x : Int32} {T : TP} {h : SH} {t : Nat → Int32} (v : Nat → Int32) : (cw g (F, x, T, h, t)).set 5 (ga g 5, cIA g 7 v) = cw g (F, x, T, h, v) := rfl
theorem s_isKept {g : GC} {F : Nat → PK} {x : Int32} {T : TP} {h : SH} {t : Nat → Int32} (v : Int32) : (cw g (F, x, T, h, t)).set 0 (ga g 0, cSP g v) = cw g (F, v, T, h, t) := rfl
