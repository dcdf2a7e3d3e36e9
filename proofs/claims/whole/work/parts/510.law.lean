/-! THE LAW'S WALK: the ground of it -/
theorem cI_L {g : GC} {σ : CS} {s U : State} {H : Heap} {locs : List Loc} (hB : cB g s) (hP : va_P g.1 vwCl (cw g σ) H) (hS : va_S (fun q : Nat => s.heap.size ≤ q) s.heap H locs) (hU : U.heap = H) (hW : s.WarmedH U.vm) : cI g σ U :=
  ⟨by rw [hU]; exact hP, va_K.moved hW.alike hB.1, hB.2.1.warm hW, hB.2.2.1, hB.2.2.2.1.warm hW, by rw [hU]; exact stB.moved hW.alike (hB.2.2.2.2.kept (fun a h _ => hS.2.1 a h (Nat.not_le.mpr h)))⟩
theorem mI_L {g : GM} {σ : MS} {s U : State} {H : Heap} {locs : List Loc} (hB : mB g s) (hP : va_P g.1 vwCl (mw g σ) H) (hS : va_S (fun q : Nat => s.heap.size ≤ q) s.heap H locs) (hU : U.heap = H) (hW : s.WarmedH U.vm) : mI g σ U :=
  ⟨by rw [hU]; exact hP, va_K.moved hW.alike hB.1, hB.2.1.warm hW, hB.2.2.1, hB.2.2.2.1.warm hW, by rw [hU]; exact stB.moved hW.alike (hB.2.2.2.2.kept (fun a h _ => hS.2.1 a h (Nat.not_le.mpr h)))⟩
section KRL
variable {p : Program} {l : Launch} {e : Env} {R : Room} {s : State} {m : MethodId} {args : Array Value} {below : List Frame} {meth : Method} {c : Code} {H : Heap} {locs : List Loc} {cells slots : Nat} {Q : State → Prop}
variable {pc : Nat} {ls : Array Slot} {rest st0 st1 : List Value} {a : Array Value} {o : Option Value} {F : Prop}
theorem kr_L {D : va_G} {ws : va_W} {A A0 : Nat → Prop} {H0 : Heap} (hr : va_Run p l e R s m args below meth c H locs cells slots 0 0 (F0 m pc ls st0) rest (qW o F D ws A a) A) (hS : va_S A0 H0 H locs) (hA : ∀ q, A q → A0 q) (hst : o.toList ++ rest = st1)
    (kk : ∀ (H1 : Heap) (locs1 : List Loc), va_P D vwCl ws H1 → (∀ q : Nat, q < H.size → ¬ A q → H1[q]? = H[q]?) → va_S A0 H0 H1 locs1 → W p l e R s m args below meth c H1 locs1 cells slots Q (F0 m (pc + 3) ls st1)) : W p l e R s m args below meth c H locs cells slots Q (F0 m pc ls st0) := by
  intro T hT X
  obtain ⟨v, st₀, t, T', L, h0, X', hL, e1, e2, ⟨hv, hF, hw, hz, hk⟩, st⟩ := hr T hT X
  cases hv
  subst hst
  rw [h0] at hz hk
  have hk' : ∀ q : Nat, q < H.size → ¬ A q → T'.heap[q]? = H[q]? := fun q h1 h2 => by rw [e1]; exact hk q h1 h2
  obtain ⟨t2, a1, b1⟩ := kk T'.heap (locs ++ L) (by rw [e1]; exact hw) hk'
    ⟨Nat.le_trans hS.1 (by rw [e1]; exact hz), fun q h1 h2 => by rw [hk' q (Nat.lt_of_lt_of_le h1 hS.1) (fun h => h2 (hA q h))]; exact hS.2.1 q h1 h2, fun q hq => by
      rcases List.mem_append.mp hq with h | h
      · exact hS.2.2 q h
      · exact hA _ (hL q h)⟩ T' rfl X'
  exact ⟨t2, st t2 a1, b1⟩
end KRL
theorem keepM {g : GC} {g2 : GM} {μ : MS} {H H1 : Heap} (hd : ∀ q, gA g q → ¬ mA g2 q) (hQ : va_P g2.1 vwCl (mw g2 μ) H) (hk : ∀ q : Nat, q < H.size → ¬ gA g q → H1[q]? = H[q]?) : va_P g2.1 vwCl (mw g2 μ) H1 := hQ.kept fun k q h => hk q.1 (hQ k q h).lt (fun hg => hd q.1 hg ⟨k, (mw_ad h).1, (mw_ad h).2⟩)
theorem keepC {g : GC} {g2 : GM} {σ : CS} {H H1 : Heap} (hd : ∀ q, gA g q → ¬ mA g2 q) (hP : va_P g.1 vwCl (cw g σ) H) (hk : ∀ q : Nat, q < H.size → ¬ mA g2 q → H1[q]? = H[q]?) : va_P g.1 vwCl (cw g σ) H1 := hP.kept fun k q h => hk q.1 (hP k q h).lt (fun hm => hd q.1 ⟨k, (cw_ad h).1, (cw_ad h).2⟩ hm)
/-- what stays through the law's walk -/
def LX (p : Program) (s : State) (m : MethodId) (c : Code) (b L : Nat) (xs : Nat → Int32) (g : GC) (g2 : GM) : Prop :=
  p.tables.exec = Jvm.exec ∧ c.code = code ∧ c.maxLocals = 4 ∧ s.vm.findClass RL = some m.cls ∧ (∀ w ∈ lw_tbl, w.before #[Value.ref b] s = true) ∧ va_X b L xs s s.heap ∧ b < s.heap.size ∧ L ≤ 3072 ∧ cB g s ∧ mB g2 s ∧ (∀ q, gA g q → s.heap.size ≤ q) ∧ (∀ q, mA g2 q → s.heap.size ≤ q) ∧ ∀ q, gA g q → ¬ mA g2 q
theorem vin {i L k : Nat} {K : Int32} (hK : K = nI k) (hi : i + 6 ≤ L) (hL : L ≤ 3072) (hk : k < 6) : vp_in (nI i + K) L := by
  rw [hK, nI_add]; exact vp_in_nI (by omega) (by omega)
/-- the two worlds, side by side -/
def LW (s : State) (g : GC) (g2 : GM) (b9 : Nat) (H : Heap) (locs : List Loc) : Prop :=
  ∃ (p0_paths : Nat → Int32) (p0_water : Int64) (p0_wall : Int64) (p0_kind : Nat → Int32) (p0_place : Nat → Int32) (p0_facing : Nat → Int32) (p0_age : Nat → Int32) (p0_seeds : Int32) (p0_season : Int32) (p0_z : Int32) (p0_spots : Nat → Int32) (p1_paths : Nat → Int32) (p1_water : Int64) (p1_wall : Int64) (p1_kind : Nat → Int32) (p1_place : Nat → Int32) (p1_facing : Nat → Int32) (p1_age : Nat → Int32) (p1_seeds : Int32) (p1_season : Int32) (p1_z : Int32) (p1_spots : Nat → Int32) (p2_paths : Nat → Int32) (p2_water : Int64) (p2_wall : Int64) (p2_kind : Nat → Int32) (p2_place : Nat → Int32) (p2_facing : Nat → Int32) (p2_age : Nat → Int32) (p2_seeds : Int32) (p2_season : Int32) (p2_z : Int32) (p2_spots : Nat → Int32) (t_bytes : Nat → Int32) (t_length : Int32) (t_sort : Int32) (t_start : Int32) (t_end : Int32) (t_value : Int32) (h_numbers : Nat → Nat → Int32) (h_bits : Nat → Int32) (h_size : Nat → Int32) (w_isKept : Int32) (w_told : Nat → Int32) (m_now : Nat → Int32) (m_kept : Nat → Int32) (m_aside : Nat → Int32) (m_isKept : Int32) (m_found : Nat → Int32) (m_steps : Nat → Int32) (m_queue : Nat → Int32) (m_lives : Nat → Int32) (m_treads : Nat → Int32) (m_tape : Nat → Int32) (m_taped : Int32) (m_begins : Int32) (m_ends : Int32) (m_sort : Int32) (m_value : Int32) (m_isWrong : Int32) (m_items : Nat → Int32) (m_itemMany : Int32) (m_seedThen : Int32) (m_groundThen : Nat → Int32) (m_widths : Nat → Int32) (m_sizes : Nat → Int32) (m_numbers : Nat → Int32) (m_moved : Nat → Int32), RR b9 p0_paths p0_water p0_wall p0_kind p0_place p0_facing p0_age p0_seeds p0_season p0_z p0_spots p2_paths p2_water p2_wall p2_kind p2_place p2_facing p2_age p2_seeds p2_season p2_z p2_spots t_bytes t_length h_numbers h_bits h_size w_isKept w_told m_now m_kept m_isKept m_found m_lives m_treads m_tape m_taped m_widths m_sizes m_numbers ∧ va_P g.1 vwCl (cw g (pk3 (p0_paths, p0_water, p0_wall, p0_kind, p0_place, p0_facing, p0_age, p0_seeds, p0_season, p0_z, p0_spots) (p1_paths, p1_water, p1_wall, p1_kind, p1_place, p1_facing, p1_age, p1_seeds, p1_season, p1_z, p1_spots) (p2_paths, p2_water, p2_wall, p2_kind, p2_place, p2_facing, p2_age, p2_seeds, p2_season, p2_z, p2_spots), w_isKept, (t_bytes, t_length, t_sort, t_start, t_end, t_value), (h_numbers, h_bits, h_size), w_told)) H ∧ va_P g2.1 vwCl (mw g2 (m_now, m_kept, m_aside, m_isKept, m_found, m_steps, m_queue, m_lives, m_treads, m_tape, m_taped, m_begins, m_ends, m_sort, m_value, m_isWrong, m_items, m_itemMany, m_seedThen, m_groundThen, m_widths, m_sizes, m_numbers, m_moved)) H ∧ va_S (fun q : Nat => s.heap.size ≤ q) s.heap H locs
