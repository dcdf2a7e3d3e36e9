/-! CONTRACTS, by program -/
set_option maxHeartbeats 4000000 in
set_option maxRecDepth 100000 in
theorem ct_X7_become (l : Launch) (n : Nat) (g : GM) (m_now : Nat → Int32) (m_kept : Nat → Int32) (m_aside : Nat → Int32) (m_isKept : Int32) (m_found : Nat → Int32) (m_steps : Nat → Int32) (m_queue : Nat → Int32) (m_lives : Nat → Int32) (m_treads : Nat → Int32) (m_tape : Nat → Int32) (m_taped : Int32) (m_begins : Int32) (m_ends : Int32) (m_sort : Int32) (m_value : Int32) (m_isWrong : Int32) (m_items : Nat → Int32) (m_itemMany : Int32) (m_seedThen : Int32) (m_groundThen : Nat → Int32) (m_widths : Nat → Int32) (m_sizes : Nat → Int32) (m_numbers : Nat → Int32) (m_moved : Nat → Int32) (a1 : Int32) (a2 : Int32) (res : Int32 × (Nat → Int32)) (hf : fX7_become n a1 a2 m_now = some res) : Met l yX7_become wsX7_become ({ frames := 0, cells := 0, slots := 0, locals := 0 }) (va_Pc [.ref (gm g 0), .int a1, .int a2] (mI g (m_now, m_kept, m_aside, m_isKept, m_found, m_steps, m_queue, m_lives, m_treads, m_tape, m_taped, m_begins, m_ends, m_sort, m_value, m_isWrong, m_items, m_itemMany, m_seedThen, m_groundThen, m_widths, m_sizes, m_numbers, m_moved))) (qW (some (.int res.1)) True g.1 (mw g (res.2, m_kept, m_aside, m_isKept, m_found, m_steps, m_queue, m_lives, m_treads, m_tape, m_taped, m_begins, m_ends, m_sort, m_value, m_isWrong, m_items, m_itemMany, m_seedThen, m_groundThen, m_widths, m_sizes, m_numbers, m_moved)) (mA g)) 0 0 (mA g) := by
  refine Met.ofW (cc := cX7_become) (maxL := 4) (ret := (some .int)) (by decide) rfl ?_
  intro p e s m args below meth c s₁ B hml hv
  obtain ⟨rfl, hI⟩ := hv
  have hx := B.exec
  have hb := B.bytes
  have hr := B.returns
  have hts := atoms_spec (ws := wsX7_become) B.pre
  have hown : s.vm.findClass RX7 = some m.cls := findClass_of_methodNamed B.named
  have hlocks := B.notSynchronized
  have hP := hI.1
  have hB := hI.2
  have hK := hB.1
  have hNW := hB.2.1
  have hS : va_S (mA g) s.heap s.heap [] := va_S.rf
  have hw0 := hts (.fieldLink RX7 9 "SownPathsModel" "now" "[I") (by decide +kernel)
  have iwX7 : ∀ w ∈ wsX70, w ∈ wsX7_become := fun w h => List.mem_cons_of_mem _ (List.mem_append_right _ h)
  have hl := lv_entry ([.ref (gm g 0), .int a1, .int a2]) (n := 4) (Nat.le_of_ble_eq_true rfl)
  rw [lg_entry_eq]
  generalize (lg_sl ([.ref (gm g 0), .int a1, .int a2]) ++ List.replicate (4 - (lg_sl ([.ref (gm g 0), .int a1, .int a2])).length) Slot.unset).toArray = ls at hl ⊢
  have hl : lv_has ls 4 [(0, .ref (gm g 0)), (1, .int a1), (2, .int a2)] := hl
  unfold fX7_become at hf
  refine lv_aload_n hx hb dX7_become_0 rfl (lv_at hl 0 rfl) ?_
  refine va_get (D := g.1) (ci := 5) (v := .ref (gm g 1)) (C := RX7) (T := TX7) (N := 27) hx hb hts iwX7 hown hK hP 0 k_md rfl 0 (by decide) hw0 (fun _ h9 => h9) rfl dX7_become_1 ?_
  refine lv_iload_n hx hb dX7_become_4 rfl (lv_at hl 1 rfl) ?_
  obtain ⟨hg1, hf⟩ := gd_some hf
  refine va_iald (f := m_now) hx hb hK hP 1 0 k_now rfl hg1 dX7_become_5 ?_
  refine lv_istore_n (lv' := [(3, .int (m_now a1.toNatClampNeg)), (0, .ref (gm g 0)), (1, .int a1), (2, .int a2)]) hx hb dX7_become_6 rfl hl (by decide) rfl (fun ls hl => ?_)
  refine lv_aload_n hx hb dX7_become_7 rfl (lv_at hl 1 rfl) ?_
  refine va_get (D := g.1) (ci := 5) (v := .ref (gm g 1)) (C := RX7) (T := TX7) (N := 27) hx hb hts iwX7 hown hK hP 0 k_md rfl 0 (by decide) hw0 (fun _ h9 => h9) rfl dX7_become_8 ?_
  refine lv_iload_n hx hb dX7_become_11 rfl (lv_at hl 2 rfl) ?_
  refine lv_iload_n hx hb dX7_become_12 rfl (lv_at hl 3 rfl) ?_
  obtain ⟨hg2, hf⟩ := gd_some hf
  refine va_iast (f := m_now) hx hb hK hP (mD hB.2.2.1 _) hS 1 0 k_now rfl hg2 dX7_become_13 (fun H locs hP _ hS => ?_)
  have hP : va_P g.1 vwCl (mw g ((upd m_now a1.toNatClampNeg a2), m_kept, m_aside, m_isKept, m_found, m_steps, m_queue, m_lives, m_treads, m_tape, m_taped, m_begins, m_ends, m_sort, m_value, m_isWrong, m_items, m_itemMany, m_seedThen, m_groundThen, m_widths, m_sizes, m_numbers, m_moved)) H := w_eq (k_set_now (upd m_now a1.toNatClampNeg a2)) hP
  refine lv_iload_n hx hb dX7_become_14 rfl (lv_at hl 0 rfl) ?_
  have hres : ((m_now a1.toNatClampNeg), (upd m_now a1.toNatClampNeg a2)) = res := (Option.some.inj hf)
  have hP : va_P g.1 vwCl (mw g (res.2, m_kept, m_aside, m_isKept, m_found, m_steps, m_queue, m_lives, m_treads, m_tape, m_taped, m_begins, m_ends, m_sort, m_value, m_isWrong, m_items, m_itemMany, m_seedThen, m_groundThen, m_widths, m_sizes, m_numbers, m_moved)) H := by rw [← hres]; exact hP
  exact W.iret (v := (m_now a1.toNatClampNeg)) hx hb hr (fun t ht hW => ⟨congrArg (fun z => Outcome.returned (some (Value.int z.1))) hres, trivial, by rw [ht]; exact hP, hS.F ht⟩) hS.2.2 dX7_become_15
set_option maxHeartbeats 4000000 in
set_option maxRecDepth 100000 in
theorem ct_X7_copyRow (l : Launch) (n : Nat) (g : GM) (σ : MS) (q : Nat) (nn : Nat) (r_row : Nat → Int32) (hq : (mw g σ)[q]? = some (gm g q, mIA g nn r_row)) (q2 : Nat) (n2 : Nat) (r_vals : Nat → Int32) (hq2 : (mw g σ)[q2]? = some (gm g q2, mIA g n2 r_vals)) (hne : q ≠ q2) (res : (Nat → Int32)) (hf : fX7_copyRow n nn n2 r_row r_vals = some res) : Met l yX7_copyRow wsX7_copyRow ({ frames := 0, cells := 0, slots := 0, locals := 0 }) (va_Pc [.ref (gm g q2), .ref (gm g q)] (mI g σ)) (qW none True g.1 (((mw g σ).set q (gm g q, mIA g nn res))) (mA g)) 0 0 (mA g) := by
  refine Met.ofW (cc := cX7_copyRow) (maxL := 3) (ret := none) (by decide) rfl ?_
  intro p e s m args below meth c s₁ B hml hv
  obtain ⟨rfl, hI⟩ := hv
  have hx := B.exec
  have hb := B.bytes
  have hr := B.returns
  have hts := atoms_spec (ws := wsX7_copyRow) B.pre
  have hown : s.vm.findClass RX7 = some m.cls := findClass_of_methodNamed B.named
  have hlocks := B.notSynchronized
  have hP := hI.1
  have hB := hI.2
  have hK := hB.1
  have hNW := hB.2.1
  have hS : va_S (mA g) s.heap s.heap [] := va_S.rf
  have hP : va_P g.1 vwCl (((mw g σ).set q (gm g q, mIA g nn r_row))) s.heap := w_eq (set_same hq).symm hP
  have hl := lv_entry ([.ref (gm g q2), .ref (gm g q)]) (n := 3) (Nat.le_of_ble_eq_true rfl)
  rw [lg_entry_eq]
  generalize (lg_sl ([.ref (gm g q2), .ref (gm g q)]) ++ List.replicate (3 - (lg_sl ([.ref (gm g q2), .ref (gm g q)])).length) Slot.unset).toArray = ls at hl ⊢
  have hl : lv_has ls 3 [(0, .ref (gm g q2)), (1, .ref (gm g q))] := hl
  unfold fX7_copyRow at hf
  refine lv_iconst (v := (0 : Int32)) hx hb dX7_copyRow_0 (by decide) ?_
  refine lv_istore_n (lv' := [(2, .int (0 : Int32)), (0, .ref (gm g q2)), (1, .ref (gm g q))]) hx hb dX7_copyRow_1 rfl hl (by decide) rfl (fun ls hl => ?_)
  refine lp_run hf (fun s1 => ∀ (H : Heap) (locs : List Loc) (ls : Array Slot), va_P g.1 vwCl (((mw g σ).set q (gm g q, mIA g nn s1.2))) H → va_S (mA g) s.heap H locs → lv_has ls 3 [(0, .ref (gm g q2)), (1, .ref (gm g q)), (2, .int s1.1)] → W p l e _ s m _ below meth c H locs 0 0 _ (F0 m 2 ls [])) (fun v2 => ∀ (H : Heap) (locs : List Loc) (ls : Array Slot), va_P g.1 vwCl (((mw g σ).set q (gm g q, mIA g nn v2.2))) H → va_S (mA g) s.heap H locs → lv_has ls 3 [] → W p l e _ s m _ below meth c H locs 0 0 _ (F0 m 20 ls [])) ?_ ?_ _ _ _ hP hS (lv_sub hl [1, 2, 0] rfl)
  · intro v2 hf H locs ls hP hS hl
    have hres : v2.2 = res := (Option.some.inj hf)
    have hP : va_P g.1 vwCl (((mw g σ).set q (gm g q, mIA g nn res))) H := by rw [← hres]; exact hP
    exact W.vret hx hb hr (fun t ht hW => ⟨rfl, trivial, by rw [ht]; exact hP, hS.F ht⟩) hS.2.2 dX7_copyRow_20
  · intro s1 r1 hf hback1 hexit1 H locs ls hP hS hl
    refine lv_iload_n hx hb dX7_copyRow_2 rfl (lv_at hl 2 rfl) ?_
    refine lv_bipush (v := (117 : Int32)) hx hb dX7_copyRow_3 (by decide) ?_
    refine lv_icmp_ge (tgt := 20) hx hb dX7_copyRow_5 (by decide) (fun hc3 => ?_) (fun hc3 => ?_)
    · have hf := (if_pos hc3).symm.trans hf
      exact hexit1 (s1.1, s1.2) (Option.some.inj hf).symm H locs ls hP hS (lv_sub hl [] rfl)
    · have hf := (if_neg hc3).symm.trans hf
      refine lv_aload_n hx hb dX7_copyRow_8 rfl (lv_at hl 1 rfl) ?_
      refine lv_iload_n hx hb dX7_copyRow_9 rfl (lv_at hl 2 rfl) ?_
      refine lv_aload_n hx hb dX7_copyRow_10 rfl (lv_at hl 0 rfl) ?_
      refine lv_iload_n hx hb dX7_copyRow_11 rfl (lv_at hl 2 rfl) ?_
      obtain ⟨hg4, hf⟩ := gd_some hf
      refine va_iald (f := r_vals) hx hb hK hP q2 0 (set_no _ hne hq2) rfl hg4 dX7_copyRow_12 ?_
      obtain ⟨hg5, hf⟩ := gd_some hf
      refine va_iast (f := s1.2) hx hb hK hP (mDs hB.2.2.1 _ _ _) hS q 0 (set_at _ hq) rfl hg5 dX7_copyRow_13 (fun H locs hP _ hS => ?_)
      have hP : va_P g.1 vwCl ((mw g σ).set q (gm g q, mIA g nn (upd s1.2 s1.1.toNatClampNeg (r_vals s1.1.toNatClampNeg)))) H := w_eq (set_set2 _ _ _ _) hP
      refine lv_iinc (v := (s1.1 + (1 : Int32))) (lv' := [(2, .int (s1.1 + (1 : Int32))), (0, .ref (gm g q2)), (1, .ref (gm g q))]) hx hb dX7_copyRow_14 hl (k := 2) rfl (congrArg (fun y => s1.1 + y) (by decide : Int32.ofInt (1) = (1 : Int32))) (by decide) rfl (fun ls hl => ?_)
      refine lv_goto (tgt := 2) hx hb dX7_copyRow_17 (by decide) ?_
      exact hback1 _ (Option.some.inj hf).symm H locs ls hP hS (lv_sub hl [1, 2, 0] rfl)
