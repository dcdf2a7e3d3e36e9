/-! CONTRACTS, by program -/
set_option maxHeartbeats 4000000 in
set_option maxRecDepth 100000 in
theorem ct_X7_fitting (l : Launch) (n : Nat) (g : GM) (m_now : Nat → Int32) (m_kept : Nat → Int32) (m_aside : Nat → Int32) (m_isKept : Int32) (m_found : Nat → Int32) (m_steps : Nat → Int32) (m_queue : Nat → Int32) (m_lives : Nat → Int32) (m_treads : Nat → Int32) (m_tape : Nat → Int32) (m_taped : Int32) (m_begins : Int32) (m_ends : Int32) (m_sort : Int32) (m_value : Int32) (m_isWrong : Int32) (m_items : Nat → Int32) (m_itemMany : Int32) (m_seedThen : Int32) (m_groundThen : Nat → Int32) (m_widths : Nat → Int32) (m_sizes : Nat → Int32) (m_numbers : Nat → Int32) (m_moved : Nat → Int32) (a1 : Int32) (a2 : Int32) (a3 : Int32) (a4 : Int32) (res : Int32 × (Nat → Int32) × (Nat → Int32)) (hf : fX7_fitting n a1 a2 a3 a4 m_now m_aside m_lives m_treads m_sizes m_numbers = some res) : Met l yX7_fitting wsX7_fitting ({ frames := 9, cells := 0, slots := 0, locals := 207 }) (va_Pc [.ref (gm g 0), .int a1, .int a2, .int a3, .int a4] (mI g (m_now, m_kept, m_aside, m_isKept, m_found, m_steps, m_queue, m_lives, m_treads, m_tape, m_taped, m_begins, m_ends, m_sort, m_value, m_isWrong, m_items, m_itemMany, m_seedThen, m_groundThen, m_widths, m_sizes, m_numbers, m_moved))) (qW (some (.int res.1)) True g.1 (mw g (res.2.1, m_kept, res.2.2, m_isKept, m_found, m_steps, m_queue, m_lives, m_treads, m_tape, m_taped, m_begins, m_ends, m_sort, m_value, m_isWrong, m_items, m_itemMany, m_seedThen, m_groundThen, m_widths, m_sizes, m_numbers, m_moved)) (mA g)) 0 0 (mA g) := by
  refine Met.ofW (cc := cX7_fitting) (maxL := 8) (ret := (some .int)) (by decide) rfl ?_
  intro p e s m args below meth c s₁ B hml hv
  obtain ⟨rfl, hI⟩ := hv
  have hx := B.exec
  have hb := B.bytes
  have hr := B.returns
  have hts := atoms_spec (ws := wsX7_fitting) B.pre
  have hown : s.vm.findClass RX7 = some m.cls := findClass_of_methodNamed B.named
  have hlocks := B.notSynchronized
  have hP := hI.1
  have hB := hI.2
  have hK := hB.1
  have hNW := hB.2.1
  have hS : va_S (mA g) s.heap s.heap [] := va_S.rf
  have hw0 := hts (.fieldLink RX7 9 "SownPathsModel" "now" "[I") (by decide +kernel)
  have iwX7 : ∀ w ∈ wsX70, w ∈ wsX7_fitting := fun w h => List.mem_cons_of_mem _ (List.mem_append_right _ h)
  have hl := lv_entry ([.ref (gm g 0), .int a1, .int a2, .int a3, .int a4]) (n := 8) (Nat.le_of_ble_eq_true rfl)
  rw [lg_entry_eq]
  generalize (lg_sl ([.ref (gm g 0), .int a1, .int a2, .int a3, .int a4]) ++ List.replicate (8 - (lg_sl ([.ref (gm g 0), .int a1, .int a2, .int a3, .int a4])).length) Slot.unset).toArray = ls at hl ⊢
  have hl : lv_has ls 8 [(0, .ref (gm g 0)), (1, .int a1), (2, .int a2), (3, .int a3), (4, .int a4)] := hl
  unfold fX7_fitting at hf
  refine lv_aload_n hx hb dX7_fitting_0 rfl (lv_at hl 0 rfl) ?_
  refine va_get (D := g.1) (ci := 5) (v := .ref (gm g 1)) (C := RX7) (T := TX7) (N := 27) hx hb hts iwX7 hown hK hP 0 k_md rfl 0 (by decide) hw0 (fun _ h9 => h9) rfl dX7_fitting_1 ?_
  refine lv_iload_n hx hb dX7_fitting_4 rfl (lv_at hl 3 rfl) ?_
  obtain ⟨hg1, hf⟩ := gd_some hf
  refine va_iald (f := m_now) hx hb hK hP 1 0 k_now rfl hg1 dX7_fitting_5 ?_
  refine lv_istore (lv' := [(5, .int (m_now a3.toNatClampNeg)), (0, .ref (gm g 0)), (1, .int a1), (2, .int a2), (3, .int a3), (4, .int a4)]) hx hb dX7_fitting_6 hl (by decide) rfl (fun ls hl => ?_)
  refine lv_iconst (v := (0 : Int32)) hx hb dX7_fitting_8 (by decide) ?_
  refine lv_istore (lv' := [(6, .int (0 : Int32)), (5, .int (m_now a3.toNatClampNeg)), (0, .ref (gm g 0)), (1, .int a1), (2, .int a2), (3, .int a3), (4, .int a4)]) hx hb dX7_fitting_9 hl (by decide) rfl (fun ls hl => ?_)
  refine lv_iconst (v := (0 : Int32)) hx hb dX7_fitting_11 (by decide) ?_
  refine lv_istore (lv' := [(7, .int (0 : Int32)), (6, .int (0 : Int32)), (5, .int (m_now a3.toNatClampNeg)), (0, .ref (gm g 0)), (1, .int a1), (2, .int a2), (3, .int a3), (4, .int a4)]) hx hb dX7_fitting_12 hl (by decide) rfl (fun ls hl => ?_)
  refine lp_run hf (fun s2 => ∀ (H : Heap) (locs : List Loc) (ls : Array Slot), va_P g.1 vwCl (mw g (s2.2.2.1, m_kept, s2.2.2.2, m_isKept, m_found, m_steps, m_queue, m_lives, m_treads, m_tape, m_taped, m_begins, m_ends, m_sort, m_value, m_isWrong, m_items, m_itemMany, m_seedThen, m_groundThen, m_widths, m_sizes, m_numbers, m_moved)) H → va_S (mA g) s.heap H locs → lv_has ls 8 [(0, .ref (gm g 0)), (1, .int a1), (2, .int a2), (3, .int a3), (4, .int a4), (5, .int (m_now a3.toNatClampNeg)), (6, .int s2.1), (7, .int s2.2.1)] → W p l e (headSpec wsX7_fitting ({ frames := 9, cells := 0, slots := 0, locals := 207 })).room s m ([.ref (gm g 0), .int a1, .int a2, .int a3, .int a4] : List Value).toArray below meth c H locs 0 0 (MQ below (qW (some (.int res.1)) True g.1 (mw g (res.2.1, m_kept, res.2.2, m_isKept, m_found, m_steps, m_queue, m_lives, m_treads, m_tape, m_taped, m_begins, m_ends, m_sort, m_value, m_isWrong, m_items, m_itemMany, m_seedThen, m_groundThen, m_widths, m_sizes, m_numbers, m_moved)) (mA g)) ([.ref (gm g 0), .int a1, .int a2, .int a3, .int a4] : List Value).toArray s 0 0 (mA g)) (F0 m 14 ls [])) (fun v3 => ∀ (H : Heap) (locs : List Loc) (ls : Array Slot), va_P g.1 vwCl (mw g (v3.2.2.1, m_kept, v3.2.2.2, m_isKept, m_found, m_steps, m_queue, m_lives, m_treads, m_tape, m_taped, m_begins, m_ends, m_sort, m_value, m_isWrong, m_items, m_itemMany, m_seedThen, m_groundThen, m_widths, m_sizes, m_numbers, m_moved)) H → va_S (mA g) s.heap H locs → lv_has ls 8 [(0, .ref (gm g 0)), (3, .int a3), (5, .int (m_now a3.toNatClampNeg)), (6, .int v3.1)] → W p l e (headSpec wsX7_fitting ({ frames := 9, cells := 0, slots := 0, locals := 207 })).room s m ([.ref (gm g 0), .int a1, .int a2, .int a3, .int a4] : List Value).toArray below meth c H locs 0 0 (MQ below (qW (some (.int res.1)) True g.1 (mw g (res.2.1, m_kept, res.2.2, m_isKept, m_found, m_steps, m_queue, m_lives, m_treads, m_tape, m_taped, m_begins, m_ends, m_sort, m_value, m_isWrong, m_items, m_itemMany, m_seedThen, m_groundThen, m_widths, m_sizes, m_numbers, m_moved)) (mA g)) ([.ref (gm g 0), .int a1, .int a2, .int a3, .int a4] : List Value).toArray s 0 0 (mA g)) (F0 m 57 ls [])) ?_ ?_ _ _ _ hP hS (lv_sub hl [3, 4, 5, 6, 7, 2, 1, 0] rfl)
  · intro v3 hf H locs ls hP hS hl
    refine lv_aload_n hx hb dX7_fitting_57 rfl (lv_at hl 0 rfl) ?_
    refine va_get (D := g.1) (ci := 5) (v := .ref (gm g 1)) (C := RX7) (T := TX7) (N := 27) hx hb hts iwX7 hown hK hP 0 k_md rfl 0 (by decide) hw0 (fun _ h9 => h9) rfl dX7_fitting_58 ?_
    refine lv_iload_n hx hb dX7_fitting_61 rfl (lv_at hl 1 rfl) ?_
    refine lv_iload hx hb dX7_fitting_62 (lv_at hl 2 rfl) ?_
    obtain ⟨hg9, hf⟩ := gd_some hf
    refine va_iast (f := v3.2.2.1) hx hb hK hP (mD hB.2.2.1 _) hS 1 0 k_now rfl hg9 dX7_fitting_64 (fun H locs hP _ hS => ?_)
    have hP : va_P g.1 vwCl (mw g ((upd v3.2.2.1 a3.toNatClampNeg (m_now a3.toNatClampNeg)), m_kept, v3.2.2.2, m_isKept, m_found, m_steps, m_queue, m_lives, m_treads, m_tape, m_taped, m_begins, m_ends, m_sort, m_value, m_isWrong, m_items, m_itemMany, m_seedThen, m_groundThen, m_widths, m_sizes, m_numbers, m_moved)) H := w_eq (k_set_now (upd v3.2.2.1 a3.toNatClampNeg (m_now a3.toNatClampNeg))) hP
    refine lv_iload hx hb dX7_fitting_65 (lv_at hl 3 rfl) ?_
    have hres : (v3.1, (upd v3.2.2.1 a3.toNatClampNeg (m_now a3.toNatClampNeg)), v3.2.2.2) = res := (Option.some.inj hf)
    have hP := w_eq (congrArg (fun z => mw g (z.2.1, m_kept, z.2.2, m_isKept, m_found, m_steps, m_queue, m_lives, m_treads, m_tape, m_taped, m_begins, m_ends, m_sort, m_value, m_isWrong, m_items, m_itemMany, m_seedThen, m_groundThen, m_widths, m_sizes, m_numbers, m_moved)) hres) hP
    exact W.iret (v := v3.1) hx hb hr (fun t ht hW => ⟨congrArg (fun z => Outcome.returned (some (Value.int z.1))) hres, trivial, by rw [ht]; exact hP, hS.F ht⟩) hS.2.2 dX7_fitting_67
  · intro s2 r1 hf hback1 hexit1 H locs ls hP hS hl
    refine lv_iload hx hb dX7_fitting_14 (lv_at hl 7 rfl) ?_
    refine lv_iload hx hb dX7_fitting_16 (lv_at hl 4 rfl) ?_
    refine lv_icmp_ge (tgt := 57) hx hb dX7_fitting_18 (by decide) (fun hc4 => ?_) (fun hc4 => ?_)
    · have hf := (if_pos hc4).symm.trans hf
      exact hexit1 (s2.1, s2.2.1, s2.2.2.1, s2.2.2.2) (Option.some.inj hf).symm H locs ls hP hS (lv_sub hl [0, 3, 5, 6] rfl)
    · have hf := (if_neg hc4).symm.trans hf
      refine lv_aload_n hx hb dX7_fitting_21 rfl (lv_at hl 0 rfl) ?_
      refine va_get (D := g.1) (ci := 5) (v := .ref (gm g 1)) (C := RX7) (T := TX7) (N := 27) hx hb hts iwX7 hown hK hP 0 k_md rfl 0 (by decide) hw0 (fun _ h9 => h9) rfl dX7_fitting_22 ?_
      refine lv_iload_n hx hb dX7_fitting_25 rfl (lv_at hl 3 rfl) ?_
      refine lv_iload hx hb dX7_fitting_26 (lv_at hl 7 rfl) ?_
      obtain ⟨hg5, hf⟩ := gd_some hf
      refine va_iast (f := s2.2.2.1) hx hb hK hP (mD hB.2.2.1 _) hS 1 0 k_now rfl hg5 dX7_fitting_28 (fun H locs hP _ hS => ?_)
      have hP : va_P g.1 vwCl (mw g ((upd s2.2.2.1 a3.toNatClampNeg s2.2.1), m_kept, s2.2.2.2, m_isKept, m_found, m_steps, m_queue, m_lives, m_treads, m_tape, m_taped, m_begins, m_ends, m_sort, m_value, m_isWrong, m_items, m_itemMany, m_seedThen, m_groundThen, m_widths, m_sizes, m_numbers, m_moved)) H := w_eq (k_set_now (upd s2.2.2.1 a3.toNatClampNeg s2.2.1)) hP
      refine lv_iload hx hb dX7_fitting_29 (lv_at hl 6 rfl) ?_
      refine lv_aload_n hx hb dX7_fitting_31 rfl (lv_at hl 0 rfl) ?_
      refine lv_iload_n hx hb dX7_fitting_32 rfl (lv_at hl 1 rfl) ?_
      refine lv_iload_n hx hb dX7_fitting_33 rfl (lv_at hl 2 rfl) ?_
      obtain ⟨q6, hq6, hf⟩ := bd_some hf
      refine kr_W (st1 := [.int q6.1, .int s2.1]) (va_runV (As := [.int a1, .int a2]) (rest := [.int s2.1]) ⟨hx, hb, hml, hown, hts⟩ (ct_X7_wentSo l n g (upd s2.2.2.1 a3.toNatClampNeg s2.2.1) m_kept s2.2.2.2 m_isKept m_found m_steps m_queue m_lives m_treads m_tape m_taped m_begins m_ends m_sort m_value m_isWrong m_items m_itemMany m_seedThen m_groundThen m_widths m_sizes m_numbers m_moved a1 a2 q6 hq6) (cwV 2 hts gX7_fitting_X7_wentSo rfl rfl rfl hd_X7_wentSo ⟨Nat.le_of_ble_eq_true rfl, Nat.le_of_ble_eq_true rfl⟩) ⟨bl_M, va_recv hK hP (ci := 5) (q0 := 0) rfl k_md, pr_M rfl hB hP hS⟩ rfl rfl hl.1 rfl (lv_room (Nat.le_of_ble_eq_true rfl)) dX7_fitting_34 ⟨Nat.le_refl _, Nat.le_refl _⟩) hS rfl (fun hn7 H locs hP hS => ?_)
      have hP : va_P g.1 vwCl (mw g (q6.2.1, m_kept, q6.2.2, m_isKept, m_found, m_steps, m_queue, m_lives, m_treads, m_tape, m_taped, m_begins, m_ends, m_sort, m_value, m_isWrong, m_items, m_itemMany, m_seedThen, m_groundThen, m_widths, m_sizes, m_numbers, m_moved)) H := hP
      refine lv_if_eq (tgt := 47) hx hb dX7_fitting_37 (by decide) (fun hc8 => ?_) (fun hc8 => ?_)
      · have hf := (if_pos hc8).symm.trans hf
        refine lv_iconst (v := (0 : Int32)) hx hb dX7_fitting_47 (by decide) ?_
        refine lv_ior hx hb dX7_fitting_48 ?_
        refine lv_istore (lv' := [(6, .int (s2.1 ||| (0 : Int32))), (0, .ref (gm g 0)), (1, .int a1), (2, .int a2), (3, .int a3), (4, .int a4), (5, .int (m_now a3.toNatClampNeg)), (7, .int s2.2.1)]) hx hb dX7_fitting_49 hl (by decide) rfl (fun ls hl => ?_)
        refine lv_iinc (v := (s2.2.1 + (1 : Int32))) (lv' := [(7, .int (s2.2.1 + (1 : Int32))), (6, .int (s2.1 ||| (0 : Int32))), (0, .ref (gm g 0)), (1, .int a1), (2, .int a2), (3, .int a3), (4, .int a4), (5, .int (m_now a3.toNatClampNeg))]) hx hb dX7_fitting_51 hl (k := 7) rfl (congrArg (fun y => s2.2.1 + y) (by decide : Int32.ofInt (1) = (1 : Int32))) (by decide) rfl (fun ls hl => ?_)
        refine lv_goto (tgt := 14) hx hb dX7_fitting_54 (by decide) ?_
        exact hback1 _ (Option.some.inj hf).symm H locs ls hP hS (lv_sub hl [2, 3, 4, 5, 6, 7, 1, 0] rfl)
      · have hf := (if_neg hc8).symm.trans hf
        refine lv_iconst (v := (1 : Int32)) hx hb dX7_fitting_40 (by decide) ?_
        refine lv_iload hx hb dX7_fitting_41 (lv_at hl 7 rfl) ?_
        refine lv_ishl hx hb dX7_fitting_43 ?_
        refine lv_goto (tgt := 48) hx hb dX7_fitting_44 (by decide) ?_
        refine lv_ior hx hb dX7_fitting_48 ?_
        refine lv_istore (lv' := [(6, .int (s2.1 ||| ((1 : Int32) <<< (s2.2.1 &&& 31)))), (0, .ref (gm g 0)), (1, .int a1), (2, .int a2), (3, .int a3), (4, .int a4), (5, .int (m_now a3.toNatClampNeg)), (7, .int s2.2.1)]) hx hb dX7_fitting_49 hl (by decide) rfl (fun ls hl => ?_)
        refine lv_iinc (v := (s2.2.1 + (1 : Int32))) (lv' := [(7, .int (s2.2.1 + (1 : Int32))), (6, .int (s2.1 ||| ((1 : Int32) <<< (s2.2.1 &&& 31)))), (0, .ref (gm g 0)), (1, .int a1), (2, .int a2), (3, .int a3), (4, .int a4), (5, .int (m_now a3.toNatClampNeg))]) hx hb dX7_fitting_51 hl (k := 7) rfl (congrArg (fun y => s2.2.1 + y) (by decide : Int32.ofInt (1) = (1 : Int32))) (by decide) rfl (fun ls hl => ?_)
        refine lv_goto (tgt := 14) hx hb dX7_fitting_54 (by decide) ?_
        exact hback1 _ (Option.some.inj hf).symm H locs ls hP hS (lv_sub hl [2, 3, 4, 5, 6, 7, 1, 0] rfl)
set_option maxHeartbeats 4000000 in
set_option maxRecDepth 100000 in
theorem ct_X7_fits (l : Launch) (n : Nat) (g : GM) (m_now : Nat → Int32) (m_kept : Nat → Int32) (m_aside : Nat → Int32) (m_isKept : Int32) (m_found : Nat → Int32) (m_steps : Nat → Int32) (m_queue : Nat → Int32) (m_lives : Nat → Int32) (m_treads : Nat → Int32) (m_tape : Nat → Int32) (m_taped : Int32) (m_begins : Int32) (m_ends : Int32) (m_sort : Int32) (m_value : Int32) (m_isWrong : Int32) (m_items : Nat → Int32) (m_itemMany : Int32) (m_seedThen : Int32) (m_groundThen : Nat → Int32) (m_widths : Nat → Int32) (m_sizes : Nat → Int32) (m_numbers : Nat → Int32) (m_moved : Nat → Int32) (a1 : Int32) (a2 : Int32) (a3 : Int32) (res : Int32 × (Nat → Int32) × (Nat → Int32) × (Nat → Int32)) (hf : fX7_fits n a1 a2 a3 m_now m_aside m_found m_lives m_treads m_widths m_sizes m_numbers = some res) : Met l yX7_fits wsX7_fits ({ frames := 10, cells := 0, slots := 0, locals := 234 }) (va_Pc [.ref (gm g 0), .int a1, .int a2, .int a3] (mI g (m_now, m_kept, m_aside, m_isKept, m_found, m_steps, m_queue, m_lives, m_treads, m_tape, m_taped, m_begins, m_ends, m_sort, m_value, m_isWrong, m_items, m_itemMany, m_seedThen, m_groundThen, m_widths, m_sizes, m_numbers, m_moved))) (qW (some (.int res.1)) True g.1 (mw g (res.2.1, m_kept, res.2.2.1, m_isKept, res.2.2.2, m_steps, m_queue, m_lives, m_treads, m_tape, m_taped, m_begins, m_ends, m_sort, m_value, m_isWrong, m_items, m_itemMany, m_seedThen, m_groundThen, m_widths, m_sizes, m_numbers, m_moved)) (mA g)) 0 0 (mA g) := by
  refine Met.ofW (cc := cX7_fits) (maxL := 4) (ret := (some .int)) (by decide) rfl ?_
  intro p e s m args below meth c s₁ B hml hv
  obtain ⟨rfl, hI⟩ := hv
  have hx := B.exec
  have hb := B.bytes
  have hr := B.returns
  have hts := atoms_spec (ws := wsX7_fits) B.pre
  have hown : s.vm.findClass RX7 = some m.cls := findClass_of_methodNamed B.named
  have hlocks := B.notSynchronized
  have hP := hI.1
  have hB := hI.2
  have hK := hB.1
  have hNW := hB.2.1
  have hS : va_S (mA g) s.heap s.heap [] := va_S.rf
  have hw0 := hts (.constant RX7 95 (-1000001)) (by decide +kernel)
  have hl := lv_entry ([.ref (gm g 0), .int a1, .int a2, .int a3]) (n := 4) (Nat.le_of_ble_eq_true rfl)
  rw [lg_entry_eq]
  generalize (lg_sl ([.ref (gm g 0), .int a1, .int a2, .int a3]) ++ List.replicate (4 - (lg_sl ([.ref (gm g 0), .int a1, .int a2, .int a3])).length) Slot.unset).toArray = ls at hl ⊢
  have hl : lv_has ls 4 [(0, .ref (gm g 0)), (1, .int a1), (2, .int a2), (3, .int a3)] := hl
  unfold fX7_fits at hf
  refine lv_aload_n hx hb dX7_fits_0 rfl (lv_at hl 0 rfl) ?_
  refine lv_iload_n hx hb dX7_fits_1 rfl (lv_at hl 1 rfl) ?_
  obtain ⟨q1, hq1, hf⟩ := bd_some hf
  refine kr_S (st1 := [.int q1]) (va_runV (As := [.int a1]) (rest := []) ⟨hx, hb, hml, hown, hts⟩ (ct_X7_lacks l n g m_now m_kept m_aside m_isKept m_found m_steps m_queue m_lives m_treads m_tape m_taped m_begins m_ends m_sort m_value m_isWrong m_items m_itemMany m_seedThen m_groundThen m_widths m_sizes m_numbers m_moved a1 q1 hq1) (cwV 1 hts gX7_fits_X7_lacks rfl rfl rfl hd_X7_lacks ⟨Nat.le_of_ble_eq_true rfl, Nat.le_of_ble_eq_true rfl⟩) ⟨bl_M, va_recv hK hP (ci := 5) (q0 := 0) rfl k_md, pr_M rfl hB hP hS⟩ rfl rfl hl.1 rfl (lv_room (Nat.le_of_ble_eq_true rfl)) dX7_fits_2 ⟨Nat.le_refl _, Nat.le_refl _⟩) rfl (fun hn2 => ?_)
  refine lv_if_eq (tgt := 18) hx hb dX7_fits_5 (by decide) (fun hc3 => ?_) (fun hc3 => ?_)
  · have hf := (if_pos hc3).symm.trans hf
    refine lv_aload_n hx hb dX7_fits_18 rfl (lv_at hl 0 rfl) ?_
    refine lv_iload_n hx hb dX7_fits_19 rfl (lv_at hl 2 rfl) ?_
    obtain ⟨q4, hq4, hf⟩ := bd_some hf
    refine kr_S (st1 := [.int q4]) (va_runV (As := [.int a2]) (rest := []) ⟨hx, hb, hml, hown, hts⟩ (ct_X7_isSeed l n g m_now m_kept m_aside m_isKept m_found m_steps m_queue m_lives m_treads m_tape m_taped m_begins m_ends m_sort m_value m_isWrong m_items m_itemMany m_seedThen m_groundThen m_widths m_sizes m_numbers m_moved a2 q4 hq4) (cwV 1 hts gX7_fits_X7_isSeed rfl rfl rfl hd_X7_isSeed ⟨Nat.le_of_ble_eq_true rfl, Nat.le_of_ble_eq_true rfl⟩) ⟨bl_M, va_recv hK hP (ci := 5) (q0 := 0) rfl k_md, pr_M rfl hB hP hS⟩ rfl rfl hl.1 rfl (lv_room (Nat.le_of_ble_eq_true rfl)) dX7_fits_20 ⟨Nat.le_refl _, Nat.le_refl _⟩) rfl (fun hn5 => ?_)
    refine lv_if_eq (tgt := 49) hx hb dX7_fits_23 (by decide) (fun hc6 => ?_) (fun hc6 => ?_)
    · have hf := (if_pos hc6).symm.trans hf
      refine lv_aload_n hx hb dX7_fits_49 rfl (lv_at hl 0 rfl) ?_
      refine lv_ldc (v := (-1000001 : Int32)) hx hb hown hw0 dX7_fits_50 ?_
      obtain ⟨q7, hq7, hf⟩ := bd_some hf
      refine kr_W (st1 := [.int q7.1]) (va_runV (As := [.int (-1000001 : Int32)]) (rest := []) ⟨hx, hb, hml, hown, hts⟩ (ct_X7_finding l n g m_now m_kept m_aside m_isKept m_found m_steps m_queue m_lives m_treads m_tape m_taped m_begins m_ends m_sort m_value m_isWrong m_items m_itemMany m_seedThen m_groundThen m_widths m_sizes m_numbers m_moved (-1000001 : Int32) q7 hq7) (cwV 1 hts gX7_fits_X7_finding rfl rfl rfl hd_X7_finding ⟨Nat.le_of_ble_eq_true rfl, Nat.le_of_ble_eq_true rfl⟩) ⟨bl_M, va_recv hK hP (ci := 5) (q0 := 0) rfl k_md, pr_M rfl hB hP hS⟩ rfl rfl hl.1 rfl (lv_room (Nat.le_of_ble_eq_true rfl)) dX7_fits_52 ⟨Nat.le_refl _, Nat.le_refl _⟩) hS rfl (fun hn8 H locs hP hS => ?_)
      have hP : va_P g.1 vwCl (mw g (m_now, m_kept, m_aside, m_isKept, q7.2, m_steps, m_queue, m_lives, m_treads, m_tape, m_taped, m_begins, m_ends, m_sort, m_value, m_isWrong, m_items, m_itemMany, m_seedThen, m_groundThen, m_widths, m_sizes, m_numbers, m_moved)) H := hP
      have hres : (q7.1, m_now, m_aside, q7.2) = res := (Option.some.inj hf)
      have hP := w_eq (congrArg (fun z => mw g (z.2.1, m_kept, z.2.2.1, m_isKept, z.2.2.2, m_steps, m_queue, m_lives, m_treads, m_tape, m_taped, m_begins, m_ends, m_sort, m_value, m_isWrong, m_items, m_itemMany, m_seedThen, m_groundThen, m_widths, m_sizes, m_numbers, m_moved)) hres) hP
      exact W.iret (v := q7.1) hx hb hr (fun t ht hW => ⟨congrArg (fun z => Outcome.returned (some (Value.int z.1))) hres, trivial, by rw [ht]; exact hP, hS.F ht⟩) hS.2.2 dX7_fits_55
    · have hf := (if_neg hc6).symm.trans hf
      refine lv_iload_n hx hb dX7_fits_26 rfl (lv_at hl 3 rfl) ?_
      obtain ⟨q9, hq9, hf⟩ := bd_some hf
      refine kr_S (st1 := [.int q9]) (va_runS (As := [.int a3]) (rest := []) ⟨hx, hb, hml, hown, hts⟩ (ct_X7_isCell l n a3 q9 hq9) (va_cwS 1 hts gX7_fits_X7_isCell rfl rfl rfl hn_X7_isCell ⟨Nat.le_of_ble_eq_true rfl, Nat.le_of_ble_eq_true rfl⟩) ⟨bl_N, pr_N rfl hNW⟩ rfl rfl hl.1 rfl (lv_room (Nat.le_of_ble_eq_true rfl)) dX7_fits_27 ⟨Nat.le_refl _, Nat.le_refl _⟩) rfl (fun hn10 => ?_)
      refine lv_if_eq (tgt := 49) hx hb dX7_fits_30 (by decide) (fun hc11 => ?_) (fun hc11 => ?_)
      · have hf := (if_pos hc11).symm.trans hf
        refine lv_aload_n hx hb dX7_fits_49 rfl (lv_at hl 0 rfl) ?_
        refine lv_ldc (v := (-1000001 : Int32)) hx hb hown hw0 dX7_fits_50 ?_
        obtain ⟨q12, hq12, hf⟩ := bd_some hf
        refine kr_W (st1 := [.int q12.1]) (va_runV (As := [.int (-1000001 : Int32)]) (rest := []) ⟨hx, hb, hml, hown, hts⟩ (ct_X7_finding l n g m_now m_kept m_aside m_isKept m_found m_steps m_queue m_lives m_treads m_tape m_taped m_begins m_ends m_sort m_value m_isWrong m_items m_itemMany m_seedThen m_groundThen m_widths m_sizes m_numbers m_moved (-1000001 : Int32) q12 hq12) (cwV 1 hts gX7_fits_X7_finding rfl rfl rfl hd_X7_finding ⟨Nat.le_of_ble_eq_true rfl, Nat.le_of_ble_eq_true rfl⟩) ⟨bl_M, va_recv hK hP (ci := 5) (q0 := 0) rfl k_md, pr_M rfl hB hP hS⟩ rfl rfl hl.1 rfl (lv_room (Nat.le_of_ble_eq_true rfl)) dX7_fits_52 ⟨Nat.le_refl _, Nat.le_refl _⟩) hS rfl (fun hn13 H locs hP hS => ?_)
        have hP : va_P g.1 vwCl (mw g (m_now, m_kept, m_aside, m_isKept, q12.2, m_steps, m_queue, m_lives, m_treads, m_tape, m_taped, m_begins, m_ends, m_sort, m_value, m_isWrong, m_items, m_itemMany, m_seedThen, m_groundThen, m_widths, m_sizes, m_numbers, m_moved)) H := hP
        have hres : (q12.1, m_now, m_aside, q12.2) = res := (Option.some.inj hf)
        have hP := w_eq (congrArg (fun z => mw g (z.2.1, m_kept, z.2.2.1, m_isKept, z.2.2.2, m_steps, m_queue, m_lives, m_treads, m_tape, m_taped, m_begins, m_ends, m_sort, m_value, m_isWrong, m_items, m_itemMany, m_seedThen, m_groundThen, m_widths, m_sizes, m_numbers, m_moved)) hres) hP
        exact W.iret (v := q12.1) hx hb hr (fun t ht hW => ⟨congrArg (fun z => Outcome.returned (some (Value.int z.1))) hres, trivial, by rw [ht]; exact hP, hS.F ht⟩) hS.2.2 dX7_fits_55
      · have hf := (if_neg hc11).symm.trans hf
        refine lv_aload_n hx hb dX7_fits_33 rfl (lv_at hl 0 rfl) ?_
        refine lv_iload_n hx hb dX7_fits_34 rfl (lv_at hl 1 rfl) ?_
        refine lv_iload_n hx hb dX7_fits_35 rfl (lv_at hl 3 rfl) ?_
        refine lv_iload_n hx hb dX7_fits_36 rfl (lv_at hl 2 rfl) ?_
        refine lv_iconst (v := (0 : Int32)) hx hb dX7_fits_37 (by decide) ?_
        obtain ⟨q14, hq14, hf⟩ := bd_some hf
        refine kr_S (st1 := [.int q14, .int a3, .int a1, .ref (gm g 0)]) (va_runS (As := [.int a2, .int (0 : Int32)]) (rest := [.int a3, .int a1, .ref (gm g 0)]) ⟨hx, hb, hml, hown, hts⟩ (ct_X7_at l n a2 (0 : Int32) q14 hq14) (va_cwS 2 hts gX7_fits_X7_at rfl rfl rfl hn_X7_at ⟨Nat.le_of_ble_eq_true rfl, Nat.le_of_ble_eq_true rfl⟩) ⟨bl_N, pr_N rfl hNW⟩ rfl rfl hl.1 rfl (lv_room (Nat.le_of_ble_eq_true rfl)) dX7_fits_38 ⟨Nat.le_refl _, Nat.le_refl _⟩) rfl (fun hn15 => ?_)
        refine lv_bipush (v := (7 : Int32)) hx hb dX7_fits_41 (by decide) ?_
        obtain ⟨q16, hq16, hf⟩ := bd_some hf
        refine kr_W (st1 := [.int q16.1]) (va_runV (As := [.int a1, .int a3, .int q14, .int (7 : Int32)]) (rest := []) ⟨hx, hb, hml, hown, hts⟩ (ct_X7_fitting l n g m_now m_kept m_aside m_isKept m_found m_steps m_queue m_lives m_treads m_tape m_taped m_begins m_ends m_sort m_value m_isWrong m_items m_itemMany m_seedThen m_groundThen m_widths m_sizes m_numbers m_moved a1 a3 q14 (7 : Int32) q16 hq16) (cwV 4 hts gX7_fits_X7_fitting rfl rfl rfl hd_X7_fitting ⟨Nat.le_of_ble_eq_true rfl, Nat.le_of_ble_eq_true rfl⟩) ⟨bl_M, va_recv hK hP (ci := 5) (q0 := 0) rfl k_md, pr_M rfl hB hP hS⟩ rfl rfl hl.1 rfl (lv_room (Nat.le_of_ble_eq_true rfl)) dX7_fits_43 ⟨Nat.le_refl _, Nat.le_refl _⟩) hS rfl (fun hn17 H locs hP hS => ?_)
        have hP : va_P g.1 vwCl (mw g (q16.2.1, m_kept, q16.2.2, m_isKept, m_found, m_steps, m_queue, m_lives, m_treads, m_tape, m_taped, m_begins, m_ends, m_sort, m_value, m_isWrong, m_items, m_itemMany, m_seedThen, m_groundThen, m_widths, m_sizes, m_numbers, m_moved)) H := hP
        refine lv_goto (tgt := 55) hx hb dX7_fits_46 (by decide) ?_
        have hres : (q16.1, q16.2.1, q16.2.2, m_found) = res := (Option.some.inj hf)
        have hP := w_eq (congrArg (fun z => mw g (z.2.1, m_kept, z.2.2.1, m_isKept, z.2.2.2, m_steps, m_queue, m_lives, m_treads, m_tape, m_taped, m_begins, m_ends, m_sort, m_value, m_isWrong, m_items, m_itemMany, m_seedThen, m_groundThen, m_widths, m_sizes, m_numbers, m_moved)) hres) hP
        exact W.iret (v := q16.1) hx hb hr (fun t ht hW => ⟨congrArg (fun z => Outcome.returned (some (Value.int z.1))) hres, trivial, by rw [ht]; exact hP, hS.F ht⟩) hS.2.2 dX7_fits_55
  · have hf := (if_neg hc3).symm.trans hf
    refine lv_aload_n hx hb dX7_fits_8 rfl (lv_at hl 0 rfl) ?_
    refine lv_aload_n hx hb dX7_fits_9 rfl (lv_at hl 0 rfl) ?_
    refine lv_iload_n hx hb dX7_fits_10 rfl (lv_at hl 1 rfl) ?_
    obtain ⟨q18, hq18, hf⟩ := bd_some hf
    refine kr_S (st1 := [.int q18, .ref (gm g 0)]) (va_runV (As := [.int a1]) (rest := [.ref (gm g 0)]) ⟨hx, hb, hml, hown, hts⟩ (ct_X7_lacks l n g m_now m_kept m_aside m_isKept m_found m_steps m_queue m_lives m_treads m_tape m_taped m_begins m_ends m_sort m_value m_isWrong m_items m_itemMany m_seedThen m_groundThen m_widths m_sizes m_numbers m_moved a1 q18 hq18) (cwV 1 hts gX7_fits_X7_lacks rfl rfl rfl hd_X7_lacks ⟨Nat.le_of_ble_eq_true rfl, Nat.le_of_ble_eq_true rfl⟩) ⟨bl_M, va_recv hK hP (ci := 5) (q0 := 0) rfl k_md, pr_M rfl hB hP hS⟩ rfl rfl hl.1 rfl (lv_room (Nat.le_of_ble_eq_true rfl)) dX7_fits_11 ⟨Nat.le_refl _, Nat.le_refl _⟩) rfl (fun hn19 => ?_)
    obtain ⟨q20, hq20, hf⟩ := bd_some hf
    refine kr_W (st1 := [.int q20.1]) (va_runV (As := [.int q18]) (rest := []) ⟨hx, hb, hml, hown, hts⟩ (ct_X7_finding l n g m_now m_kept m_aside m_isKept m_found m_steps m_queue m_lives m_treads m_tape m_taped m_begins m_ends m_sort m_value m_isWrong m_items m_itemMany m_seedThen m_groundThen m_widths m_sizes m_numbers m_moved q18 q20 hq20) (cwV 1 hts gX7_fits_X7_finding rfl rfl rfl hd_X7_finding ⟨Nat.le_of_ble_eq_true rfl, Nat.le_of_ble_eq_true rfl⟩) ⟨bl_M, va_recv hK hP (ci := 5) (q0 := 0) rfl k_md, pr_M rfl hB hP hS⟩ rfl rfl hl.1 rfl (lv_room (Nat.le_of_ble_eq_true rfl)) dX7_fits_14 ⟨Nat.le_refl _, Nat.le_refl _⟩) hS rfl (fun hn21 H locs hP hS => ?_)
    have hP : va_P g.1 vwCl (mw g (m_now, m_kept, m_aside, m_isKept, q20.2, m_steps, m_queue, m_lives, m_treads, m_tape, m_taped, m_begins, m_ends, m_sort, m_value, m_isWrong, m_items, m_itemMany, m_seedThen, m_groundThen, m_widths, m_sizes, m_numbers, m_moved)) H := hP
    have hres : (q20.1, m_now, m_aside, q20.2) = res := (Option.some.inj hf)
    have hP := w_eq (congrArg (fun z => mw g (z.2.1, m_kept, z.2.2.1, m_isKept, z.2.2.2, m_steps, m_queue, m_lives, m_treads, m_tape, m_taped, m_begins, m_ends, m_sort, m_value, m_isWrong, m_items, m_itemMany, m_seedThen, m_groundThen, m_widths, m_sizes, m_numbers, m_moved)) hres) hP
    exact W.iret (v := q20.1) hx hb hr (fun t ht hW => ⟨congrArg (fun z => Outcome.returned (some (Value.int z.1))) hres, trivial, by rw [ht]; exact hP, hS.F ht⟩) hS.2.2 dX7_fits_17
set_option maxHeartbeats 4000000 in
set_option maxRecDepth 100000 in
theorem ct_X7_headings (l : Launch) (n : Nat) (g : GM) (m_now : Nat → Int32) (m_kept : Nat → Int32) (m_aside : Nat → Int32) (m_isKept : Int32) (m_found : Nat → Int32) (m_steps : Nat → Int32) (m_queue : Nat → Int32) (m_lives : Nat → Int32) (m_treads : Nat → Int32) (m_tape : Nat → Int32) (m_taped : Int32) (m_begins : Int32) (m_ends : Int32) (m_sort : Int32) (m_value : Int32) (m_isWrong : Int32) (m_items : Nat → Int32) (m_itemMany : Int32) (m_seedThen : Int32) (m_groundThen : Nat → Int32) (m_widths : Nat → Int32) (m_sizes : Nat → Int32) (m_numbers : Nat → Int32) (m_moved : Nat → Int32) (a1 : Int32) (a2 : Int32) (a3 : Int32) (res : Int32 × (Nat → Int32) × (Nat → Int32) × (Nat → Int32)) (hf : fX7_headings n a1 a2 a3 m_now m_aside m_found m_lives m_treads m_widths m_sizes m_numbers = some res) : Met l yX7_headings wsX7_headings ({ frames := 10, cells := 0, slots := 0, locals := 234 }) (va_Pc [.ref (gm g 0), .int a1, .int a2, .int a3] (mI g (m_now, m_kept, m_aside, m_isKept, m_found, m_steps, m_queue, m_lives, m_treads, m_tape, m_taped, m_begins, m_ends, m_sort, m_value, m_isWrong, m_items, m_itemMany, m_seedThen, m_groundThen, m_widths, m_sizes, m_numbers, m_moved))) (qW (some (.int res.1)) True g.1 (mw g (res.2.1, m_kept, res.2.2.1, m_isKept, res.2.2.2, m_steps, m_queue, m_lives, m_treads, m_tape, m_taped, m_begins, m_ends, m_sort, m_value, m_isWrong, m_items, m_itemMany, m_seedThen, m_groundThen, m_widths, m_sizes, m_numbers, m_moved)) (mA g)) 0 0 (mA g) := by
  refine Met.ofW (cc := cX7_headings) (maxL := 4) (ret := (some .int)) (by decide) rfl ?_
  intro p e s m args below meth c s₁ B hml hv
  obtain ⟨rfl, hI⟩ := hv
  have hx := B.exec
  have hb := B.bytes
  have hr := B.returns
  have hts := atoms_spec (ws := wsX7_headings) B.pre
  have hown : s.vm.findClass RX7 = some m.cls := findClass_of_methodNamed B.named
  have hlocks := B.notSynchronized
  have hP := hI.1
  have hB := hI.2
  have hK := hB.1
  have hNW := hB.2.1
  have hS : va_S (mA g) s.heap s.heap [] := va_S.rf
  have hw0 := hts (.constant RX7 95 (-1000001)) (by decide +kernel)
  have hl := lv_entry ([.ref (gm g 0), .int a1, .int a2, .int a3]) (n := 4) (Nat.le_of_ble_eq_true rfl)
  rw [lg_entry_eq]
  generalize (lg_sl ([.ref (gm g 0), .int a1, .int a2, .int a3]) ++ List.replicate (4 - (lg_sl ([.ref (gm g 0), .int a1, .int a2, .int a3])).length) Slot.unset).toArray = ls at hl ⊢
  have hl : lv_has ls 4 [(0, .ref (gm g 0)), (1, .int a1), (2, .int a2), (3, .int a3)] := hl
  unfold fX7_headings at hf
  refine lv_aload_n hx hb dX7_headings_0 rfl (lv_at hl 0 rfl) ?_
  refine lv_iload_n hx hb dX7_headings_1 rfl (lv_at hl 1 rfl) ?_
  obtain ⟨q1, hq1, hf⟩ := bd_some hf
  refine kr_S (st1 := [.int q1]) (va_runV (As := [.int a1]) (rest := []) ⟨hx, hb, hml, hown, hts⟩ (ct_X7_lacks l n g m_now m_kept m_aside m_isKept m_found m_steps m_queue m_lives m_treads m_tape m_taped m_begins m_ends m_sort m_value m_isWrong m_items m_itemMany m_seedThen m_groundThen m_widths m_sizes m_numbers m_moved a1 q1 hq1) (cwV 1 hts gX7_headings_X7_lacks rfl rfl rfl hd_X7_lacks ⟨Nat.le_of_ble_eq_true rfl, Nat.le_of_ble_eq_true rfl⟩) ⟨bl_M, va_recv hK hP (ci := 5) (q0 := 0) rfl k_md, pr_M rfl hB hP hS⟩ rfl rfl hl.1 rfl (lv_room (Nat.le_of_ble_eq_true rfl)) dX7_headings_2 ⟨Nat.le_refl _, Nat.le_refl _⟩) rfl (fun hn2 => ?_)
  refine lv_if_eq (tgt := 18) hx hb dX7_headings_5 (by decide) (fun hc3 => ?_) (fun hc3 => ?_)
  · have hf := (if_pos hc3).symm.trans hf
    refine lv_aload_n hx hb dX7_headings_18 rfl (lv_at hl 0 rfl) ?_
    refine lv_iload_n hx hb dX7_headings_19 rfl (lv_at hl 2 rfl) ?_
    obtain ⟨q4, hq4, hf⟩ := bd_some hf
    refine kr_S (st1 := [.int q4]) (va_runV (As := [.int a2]) (rest := []) ⟨hx, hb, hml, hown, hts⟩ (ct_X7_isSeed l n g m_now m_kept m_aside m_isKept m_found m_steps m_queue m_lives m_treads m_tape m_taped m_begins m_ends m_sort m_value m_isWrong m_items m_itemMany m_seedThen m_groundThen m_widths m_sizes m_numbers m_moved a2 q4 hq4) (cwV 1 hts gX7_headings_X7_isSeed rfl rfl rfl hd_X7_isSeed ⟨Nat.le_of_ble_eq_true rfl, Nat.le_of_ble_eq_true rfl⟩) ⟨bl_M, va_recv hK hP (ci := 5) (q0 := 0) rfl k_md, pr_M rfl hB hP hS⟩ rfl rfl hl.1 rfl (lv_room (Nat.le_of_ble_eq_true rfl)) dX7_headings_20 ⟨Nat.le_refl _, Nat.le_refl _⟩) rfl (fun hn5 => ?_)
    refine lv_if_eq (tgt := 51) hx hb dX7_headings_23 (by decide) (fun hc6 => ?_) (fun hc6 => ?_)
    · have hf := (if_pos hc6).symm.trans hf
      refine lv_aload_n hx hb dX7_headings_51 rfl (lv_at hl 0 rfl) ?_
      refine lv_ldc (v := (-1000001 : Int32)) hx hb hown hw0 dX7_headings_52 ?_
      obtain ⟨q7, hq7, hf⟩ := bd_some hf
      refine kr_W (st1 := [.int q7.1]) (va_runV (As := [.int (-1000001 : Int32)]) (rest := []) ⟨hx, hb, hml, hown, hts⟩ (ct_X7_finding l n g m_now m_kept m_aside m_isKept m_found m_steps m_queue m_lives m_treads m_tape m_taped m_begins m_ends m_sort m_value m_isWrong m_items m_itemMany m_seedThen m_groundThen m_widths m_sizes m_numbers m_moved (-1000001 : Int32) q7 hq7) (cwV 1 hts gX7_headings_X7_finding rfl rfl rfl hd_X7_finding ⟨Nat.le_of_ble_eq_true rfl, Nat.le_of_ble_eq_true rfl⟩) ⟨bl_M, va_recv hK hP (ci := 5) (q0 := 0) rfl k_md, pr_M rfl hB hP hS⟩ rfl rfl hl.1 rfl (lv_room (Nat.le_of_ble_eq_true rfl)) dX7_headings_54 ⟨Nat.le_refl _, Nat.le_refl _⟩) hS rfl (fun hn8 H locs hP hS => ?_)
      have hP : va_P g.1 vwCl (mw g (m_now, m_kept, m_aside, m_isKept, q7.2, m_steps, m_queue, m_lives, m_treads, m_tape, m_taped, m_begins, m_ends, m_sort, m_value, m_isWrong, m_items, m_itemMany, m_seedThen, m_groundThen, m_widths, m_sizes, m_numbers, m_moved)) H := hP
      have hres : (q7.1, m_now, m_aside, q7.2) = res := (Option.some.inj hf)
      have hP := w_eq (congrArg (fun z => mw g (z.2.1, m_kept, z.2.2.1, m_isKept, z.2.2.2, m_steps, m_queue, m_lives, m_treads, m_tape, m_taped, m_begins, m_ends, m_sort, m_value, m_isWrong, m_items, m_itemMany, m_seedThen, m_groundThen, m_widths, m_sizes, m_numbers, m_moved)) hres) hP
      exact W.iret (v := q7.1) hx hb hr (fun t ht hW => ⟨congrArg (fun z => Outcome.returned (some (Value.int z.1))) hres, trivial, by rw [ht]; exact hP, hS.F ht⟩) hS.2.2 dX7_headings_57
    · have hf := (if_neg hc6).symm.trans hf
      refine lv_iload_n hx hb dX7_headings_26 rfl (lv_at hl 3 rfl) ?_
      obtain ⟨q9, hq9, hf⟩ := bd_some hf
      refine kr_S (st1 := [.int q9]) (va_runS (As := [.int a3]) (rest := []) ⟨hx, hb, hml, hown, hts⟩ (ct_X7_isCell l n a3 q9 hq9) (va_cwS 1 hts gX7_headings_X7_isCell rfl rfl rfl hn_X7_isCell ⟨Nat.le_of_ble_eq_true rfl, Nat.le_of_ble_eq_true rfl⟩) ⟨bl_N, pr_N rfl hNW⟩ rfl rfl hl.1 rfl (lv_room (Nat.le_of_ble_eq_true rfl)) dX7_headings_27 ⟨Nat.le_refl _, Nat.le_refl _⟩) rfl (fun hn10 => ?_)
      refine lv_if_eq (tgt := 51) hx hb dX7_headings_30 (by decide) (fun hc11 => ?_) (fun hc11 => ?_)
      · have hf := (if_pos hc11).symm.trans hf
        refine lv_aload_n hx hb dX7_headings_51 rfl (lv_at hl 0 rfl) ?_
        refine lv_ldc (v := (-1000001 : Int32)) hx hb hown hw0 dX7_headings_52 ?_
        obtain ⟨q12, hq12, hf⟩ := bd_some hf
        refine kr_W (st1 := [.int q12.1]) (va_runV (As := [.int (-1000001 : Int32)]) (rest := []) ⟨hx, hb, hml, hown, hts⟩ (ct_X7_finding l n g m_now m_kept m_aside m_isKept m_found m_steps m_queue m_lives m_treads m_tape m_taped m_begins m_ends m_sort m_value m_isWrong m_items m_itemMany m_seedThen m_groundThen m_widths m_sizes m_numbers m_moved (-1000001 : Int32) q12 hq12) (cwV 1 hts gX7_headings_X7_finding rfl rfl rfl hd_X7_finding ⟨Nat.le_of_ble_eq_true rfl, Nat.le_of_ble_eq_true rfl⟩) ⟨bl_M, va_recv hK hP (ci := 5) (q0 := 0) rfl k_md, pr_M rfl hB hP hS⟩ rfl rfl hl.1 rfl (lv_room (Nat.le_of_ble_eq_true rfl)) dX7_headings_54 ⟨Nat.le_refl _, Nat.le_refl _⟩) hS rfl (fun hn13 H locs hP hS => ?_)
        have hP : va_P g.1 vwCl (mw g (m_now, m_kept, m_aside, m_isKept, q12.2, m_steps, m_queue, m_lives, m_treads, m_tape, m_taped, m_begins, m_ends, m_sort, m_value, m_isWrong, m_items, m_itemMany, m_seedThen, m_groundThen, m_widths, m_sizes, m_numbers, m_moved)) H := hP
        have hres : (q12.1, m_now, m_aside, q12.2) = res := (Option.some.inj hf)
        have hP := w_eq (congrArg (fun z => mw g (z.2.1, m_kept, z.2.2.1, m_isKept, z.2.2.2, m_steps, m_queue, m_lives, m_treads, m_tape, m_taped, m_begins, m_ends, m_sort, m_value, m_isWrong, m_items, m_itemMany, m_seedThen, m_groundThen, m_widths, m_sizes, m_numbers, m_moved)) hres) hP
        exact W.iret (v := q12.1) hx hb hr (fun t ht hW => ⟨congrArg (fun z => Outcome.returned (some (Value.int z.1))) hres, trivial, by rw [ht]; exact hP, hS.F ht⟩) hS.2.2 dX7_headings_57
      · have hf := (if_neg hc11).symm.trans hf
        refine lv_aload_n hx hb dX7_headings_33 rfl (lv_at hl 0 rfl) ?_
        refine lv_iload_n hx hb dX7_headings_34 rfl (lv_at hl 1 rfl) ?_
        refine lv_iload_n hx hb dX7_headings_35 rfl (lv_at hl 3 rfl) ?_
        refine lv_iload_n hx hb dX7_headings_36 rfl (lv_at hl 2 rfl) ?_
        refine lv_iconst (v := (2 : Int32)) hx hb dX7_headings_37 (by decide) ?_
        obtain ⟨q14, hq14, hf⟩ := bd_some hf
        refine kr_S (st1 := [.int q14, .int a3, .int a1, .ref (gm g 0)]) (va_runS (As := [.int a2, .int (2 : Int32)]) (rest := [.int a3, .int a1, .ref (gm g 0)]) ⟨hx, hb, hml, hown, hts⟩ (ct_X7_at l n a2 (2 : Int32) q14 hq14) (va_cwS 2 hts gX7_headings_X7_at rfl rfl rfl hn_X7_at ⟨Nat.le_of_ble_eq_true rfl, Nat.le_of_ble_eq_true rfl⟩) ⟨bl_N, pr_N rfl hNW⟩ rfl rfl hl.1 rfl (lv_room (Nat.le_of_ble_eq_true rfl)) dX7_headings_38 ⟨Nat.le_refl _, Nat.le_refl _⟩) rfl (fun hn15 => ?_)
        refine lv_iconst (v := (4 : Int32)) hx hb dX7_headings_41 (by decide) ?_
        obtain ⟨q16, hq16, hf⟩ := bd_some hf
        refine kr_W (st1 := [.int q16.1]) (va_runV (As := [.int a1, .int a3, .int q14, .int (4 : Int32)]) (rest := []) ⟨hx, hb, hml, hown, hts⟩ (ct_X7_fitting l n g m_now m_kept m_aside m_isKept m_found m_steps m_queue m_lives m_treads m_tape m_taped m_begins m_ends m_sort m_value m_isWrong m_items m_itemMany m_seedThen m_groundThen m_widths m_sizes m_numbers m_moved a1 a3 q14 (4 : Int32) q16 hq16) (cwV 4 hts gX7_headings_X7_fitting rfl rfl rfl hd_X7_fitting ⟨Nat.le_of_ble_eq_true rfl, Nat.le_of_ble_eq_true rfl⟩) ⟨bl_M, va_recv hK hP (ci := 5) (q0 := 0) rfl k_md, pr_M rfl hB hP hS⟩ rfl rfl hl.1 rfl (lv_room (Nat.le_of_ble_eq_true rfl)) dX7_headings_42 ⟨Nat.le_refl _, Nat.le_refl _⟩) hS rfl (fun hn17 H locs hP hS => ?_)
        have hP : va_P g.1 vwCl (mw g (q16.2.1, m_kept, q16.2.2, m_isKept, m_found, m_steps, m_queue, m_lives, m_treads, m_tape, m_taped, m_begins, m_ends, m_sort, m_value, m_isWrong, m_items, m_itemMany, m_seedThen, m_groundThen, m_widths, m_sizes, m_numbers, m_moved)) H := hP
        obtain ⟨q18, hq18, hf⟩ := bd_some hf
        refine kr_S (st1 := [.int q18]) (va_runS (As := [.int q16.1]) (rest := []) ⟨hx, hb, hml, hown, hts⟩ (ct_X7_bits l n q16.1 q18 hq18) (va_cwS 1 hts gX7_headings_X7_bits rfl rfl rfl hn_X7_bits ⟨Nat.le_of_ble_eq_true rfl, Nat.le_of_ble_eq_true rfl⟩) ⟨bl_N, pr_N rfl hNW⟩ rfl rfl hl.1 rfl (lv_room (Nat.le_of_ble_eq_true rfl)) dX7_headings_45 ⟨Nat.le_refl _, Nat.le_refl _⟩) rfl (fun hn19 => ?_)
        refine lv_goto (tgt := 57) hx hb dX7_headings_48 (by decide) ?_
        have hres : (q18, q16.2.1, q16.2.2, m_found) = res := (Option.some.inj hf)
        have hP := w_eq (congrArg (fun z => mw g (z.2.1, m_kept, z.2.2.1, m_isKept, z.2.2.2, m_steps, m_queue, m_lives, m_treads, m_tape, m_taped, m_begins, m_ends, m_sort, m_value, m_isWrong, m_items, m_itemMany, m_seedThen, m_groundThen, m_widths, m_sizes, m_numbers, m_moved)) hres) hP
        exact W.iret (v := q18) hx hb hr (fun t ht hW => ⟨congrArg (fun z => Outcome.returned (some (Value.int z.1))) hres, trivial, by rw [ht]; exact hP, hS.F ht⟩) hS.2.2 dX7_headings_57
  · have hf := (if_neg hc3).symm.trans hf
    refine lv_aload_n hx hb dX7_headings_8 rfl (lv_at hl 0 rfl) ?_
    refine lv_aload_n hx hb dX7_headings_9 rfl (lv_at hl 0 rfl) ?_
    refine lv_iload_n hx hb dX7_headings_10 rfl (lv_at hl 1 rfl) ?_
    obtain ⟨q20, hq20, hf⟩ := bd_some hf
    refine kr_S (st1 := [.int q20, .ref (gm g 0)]) (va_runV (As := [.int a1]) (rest := [.ref (gm g 0)]) ⟨hx, hb, hml, hown, hts⟩ (ct_X7_lacks l n g m_now m_kept m_aside m_isKept m_found m_steps m_queue m_lives m_treads m_tape m_taped m_begins m_ends m_sort m_value m_isWrong m_items m_itemMany m_seedThen m_groundThen m_widths m_sizes m_numbers m_moved a1 q20 hq20) (cwV 1 hts gX7_headings_X7_lacks rfl rfl rfl hd_X7_lacks ⟨Nat.le_of_ble_eq_true rfl, Nat.le_of_ble_eq_true rfl⟩) ⟨bl_M, va_recv hK hP (ci := 5) (q0 := 0) rfl k_md, pr_M rfl hB hP hS⟩ rfl rfl hl.1 rfl (lv_room (Nat.le_of_ble_eq_true rfl)) dX7_headings_11 ⟨Nat.le_refl _, Nat.le_refl _⟩) rfl (fun hn21 => ?_)
    obtain ⟨q22, hq22, hf⟩ := bd_some hf
    refine kr_W (st1 := [.int q22.1]) (va_runV (As := [.int q20]) (rest := []) ⟨hx, hb, hml, hown, hts⟩ (ct_X7_finding l n g m_now m_kept m_aside m_isKept m_found m_steps m_queue m_lives m_treads m_tape m_taped m_begins m_ends m_sort m_value m_isWrong m_items m_itemMany m_seedThen m_groundThen m_widths m_sizes m_numbers m_moved q20 q22 hq22) (cwV 1 hts gX7_headings_X7_finding rfl rfl rfl hd_X7_finding ⟨Nat.le_of_ble_eq_true rfl, Nat.le_of_ble_eq_true rfl⟩) ⟨bl_M, va_recv hK hP (ci := 5) (q0 := 0) rfl k_md, pr_M rfl hB hP hS⟩ rfl rfl hl.1 rfl (lv_room (Nat.le_of_ble_eq_true rfl)) dX7_headings_14 ⟨Nat.le_refl _, Nat.le_refl _⟩) hS rfl (fun hn23 H locs hP hS => ?_)
    have hP : va_P g.1 vwCl (mw g (m_now, m_kept, m_aside, m_isKept, q22.2, m_steps, m_queue, m_lives, m_treads, m_tape, m_taped, m_begins, m_ends, m_sort, m_value, m_isWrong, m_items, m_itemMany, m_seedThen, m_groundThen, m_widths, m_sizes, m_numbers, m_moved)) H := hP
    have hres : (q22.1, m_now, m_aside, q22.2) = res := (Option.some.inj hf)
    have hP := w_eq (congrArg (fun z => mw g (z.2.1, m_kept, z.2.2.1, m_isKept, z.2.2.2, m_steps, m_queue, m_lives, m_treads, m_tape, m_taped, m_begins, m_ends, m_sort, m_value, m_isWrong, m_items, m_itemMany, m_seedThen, m_groundThen, m_widths, m_sizes, m_numbers, m_moved)) hres) hP
    exact W.iret (v := q22.1) hx hb hr (fun t ht hW => ⟨congrArg (fun z => Outcome.returned (some (Value.int z.1))) hres, trivial, by rw [ht]; exact hP, hS.F ht⟩) hS.2.2 dX7_headings_17
set_option maxHeartbeats 4000000 in
set_option maxRecDepth 100000 in
theorem ct_X7_drawn (l : Launch) (n : Nat) (g : GM) (m_now : Nat → Int32) (m_kept : Nat → Int32) (m_aside : Nat → Int32) (m_isKept : Int32) (m_found : Nat → Int32) (m_steps : Nat → Int32) (m_queue : Nat → Int32) (m_lives : Nat → Int32) (m_treads : Nat → Int32) (m_tape : Nat → Int32) (m_taped : Int32) (m_begins : Int32) (m_ends : Int32) (m_sort : Int32) (m_value : Int32) (m_isWrong : Int32) (m_items : Nat → Int32) (m_itemMany : Int32) (m_seedThen : Int32) (m_groundThen : Nat → Int32) (m_widths : Nat → Int32) (m_sizes : Nat → Int32) (m_numbers : Nat → Int32) (m_moved : Nat → Int32) (res : Int32 × (Nat → Int32)) (hf : fX7_drawn n m_now = some res) : Met l yX7_drawn wsX7_drawn ({ frames := 0, cells := 0, slots := 0, locals := 0 }) (va_Pc [.ref (gm g 0)] (mI g (m_now, m_kept, m_aside, m_isKept, m_found, m_steps, m_queue, m_lives, m_treads, m_tape, m_taped, m_begins, m_ends, m_sort, m_value, m_isWrong, m_items, m_itemMany, m_seedThen, m_groundThen, m_widths, m_sizes, m_numbers, m_moved))) (qW (some (.int res.1)) True g.1 (mw g (res.2, m_kept, m_aside, m_isKept, m_found, m_steps, m_queue, m_lives, m_treads, m_tape, m_taped, m_begins, m_ends, m_sort, m_value, m_isWrong, m_items, m_itemMany, m_seedThen, m_groundThen, m_widths, m_sizes, m_numbers, m_moved)) (mA g)) 0 0 (mA g) := by
  refine Met.ofW (cc := cX7_drawn) (maxL := 1) (ret := (some .int)) (by decide) rfl ?_
  intro p e s m args below meth c s₁ B hml hv
  obtain ⟨rfl, hI⟩ := hv
  have hx := B.exec
  have hb := B.bytes
  have hr := B.returns
  have hts := atoms_spec (ws := wsX7_drawn) B.pre
  have hown : s.vm.findClass RX7 = some m.cls := findClass_of_methodNamed B.named
  have hlocks := B.notSynchronized
  have hP := hI.1
  have hB := hI.2
  have hK := hB.1
  have hNW := hB.2.1
  have hS : va_S (mA g) s.heap s.heap [] := va_S.rf
  have hw0 := hts (.fieldLink RX7 9 "SownPathsModel" "now" "[I") (by decide +kernel)
  have hw1 := hts (.constant RX7 289 (1103515245)) (by decide +kernel)
  have iwX7 : ∀ w ∈ wsX70, w ∈ wsX7_drawn := fun w h => List.mem_cons_of_mem _ (List.mem_append_right _ h)
  have hl := lv_entry ([.ref (gm g 0)]) (n := 1) (Nat.le_of_ble_eq_true rfl)
  rw [lg_entry_eq]
  generalize (lg_sl ([.ref (gm g 0)]) ++ List.replicate (1 - (lg_sl ([.ref (gm g 0)])).length) Slot.unset).toArray = ls at hl ⊢
  have hl : lv_has ls 1 [(0, .ref (gm g 0))] := hl
  unfold fX7_drawn at hf
  refine lv_aload_n hx hb dX7_drawn_0 rfl (lv_at hl 0 rfl) ?_
  refine va_get (D := g.1) (ci := 5) (v := .ref (gm g 1)) (C := RX7) (T := TX7) (N := 27) hx hb hts iwX7 hown hK hP 0 k_md rfl 0 (by decide) hw0 (fun _ h9 => h9) rfl dX7_drawn_1 ?_
  refine lv_iconst (v := (2 : Int32)) hx hb dX7_drawn_4 (by decide) ?_
  refine lv_aload_n hx hb dX7_drawn_5 rfl (lv_at hl 0 rfl) ?_
  refine va_get (D := g.1) (ci := 5) (v := .ref (gm g 1)) (C := RX7) (T := TX7) (N := 27) hx hb hts iwX7 hown hK hP 0 k_md rfl 0 (by decide) hw0 (fun _ h9 => h9) rfl dX7_drawn_6 ?_
  refine lv_iconst (v := (2 : Int32)) hx hb dX7_drawn_9 (by decide) ?_
  refine va_iald (f := m_now) hx hb hK hP 1 0 k_now rfl (vi_lit (by decide)) dX7_drawn_10 ?_
  refine lv_ldcw (v := (1103515245 : Int32)) hx hb hown hw1 dX7_drawn_11 ?_
  refine lv_imul hx hb dX7_drawn_14 ?_
  refine lv_sipush (v := (12345 : Int32)) hx hb dX7_drawn_15 (by decide) ?_
  refine lv_iadd hx hb dX7_drawn_18 ?_
  refine va_iast (f := m_now) hx hb hK hP (mD hB.2.2.1 _) hS 1 0 k_now rfl (vi_lit (by decide)) dX7_drawn_19 (fun H locs hP _ hS => ?_)
  have hP : va_P g.1 vwCl (mw g ((upd m_now (2 : Int32).toNatClampNeg (((m_now (2 : Int32).toNatClampNeg) * (1103515245 : Int32)) + (12345 : Int32))), m_kept, m_aside, m_isKept, m_found, m_steps, m_queue, m_lives, m_treads, m_tape, m_taped, m_begins, m_ends, m_sort, m_value, m_isWrong, m_items, m_itemMany, m_seedThen, m_groundThen, m_widths, m_sizes, m_numbers, m_moved)) H := w_eq (k_set_now (upd m_now (2 : Int32).toNatClampNeg (((m_now (2 : Int32).toNatClampNeg) * (1103515245 : Int32)) + (12345 : Int32)))) hP
  refine lv_aload_n hx hb dX7_drawn_20 rfl (lv_at hl 0 rfl) ?_
  refine va_get (D := g.1) (ci := 5) (v := .ref (gm g 1)) (C := RX7) (T := TX7) (N := 27) hx hb hts iwX7 hown hK hP 0 k_md rfl 0 (by decide) hw0 (fun _ h9 => h9) rfl dX7_drawn_21 ?_
  refine lv_iconst (v := (2 : Int32)) hx hb dX7_drawn_24 (by decide) ?_
  refine va_iald (f := (upd m_now (2 : Int32).toNatClampNeg (((m_now (2 : Int32).toNatClampNeg) * (1103515245 : Int32)) + (12345 : Int32)))) hx hb hK hP 1 0 k_now rfl (vi_lit (by decide)) dX7_drawn_25 ?_
  refine lv_bipush (v := (8 : Int32)) hx hb dX7_drawn_26 (by decide) ?_
  refine lv_iushr (v := ((((upd m_now (2 : Int32).toNatClampNeg (((m_now (2 : Int32).toNatClampNeg) * (1103515245 : Int32)) + (12345 : Int32))) (2 : Int32).toNatClampNeg).toUInt32 >>> ((8 : Int32).toUInt32 &&& Int32.toUInt32 31)).toInt32)) hx hb dX7_drawn_28 rfl ?_
  have hres : (((((upd m_now (2 : Int32).toNatClampNeg (((m_now (2 : Int32).toNatClampNeg) * (1103515245 : Int32)) + (12345 : Int32))) (2 : Int32).toNatClampNeg).toUInt32 >>> ((8 : Int32).toUInt32 &&& Int32.toUInt32 31)).toInt32), (upd m_now (2 : Int32).toNatClampNeg (((m_now (2 : Int32).toNatClampNeg) * (1103515245 : Int32)) + (12345 : Int32)))) = res := (Option.some.inj hf)
  have hP := w_eq (congrArg (fun z => mw g (z.2, m_kept, m_aside, m_isKept, m_found, m_steps, m_queue, m_lives, m_treads, m_tape, m_taped, m_begins, m_ends, m_sort, m_value, m_isWrong, m_items, m_itemMany, m_seedThen, m_groundThen, m_widths, m_sizes, m_numbers, m_moved)) hres) hP
  exact W.iret (v := ((((upd m_now (2 : Int32).toNatClampNeg (((m_now (2 : Int32).toNatClampNeg) * (1103515245 : Int32)) + (12345 : Int32))) (2 : Int32).toNatClampNeg).toUInt32 >>> ((8 : Int32).toUInt32 &&& Int32.toUInt32 31)).toInt32)) hx hb hr (fun t ht hW => ⟨congrArg (fun z => Outcome.returned (some (Value.int z.1))) hres, trivial, by rw [ht]; exact hP, hS.F ht⟩) hS.2.2 dX7_drawn_29
set_option maxHeartbeats 4000000 in
set_option maxRecDepth 100000 in
theorem ct_X7_dogs (l : Launch) (n : Nat) (g : GM) (m_now : Nat → Int32) (m_kept : Nat → Int32) (m_aside : Nat → Int32) (m_isKept : Int32) (m_found : Nat → Int32) (m_steps : Nat → Int32) (m_queue : Nat → Int32) (m_lives : Nat → Int32) (m_treads : Nat → Int32) (m_tape : Nat → Int32) (m_taped : Int32) (m_begins : Int32) (m_ends : Int32) (m_sort : Int32) (m_value : Int32) (m_isWrong : Int32) (m_items : Nat → Int32) (m_itemMany : Int32) (m_seedThen : Int32) (m_groundThen : Nat → Int32) (m_widths : Nat → Int32) (m_sizes : Nat → Int32) (m_numbers : Nat → Int32) (m_moved : Nat → Int32) (a1 : Int32) (res : Int32 × (Nat → Int32) × (Nat → Int32)) (hf : fX7_dogs n a1 m_now m_found m_lives m_treads = some res) : Met l yX7_dogs wsX7_dogs ({ frames := 8, cells := 0, slots := 0, locals := 182 }) (va_Pc [.ref (gm g 0), .int a1] (mI g (m_now, m_kept, m_aside, m_isKept, m_found, m_steps, m_queue, m_lives, m_treads, m_tape, m_taped, m_begins, m_ends, m_sort, m_value, m_isWrong, m_items, m_itemMany, m_seedThen, m_groundThen, m_widths, m_sizes, m_numbers, m_moved))) (qW (some (.int res.1)) True g.1 (mw g (res.2.1, m_kept, m_aside, m_isKept, res.2.2, m_steps, m_queue, m_lives, m_treads, m_tape, m_taped, m_begins, m_ends, m_sort, m_value, m_isWrong, m_items, m_itemMany, m_seedThen, m_groundThen, m_widths, m_sizes, m_numbers, m_moved)) (mA g)) 0 0 (mA g) := by
  refine Met.ofW (cc := cX7_dogs) (maxL := 3) (ret := (some .int)) (by decide) rfl ?_
  intro p e s m args below meth c s₁ B hml hv
  obtain ⟨rfl, hI⟩ := hv
  have hx := B.exec
  have hb := B.bytes
  have hr := B.returns
  have hts := atoms_spec (ws := wsX7_dogs) B.pre
  have hown : s.vm.findClass RX7 = some m.cls := findClass_of_methodNamed B.named
  have hlocks := B.notSynchronized
  have hP := hI.1
  have hB := hI.2
  have hK := hB.1
  have hNW := hB.2.1
  have hS : va_S (mA g) s.heap s.heap [] := va_S.rf
  have hw0 := hts (.fieldLink RX7 9 "SownPathsModel" "now" "[I") (by decide +kernel)
  have hw1 := hts (.constant RX7 205 (99999)) (by decide +kernel)
  have hw2 := hts (.constant RX7 144 (-1000005)) (by decide +kernel)
  have hw3 := hts (.constant RX7 95 (-1000001)) (by decide +kernel)
  have iwX7 : ∀ w ∈ wsX70, w ∈ wsX7_dogs := fun w h => List.mem_cons_of_mem _ (List.mem_append_right _ h)
  have hl := lv_entry ([.ref (gm g 0), .int a1]) (n := 3) (Nat.le_of_ble_eq_true rfl)
  rw [lg_entry_eq]
  generalize (lg_sl ([.ref (gm g 0), .int a1]) ++ List.replicate (3 - (lg_sl ([.ref (gm g 0), .int a1])).length) Slot.unset).toArray = ls at hl ⊢
  have hl : lv_has ls 3 [(0, .ref (gm g 0)), (1, .int a1)] := hl
  unfold fX7_dogs at hf
  refine lv_iload_n hx hb dX7_dogs_0 rfl (lv_at hl 1 rfl) ?_
  refine lv_iconst (v := (1 : Int32)) hx hb dX7_dogs_1 (by decide) ?_
  refine lv_bipush (v := (20 : Int32)) hx hb dX7_dogs_2 (by decide) ?_
  obtain ⟨q1, hq1, hf⟩ := bd_some hf
  refine kr_S (st1 := [.int q1]) (va_runS (As := [.int a1, .int (1 : Int32), .int (20 : Int32)]) (rest := []) ⟨hx, hb, hml, hown, hts⟩ (ct_X7_within l n a1 (1 : Int32) (20 : Int32) q1 hq1) (va_cwS 3 hts gX7_dogs_X7_within rfl rfl rfl hn_X7_within ⟨Nat.le_of_ble_eq_true rfl, Nat.le_of_ble_eq_true rfl⟩) ⟨bl_N, pr_N rfl hNW⟩ rfl rfl hl.1 rfl (lv_room (Nat.le_of_ble_eq_true rfl)) dX7_dogs_4 ⟨Nat.le_refl _, Nat.le_refl _⟩) rfl (fun hn2 => ?_)
  refine lv_if_ne (tgt := 17) hx hb dX7_dogs_7 (by decide) (fun hc3 => ?_) (fun hc3 => ?_)
  · have hf := (if_neg hc3).symm.trans hf
    refine lv_aload_n hx hb dX7_dogs_17 rfl (lv_at hl 0 rfl) ?_
    refine va_get (D := g.1) (ci := 5) (v := .ref (gm g 1)) (C := RX7) (T := TX7) (N := 27) hx hb hts iwX7 hown hK hP 0 k_md rfl 0 (by decide) hw0 (fun _ h9 => h9) rfl dX7_dogs_18 ?_
    refine lv_iconst (v := (0 : Int32)) hx hb dX7_dogs_21 (by decide) ?_
    refine va_iald (f := m_now) hx hb hK hP 1 0 k_now rfl (vi_lit (by decide)) dX7_dogs_22 ?_
    refine lv_iload_n hx hb dX7_dogs_23 rfl (lv_at hl 1 rfl) ?_
    refine lv_iadd hx hb dX7_dogs_24 ?_
    refine lv_ldc (v := (99999 : Int32)) hx hb hown hw1 dX7_dogs_25 ?_
    refine lv_icmp_le (tgt := 37) hx hb dX7_dogs_27 (by decide) (fun hc4 => ?_) (fun hc4 => ?_)
    · have hf := (if_pos hc4).symm.trans hf
      refine lv_iconst (v := (0 : Int32)) hx hb dX7_dogs_37 (by decide) ?_
      refine lv_istore_n (lv' := [(2, .int (0 : Int32)), (0, .ref (gm g 0)), (1, .int a1)]) hx hb dX7_dogs_38 rfl hl (by decide) rfl (fun ls hl => ?_)
      refine lp_run hf (fun s5 => ∀ (H : Heap) (locs : List Loc) (ls : Array Slot), va_P g.1 vwCl (mw g (s5.2, m_kept, m_aside, m_isKept, m_found, m_steps, m_queue, m_lives, m_treads, m_tape, m_taped, m_begins, m_ends, m_sort, m_value, m_isWrong, m_items, m_itemMany, m_seedThen, m_groundThen, m_widths, m_sizes, m_numbers, m_moved)) H → va_S (mA g) s.heap H locs → lv_has ls 3 [(0, .ref (gm g 0)), (1, .int a1), (2, .int s5.1)] → W p l e (headSpec wsX7_dogs ({ frames := 8, cells := 0, slots := 0, locals := 182 })).room s m ([.ref (gm g 0), .int a1] : List Value).toArray below meth c H locs 0 0 (MQ below (qW (some (.int res.1)) True g.1 (mw g (res.2.1, m_kept, m_aside, m_isKept, res.2.2, m_steps, m_queue, m_lives, m_treads, m_tape, m_taped, m_begins, m_ends, m_sort, m_value, m_isWrong, m_items, m_itemMany, m_seedThen, m_groundThen, m_widths, m_sizes, m_numbers, m_moved)) (mA g)) ([.ref (gm g 0), .int a1] : List Value).toArray s 0 0 (mA g)) (F0 m 39 ls [])) (fun v6 => ∀ (H : Heap) (locs : List Loc) (ls : Array Slot), va_P g.1 vwCl (mw g (v6.2, m_kept, m_aside, m_isKept, m_found, m_steps, m_queue, m_lives, m_treads, m_tape, m_taped, m_begins, m_ends, m_sort, m_value, m_isWrong, m_items, m_itemMany, m_seedThen, m_groundThen, m_widths, m_sizes, m_numbers, m_moved)) H → va_S (mA g) s.heap H locs → lv_has ls 3 [(0, .ref (gm g 0))] → W p l e (headSpec wsX7_dogs ({ frames := 8, cells := 0, slots := 0, locals := 182 })).room s m ([.ref (gm g 0), .int a1] : List Value).toArray below meth c H locs 0 0 (MQ below (qW (some (.int res.1)) True g.1 (mw g (res.2.1, m_kept, m_aside, m_isKept, res.2.2, m_steps, m_queue, m_lives, m_treads, m_tape, m_taped, m_begins, m_ends, m_sort, m_value, m_isWrong, m_items, m_itemMany, m_seedThen, m_groundThen, m_widths, m_sizes, m_numbers, m_moved)) (mA g)) ([.ref (gm g 0), .int a1] : List Value).toArray s 0 0 (mA g)) (F0 m 70 ls [])) ?_ ?_ _ _ _ hP hS (lv_sub hl [1, 2, 0] rfl)
      · intro v6 hf H locs ls hP hS hl
        refine lv_aload_n hx hb dX7_dogs_70 rfl (lv_at hl 0 rfl) ?_
        obtain ⟨q13, hq13, hf⟩ := bd_some hf
        refine kr_S (st1 := [.int q13]) (va_runV (As := []) (rest := []) ⟨hx, hb, hml, hown, hts⟩ (ct_X7_pathsNow l n g v6.2 m_kept m_aside m_isKept m_found m_steps m_queue m_lives m_treads m_tape m_taped m_begins m_ends m_sort m_value m_isWrong m_items m_itemMany m_seedThen m_groundThen m_widths m_sizes m_numbers m_moved q13 hq13) (cwV 0 hts gX7_dogs_X7_pathsNow rfl rfl rfl hd_X7_pathsNow ⟨Nat.le_of_ble_eq_true rfl, Nat.le_of_ble_eq_true rfl⟩) ⟨bl_M, va_recv hK hP (ci := 5) (q0 := 0) rfl k_md, pr_M rfl hB hP hS⟩ rfl rfl hl.1 rfl (lv_room (Nat.le_of_ble_eq_true rfl)) dX7_dogs_71 ⟨Nat.le_refl _, Nat.le_refl _⟩) rfl (fun hn14 => ?_)
        have hres : (q13, v6.2, m_found) = res := (Option.some.inj hf)
        have hP := w_eq (congrArg (fun z => mw g (z.2.1, m_kept, m_aside, m_isKept, z.2.2, m_steps, m_queue, m_lives, m_treads, m_tape, m_taped, m_begins, m_ends, m_sort, m_value, m_isWrong, m_items, m_itemMany, m_seedThen, m_groundThen, m_widths, m_sizes, m_numbers, m_moved)) hres) hP
        exact W.iret (v := q13) hx hb hr (fun t ht hW => ⟨congrArg (fun z => Outcome.returned (some (Value.int z.1))) hres, trivial, by rw [ht]; exact hP, hS.F ht⟩) hS.2.2 dX7_dogs_74
      · intro s5 r1 hf hback1 hexit1 H locs ls hP hS hl
        refine lv_iload_n hx hb dX7_dogs_39 rfl (lv_at hl 2 rfl) ?_
        refine lv_iload_n hx hb dX7_dogs_40 rfl (lv_at hl 1 rfl) ?_
        refine lv_icmp_ge (tgt := 70) hx hb dX7_dogs_41 (by decide) (fun hc7 => ?_) (fun hc7 => ?_)
        · have hf := (if_pos hc7).symm.trans hf
          exact hexit1 (s5.1, s5.2) (Option.some.inj hf).symm H locs ls hP hS (lv_sub hl [0] rfl)
        · have hf := (if_neg hc7).symm.trans hf
          refine lv_aload_n hx hb dX7_dogs_44 rfl (lv_at hl 0 rfl) ?_
          refine va_get (D := g.1) (ci := 5) (v := .ref (gm g 1)) (C := RX7) (T := TX7) (N := 27) hx hb hts iwX7 hown hK hP 0 k_md rfl 0 (by decide) hw0 (fun _ h9 => h9) rfl dX7_dogs_45 ?_
          refine lv_bipush (v := (49 : Int32)) hx hb dX7_dogs_48 (by decide) ?_
          refine lv_aload_n hx hb dX7_dogs_50 rfl (lv_at hl 0 rfl) ?_
          obtain ⟨q8, hq8, hf⟩ := bd_some hf
          refine kr_W (st1 := [.int q8.1, .int (49 : Int32), .ref (gm g 1)]) (va_runV (As := []) (rest := [.int (49 : Int32), .ref (gm g 1)]) ⟨hx, hb, hml, hown, hts⟩ (ct_X7_drawn l n g s5.2 m_kept m_aside m_isKept m_found m_steps m_queue m_lives m_treads m_tape m_taped m_begins m_ends m_sort m_value m_isWrong m_items m_itemMany m_seedThen m_groundThen m_widths m_sizes m_numbers m_moved q8 hq8) (cwV 0 hts gX7_dogs_X7_drawn rfl rfl rfl hd_X7_drawn ⟨Nat.le_of_ble_eq_true rfl, Nat.le_of_ble_eq_true rfl⟩) ⟨bl_M, va_recv hK hP (ci := 5) (q0 := 0) rfl k_md, pr_M rfl hB hP hS⟩ rfl rfl hl.1 rfl (lv_room (Nat.le_of_ble_eq_true rfl)) dX7_dogs_51 ⟨Nat.le_refl _, Nat.le_refl _⟩) hS rfl (fun hn9 H locs hP hS => ?_)
          have hP : va_P g.1 vwCl (mw g (q8.2, m_kept, m_aside, m_isKept, m_found, m_steps, m_queue, m_lives, m_treads, m_tape, m_taped, m_begins, m_ends, m_sort, m_value, m_isWrong, m_items, m_itemMany, m_seedThen, m_groundThen, m_widths, m_sizes, m_numbers, m_moved)) H := hP
          refine lv_bipush (v := (36 : Int32)) hx hb dX7_dogs_54 (by decide) ?_
          refine lv_irem hx hb dX7_dogs_56 (by decide) ?_
          refine lv_iadd hx hb dX7_dogs_57 ?_
          refine lv_iconst (v := (0 : Int32)) hx hb dX7_dogs_58 (by decide) ?_
          obtain ⟨hg10, hf⟩ := gd_some hf
          refine va_iast (f := q8.2) hx hb hK hP (mD hB.2.2.1 _) hS 1 0 k_now rfl hg10 dX7_dogs_59 (fun H locs hP _ hS => ?_)
          have hP : va_P g.1 vwCl (mw g ((upd q8.2 ((49 : Int32) + (q8.1 - q8.1 / (36 : Int32) * (36 : Int32))).toNatClampNeg (0 : Int32)), m_kept, m_aside, m_isKept, m_found, m_steps, m_queue, m_lives, m_treads, m_tape, m_taped, m_begins, m_ends, m_sort, m_value, m_isWrong, m_items, m_itemMany, m_seedThen, m_groundThen, m_widths, m_sizes, m_numbers, m_moved)) H := w_eq (k_set_now (upd q8.2 ((49 : Int32) + (q8.1 - q8.1 / (36 : Int32) * (36 : Int32))).toNatClampNeg (0 : Int32))) hP
          refine lv_aload_n hx hb dX7_dogs_60 rfl (lv_at hl 0 rfl) ?_
          obtain ⟨q11, hq11, hf⟩ := bd_some hf
          refine kr_W (st1 := []) (va_runV (As := []) (rest := []) ⟨hx, hb, hml, hown, hts⟩ (ct_X7_season l n g (upd q8.2 ((49 : Int32) + (q8.1 - q8.1 / (36 : Int32) * (36 : Int32))).toNatClampNeg (0 : Int32)) m_kept m_aside m_isKept m_found m_steps m_queue m_lives m_treads m_tape m_taped m_begins m_ends m_sort m_value m_isWrong m_items m_itemMany m_seedThen m_groundThen m_widths m_sizes m_numbers m_moved q11 hq11) (cwV 0 hts gX7_dogs_X7_season rfl rfl rfl hd_X7_season ⟨Nat.le_of_ble_eq_true rfl, Nat.le_of_ble_eq_true rfl⟩) ⟨bl_M, va_recv hK hP (ci := 5) (q0 := 0) rfl k_md, pr_M rfl hB hP hS⟩ rfl rfl hl.1 rfl (lv_room (Nat.le_of_ble_eq_true rfl)) dX7_dogs_61 ⟨Nat.le_refl _, Nat.le_refl _⟩) hS rfl (fun hn12 H locs hP hS => ?_)
          have hP : va_P g.1 vwCl (mw g (q11, m_kept, m_aside, m_isKept, m_found, m_steps, m_queue, m_lives, m_treads, m_tape, m_taped, m_begins, m_ends, m_sort, m_value, m_isWrong, m_items, m_itemMany, m_seedThen, m_groundThen, m_widths, m_sizes, m_numbers, m_moved)) H := hP
          refine lv_iinc (v := (s5.1 + (1 : Int32))) (lv' := [(2, .int (s5.1 + (1 : Int32))), (0, .ref (gm g 0)), (1, .int a1)]) hx hb dX7_dogs_64 hl (k := 2) rfl (congrArg (fun y => s5.1 + y) (by decide : Int32.ofInt (1) = (1 : Int32))) (by decide) rfl (fun ls hl => ?_)
          refine lv_goto (tgt := 39) hx hb dX7_dogs_67 (by decide) ?_
          exact hback1 _ (Option.some.inj hf).symm H locs ls hP hS (lv_sub hl [1, 2, 0] rfl)
    · have hf := (if_neg hc4).symm.trans hf
      refine lv_aload_n hx hb dX7_dogs_30 rfl (lv_at hl 0 rfl) ?_
      refine lv_ldc (v := (-1000005 : Int32)) hx hb hown hw2 dX7_dogs_31 ?_
      obtain ⟨q15, hq15, hf⟩ := bd_some hf
      refine kr_W (st1 := [.int q15.1]) (va_runV (As := [.int (-1000005 : Int32)]) (rest := []) ⟨hx, hb, hml, hown, hts⟩ (ct_X7_finding l n g m_now m_kept m_aside m_isKept m_found m_steps m_queue m_lives m_treads m_tape m_taped m_begins m_ends m_sort m_value m_isWrong m_items m_itemMany m_seedThen m_groundThen m_widths m_sizes m_numbers m_moved (-1000005 : Int32) q15 hq15) (cwV 1 hts gX7_dogs_X7_finding rfl rfl rfl hd_X7_finding ⟨Nat.le_of_ble_eq_true rfl, Nat.le_of_ble_eq_true rfl⟩) ⟨bl_M, va_recv hK hP (ci := 5) (q0 := 0) rfl k_md, pr_M rfl hB hP hS⟩ rfl rfl hl.1 rfl (lv_room (Nat.le_of_ble_eq_true rfl)) dX7_dogs_33 ⟨Nat.le_refl _, Nat.le_refl _⟩) hS rfl (fun hn16 H locs hP hS => ?_)
      have hP : va_P g.1 vwCl (mw g (m_now, m_kept, m_aside, m_isKept, q15.2, m_steps, m_queue, m_lives, m_treads, m_tape, m_taped, m_begins, m_ends, m_sort, m_value, m_isWrong, m_items, m_itemMany, m_seedThen, m_groundThen, m_widths, m_sizes, m_numbers, m_moved)) H := hP
      have hres : (q15.1, m_now, q15.2) = res := (Option.some.inj hf)
      have hP := w_eq (congrArg (fun z => mw g (z.2.1, m_kept, m_aside, m_isKept, z.2.2, m_steps, m_queue, m_lives, m_treads, m_tape, m_taped, m_begins, m_ends, m_sort, m_value, m_isWrong, m_items, m_itemMany, m_seedThen, m_groundThen, m_widths, m_sizes, m_numbers, m_moved)) hres) hP
      exact W.iret (v := q15.1) hx hb hr (fun t ht hW => ⟨congrArg (fun z => Outcome.returned (some (Value.int z.1))) hres, trivial, by rw [ht]; exact hP, hS.F ht⟩) hS.2.2 dX7_dogs_36
  · have hf := (if_pos hc3).symm.trans hf
    refine lv_aload_n hx hb dX7_dogs_10 rfl (lv_at hl 0 rfl) ?_
    refine lv_ldc (v := (-1000001 : Int32)) hx hb hown hw3 dX7_dogs_11 ?_
    obtain ⟨q17, hq17, hf⟩ := bd_some hf
    refine kr_W (st1 := [.int q17.1]) (va_runV (As := [.int (-1000001 : Int32)]) (rest := []) ⟨hx, hb, hml, hown, hts⟩ (ct_X7_finding l n g m_now m_kept m_aside m_isKept m_found m_steps m_queue m_lives m_treads m_tape m_taped m_begins m_ends m_sort m_value m_isWrong m_items m_itemMany m_seedThen m_groundThen m_widths m_sizes m_numbers m_moved (-1000001 : Int32) q17 hq17) (cwV 1 hts gX7_dogs_X7_finding rfl rfl rfl hd_X7_finding ⟨Nat.le_of_ble_eq_true rfl, Nat.le_of_ble_eq_true rfl⟩) ⟨bl_M, va_recv hK hP (ci := 5) (q0 := 0) rfl k_md, pr_M rfl hB hP hS⟩ rfl rfl hl.1 rfl (lv_room (Nat.le_of_ble_eq_true rfl)) dX7_dogs_13 ⟨Nat.le_refl _, Nat.le_refl _⟩) hS rfl (fun hn18 H locs hP hS => ?_)
    have hP : va_P g.1 vwCl (mw g (m_now, m_kept, m_aside, m_isKept, q17.2, m_steps, m_queue, m_lives, m_treads, m_tape, m_taped, m_begins, m_ends, m_sort, m_value, m_isWrong, m_items, m_itemMany, m_seedThen, m_groundThen, m_widths, m_sizes, m_numbers, m_moved)) H := hP
    have hres : (q17.1, m_now, q17.2) = res := (Option.some.inj hf)
    have hP := w_eq (congrArg (fun z => mw g (z.2.1, m_kept, m_aside, m_isKept, z.2.2, m_steps, m_queue, m_lives, m_treads, m_tape, m_taped, m_begins, m_ends, m_sort, m_value, m_isWrong, m_items, m_itemMany, m_seedThen, m_groundThen, m_widths, m_sizes, m_numbers, m_moved)) hres) hP
    exact W.iret (v := q17.1) hx hb hr (fun t ht hW => ⟨congrArg (fun z => Outcome.returned (some (Value.int z.1))) hres, trivial, by rw [ht]; exact hP, hS.F ht⟩) hS.2.2 dX7_dogs_16
set_option maxHeartbeats 4000000 in
set_option maxRecDepth 100000 in
theorem ct_X7_odds (l : Launch) (n : Nat) (g : GM) (m_now : Nat → Int32) (m_kept : Nat → Int32) (m_aside : Nat → Int32) (m_isKept : Int32) (m_found : Nat → Int32) (m_steps : Nat → Int32) (m_queue : Nat → Int32) (m_lives : Nat → Int32) (m_treads : Nat → Int32) (m_tape : Nat → Int32) (m_taped : Int32) (m_begins : Int32) (m_ends : Int32) (m_sort : Int32) (m_value : Int32) (m_isWrong : Int32) (m_items : Nat → Int32) (m_itemMany : Int32) (m_seedThen : Int32) (m_groundThen : Nat → Int32) (m_widths : Nat → Int32) (m_sizes : Nat → Int32) (m_numbers : Nat → Int32) (m_moved : Nat → Int32) (a1 : Int32) (a2 : Int32) (res : Int64 × (Nat → Int32)) (hf : fX7_odds n a1 a2 m_now m_found = some res) : Met l yX7_odds wsX7_odds ({ frames := 2, cells := 0, slots := 0, locals := 43 }) (va_Pc [.ref (gm g 0), .int a1, .int a2] (mI g (m_now, m_kept, m_aside, m_isKept, m_found, m_steps, m_queue, m_lives, m_treads, m_tape, m_taped, m_begins, m_ends, m_sort, m_value, m_isWrong, m_items, m_itemMany, m_seedThen, m_groundThen, m_widths, m_sizes, m_numbers, m_moved))) (qW (some (.long res.1)) True g.1 (mw g (m_now, m_kept, m_aside, m_isKept, res.2, m_steps, m_queue, m_lives, m_treads, m_tape, m_taped, m_begins, m_ends, m_sort, m_value, m_isWrong, m_items, m_itemMany, m_seedThen, m_groundThen, m_widths, m_sizes, m_numbers, m_moved)) (mA g)) 0 0 (mA g) := by
  refine Met.ofW (cc := cX7_odds) (maxL := 9) (ret := (some .long)) (by decide) rfl ?_
  intro p e s m args below meth c s₁ B hml hv
  obtain ⟨rfl, hI⟩ := hv
  have hx := B.exec
  have hb := B.bytes
  have hr := B.returns
  have hts := atoms_spec (ws := wsX7_odds) B.pre
  have hown : s.vm.findClass RX7 = some m.cls := findClass_of_methodNamed B.named
  have hlocks := B.notSynchronized
  have hP := hI.1
  have hB := hI.2
  have hK := hB.1
  have hNW := hB.2.1
  have hS : va_S (mA g) s.heap s.heap [] := va_S.rf
  have hw0 := hts (.constant RX7 95 (-1000001)) (by decide +kernel)
  have hl := lv_entry ([.ref (gm g 0), .int a1, .int a2]) (n := 9) (Nat.le_of_ble_eq_true rfl)
  rw [lg_entry_eq]
  generalize (lg_sl ([.ref (gm g 0), .int a1, .int a2]) ++ List.replicate (9 - (lg_sl ([.ref (gm g 0), .int a1, .int a2])).length) Slot.unset).toArray = ls at hl ⊢
  have hl : lv_has ls 9 [(0, .ref (gm g 0)), (1, .int a1), (2, .int a2)] := hl
  unfold fX7_odds at hf
  refine lv_iload_n hx hb dX7_odds_0 rfl (lv_at hl 1 rfl) ?_
  refine lv_iconst (v := (0 : Int32)) hx hb dX7_odds_1 (by decide) ?_
  refine lv_bipush (v := (11 : Int32)) hx hb dX7_odds_2 (by decide) ?_
  obtain ⟨q1, hq1, hf⟩ := bd_some hf
  refine kr_S (st1 := [.int q1]) (va_runS (As := [.int a1, .int (0 : Int32), .int (11 : Int32)]) (rest := []) ⟨hx, hb, hml, hown, hts⟩ (ct_X7_within l n a1 (0 : Int32) (11 : Int32) q1 hq1) (va_cwS 3 hts gX7_odds_X7_within rfl rfl rfl hn_X7_within ⟨Nat.le_of_ble_eq_true rfl, Nat.le_of_ble_eq_true rfl⟩) ⟨bl_N, pr_N rfl hNW⟩ rfl rfl hl.1 rfl (lv_room (Nat.le_of_ble_eq_true rfl)) dX7_odds_4 ⟨Nat.le_refl _, Nat.le_refl _⟩) rfl (fun hn2 => ?_)
  refine lv_if_eq (tgt := 19) hx hb dX7_odds_7 (by decide) (fun hc3 => ?_) (fun hc3 => ?_)
  · have hf := (if_pos hc3).symm.trans hf
    refine lv_aload_n hx hb dX7_odds_19 rfl (lv_at hl 0 rfl) ?_
    refine lv_ldc (v := (-1000001 : Int32)) hx hb hown hw0 dX7_odds_20 ?_
    obtain ⟨q4, hq4, hf⟩ := bd_some hf
    refine kr_W (st1 := [.int q4.1]) (va_runV (As := [.int (-1000001 : Int32)]) (rest := []) ⟨hx, hb, hml, hown, hts⟩ (ct_X7_finding l n g m_now m_kept m_aside m_isKept m_found m_steps m_queue m_lives m_treads m_tape m_taped m_begins m_ends m_sort m_value m_isWrong m_items m_itemMany m_seedThen m_groundThen m_widths m_sizes m_numbers m_moved (-1000001 : Int32) q4 hq4) (cwV 1 hts gX7_odds_X7_finding rfl rfl rfl hd_X7_finding ⟨Nat.le_of_ble_eq_true rfl, Nat.le_of_ble_eq_true rfl⟩) ⟨bl_M, va_recv hK hP (ci := 5) (q0 := 0) rfl k_md, pr_M rfl hB hP hS⟩ rfl rfl hl.1 rfl (lv_room (Nat.le_of_ble_eq_true rfl)) dX7_odds_22 ⟨Nat.le_refl _, Nat.le_refl _⟩) hS rfl (fun hn5 H locs hP hS => ?_)
    have hP : va_P g.1 vwCl (mw g (m_now, m_kept, m_aside, m_isKept, q4.2, m_steps, m_queue, m_lives, m_treads, m_tape, m_taped, m_begins, m_ends, m_sort, m_value, m_isWrong, m_items, m_itemMany, m_seedThen, m_groundThen, m_widths, m_sizes, m_numbers, m_moved)) H := hP
    refine lv_i2l (v := q4.1.toInt64) hx hb dX7_odds_25 rfl ?_
    have hres : (q4.1.toInt64, q4.2) = res := (Option.some.inj hf)
    have hP := w_eq (congrArg (fun z => mw g (m_now, m_kept, m_aside, m_isKept, z.2, m_steps, m_queue, m_lives, m_treads, m_tape, m_taped, m_begins, m_ends, m_sort, m_value, m_isWrong, m_items, m_itemMany, m_seedThen, m_groundThen, m_widths, m_sizes, m_numbers, m_moved)) hres) hP
    exact W.lret (v := q4.1.toInt64) hx hb hr (fun t ht hW => ⟨congrArg (fun z => Outcome.returned (some (Value.long z.1))) hres, trivial, by rw [ht]; exact hP, hS.F ht⟩) hS.2.2 dX7_odds_26
  · have hf := (if_neg hc3).symm.trans hf
    refine lv_iload_n hx hb dX7_odds_10 rfl (lv_at hl 2 rfl) ?_
    refine lv_iconst (v := (0 : Int32)) hx hb dX7_odds_11 (by decide) ?_
    refine lv_iconst (v := (1 : Int32)) hx hb dX7_odds_12 (by decide) ?_
    obtain ⟨q6, hq6, hf⟩ := bd_some hf
    refine kr_S (st1 := [.int q6]) (va_runS (As := [.int a2, .int (0 : Int32), .int (1 : Int32)]) (rest := []) ⟨hx, hb, hml, hown, hts⟩ (ct_X7_within l n a2 (0 : Int32) (1 : Int32) q6 hq6) (va_cwS 3 hts gX7_odds_X7_within rfl rfl rfl hn_X7_within ⟨Nat.le_of_ble_eq_true rfl, Nat.le_of_ble_eq_true rfl⟩) ⟨bl_N, pr_N rfl hNW⟩ rfl rfl hl.1 rfl (lv_room (Nat.le_of_ble_eq_true rfl)) dX7_odds_13 ⟨Nat.le_refl _, Nat.le_refl _⟩) rfl (fun hn7 => ?_)
    refine lv_if_ne (tgt := 27) hx hb dX7_odds_16 (by decide) (fun hc8 => ?_) (fun hc8 => ?_)
    · have hf := (if_neg hc8).symm.trans hf
      refine lv_bipush (v := (36 : Int32)) hx hb dX7_odds_27 (by decide) ?_
      refine lv_aload_n hx hb dX7_odds_29 rfl (lv_at hl 0 rfl) ?_
      obtain ⟨q9, hq9, hf⟩ := bd_some hf
      refine kr_S (st1 := [.int q9, .int (36 : Int32)]) (va_runV (As := []) (rest := [.int (36 : Int32)]) ⟨hx, hb, hml, hown, hts⟩ (ct_X7_pathsNow l n g m_now m_kept m_aside m_isKept m_found m_steps m_queue m_lives m_treads m_tape m_taped m_begins m_ends m_sort m_value m_isWrong m_items m_itemMany m_seedThen m_groundThen m_widths m_sizes m_numbers m_moved q9 hq9) (cwV 0 hts gX7_odds_X7_pathsNow rfl rfl rfl hd_X7_pathsNow ⟨Nat.le_of_ble_eq_true rfl, Nat.le_of_ble_eq_true rfl⟩) ⟨bl_M, va_recv hK hP (ci := 5) (q0 := 0) rfl k_md, pr_M rfl hB hP hS⟩ rfl rfl hl.1 rfl (lv_room (Nat.le_of_ble_eq_true rfl)) dX7_odds_30 ⟨Nat.le_refl _, Nat.le_refl _⟩) rfl (fun hn10 => ?_)
      refine lv_isub hx hb dX7_odds_33 ?_
      refine lv_istore_n (lv' := [(3, .int ((36 : Int32) - q9)), (0, .ref (gm g 0)), (1, .int a1), (2, .int a2)]) hx hb dX7_odds_34 rfl hl (by decide) rfl (fun ls hl => ?_)
      refine lv_bipush (v := (36 : Int32)) hx hb dX7_odds_35 (by decide) ?_
      refine lv_istore (lv' := [(4, .int (36 : Int32)), (3, .int ((36 : Int32) - q9)), (0, .ref (gm g 0)), (1, .int a1), (2, .int a2)]) hx hb dX7_odds_37 hl (by decide) rfl (fun ls hl => ?_)
      refine lv_iload_n hx hb dX7_odds_39 rfl (lv_at hl 1 rfl) ?_
      refine lv_istore (lv' := [(5, .int ((36 : Int32) - q9)), (4, .int (36 : Int32)), (3, .int ((36 : Int32) - q9)), (0, .ref (gm g 0)), (1, .int a1), (2, .int a2)]) hx hb dX7_odds_40 hl (by decide) rfl (fun ls hl => ?_)
      refine lp_run hf (fun s11 => ∀ (H : Heap) (locs : List Loc) (ls : Array Slot), va_P g.1 vwCl (mw g (m_now, m_kept, m_aside, m_isKept, m_found, m_steps, m_queue, m_lives, m_treads, m_tape, m_taped, m_begins, m_ends, m_sort, m_value, m_isWrong, m_items, m_itemMany, m_seedThen, m_groundThen, m_widths, m_sizes, m_numbers, m_moved)) H → va_S (mA g) s.heap H locs → lv_has ls 9 [(1, .int a1), (2, .int a2), (3, .int ((36 : Int32) - q9)), (4, .int s11.1), (5, .int s11.2)] → W p l e (headSpec wsX7_odds ({ frames := 2, cells := 0, slots := 0, locals := 43 })).room s m ([.ref (gm g 0), .int a1, .int a2] : List Value).toArray below meth c H locs 0 0 (MQ below (qW (some (.long res.1)) True g.1 (mw g (m_now, m_kept, m_aside, m_isKept, res.2, m_steps, m_queue, m_lives, m_treads, m_tape, m_taped, m_begins, m_ends, m_sort, m_value, m_isWrong, m_items, m_itemMany, m_seedThen, m_groundThen, m_widths, m_sizes, m_numbers, m_moved)) (mA g)) ([.ref (gm g 0), .int a1, .int a2] : List Value).toArray s 0 0 (mA g)) (F0 m 42 ls [])) (fun v12 => ∀ (H : Heap) (locs : List Loc) (ls : Array Slot), va_P g.1 vwCl (mw g (m_now, m_kept, m_aside, m_isKept, m_found, m_steps, m_queue, m_lives, m_treads, m_tape, m_taped, m_begins, m_ends, m_sort, m_value, m_isWrong, m_items, m_itemMany, m_seedThen, m_groundThen, m_widths, m_sizes, m_numbers, m_moved)) H → va_S (mA g) s.heap H locs → lv_has ls 9 [(1, .int a1), (2, .int a2), (3, .int ((36 : Int32) - q9)), (4, .int v12.1)] → W p l e (headSpec wsX7_odds ({ frames := 2, cells := 0, slots := 0, locals := 43 })).room s m ([.ref (gm g 0), .int a1, .int a2] : List Value).toArray below meth c H locs 0 0 (MQ below (qW (some (.long res.1)) True g.1 (mw g (m_now, m_kept, m_aside, m_isKept, res.2, m_steps, m_queue, m_lives, m_treads, m_tape, m_taped, m_begins, m_ends, m_sort, m_value, m_isWrong, m_items, m_itemMany, m_seedThen, m_groundThen, m_widths, m_sizes, m_numbers, m_moved)) (mA g)) ([.ref (gm g 0), .int a1, .int a2] : List Value).toArray s 0 0 (mA g)) (F0 m 65 ls [])) ?_ ?_ _ _ _ hP hS (lv_sub hl [4, 5, 2, 1, 0] rfl)
      · intro v12 hf H locs ls hP hS hl
        refine lv_lconst (v := (1 : Int64)) hx hb dX7_odds_65 (by decide) ?_
        refine lv_lstore (lv' := [(6, .long (1 : Int64)), (1, .int a1), (2, .int a2), (3, .int ((36 : Int32) - q9)), (4, .int v12.1)]) hx hb dX7_odds_66 hl (by decide) rfl (fun ls hl => ?_)
        refine lv_iconst (v := (0 : Int32)) hx hb dX7_odds_68 (by decide) ?_
        refine lv_istore (lv' := [(8, .int (0 : Int32)), (6, .long (1 : Int64)), (1, .int a1), (2, .int a2), (3, .int ((36 : Int32) - q9)), (4, .int v12.1)]) hx hb dX7_odds_69 hl (by decide) rfl (fun ls hl => ?_)
        refine lp_run hf (fun s15 => ∀ (H : Heap) (locs : List Loc) (ls : Array Slot), va_P g.1 vwCl (mw g (m_now, m_kept, m_aside, m_isKept, m_found, m_steps, m_queue, m_lives, m_treads, m_tape, m_taped, m_begins, m_ends, m_sort, m_value, m_isWrong, m_items, m_itemMany, m_seedThen, m_groundThen, m_widths, m_sizes, m_numbers, m_moved)) H → va_S (mA g) s.heap H locs → lv_has ls 9 [(1, .int a1), (2, .int a2), (3, .int ((36 : Int32) - q9)), (4, .int v12.1), (6, .long s15.1), (8, .int s15.2)] → W p l e (headSpec wsX7_odds ({ frames := 2, cells := 0, slots := 0, locals := 43 })).room s m ([.ref (gm g 0), .int a1, .int a2] : List Value).toArray below meth c H locs 0 0 (MQ below (qW (some (.long res.1)) True g.1 (mw g (m_now, m_kept, m_aside, m_isKept, res.2, m_steps, m_queue, m_lives, m_treads, m_tape, m_taped, m_begins, m_ends, m_sort, m_value, m_isWrong, m_items, m_itemMany, m_seedThen, m_groundThen, m_widths, m_sizes, m_numbers, m_moved)) (mA g)) ([.ref (gm g 0), .int a1, .int a2] : List Value).toArray s 0 0 (mA g)) (F0 m 71 ls [])) (fun v16 => ∀ (H : Heap) (locs : List Loc) (ls : Array Slot), va_P g.1 vwCl (mw g (m_now, m_kept, m_aside, m_isKept, m_found, m_steps, m_queue, m_lives, m_treads, m_tape, m_taped, m_begins, m_ends, m_sort, m_value, m_isWrong, m_items, m_itemMany, m_seedThen, m_groundThen, m_widths, m_sizes, m_numbers, m_moved)) H → va_S (mA g) s.heap H locs → lv_has ls 9 [(6, .long v16.1)] → W p l e (headSpec wsX7_odds ({ frames := 2, cells := 0, slots := 0, locals := 43 })).room s m ([.ref (gm g 0), .int a1, .int a2] : List Value).toArray below meth c H locs 0 0 (MQ below (qW (some (.long res.1)) True g.1 (mw g (m_now, m_kept, m_aside, m_isKept, res.2, m_steps, m_queue, m_lives, m_treads, m_tape, m_taped, m_begins, m_ends, m_sort, m_value, m_isWrong, m_items, m_itemMany, m_seedThen, m_groundThen, m_widths, m_sizes, m_numbers, m_moved)) (mA g)) ([.ref (gm g 0), .int a1, .int a2] : List Value).toArray s 0 0 (mA g)) (F0 m 102 ls [])) ?_ ?_ _ _ _ hP hS (lv_sub hl [2, 3, 4, 5, 1, 0] rfl)
        · intro v16 hf H locs ls hP hS hl
          refine lv_lload hx hb dX7_odds_102 (lv_at hl 0 rfl) ?_
          have hres : (v16.1, m_found) = res := (Option.some.inj hf)
          have hP := w_eq (congrArg (fun z => mw g (m_now, m_kept, m_aside, m_isKept, z.2, m_steps, m_queue, m_lives, m_treads, m_tape, m_taped, m_begins, m_ends, m_sort, m_value, m_isWrong, m_items, m_itemMany, m_seedThen, m_groundThen, m_widths, m_sizes, m_numbers, m_moved)) hres) hP
          exact W.lret (v := v16.1) hx hb hr (fun t ht hW => ⟨congrArg (fun z => Outcome.returned (some (Value.long z.1))) hres, trivial, by rw [ht]; exact hP, hS.F ht⟩) hS.2.2 dX7_odds_104
        · intro s15 r1 hf hback1 hexit1 H locs ls hP hS hl
          refine lv_iload hx hb dX7_odds_71 (lv_at hl 5 rfl) ?_
          refine lv_iload_n hx hb dX7_odds_73 rfl (lv_at hl 0 rfl) ?_
          refine lv_icmp_ge (tgt := 102) hx hb dX7_odds_74 (by decide) (fun hc17 => ?_) (fun hc17 => ?_)
          · have hf := (if_pos hc17).symm.trans hf
            exact hexit1 (s15.1, s15.2) (Option.some.inj hf).symm H locs ls hP hS (lv_sub hl [4] rfl)
          · have hf := (if_neg hc17).symm.trans hf
            refine lv_lload hx hb dX7_odds_77 (lv_at hl 4 rfl) ?_
            refine lv_iload_n hx hb dX7_odds_79 rfl (lv_at hl 1 rfl) ?_
            refine lv_if_ne (tgt := 87) hx hb dX7_odds_80 (by decide) (fun hc18 => ?_) (fun hc18 => ?_)
            · have hf := (if_neg hc18).symm.trans hf
              refine lv_bipush (v := (36 : Int32)) hx hb dX7_odds_87 (by decide) ?_
              refine lv_iload hx hb dX7_odds_89 (lv_at hl 3 rfl) ?_
              obtain ⟨hg19, hf⟩ := gd_some hf
              refine lv_idiv hx hb dX7_odds_91 hg19 ?_
              refine lv_i2l (v := (((36 : Int32) / v12.1).toInt64)) hx hb dX7_odds_92 rfl ?_
              refine lv_lmul hx hb dX7_odds_93 ?_
              refine lv_lstore (lv' := [(6, .long (s15.1 * (((36 : Int32) / v12.1).toInt64))), (1, .int a1), (2, .int a2), (3, .int ((36 : Int32) - q9)), (4, .int v12.1), (8, .int s15.2)]) hx hb dX7_odds_94 hl (by decide) rfl (fun ls hl => ?_)
              refine lv_iinc (v := (s15.2 + (1 : Int32))) (lv' := [(8, .int (s15.2 + (1 : Int32))), (6, .long (s15.1 * (((36 : Int32) / v12.1).toInt64))), (1, .int a1), (2, .int a2), (3, .int ((36 : Int32) - q9)), (4, .int v12.1)]) hx hb dX7_odds_96 hl (k := 5) rfl (congrArg (fun y => s15.2 + y) (by decide : Int32.ofInt (1) = (1 : Int32))) (by decide) rfl (fun ls hl => ?_)
              refine lv_goto (tgt := 71) hx hb dX7_odds_99 (by decide) ?_
              exact hback1 _ (Option.some.inj hf).symm H locs ls hP hS (lv_sub hl [2, 3, 4, 5, 1, 0] rfl)
            · have hf := (if_pos hc18).symm.trans hf
              refine lv_iload_n hx hb dX7_odds_83 rfl (lv_at hl 2 rfl) ?_
              refine lv_goto (tgt := 89) hx hb dX7_odds_84 (by decide) ?_
              refine lv_iload hx hb dX7_odds_89 (lv_at hl 3 rfl) ?_
              obtain ⟨hg20, hf⟩ := gd_some hf
              refine lv_idiv hx hb dX7_odds_91 hg20 ?_
              refine lv_i2l (v := ((((36 : Int32) - q9) / v12.1).toInt64)) hx hb dX7_odds_92 rfl ?_
              refine lv_lmul hx hb dX7_odds_93 ?_
              refine lv_lstore (lv' := [(6, .long (s15.1 * ((((36 : Int32) - q9) / v12.1).toInt64))), (1, .int a1), (2, .int a2), (3, .int ((36 : Int32) - q9)), (4, .int v12.1), (8, .int s15.2)]) hx hb dX7_odds_94 hl (by decide) rfl (fun ls hl => ?_)
              refine lv_iinc (v := (s15.2 + (1 : Int32))) (lv' := [(8, .int (s15.2 + (1 : Int32))), (6, .long (s15.1 * ((((36 : Int32) - q9) / v12.1).toInt64))), (1, .int a1), (2, .int a2), (3, .int ((36 : Int32) - q9)), (4, .int v12.1)]) hx hb dX7_odds_96 hl (k := 5) rfl (congrArg (fun y => s15.2 + y) (by decide : Int32.ofInt (1) = (1 : Int32))) (by decide) rfl (fun ls hl => ?_)
              refine lv_goto (tgt := 71) hx hb dX7_odds_99 (by decide) ?_
              exact hback1 _ (Option.some.inj hf).symm H locs ls hP hS (lv_sub hl [2, 3, 4, 5, 1, 0] rfl)
      · intro s11 r1 hf hback1 hexit1 H locs ls hP hS hl
        refine lv_iload hx hb dX7_odds_42 (lv_at hl 4 rfl) ?_
        refine lv_if_eq (tgt := 65) hx hb dX7_odds_44 (by decide) (fun hc13 => ?_) (fun hc13 => ?_)
        · have hf := (if_pos hc13).symm.trans hf
          exact hexit1 (s11.1, s11.2) (Option.some.inj hf).symm H locs ls hP hS (lv_sub hl [0, 1, 2, 3] rfl)
        · have hf := (if_neg hc13).symm.trans hf
          refine lv_iload hx hb dX7_odds_47 (lv_at hl 3 rfl) ?_
          refine lv_iload hx hb dX7_odds_49 (lv_at hl 4 rfl) ?_
          obtain ⟨hg14, hf⟩ := gd_some hf
          refine lv_irem hx hb dX7_odds_51 hg14 ?_
          refine lv_istore (lv' := [(6, .int (s11.1 - s11.1 / s11.2 * s11.2)), (1, .int a1), (2, .int a2), (3, .int ((36 : Int32) - q9)), (4, .int s11.1), (5, .int s11.2)]) hx hb dX7_odds_52 hl (by decide) rfl (fun ls hl => ?_)
          refine lv_iload hx hb dX7_odds_54 (lv_at hl 5 rfl) ?_
          refine lv_istore (lv' := [(4, .int s11.2), (6, .int (s11.1 - s11.1 / s11.2 * s11.2)), (1, .int a1), (2, .int a2), (3, .int ((36 : Int32) - q9)), (5, .int s11.2)]) hx hb dX7_odds_56 hl (by decide) rfl (fun ls hl => ?_)
          refine lv_iload hx hb dX7_odds_58 (lv_at hl 1 rfl) ?_
          refine lv_istore (lv' := [(5, .int (s11.1 - s11.1 / s11.2 * s11.2)), (4, .int s11.2), (6, .int (s11.1 - s11.1 / s11.2 * s11.2)), (1, .int a1), (2, .int a2), (3, .int ((36 : Int32) - q9))]) hx hb dX7_odds_60 hl (by decide) rfl (fun ls hl => ?_)
          refine lv_goto (tgt := 42) hx hb dX7_odds_62 (by decide) ?_
          exact hback1 _ (Option.some.inj hf).symm H locs ls hP hS (lv_sub hl [3, 4, 5, 1, 0] rfl)
    · have hf := (if_pos hc8).symm.trans hf
      refine lv_aload_n hx hb dX7_odds_19 rfl (lv_at hl 0 rfl) ?_
      refine lv_ldc (v := (-1000001 : Int32)) hx hb hown hw0 dX7_odds_20 ?_
      obtain ⟨q21, hq21, hf⟩ := bd_some hf
      refine kr_W (st1 := [.int q21.1]) (va_runV (As := [.int (-1000001 : Int32)]) (rest := []) ⟨hx, hb, hml, hown, hts⟩ (ct_X7_finding l n g m_now m_kept m_aside m_isKept m_found m_steps m_queue m_lives m_treads m_tape m_taped m_begins m_ends m_sort m_value m_isWrong m_items m_itemMany m_seedThen m_groundThen m_widths m_sizes m_numbers m_moved (-1000001 : Int32) q21 hq21) (cwV 1 hts gX7_odds_X7_finding rfl rfl rfl hd_X7_finding ⟨Nat.le_of_ble_eq_true rfl, Nat.le_of_ble_eq_true rfl⟩) ⟨bl_M, va_recv hK hP (ci := 5) (q0 := 0) rfl k_md, pr_M rfl hB hP hS⟩ rfl rfl hl.1 rfl (lv_room (Nat.le_of_ble_eq_true rfl)) dX7_odds_22 ⟨Nat.le_refl _, Nat.le_refl _⟩) hS rfl (fun hn22 H locs hP hS => ?_)
      have hP : va_P g.1 vwCl (mw g (m_now, m_kept, m_aside, m_isKept, q21.2, m_steps, m_queue, m_lives, m_treads, m_tape, m_taped, m_begins, m_ends, m_sort, m_value, m_isWrong, m_items, m_itemMany, m_seedThen, m_groundThen, m_widths, m_sizes, m_numbers, m_moved)) H := hP
      refine lv_i2l (v := q21.1.toInt64) hx hb dX7_odds_25 rfl ?_
      have hres : (q21.1.toInt64, q21.2) = res := (Option.some.inj hf)
      have hP := w_eq (congrArg (fun z => mw g (m_now, m_kept, m_aside, m_isKept, z.2, m_steps, m_queue, m_lives, m_treads, m_tape, m_taped, m_begins, m_ends, m_sort, m_value, m_isWrong, m_items, m_itemMany, m_seedThen, m_groundThen, m_widths, m_sizes, m_numbers, m_moved)) hres) hP
      exact W.lret (v := q21.1.toInt64) hx hb hr (fun t ht hW => ⟨congrArg (fun z => Outcome.returned (some (Value.long z.1))) hres, trivial, by rw [ht]; exact hP, hS.F ht⟩) hS.2.2 dX7_odds_26
set_option maxHeartbeats 4000000 in
set_option maxRecDepth 100000 in
theorem ct_X7_seed (l : Launch) (n : Nat) (g : GM) (m_now : Nat → Int32) (m_kept : Nat → Int32) (m_aside : Nat → Int32) (m_isKept : Int32) (m_found : Nat → Int32) (m_steps : Nat → Int32) (m_queue : Nat → Int32) (m_lives : Nat → Int32) (m_treads : Nat → Int32) (m_tape : Nat → Int32) (m_taped : Int32) (m_begins : Int32) (m_ends : Int32) (m_sort : Int32) (m_value : Int32) (m_isWrong : Int32) (m_items : Nat → Int32) (m_itemMany : Int32) (m_seedThen : Int32) (m_groundThen : Nat → Int32) (m_widths : Nat → Int32) (m_sizes : Nat → Int32) (m_numbers : Nat → Int32) (m_moved : Nat → Int32) (a1 : Int32) (res : Int32 × (Nat → Int32)) (hf : fX7_seed n a1 m_now = some res) : Met l yX7_seed wsX7_seed ({ frames := 1, cells := 0, slots := 0, locals := 23 }) (va_Pc [.ref (gm g 0), .int a1] (mI g (m_now, m_kept, m_aside, m_isKept, m_found, m_steps, m_queue, m_lives, m_treads, m_tape, m_taped, m_begins, m_ends, m_sort, m_value, m_isWrong, m_items, m_itemMany, m_seedThen, m_groundThen, m_widths, m_sizes, m_numbers, m_moved))) (qW (some (.int res.1)) True g.1 (mw g (res.2, m_kept, m_aside, m_isKept, m_found, m_steps, m_queue, m_lives, m_treads, m_tape, m_taped, m_begins, m_ends, m_sort, m_value, m_isWrong, m_items, m_itemMany, m_seedThen, m_groundThen, m_widths, m_sizes, m_numbers, m_moved)) (mA g)) 0 0 (mA g) := by
  refine Met.ofW (cc := cX7_seed) (maxL := 2) (ret := (some .int)) (by decide) rfl ?_
  intro p e s m args below meth c s₁ B hml hv
  obtain ⟨rfl, hI⟩ := hv
  have hx := B.exec
  have hb := B.bytes
  have hr := B.returns
  have hts := atoms_spec (ws := wsX7_seed) B.pre
  have hown : s.vm.findClass RX7 = some m.cls := findClass_of_methodNamed B.named
  have hlocks := B.notSynchronized
  have hP := hI.1
  have hB := hI.2
  have hK := hB.1
  have hNW := hB.2.1
  have hS : va_S (mA g) s.heap s.heap [] := va_S.rf
  have hl := lv_entry ([.ref (gm g 0), .int a1]) (n := 2) (Nat.le_of_ble_eq_true rfl)
  rw [lg_entry_eq]
  generalize (lg_sl ([.ref (gm g 0), .int a1]) ++ List.replicate (2 - (lg_sl ([.ref (gm g 0), .int a1])).length) Slot.unset).toArray = ls at hl ⊢
  have hl : lv_has ls 2 [(0, .ref (gm g 0)), (1, .int a1)] := hl
  unfold fX7_seed at hf
  refine lv_aload_n hx hb dX7_seed_0 rfl (lv_at hl 0 rfl) ?_
  refine lv_iconst (v := (2 : Int32)) hx hb dX7_seed_1 (by decide) ?_
  refine lv_iload_n hx hb dX7_seed_2 rfl (lv_at hl 1 rfl) ?_
  obtain ⟨q1, hq1, hf⟩ := bd_some hf
  refine kr_W (st1 := [.int q1.1]) (va_runV (As := [.int (2 : Int32), .int a1]) (rest := []) ⟨hx, hb, hml, hown, hts⟩ (ct_X7_become l n g m_now m_kept m_aside m_isKept m_found m_steps m_queue m_lives m_treads m_tape m_taped m_begins m_ends m_sort m_value m_isWrong m_items m_itemMany m_seedThen m_groundThen m_widths m_sizes m_numbers m_moved (2 : Int32) a1 q1 hq1) (cwV 2 hts gX7_seed_X7_become rfl rfl rfl hd_X7_become ⟨Nat.le_of_ble_eq_true rfl, Nat.le_of_ble_eq_true rfl⟩) ⟨bl_M, va_recv hK hP (ci := 5) (q0 := 0) rfl k_md, pr_M rfl hB hP hS⟩ rfl rfl hl.1 rfl (lv_room (Nat.le_of_ble_eq_true rfl)) dX7_seed_3 ⟨Nat.le_refl _, Nat.le_refl _⟩) hS rfl (fun hn2 H locs hP hS => ?_)
  have hP : va_P g.1 vwCl (mw g (q1.2, m_kept, m_aside, m_isKept, m_found, m_steps, m_queue, m_lives, m_treads, m_tape, m_taped, m_begins, m_ends, m_sort, m_value, m_isWrong, m_items, m_itemMany, m_seedThen, m_groundThen, m_widths, m_sizes, m_numbers, m_moved)) H := hP
  have hres : (q1.1, q1.2) = res := (Option.some.inj hf)
  have hP := w_eq (congrArg (fun z => mw g (z.2, m_kept, m_aside, m_isKept, m_found, m_steps, m_queue, m_lives, m_treads, m_tape, m_taped, m_begins, m_ends, m_sort, m_value, m_isWrong, m_items, m_itemMany, m_seedThen, m_groundThen, m_widths, m_sizes, m_numbers, m_moved)) hres) hP
  exact W.iret (v := q1.1) hx hb hr (fun t ht hW => ⟨congrArg (fun z => Outcome.returned (some (Value.int z.1))) hres, trivial, by rw [ht]; exact hP, hS.F ht⟩) hS.2.2 dX7_seed_6
set_option maxHeartbeats 4000000 in
set_option maxRecDepth 100000 in
theorem ct_X7_feed (l : Launch) (n : Nat) (g : GM) (m_now : Nat → Int32) (m_kept : Nat → Int32) (m_aside : Nat → Int32) (m_isKept : Int32) (m_found : Nat → Int32) (m_steps : Nat → Int32) (m_queue : Nat → Int32) (m_lives : Nat → Int32) (m_treads : Nat → Int32) (m_tape : Nat → Int32) (m_taped : Int32) (m_begins : Int32) (m_ends : Int32) (m_sort : Int32) (m_value : Int32) (m_isWrong : Int32) (m_items : Nat → Int32) (m_itemMany : Int32) (m_seedThen : Int32) (m_groundThen : Nat → Int32) (m_widths : Nat → Int32) (m_sizes : Nat → Int32) (m_numbers : Nat → Int32) (m_moved : Nat → Int32) (a1 : Int32) (a2 : Int32) (res : Int32 × (Nat → Int32) × (Nat → Int32) × Int32) (hf : fX7_feed n a1 a2 m_found m_tape m_taped = some res) : Met l yX7_feed wsX7_feed ({ frames := 1, cells := 0, slots := 0, locals := 22 }) (va_Pc [.ref (gm g 0), .int a1, .int a2] (mI g (m_now, m_kept, m_aside, m_isKept, m_found, m_steps, m_queue, m_lives, m_treads, m_tape, m_taped, m_begins, m_ends, m_sort, m_value, m_isWrong, m_items, m_itemMany, m_seedThen, m_groundThen, m_widths, m_sizes, m_numbers, m_moved))) (qW (some (.int res.1)) True g.1 (mw g (m_now, m_kept, m_aside, m_isKept, res.2.1, m_steps, m_queue, m_lives, m_treads, res.2.2.1, res.2.2.2, m_begins, m_ends, m_sort, m_value, m_isWrong, m_items, m_itemMany, m_seedThen, m_groundThen, m_widths, m_sizes, m_numbers, m_moved)) (mA g)) 0 0 (mA g) := by
  refine Met.ofW (cc := cX7_feed) (maxL := 4) (ret := (some .int)) (by decide) rfl ?_
  intro p e s m args below meth c s₁ B hml hv
  obtain ⟨rfl, hI⟩ := hv
  have hx := B.exec
  have hb := B.bytes
  have hr := B.returns
  have hts := atoms_spec (ws := wsX7_feed) B.pre
  have hown : s.vm.findClass RX7 = some m.cls := findClass_of_methodNamed B.named
  have hlocks := B.notSynchronized
  have hP := hI.1
  have hB := hI.2
  have hK := hB.1
  have hNW := hB.2.1
  have hS : va_S (mA g) s.heap s.heap [] := va_S.rf
  have hw0 := hts (.fieldLink RX7 293 "SownPathsModel" "taped" "I") (by decide +kernel)
  have hw1 := hts (.fieldLink RX7 34 "SownPathsModel" "tape" "[I") (by decide +kernel)
  have hw2 := hts (.constant RX7 151 (-1000002)) (by decide +kernel)
  have hw3 := hts (.constant RX7 95 (-1000001)) (by decide +kernel)
  have iwX7 : ∀ w ∈ wsX70, w ∈ wsX7_feed := fun w h => List.mem_cons_of_mem _ (List.mem_append_right _ h)
  have hl := lv_entry ([.ref (gm g 0), .int a1, .int a2]) (n := 4) (Nat.le_of_ble_eq_true rfl)
  rw [lg_entry_eq]
  generalize (lg_sl ([.ref (gm g 0), .int a1, .int a2]) ++ List.replicate (4 - (lg_sl ([.ref (gm g 0), .int a1, .int a2])).length) Slot.unset).toArray = ls at hl ⊢
  have hl : lv_has ls 4 [(0, .ref (gm g 0)), (1, .int a1), (2, .int a2)] := hl
  unfold fX7_feed at hf
  refine lv_iload_n hx hb dX7_feed_0 rfl (lv_at hl 2 rfl) ?_
  refine lv_iconst (v := (1 : Int32)) hx hb dX7_feed_1 (by decide) ?_
  refine lv_iconst (v := (4 : Int32)) hx hb dX7_feed_2 (by decide) ?_
  obtain ⟨q1, hq1, hf⟩ := bd_some hf
  refine kr_S (st1 := [.int q1]) (va_runS (As := [.int a2, .int (1 : Int32), .int (4 : Int32)]) (rest := []) ⟨hx, hb, hml, hown, hts⟩ (ct_X7_within l n a2 (1 : Int32) (4 : Int32) q1 hq1) (va_cwS 3 hts gX7_feed_X7_within rfl rfl rfl hn_X7_within ⟨Nat.le_of_ble_eq_true rfl, Nat.le_of_ble_eq_true rfl⟩) ⟨bl_N, pr_N rfl hNW⟩ rfl rfl hl.1 rfl (lv_room (Nat.le_of_ble_eq_true rfl)) dX7_feed_3 ⟨Nat.le_refl _, Nat.le_refl _⟩) rfl (fun hn2 => ?_)
  refine lv_if_ne (tgt := 16) hx hb dX7_feed_6 (by decide) (fun hc3 => ?_) (fun hc3 => ?_)
  · have hf := (if_neg hc3).symm.trans hf
    refine lv_aload_n hx hb dX7_feed_16 rfl (lv_at hl 0 rfl) ?_
    refine va_get (D := g.1) (ci := 5) (v := .int m_taped) (C := RX7) (T := TX7) (N := 27) hx hb hts iwX7 hown hK hP 0 k_md rfl 10 (by decide) hw0 (fun _ h9 => h9) rfl dX7_feed_17 ?_
    refine lv_iload_n hx hb dX7_feed_20 rfl (lv_at hl 2 rfl) ?_
    refine lv_iadd hx hb dX7_feed_21 ?_
    refine lv_bipush (v := (120 : Int32)) hx hb dX7_feed_22 (by decide) ?_
    refine lv_icmp_le (tgt := 34) hx hb dX7_feed_24 (by decide) (fun hc4 => ?_) (fun hc4 => ?_)
    · have hf := (if_pos hc4).symm.trans hf
      refine lv_iload_n hx hb dX7_feed_34 rfl (lv_at hl 2 rfl) ?_
      refine lv_iconst (v := (1 : Int32)) hx hb dX7_feed_35 (by decide) ?_
      refine lv_isub hx hb dX7_feed_36 ?_
      refine lv_istore_n (lv' := [(3, .int (a2 - (1 : Int32))), (0, .ref (gm g 0)), (1, .int a1), (2, .int a2)]) hx hb dX7_feed_37 rfl hl (by decide) rfl (fun ls hl => ?_)
      refine lp_run hf (fun s5 => ∀ (H : Heap) (locs : List Loc) (ls : Array Slot), va_P g.1 vwCl (mw g (m_now, m_kept, m_aside, m_isKept, m_found, m_steps, m_queue, m_lives, m_treads, s5.2.1, s5.2.2, m_begins, m_ends, m_sort, m_value, m_isWrong, m_items, m_itemMany, m_seedThen, m_groundThen, m_widths, m_sizes, m_numbers, m_moved)) H → va_S (mA g) s.heap H locs → lv_has ls 4 [(0, .ref (gm g 0)), (1, .int a1), (3, .int s5.1)] → W p l e (headSpec wsX7_feed ({ frames := 1, cells := 0, slots := 0, locals := 22 })).room s m ([.ref (gm g 0), .int a1, .int a2] : List Value).toArray below meth c H locs 0 0 (MQ below (qW (some (.int res.1)) True g.1 (mw g (m_now, m_kept, m_aside, m_isKept, res.2.1, m_steps, m_queue, m_lives, m_treads, res.2.2.1, res.2.2.2, m_begins, m_ends, m_sort, m_value, m_isWrong, m_items, m_itemMany, m_seedThen, m_groundThen, m_widths, m_sizes, m_numbers, m_moved)) (mA g)) ([.ref (gm g 0), .int a1, .int a2] : List Value).toArray s 0 0 (mA g)) (F0 m 38 ls [])) (fun v6 => ∀ (H : Heap) (locs : List Loc) (ls : Array Slot), va_P g.1 vwCl (mw g (m_now, m_kept, m_aside, m_isKept, m_found, m_steps, m_queue, m_lives, m_treads, v6.2.1, v6.2.2, m_begins, m_ends, m_sort, m_value, m_isWrong, m_items, m_itemMany, m_seedThen, m_groundThen, m_widths, m_sizes, m_numbers, m_moved)) H → va_S (mA g) s.heap H locs → lv_has ls 4 [(0, .ref (gm g 0))] → W p l e (headSpec wsX7_feed ({ frames := 1, cells := 0, slots := 0, locals := 22 })).room s m ([.ref (gm g 0), .int a1, .int a2] : List Value).toArray below meth c H locs 0 0 (MQ below (qW (some (.int res.1)) True g.1 (mw g (m_now, m_kept, m_aside, m_isKept, res.2.1, m_steps, m_queue, m_lives, m_treads, res.2.2.1, res.2.2.2, m_begins, m_ends, m_sort, m_value, m_isWrong, m_items, m_itemMany, m_seedThen, m_groundThen, m_widths, m_sizes, m_numbers, m_moved)) (mA g)) ([.ref (gm g 0), .int a1, .int a2] : List Value).toArray s 0 0 (mA g)) (F0 m 77 ls [])) ?_ ?_ _ _ _ hP hS (lv_sub hl [1, 2, 0] rfl)
      · intro v6 hf H locs ls hP hS hl
        refine lv_aload_n hx hb dX7_feed_77 rfl (lv_at hl 0 rfl) ?_
        refine va_get (D := g.1) (ci := 5) (v := .int v6.2.2) (C := RX7) (T := TX7) (N := 27) hx hb hts iwX7 hown hK hP 0 k_md rfl 10 (by decide) hw0 (fun _ h9 => h9) rfl dX7_feed_78 ?_
        have hres : (v6.2.2, m_found, v6.2.1, v6.2.2) = res := (Option.some.inj hf)
        have hP := w_eq (congrArg (fun z => mw g (m_now, m_kept, m_aside, m_isKept, z.2.1, m_steps, m_queue, m_lives, m_treads, z.2.2.1, z.2.2.2, m_begins, m_ends, m_sort, m_value, m_isWrong, m_items, m_itemMany, m_seedThen, m_groundThen, m_widths, m_sizes, m_numbers, m_moved)) hres) hP
        exact W.iret (v := v6.2.2) hx hb hr (fun t ht hW => ⟨congrArg (fun z => Outcome.returned (some (Value.int z.1))) hres, trivial, by rw [ht]; exact hP, hS.F ht⟩) hS.2.2 dX7_feed_81
      · intro s5 r1 hf hback1 hexit1 H locs ls hP hS hl
        refine lv_iload_n hx hb dX7_feed_38 rfl (lv_at hl 2 rfl) ?_
        refine lv_if_lt (tgt := 77) hx hb dX7_feed_39 (by decide) (fun hc7 => ?_) (fun hc7 => ?_)
        · have hf := (if_pos hc7).symm.trans hf
          exact hexit1 (s5.1, s5.2.1, s5.2.2) (Option.some.inj hf).symm H locs ls hP hS (lv_sub hl [0] rfl)
        · have hf := (if_neg hc7).symm.trans hf
          refine lv_aload_n hx hb dX7_feed_42 rfl (lv_at hl 0 rfl) ?_
          refine va_get (D := g.1) (ci := 5) (v := .ref (gm g 9)) (C := RX7) (T := TX7) (N := 27) hx hb hts iwX7 hown hK hP 0 k_md rfl 9 (by decide) hw1 (fun _ h9 => h9) rfl dX7_feed_43 ?_
          refine lv_aload_n hx hb dX7_feed_46 rfl (lv_at hl 0 rfl) ?_
          refine va_get (D := g.1) (ci := 5) (v := .int s5.2.2) (C := RX7) (T := TX7) (N := 27) hx hb hts iwX7 hown hK hP 0 k_md rfl 10 (by decide) hw0 (fun _ h9 => h9) rfl dX7_feed_47 ?_
          refine lv_iload_n hx hb dX7_feed_50 rfl (lv_at hl 1 rfl) ?_
          refine lv_bipush (v := (8 : Int32)) hx hb dX7_feed_51 (by decide) ?_
          refine lv_iload_n hx hb dX7_feed_53 rfl (lv_at hl 2 rfl) ?_
          refine lv_imul hx hb dX7_feed_54 ?_
          refine lv_ishr hx hb dX7_feed_55 ?_
          refine lv_sipush (v := (255 : Int32)) hx hb dX7_feed_56 (by decide) ?_
          refine lv_iand hx hb dX7_feed_59 ?_
          obtain ⟨hg8, hf⟩ := gd_some hf
          refine va_iast (f := s5.2.1) hx hb hK hP (mD hB.2.2.1 _) hS 9 0 k_tape rfl hg8 dX7_feed_60 (fun H locs hP _ hS => ?_)
          have hP : va_P g.1 vwCl (mw g (m_now, m_kept, m_aside, m_isKept, m_found, m_steps, m_queue, m_lives, m_treads, (upd s5.2.1 s5.2.2.toNatClampNeg ((a1 >>> (((8 : Int32) * s5.1) &&& 31)) &&& (255 : Int32))), s5.2.2, m_begins, m_ends, m_sort, m_value, m_isWrong, m_items, m_itemMany, m_seedThen, m_groundThen, m_widths, m_sizes, m_numbers, m_moved)) H := w_eq (k_set_tape (upd s5.2.1 s5.2.2.toNatClampNeg ((a1 >>> (((8 : Int32) * s5.1) &&& 31)) &&& (255 : Int32)))) hP
          refine lv_aload_n hx hb dX7_feed_61 rfl (lv_at hl 0 rfl) ?_
          refine lv_dup hx hb dX7_feed_62 rfl ?_
          refine va_get (D := g.1) (ci := 5) (v := .int s5.2.2) (C := RX7) (T := TX7) (N := 27) hx hb hts iwX7 hown hK hP 0 k_md rfl 10 (by decide) hw0 (fun _ h9 => h9) rfl dX7_feed_63 ?_
          refine lv_iconst (v := (1 : Int32)) hx hb dX7_feed_66 (by decide) ?_
          refine lv_iadd hx hb dX7_feed_67 ?_
          refine va_put (D := g.1) (ci := 5) (v := .int (s5.2.2 + (1 : Int32))) (ty := .int) (C := RX7) (T := TX7) (N := 27) hx hb hts iwX7 tyX7 tyX7_ok nmX7 hown hK hP (mD hB.2.2.1 _) hS 0 k_md rfl 10 (by decide) hw0 (fun _ h9 => h9) rfl (tyX7_ok 10 (by decide)) rfl rfl (Nat.le_of_ble_eq_true rfl) dX7_feed_68 (fun H locs hP _ hS => ?_)
          have hP : va_P g.1 vwCl (mw g (m_now, m_kept, m_aside, m_isKept, m_found, m_steps, m_queue, m_lives, m_treads, (upd s5.2.1 s5.2.2.toNatClampNeg ((a1 >>> (((8 : Int32) * s5.1) &&& 31)) &&& (255 : Int32))), (s5.2.2 + (1 : Int32)), m_begins, m_ends, m_sort, m_value, m_isWrong, m_items, m_itemMany, m_seedThen, m_groundThen, m_widths, m_sizes, m_numbers, m_moved)) H := w_eq (k_set_taped (s5.2.2 + (1 : Int32))) hP
          refine lv_iinc (v := (s5.1 + (-1 : Int32))) (lv' := [(3, .int (s5.1 + (-1 : Int32))), (0, .ref (gm g 0)), (1, .int a1)]) hx hb dX7_feed_71 hl (k := 2) rfl (congrArg (fun y => s5.1 + y) (by decide : Int32.ofInt (-1) = (-1 : Int32))) (by decide) rfl (fun ls hl => ?_)
          refine lv_goto (tgt := 38) hx hb dX7_feed_74 (by decide) ?_
          exact hback1 _ (Option.some.inj hf).symm H locs ls hP hS (lv_sub hl [1, 2, 0] rfl)
    · have hf := (if_neg hc4).symm.trans hf
      refine lv_aload_n hx hb dX7_feed_27 rfl (lv_at hl 0 rfl) ?_
      refine lv_ldc (v := (-1000002 : Int32)) hx hb hown hw2 dX7_feed_28 ?_
      obtain ⟨q9, hq9, hf⟩ := bd_some hf
      refine kr_W (st1 := [.int q9.1]) (va_runV (As := [.int (-1000002 : Int32)]) (rest := []) ⟨hx, hb, hml, hown, hts⟩ (ct_X7_finding l n g m_now m_kept m_aside m_isKept m_found m_steps m_queue m_lives m_treads m_tape m_taped m_begins m_ends m_sort m_value m_isWrong m_items m_itemMany m_seedThen m_groundThen m_widths m_sizes m_numbers m_moved (-1000002 : Int32) q9 hq9) (cwV 1 hts gX7_feed_X7_finding rfl rfl rfl hd_X7_finding ⟨Nat.le_of_ble_eq_true rfl, Nat.le_of_ble_eq_true rfl⟩) ⟨bl_M, va_recv hK hP (ci := 5) (q0 := 0) rfl k_md, pr_M rfl hB hP hS⟩ rfl rfl hl.1 rfl (lv_room (Nat.le_of_ble_eq_true rfl)) dX7_feed_30 ⟨Nat.le_refl _, Nat.le_refl _⟩) hS rfl (fun hn10 H locs hP hS => ?_)
      have hP : va_P g.1 vwCl (mw g (m_now, m_kept, m_aside, m_isKept, q9.2, m_steps, m_queue, m_lives, m_treads, m_tape, m_taped, m_begins, m_ends, m_sort, m_value, m_isWrong, m_items, m_itemMany, m_seedThen, m_groundThen, m_widths, m_sizes, m_numbers, m_moved)) H := hP
      have hres : (q9.1, q9.2, m_tape, m_taped) = res := (Option.some.inj hf)
      have hP := w_eq (congrArg (fun z => mw g (m_now, m_kept, m_aside, m_isKept, z.2.1, m_steps, m_queue, m_lives, m_treads, z.2.2.1, z.2.2.2, m_begins, m_ends, m_sort, m_value, m_isWrong, m_items, m_itemMany, m_seedThen, m_groundThen, m_widths, m_sizes, m_numbers, m_moved)) hres) hP
      exact W.iret (v := q9.1) hx hb hr (fun t ht hW => ⟨congrArg (fun z => Outcome.returned (some (Value.int z.1))) hres, trivial, by rw [ht]; exact hP, hS.F ht⟩) hS.2.2 dX7_feed_33
  · have hf := (if_pos hc3).symm.trans hf
    refine lv_aload_n hx hb dX7_feed_9 rfl (lv_at hl 0 rfl) ?_
    refine lv_ldc (v := (-1000001 : Int32)) hx hb hown hw3 dX7_feed_10 ?_
    obtain ⟨q11, hq11, hf⟩ := bd_some hf
    refine kr_W (st1 := [.int q11.1]) (va_runV (As := [.int (-1000001 : Int32)]) (rest := []) ⟨hx, hb, hml, hown, hts⟩ (ct_X7_finding l n g m_now m_kept m_aside m_isKept m_found m_steps m_queue m_lives m_treads m_tape m_taped m_begins m_ends m_sort m_value m_isWrong m_items m_itemMany m_seedThen m_groundThen m_widths m_sizes m_numbers m_moved (-1000001 : Int32) q11 hq11) (cwV 1 hts gX7_feed_X7_finding rfl rfl rfl hd_X7_finding ⟨Nat.le_of_ble_eq_true rfl, Nat.le_of_ble_eq_true rfl⟩) ⟨bl_M, va_recv hK hP (ci := 5) (q0 := 0) rfl k_md, pr_M rfl hB hP hS⟩ rfl rfl hl.1 rfl (lv_room (Nat.le_of_ble_eq_true rfl)) dX7_feed_12 ⟨Nat.le_refl _, Nat.le_refl _⟩) hS rfl (fun hn12 H locs hP hS => ?_)
    have hP : va_P g.1 vwCl (mw g (m_now, m_kept, m_aside, m_isKept, q11.2, m_steps, m_queue, m_lives, m_treads, m_tape, m_taped, m_begins, m_ends, m_sort, m_value, m_isWrong, m_items, m_itemMany, m_seedThen, m_groundThen, m_widths, m_sizes, m_numbers, m_moved)) H := hP
    have hres : (q11.1, q11.2, m_tape, m_taped) = res := (Option.some.inj hf)
    have hP := w_eq (congrArg (fun z => mw g (m_now, m_kept, m_aside, m_isKept, z.2.1, m_steps, m_queue, m_lives, m_treads, z.2.2.1, z.2.2.2, m_begins, m_ends, m_sort, m_value, m_isWrong, m_items, m_itemMany, m_seedThen, m_groundThen, m_widths, m_sizes, m_numbers, m_moved)) hres) hP
    exact W.iret (v := q11.1) hx hb hr (fun t ht hW => ⟨congrArg (fun z => Outcome.returned (some (Value.int z.1))) hres, trivial, by rw [ht]; exact hP, hS.F ht⟩) hS.2.2 dX7_feed_15
set_option maxHeartbeats 4000000 in
set_option maxRecDepth 100000 in
theorem ct_X7_wipe (l : Launch) (n : Nat) (g : GM) (m_now : Nat → Int32) (m_kept : Nat → Int32) (m_aside : Nat → Int32) (m_isKept : Int32) (m_found : Nat → Int32) (m_steps : Nat → Int32) (m_queue : Nat → Int32) (m_lives : Nat → Int32) (m_treads : Nat → Int32) (m_tape : Nat → Int32) (m_taped : Int32) (m_begins : Int32) (m_ends : Int32) (m_sort : Int32) (m_value : Int32) (m_isWrong : Int32) (m_items : Nat → Int32) (m_itemMany : Int32) (m_seedThen : Int32) (m_groundThen : Nat → Int32) (m_widths : Nat → Int32) (m_sizes : Nat → Int32) (m_numbers : Nat → Int32) (m_moved : Nat → Int32) (res : Int32 × Int32) (hf : fX7_wipe n m_taped = some res) : Met l yX7_wipe wsX7_wipe ({ frames := 0, cells := 0, slots := 0, locals := 0 }) (va_Pc [.ref (gm g 0)] (mI g (m_now, m_kept, m_aside, m_isKept, m_found, m_steps, m_queue, m_lives, m_treads, m_tape, m_taped, m_begins, m_ends, m_sort, m_value, m_isWrong, m_items, m_itemMany, m_seedThen, m_groundThen, m_widths, m_sizes, m_numbers, m_moved))) (qW (some (.int res.1)) True g.1 (mw g (m_now, m_kept, m_aside, m_isKept, m_found, m_steps, m_queue, m_lives, m_treads, m_tape, res.2, m_begins, m_ends, m_sort, m_value, m_isWrong, m_items, m_itemMany, m_seedThen, m_groundThen, m_widths, m_sizes, m_numbers, m_moved)) (mA g)) 0 0 (mA g) := by
  refine Met.ofW (cc := cX7_wipe) (maxL := 2) (ret := (some .int)) (by decide) rfl ?_
  intro p e s m args below meth c s₁ B hml hv
  obtain ⟨rfl, hI⟩ := hv
  have hx := B.exec
  have hb := B.bytes
  have hr := B.returns
  have hts := atoms_spec (ws := wsX7_wipe) B.pre
  have hown : s.vm.findClass RX7 = some m.cls := findClass_of_methodNamed B.named
  have hlocks := B.notSynchronized
  have hP := hI.1
  have hB := hI.2
  have hK := hB.1
  have hNW := hB.2.1
  have hS : va_S (mA g) s.heap s.heap [] := va_S.rf
  have hw0 := hts (.fieldLink RX7 293 "SownPathsModel" "taped" "I") (by decide +kernel)
  have iwX7 : ∀ w ∈ wsX70, w ∈ wsX7_wipe := fun w h => List.mem_cons_of_mem _ (List.mem_append_right _ h)
  have hl := lv_entry ([.ref (gm g 0)]) (n := 2) (Nat.le_of_ble_eq_true rfl)
  rw [lg_entry_eq]
  generalize (lg_sl ([.ref (gm g 0)]) ++ List.replicate (2 - (lg_sl ([.ref (gm g 0)])).length) Slot.unset).toArray = ls at hl ⊢
  have hl : lv_has ls 2 [(0, .ref (gm g 0))] := hl
  unfold fX7_wipe at hf
  refine lv_aload_n hx hb dX7_wipe_0 rfl (lv_at hl 0 rfl) ?_
  refine va_get (D := g.1) (ci := 5) (v := .int m_taped) (C := RX7) (T := TX7) (N := 27) hx hb hts iwX7 hown hK hP 0 k_md rfl 10 (by decide) hw0 (fun _ h9 => h9) rfl dX7_wipe_1 ?_
  refine lv_istore_n (lv' := [(1, .int m_taped), (0, .ref (gm g 0))]) hx hb dX7_wipe_4 rfl hl (by decide) rfl (fun ls hl => ?_)
  refine lv_aload_n hx hb dX7_wipe_5 rfl (lv_at hl 1 rfl) ?_
  refine lv_iconst (v := (0 : Int32)) hx hb dX7_wipe_6 (by decide) ?_
  refine va_put (D := g.1) (ci := 5) (v := .int (0 : Int32)) (ty := .int) (C := RX7) (T := TX7) (N := 27) hx hb hts iwX7 tyX7 tyX7_ok nmX7 hown hK hP (mD hB.2.2.1 _) hS 0 k_md rfl 10 (by decide) hw0 (fun _ h9 => h9) rfl (tyX7_ok 10 (by decide)) rfl rfl (Nat.le_of_ble_eq_true rfl) dX7_wipe_7 (fun H locs hP _ hS => ?_)
  have hP : va_P g.1 vwCl (mw g (m_now, m_kept, m_aside, m_isKept, m_found, m_steps, m_queue, m_lives, m_treads, m_tape, (0 : Int32), m_begins, m_ends, m_sort, m_value, m_isWrong, m_items, m_itemMany, m_seedThen, m_groundThen, m_widths, m_sizes, m_numbers, m_moved)) H := w_eq (k_set_taped (0 : Int32)) hP
  refine lv_iload_n hx hb dX7_wipe_10 rfl (lv_at hl 0 rfl) ?_
  have hres : (m_taped, (0 : Int32)) = res := (Option.some.inj hf)
  have hP := w_eq (congrArg (fun z => mw g (m_now, m_kept, m_aside, m_isKept, m_found, m_steps, m_queue, m_lives, m_treads, m_tape, z.2, m_begins, m_ends, m_sort, m_value, m_isWrong, m_items, m_itemMany, m_seedThen, m_groundThen, m_widths, m_sizes, m_numbers, m_moved)) hres) hP
  exact W.iret (v := m_taped) hx hb hr (fun t ht hW => ⟨congrArg (fun z => Outcome.returned (some (Value.int z.1))) hres, trivial, by rw [ht]; exact hP, hS.F ht⟩) hS.2.2 dX7_wipe_11
set_option maxHeartbeats 4000000 in
set_option maxRecDepth 100000 in
theorem ct_X7_byteAt (l : Launch) (n : Nat) (g : GM) (m_now : Nat → Int32) (m_kept : Nat → Int32) (m_aside : Nat → Int32) (m_isKept : Int32) (m_found : Nat → Int32) (m_steps : Nat → Int32) (m_queue : Nat → Int32) (m_lives : Nat → Int32) (m_treads : Nat → Int32) (m_tape : Nat → Int32) (m_taped : Int32) (m_begins : Int32) (m_ends : Int32) (m_sort : Int32) (m_value : Int32) (m_isWrong : Int32) (m_items : Nat → Int32) (m_itemMany : Int32) (m_seedThen : Int32) (m_groundThen : Nat → Int32) (m_widths : Nat → Int32) (m_sizes : Nat → Int32) (m_numbers : Nat → Int32) (m_moved : Nat → Int32) (a1 : Int32) (res : Int32) (hf : fX7_byteAt n a1 m_tape m_taped = some res) : Met l yX7_byteAt wsX7_byteAt ({ frames := 0, cells := 0, slots := 0, locals := 0 }) (va_Pc [.ref (gm g 0), .int a1] (mI g (m_now, m_kept, m_aside, m_isKept, m_found, m_steps, m_queue, m_lives, m_treads, m_tape, m_taped, m_begins, m_ends, m_sort, m_value, m_isWrong, m_items, m_itemMany, m_seedThen, m_groundThen, m_widths, m_sizes, m_numbers, m_moved))) (qS (some (.int res)) True) 0 0 (fun _ => False) := by
  refine Met.ofW (cc := cX7_byteAt) (maxL := 2) (ret := (some .int)) (by decide) rfl ?_
  intro p e s m args below meth c s₁ B hml hv
  obtain ⟨rfl, hI⟩ := hv
  have hx := B.exec
  have hb := B.bytes
  have hr := B.returns
  have hts := atoms_spec (ws := wsX7_byteAt) B.pre
  have hown : s.vm.findClass RX7 = some m.cls := findClass_of_methodNamed B.named
  have hlocks := B.notSynchronized
  have hP := hI.1
  have hB := hI.2
  have hK := hB.1
  have hNW := hB.2.1
  have hS : va_S (mA g) s.heap s.heap [] := va_S.rf
  have hw0 := hts (.fieldLink RX7 293 "SownPathsModel" "taped" "I") (by decide +kernel)
  have hw1 := hts (.fieldLink RX7 34 "SownPathsModel" "tape" "[I") (by decide +kernel)
  have iwX7 : ∀ w ∈ wsX70, w ∈ wsX7_byteAt := fun w h => List.mem_cons_of_mem _ (List.mem_append_right _ h)
  have hl := lv_entry ([.ref (gm g 0), .int a1]) (n := 2) (Nat.le_of_ble_eq_true rfl)
  rw [lg_entry_eq]
  generalize (lg_sl ([.ref (gm g 0), .int a1]) ++ List.replicate (2 - (lg_sl ([.ref (gm g 0), .int a1])).length) Slot.unset).toArray = ls at hl ⊢
  have hl : lv_has ls 2 [(0, .ref (gm g 0)), (1, .int a1)] := hl
  unfold fX7_byteAt at hf
  refine lv_iload_n hx hb dX7_byteAt_0 rfl (lv_at hl 1 rfl) ?_
  refine lv_aload_n hx hb dX7_byteAt_1 rfl (lv_at hl 0 rfl) ?_
  refine va_get (D := g.1) (ci := 5) (v := .int m_taped) (C := RX7) (T := TX7) (N := 27) hx hb hts iwX7 hown hK hP 0 k_md rfl 10 (by decide) hw0 (fun _ h9 => h9) rfl dX7_byteAt_2 ?_
  refine lv_icmp_ge (tgt := 17) hx hb dX7_byteAt_5 (by decide) (fun hc1 => ?_) (fun hc1 => ?_)
  · have hf := (if_pos hc1).symm.trans hf
    refine lv_iconst (v := (-1 : Int32)) hx hb dX7_byteAt_17 (by decide) ?_
    have hres : (-1 : Int32) = res := (Option.some.inj hf)
    exact W.iret (v := (-1 : Int32)) hx hb hr (fun t ht hW => ⟨congrArg (fun z => Outcome.returned (some (Value.int z))) hres, trivial, ht⟩) t_nil dX7_byteAt_18
  · have hf := (if_neg hc1).symm.trans hf
    refine lv_aload_n hx hb dX7_byteAt_8 rfl (lv_at hl 0 rfl) ?_
    refine va_get (D := g.1) (ci := 5) (v := .ref (gm g 9)) (C := RX7) (T := TX7) (N := 27) hx hb hts iwX7 hown hK hP 0 k_md rfl 9 (by decide) hw1 (fun _ h9 => h9) rfl dX7_byteAt_9 ?_
    refine lv_iload_n hx hb dX7_byteAt_12 rfl (lv_at hl 1 rfl) ?_
    obtain ⟨hg2, hf⟩ := gd_some hf
    refine va_iald (f := m_tape) hx hb hK hP 9 0 k_tape rfl hg2 dX7_byteAt_13 ?_
    refine lv_goto (tgt := 18) hx hb dX7_byteAt_14 (by decide) ?_
    have hres : (m_tape a1.toNatClampNeg) = res := (Option.some.inj hf)
    exact W.iret (v := (m_tape a1.toNatClampNeg)) hx hb hr (fun t ht hW => ⟨congrArg (fun z => Outcome.returned (some (Value.int z))) hres, trivial, ht⟩) t_nil dX7_byteAt_18
set_option maxHeartbeats 4000000 in
set_option maxRecDepth 100000 in
theorem ct_X7_next (l : Launch) (n : Nat) (g : GM) (m_now : Nat → Int32) (m_kept : Nat → Int32) (m_aside : Nat → Int32) (m_isKept : Int32) (m_found : Nat → Int32) (m_steps : Nat → Int32) (m_queue : Nat → Int32) (m_lives : Nat → Int32) (m_treads : Nat → Int32) (m_tape : Nat → Int32) (m_taped : Int32) (m_begins : Int32) (m_ends : Int32) (m_sort : Int32) (m_value : Int32) (m_isWrong : Int32) (m_items : Nat → Int32) (m_itemMany : Int32) (m_seedThen : Int32) (m_groundThen : Nat → Int32) (m_widths : Nat → Int32) (m_sizes : Nat → Int32) (m_numbers : Nat → Int32) (m_moved : Nat → Int32) (res : Int32 × Int32 × Int32 × Int32) (hf : fX7_next n m_tape m_taped m_begins m_ends m_sort m_value = some res) : Met l yX7_next wsX7_next ({ frames := 1, cells := 0, slots := 0, locals := 24 }) (va_Pc [.ref (gm g 0)] (mI g (m_now, m_kept, m_aside, m_isKept, m_found, m_steps, m_queue, m_lives, m_treads, m_tape, m_taped, m_begins, m_ends, m_sort, m_value, m_isWrong, m_items, m_itemMany, m_seedThen, m_groundThen, m_widths, m_sizes, m_numbers, m_moved))) (qW none True g.1 (mw g (m_now, m_kept, m_aside, m_isKept, m_found, m_steps, m_queue, m_lives, m_treads, m_tape, m_taped, res.1, res.2.1, res.2.2.1, res.2.2.2, m_isWrong, m_items, m_itemMany, m_seedThen, m_groundThen, m_widths, m_sizes, m_numbers, m_moved)) (mA g)) 0 0 (mA g) := by
  refine Met.ofW (cc := cX7_next) (maxL := 2) (ret := none) (by decide) rfl ?_
  intro p e s m args below meth c s₁ B hml hv
  obtain ⟨rfl, hI⟩ := hv
  have hx := B.exec
  have hb := B.bytes
  have hr := B.returns
  have hts := atoms_spec (ws := wsX7_next) B.pre
  have hown : s.vm.findClass RX7 = some m.cls := findClass_of_methodNamed B.named
  have hlocks := B.notSynchronized
  have hP := hI.1
  have hB := hI.2
  have hK := hB.1
  have hNW := hB.2.1
  have hS : va_S (mA g) s.heap s.heap [] := va_S.rf
  have hw0 := hts (.fieldLink RX7 297 "SownPathsModel" "ends" "I") (by decide +kernel)
  have hw1 := hts (.fieldLink RX7 300 "SownPathsModel" "begins" "I") (by decide +kernel)
  have hw2 := hts (.fieldLink RX7 306 "SownPathsModel" "value" "I") (by decide +kernel)
  have hw3 := hts (.fieldLink RX7 309 "SownPathsModel" "sort" "I") (by decide +kernel)
  have hw4 := hts (.methodLink RX7 270 Lib.Math.min.name) (by decide +kernel)
  have hw5 := hts (.static Lib.Math.min.name) (by decide +kernel)
  have hw6 := hts (.initialized "java/lang/Math") (by decide +kernel)
  have hw7 := hts (.code Lib.Math.min.name Lib.Math.min.code 2 (some .int)) (by decide +kernel)
  have iwX7 : ∀ w ∈ wsX70, w ∈ wsX7_next := fun w h => List.mem_cons_of_mem _ (List.mem_append_right _ h)
  have hl := lv_entry ([.ref (gm g 0)]) (n := 2) (Nat.le_of_ble_eq_true rfl)
  rw [lg_entry_eq]
  generalize (lg_sl ([.ref (gm g 0)]) ++ List.replicate (2 - (lg_sl ([.ref (gm g 0)])).length) Slot.unset).toArray = ls at hl ⊢
  have hl : lv_has ls 2 [(0, .ref (gm g 0))] := hl
  unfold fX7_next at hf
  refine lv_aload_n hx hb dX7_next_0 rfl (lv_at hl 0 rfl) ?_
  refine lv_aload_n hx hb dX7_next_1 rfl (lv_at hl 0 rfl) ?_
  refine va_get (D := g.1) (ci := 5) (v := .int m_ends) (C := RX7) (T := TX7) (N := 27) hx hb hts iwX7 hown hK hP 0 k_md rfl 12 (by decide) hw0 (fun _ h9 => h9) rfl dX7_next_2 ?_
  refine va_put (D := g.1) (ci := 5) (v := .int m_ends) (ty := .int) (C := RX7) (T := TX7) (N := 27) hx hb hts iwX7 tyX7 tyX7_ok nmX7 hown hK hP (mD hB.2.2.1 _) hS 0 k_md rfl 11 (by decide) hw1 (fun _ h9 => h9) rfl (tyX7_ok 11 (by decide)) rfl rfl (Nat.le_of_ble_eq_true rfl) dX7_next_5 (fun H locs hP _ hS => ?_)
  have hP : va_P g.1 vwCl (mw g (m_now, m_kept, m_aside, m_isKept, m_found, m_steps, m_queue, m_lives, m_treads, m_tape, m_taped, m_ends, m_ends, m_sort, m_value, m_isWrong, m_items, m_itemMany, m_seedThen, m_groundThen, m_widths, m_sizes, m_numbers, m_moved)) H := w_eq (k_set_begins m_ends) hP
  refine lp_run hf (fun s1 => ∀ (H : Heap) (locs : List Loc) (ls : Array Slot), va_P g.1 vwCl (mw g (m_now, m_kept, m_aside, m_isKept, m_found, m_steps, m_queue, m_lives, m_treads, m_tape, m_taped, s1, m_ends, m_sort, m_value, m_isWrong, m_items, m_itemMany, m_seedThen, m_groundThen, m_widths, m_sizes, m_numbers, m_moved)) H → va_S (mA g) s.heap H locs → lv_has ls 2 [(0, .ref (gm g 0))] → W p l e (headSpec wsX7_next ({ frames := 1, cells := 0, slots := 0, locals := 24 })).room s m ([.ref (gm g 0)] : List Value).toArray below meth c H locs 0 0 (MQ below (qW none True g.1 (mw g (m_now, m_kept, m_aside, m_isKept, m_found, m_steps, m_queue, m_lives, m_treads, m_tape, m_taped, res.1, res.2.1, res.2.2.1, res.2.2.2, m_isWrong, m_items, m_itemMany, m_seedThen, m_groundThen, m_widths, m_sizes, m_numbers, m_moved)) (mA g)) ([.ref (gm g 0)] : List Value).toArray s 0 0 (mA g)) (F0 m 8 ls [])) (fun v2 => ∀ (H : Heap) (locs : List Loc) (ls : Array Slot), va_P g.1 vwCl (mw g (m_now, m_kept, m_aside, m_isKept, m_found, m_steps, m_queue, m_lives, m_treads, m_tape, m_taped, v2, m_ends, m_sort, m_value, m_isWrong, m_items, m_itemMany, m_seedThen, m_groundThen, m_widths, m_sizes, m_numbers, m_moved)) H → va_S (mA g) s.heap H locs → lv_has ls 2 [(0, .ref (gm g 0))] → W p l e (headSpec wsX7_next ({ frames := 1, cells := 0, slots := 0, locals := 24 })).room s m ([.ref (gm g 0)] : List Value).toArray below meth c H locs 0 0 (MQ below (qW none True g.1 (mw g (m_now, m_kept, m_aside, m_isKept, m_found, m_steps, m_queue, m_lives, m_treads, m_tape, m_taped, res.1, res.2.1, res.2.2.1, res.2.2.2, m_isWrong, m_items, m_itemMany, m_seedThen, m_groundThen, m_widths, m_sizes, m_numbers, m_moved)) (mA g)) ([.ref (gm g 0)] : List Value).toArray s 0 0 (mA g)) (F0 m 34 ls [])) ?_ ?_ _ _ _ hP hS (lv_sub hl [0] rfl)
  · intro v2 hf H locs ls hP hS hl
    refine lv_aload_n hx hb dX7_next_34 rfl (lv_at hl 0 rfl) ?_
    refine lv_aload_n hx hb dX7_next_35 rfl (lv_at hl 0 rfl) ?_
    refine va_get (D := g.1) (ci := 5) (v := .int v2) (C := RX7) (T := TX7) (N := 27) hx hb hts iwX7 hown hK hP 0 k_md rfl 11 (by decide) hw1 (fun _ h9 => h9) rfl dX7_next_36 ?_
    obtain ⟨q6, hq6, hf⟩ := bd_some hf
    refine kr_S (st1 := [.int q6]) (va_runV (As := [.int v2]) (rest := []) ⟨hx, hb, hml, hown, hts⟩ (ct_X7_byteAt l n g m_now m_kept m_aside m_isKept m_found m_steps m_queue m_lives m_treads m_tape m_taped v2 m_ends m_sort m_value m_isWrong m_items m_itemMany m_seedThen m_groundThen m_widths m_sizes m_numbers m_moved v2 q6 hq6) (cwV 1 hts gX7_next_X7_byteAt rfl rfl rfl hd_X7_byteAt ⟨Nat.le_of_ble_eq_true rfl, Nat.le_of_ble_eq_true rfl⟩) ⟨bl_M, va_recv hK hP (ci := 5) (q0 := 0) rfl k_md, pr_M rfl hB hP hS⟩ rfl rfl hl.1 rfl (lv_room (Nat.le_of_ble_eq_true rfl)) dX7_next_39 ⟨Nat.le_refl _, Nat.le_refl _⟩) rfl (fun hn7 => ?_)
    refine lv_istore_n (lv' := [(1, .int q6), (0, .ref (gm g 0))]) hx hb dX7_next_42 rfl hl (by decide) rfl (fun ls hl => ?_)
    refine lv_aload_n hx hb dX7_next_43 rfl (lv_at hl 1 rfl) ?_
    refine lv_aload_n hx hb dX7_next_44 rfl (lv_at hl 1 rfl) ?_
    refine va_get (D := g.1) (ci := 5) (v := .int v2) (C := RX7) (T := TX7) (N := 27) hx hb hts iwX7 hown hK hP 0 k_md rfl 11 (by decide) hw1 (fun _ h9 => h9) rfl dX7_next_45 ?_
    refine va_put (D := g.1) (ci := 5) (v := .int v2) (ty := .int) (C := RX7) (T := TX7) (N := 27) hx hb hts iwX7 tyX7 tyX7_ok nmX7 hown hK hP (mD hB.2.2.1 _) hS 0 k_md rfl 12 (by decide) hw0 (fun _ h9 => h9) rfl (tyX7_ok 12 (by decide)) rfl rfl (Nat.le_of_ble_eq_true rfl) dX7_next_48 (fun H locs hP _ hS => ?_)
    have hP : va_P g.1 vwCl (mw g (m_now, m_kept, m_aside, m_isKept, m_found, m_steps, m_queue, m_lives, m_treads, m_tape, m_taped, v2, v2, m_sort, m_value, m_isWrong, m_items, m_itemMany, m_seedThen, m_groundThen, m_widths, m_sizes, m_numbers, m_moved)) H := w_eq (k_set_ends v2) hP
    refine lv_aload_n hx hb dX7_next_51 rfl (lv_at hl 1 rfl) ?_
    refine lv_iconst (v := (0 : Int32)) hx hb dX7_next_52 (by decide) ?_
    refine va_put (D := g.1) (ci := 5) (v := .int (0 : Int32)) (ty := .int) (C := RX7) (T := TX7) (N := 27) hx hb hts iwX7 tyX7 tyX7_ok nmX7 hown hK hP (mD hB.2.2.1 _) hS 0 k_md rfl 14 (by decide) hw2 (fun _ h9 => h9) rfl (tyX7_ok 14 (by decide)) rfl rfl (Nat.le_of_ble_eq_true rfl) dX7_next_53 (fun H locs hP _ hS => ?_)
    have hP : va_P g.1 vwCl (mw g (m_now, m_kept, m_aside, m_isKept, m_found, m_steps, m_queue, m_lives, m_treads, m_tape, m_taped, v2, v2, m_sort, (0 : Int32), m_isWrong, m_items, m_itemMany, m_seedThen, m_groundThen, m_widths, m_sizes, m_numbers, m_moved)) H := w_eq (k_set_value (0 : Int32)) hP
    refine lv_iload_n hx hb dX7_next_56 rfl (lv_at hl 0 rfl) ?_
    refine lv_if_ge (tgt := 68) hx hb dX7_next_57 (by decide) (fun hc8 => ?_) (fun hc8 => ?_)
    · have hf := (if_pos hc8).symm.trans hf
      refine lv_iload_n hx hb dX7_next_68 rfl (lv_at hl 0 rfl) ?_
      refine lv_bipush (v := (97 : Int32)) hx hb dX7_next_69 (by decide) ?_
      refine lv_bipush (v := (122 : Int32)) hx hb dX7_next_71 (by decide) ?_
      obtain ⟨q9, hq9, hf⟩ := bd_some hf
      refine kr_S (st1 := [.int q9]) (va_runS (As := [.int q6, .int (97 : Int32), .int (122 : Int32)]) (rest := []) ⟨hx, hb, hml, hown, hts⟩ (ct_X7_within l n q6 (97 : Int32) (122 : Int32) q9 hq9) (va_cwS 3 hts gX7_next_X7_within rfl rfl rfl hn_X7_within ⟨Nat.le_of_ble_eq_true rfl, Nat.le_of_ble_eq_true rfl⟩) ⟨bl_N, pr_N rfl hNW⟩ rfl rfl hl.1 rfl (lv_room (Nat.le_of_ble_eq_true rfl)) dX7_next_73 ⟨Nat.le_refl _, Nat.le_refl _⟩) rfl (fun hn10 => ?_)
      refine lv_if_eq (tgt := 115) hx hb dX7_next_76 (by decide) (fun hc11 => ?_) (fun hc11 => ?_)
      · have hf := (if_pos hc11).symm.trans hf
        refine lv_iload_n hx hb dX7_next_115 rfl (lv_at hl 0 rfl) ?_
        refine lv_bipush (v := (48 : Int32)) hx hb dX7_next_116 (by decide) ?_
        refine lv_bipush (v := (57 : Int32)) hx hb dX7_next_118 (by decide) ?_
        obtain ⟨q12, hq12, hf⟩ := bd_some hf
        refine kr_S (st1 := [.int q12]) (va_runS (As := [.int q6, .int (48 : Int32), .int (57 : Int32)]) (rest := []) ⟨hx, hb, hml, hown, hts⟩ (ct_X7_within l n q6 (48 : Int32) (57 : Int32) q12 hq12) (va_cwS 3 hts gX7_next_X7_within rfl rfl rfl hn_X7_within ⟨Nat.le_of_ble_eq_true rfl, Nat.le_of_ble_eq_true rfl⟩) ⟨bl_N, pr_N rfl hNW⟩ rfl rfl hl.1 rfl (lv_room (Nat.le_of_ble_eq_true rfl)) dX7_next_120 ⟨Nat.le_refl _, Nat.le_refl _⟩) rfl (fun hn13 => ?_)
        refine lv_if_eq (tgt := 191) hx hb dX7_next_123 (by decide) (fun hc14 => ?_) (fun hc14 => ?_)
        · have hf := (if_pos hc14).symm.trans hf
          refine lv_aload_n hx hb dX7_next_191 rfl (lv_at hl 1 rfl) ?_
          refine lv_iconst (v := (3 : Int32)) hx hb dX7_next_192 (by decide) ?_
          refine va_put (D := g.1) (ci := 5) (v := .int (3 : Int32)) (ty := .int) (C := RX7) (T := TX7) (N := 27) hx hb hts iwX7 tyX7 tyX7_ok nmX7 hown hK hP (mD hB.2.2.1 _) hS 0 k_md rfl 13 (by decide) hw3 (fun _ h9 => h9) rfl (tyX7_ok 13 (by decide)) rfl rfl (Nat.le_of_ble_eq_true rfl) dX7_next_193 (fun H locs hP _ hS => ?_)
          have hP : va_P g.1 vwCl (mw g (m_now, m_kept, m_aside, m_isKept, m_found, m_steps, m_queue, m_lives, m_treads, m_tape, m_taped, v2, v2, (3 : Int32), (0 : Int32), m_isWrong, m_items, m_itemMany, m_seedThen, m_groundThen, m_widths, m_sizes, m_numbers, m_moved)) H := w_eq (k_set_sort (3 : Int32)) hP
          refine lv_aload_n hx hb dX7_next_196 rfl (lv_at hl 1 rfl) ?_
          refine lv_dup hx hb dX7_next_197 rfl ?_
          refine va_get (D := g.1) (ci := 5) (v := .int v2) (C := RX7) (T := TX7) (N := 27) hx hb hts iwX7 hown hK hP 0 k_md rfl 12 (by decide) hw0 (fun _ h9 => h9) rfl dX7_next_198 ?_
          refine lv_iconst (v := (1 : Int32)) hx hb dX7_next_201 (by decide) ?_
          refine lv_iadd hx hb dX7_next_202 ?_
          refine va_put (D := g.1) (ci := 5) (v := .int (v2 + (1 : Int32))) (ty := .int) (C := RX7) (T := TX7) (N := 27) hx hb hts iwX7 tyX7 tyX7_ok nmX7 hown hK hP (mD hB.2.2.1 _) hS 0 k_md rfl 12 (by decide) hw0 (fun _ h9 => h9) rfl (tyX7_ok 12 (by decide)) rfl rfl (Nat.le_of_ble_eq_true rfl) dX7_next_203 (fun H locs hP _ hS => ?_)
          have hP : va_P g.1 vwCl (mw g (m_now, m_kept, m_aside, m_isKept, m_found, m_steps, m_queue, m_lives, m_treads, m_tape, m_taped, v2, (v2 + (1 : Int32)), (3 : Int32), (0 : Int32), m_isWrong, m_items, m_itemMany, m_seedThen, m_groundThen, m_widths, m_sizes, m_numbers, m_moved)) H := w_eq (k_set_ends (v2 + (1 : Int32))) hP
          have hres : (v2, (v2 + (1 : Int32)), (3 : Int32), (0 : Int32)) = res := (Option.some.inj hf)
          have hP := w_eq (congrArg (fun z => mw g (m_now, m_kept, m_aside, m_isKept, m_found, m_steps, m_queue, m_lives, m_treads, m_tape, m_taped, z.1, z.2.1, z.2.2.1, z.2.2.2, m_isWrong, m_items, m_itemMany, m_seedThen, m_groundThen, m_widths, m_sizes, m_numbers, m_moved)) hres) hP
          exact W.vret hx hb hr (fun t ht hW => ⟨rfl, trivial, by rw [ht]; exact hP, hS.F ht⟩) hS.2.2 dX7_next_206
        · have hf := (if_neg hc14).symm.trans hf
          refine lv_aload_n hx hb dX7_next_126 rfl (lv_at hl 1 rfl) ?_
          refine lv_iconst (v := (2 : Int32)) hx hb dX7_next_127 (by decide) ?_
          refine va_put (D := g.1) (ci := 5) (v := .int (2 : Int32)) (ty := .int) (C := RX7) (T := TX7) (N := 27) hx hb hts iwX7 tyX7 tyX7_ok nmX7 hown hK hP (mD hB.2.2.1 _) hS 0 k_md rfl 13 (by decide) hw3 (fun _ h9 => h9) rfl (tyX7_ok 13 (by decide)) rfl rfl (Nat.le_of_ble_eq_true rfl) dX7_next_128 (fun H locs hP _ hS => ?_)
          have hP : va_P g.1 vwCl (mw g (m_now, m_kept, m_aside, m_isKept, m_found, m_steps, m_queue, m_lives, m_treads, m_tape, m_taped, v2, v2, (2 : Int32), (0 : Int32), m_isWrong, m_items, m_itemMany, m_seedThen, m_groundThen, m_widths, m_sizes, m_numbers, m_moved)) H := w_eq (k_set_sort (2 : Int32)) hP
          refine lp_run hf (fun s15 => ∀ (H : Heap) (locs : List Loc) (ls : Array Slot), va_P g.1 vwCl (mw g (m_now, m_kept, m_aside, m_isKept, m_found, m_steps, m_queue, m_lives, m_treads, m_tape, m_taped, v2, s15.1, (2 : Int32), s15.2, m_isWrong, m_items, m_itemMany, m_seedThen, m_groundThen, m_widths, m_sizes, m_numbers, m_moved)) H → va_S (mA g) s.heap H locs → lv_has ls 2 [(0, .ref (gm g 0))] → W p l e (headSpec wsX7_next ({ frames := 1, cells := 0, slots := 0, locals := 24 })).room s m ([.ref (gm g 0)] : List Value).toArray below meth c H locs 0 0 (MQ below (qW none True g.1 (mw g (m_now, m_kept, m_aside, m_isKept, m_found, m_steps, m_queue, m_lives, m_treads, m_tape, m_taped, res.1, res.2.1, res.2.2.1, res.2.2.2, m_isWrong, m_items, m_itemMany, m_seedThen, m_groundThen, m_widths, m_sizes, m_numbers, m_moved)) (mA g)) ([.ref (gm g 0)] : List Value).toArray s 0 0 (mA g)) (F0 m 131 ls [])) (fun v16 => ∀ (H : Heap) (locs : List Loc) (ls : Array Slot), va_P g.1 vwCl (mw g (m_now, m_kept, m_aside, m_isKept, m_found, m_steps, m_queue, m_lives, m_treads, m_tape, m_taped, v2, v16.1, (2 : Int32), v16.2, m_isWrong, m_items, m_itemMany, m_seedThen, m_groundThen, m_widths, m_sizes, m_numbers, m_moved)) H → va_S (mA g) s.heap H locs → lv_has ls 2 [] → W p l e (headSpec wsX7_next ({ frames := 1, cells := 0, slots := 0, locals := 24 })).room s m ([.ref (gm g 0)] : List Value).toArray below meth c H locs 0 0 (MQ below (qW none True g.1 (mw g (m_now, m_kept, m_aside, m_isKept, m_found, m_steps, m_queue, m_lives, m_treads, m_tape, m_taped, res.1, res.2.1, res.2.2.1, res.2.2.2, m_isWrong, m_items, m_itemMany, m_seedThen, m_groundThen, m_widths, m_sizes, m_numbers, m_moved)) (mA g)) ([.ref (gm g 0)] : List Value).toArray s 0 0 (mA g)) (F0 m 206 ls [])) ?_ ?_ _ _ _ hP hS (lv_sub hl [1] rfl)
          · intro v16 hf H locs ls hP hS hl
            have hres : (v2, v16.1, (2 : Int32), v16.2) = res := (Option.some.inj hf)
            have hP := w_eq (congrArg (fun z => mw g (m_now, m_kept, m_aside, m_isKept, m_found, m_steps, m_queue, m_lives, m_treads, m_tape, m_taped, z.1, z.2.1, z.2.2.1, z.2.2.2, m_isWrong, m_items, m_itemMany, m_seedThen, m_groundThen, m_widths, m_sizes, m_numbers, m_moved)) hres) hP
            exact W.vret hx hb hr (fun t ht hW => ⟨rfl, trivial, by rw [ht]; exact hP, hS.F ht⟩) hS.2.2 dX7_next_206
          · intro s15 r1 hf hback1 hexit1 H locs ls hP hS hl
            refine lv_aload_n hx hb dX7_next_131 rfl (lv_at hl 0 rfl) ?_
            refine lv_aload_n hx hb dX7_next_132 rfl (lv_at hl 0 rfl) ?_
            refine va_get (D := g.1) (ci := 5) (v := .int s15.1) (C := RX7) (T := TX7) (N := 27) hx hb hts iwX7 hown hK hP 0 k_md rfl 12 (by decide) hw0 (fun _ h9 => h9) rfl dX7_next_133 ?_
            obtain ⟨q17, hq17, hf⟩ := bd_some hf
            refine kr_S (st1 := [.int q17]) (va_runV (As := [.int s15.1]) (rest := []) ⟨hx, hb, hml, hown, hts⟩ (ct_X7_byteAt l n g m_now m_kept m_aside m_isKept m_found m_steps m_queue m_lives m_treads m_tape m_taped v2 s15.1 (2 : Int32) s15.2 m_isWrong m_items m_itemMany m_seedThen m_groundThen m_widths m_sizes m_numbers m_moved s15.1 q17 hq17) (cwV 1 hts gX7_next_X7_byteAt rfl rfl rfl hd_X7_byteAt ⟨Nat.le_of_ble_eq_true rfl, Nat.le_of_ble_eq_true rfl⟩) ⟨bl_M, va_recv hK hP (ci := 5) (q0 := 0) rfl k_md, pr_M rfl hB hP hS⟩ rfl rfl hl.1 rfl (lv_room (Nat.le_of_ble_eq_true rfl)) dX7_next_136 ⟨Nat.le_refl _, Nat.le_refl _⟩) rfl (fun hn18 => ?_)
            refine lv_bipush (v := (48 : Int32)) hx hb dX7_next_139 (by decide) ?_
            refine lv_bipush (v := (57 : Int32)) hx hb dX7_next_141 (by decide) ?_
            obtain ⟨q19, hq19, hf⟩ := bd_some hf
            refine kr_S (st1 := [.int q19]) (va_runS (As := [.int q17, .int (48 : Int32), .int (57 : Int32)]) (rest := []) ⟨hx, hb, hml, hown, hts⟩ (ct_X7_within l n q17 (48 : Int32) (57 : Int32) q19 hq19) (va_cwS 3 hts gX7_next_X7_within rfl rfl rfl hn_X7_within ⟨Nat.le_of_ble_eq_true rfl, Nat.le_of_ble_eq_true rfl⟩) ⟨bl_N, pr_N rfl hNW⟩ rfl rfl hl.1 rfl (lv_room (Nat.le_of_ble_eq_true rfl)) dX7_next_143 ⟨Nat.le_refl _, Nat.le_refl _⟩) rfl (fun hn20 => ?_)
            refine lv_if_eq (tgt := 206) hx hb dX7_next_146 (by decide) (fun hc21 => ?_) (fun hc21 => ?_)
            · have hf := (if_pos hc21).symm.trans hf
              exact hexit1 (s15.1, s15.2) (Option.some.inj hf).symm H locs ls hP hS (lv_sub hl [] rfl)
            · have hf := (if_neg hc21).symm.trans hf
              refine lv_aload_n hx hb dX7_next_149 rfl (lv_at hl 0 rfl) ?_
              refine lv_sipush (v := (1000 : Int32)) hx hb dX7_next_150 (by decide) ?_
              refine lv_bipush (v := (10 : Int32)) hx hb dX7_next_153 (by decide) ?_
              refine lv_aload_n hx hb dX7_next_155 rfl (lv_at hl 0 rfl) ?_
              refine va_get (D := g.1) (ci := 5) (v := .int s15.2) (C := RX7) (T := TX7) (N := 27) hx hb hts iwX7 hown hK hP 0 k_md rfl 14 (by decide) hw2 (fun _ h9 => h9) rfl dX7_next_156 ?_
              refine lv_imul hx hb dX7_next_159 ?_
              refine lv_aload_n hx hb dX7_next_160 rfl (lv_at hl 0 rfl) ?_
              refine lv_aload_n hx hb dX7_next_161 rfl (lv_at hl 0 rfl) ?_
              refine va_get (D := g.1) (ci := 5) (v := .int s15.1) (C := RX7) (T := TX7) (N := 27) hx hb hts iwX7 hown hK hP 0 k_md rfl 12 (by decide) hw0 (fun _ h9 => h9) rfl dX7_next_162 ?_
              obtain ⟨q22, hq22, hf⟩ := bd_some hf
              refine kr_S (st1 := [.int q22, .int ((10 : Int32) * s15.2), .int (1000 : Int32), .ref (gm g 0)]) (va_runV (As := [.int s15.1]) (rest := [.int ((10 : Int32) * s15.2), .int (1000 : Int32), .ref (gm g 0)]) ⟨hx, hb, hml, hown, hts⟩ (ct_X7_byteAt l n g m_now m_kept m_aside m_isKept m_found m_steps m_queue m_lives m_treads m_tape m_taped v2 s15.1 (2 : Int32) s15.2 m_isWrong m_items m_itemMany m_seedThen m_groundThen m_widths m_sizes m_numbers m_moved s15.1 q22 hq22) (cwV 1 hts gX7_next_X7_byteAt rfl rfl rfl hd_X7_byteAt ⟨Nat.le_of_ble_eq_true rfl, Nat.le_of_ble_eq_true rfl⟩) ⟨bl_M, va_recv hK hP (ci := 5) (q0 := 0) rfl k_md, pr_M rfl hB hP hS⟩ rfl rfl hl.1 rfl (lv_room (Nat.le_of_ble_eq_true rfl)) dX7_next_165 ⟨Nat.le_refl _, Nat.le_refl _⟩) rfl (fun hn23 => ?_)
              refine lv_iadd hx hb dX7_next_168 ?_
              refine lv_bipush (v := (48 : Int32)) hx hb dX7_next_169 (by decide) ?_
              refine lv_isub hx hb dX7_next_171 ?_
              refine va_mmin hx hb (hml.trans hl.1.symm) hown hw4 hw5 hw6 hw7 (Nat.le_of_ble_eq_true rfl) (Nat.le_of_ble_eq_true rfl) (Nat.le_of_ble_eq_true rfl) (Nat.le_of_ble_eq_true rfl) dX7_next_172 ?_
              refine va_put (D := g.1) (ci := 5) (v := .int (if ((((10 : Int32) * s15.2) + q22) - (48 : Int32)) < (1000 : Int32) then ((((10 : Int32) * s15.2) + q22) - (48 : Int32)) else (1000 : Int32))) (ty := .int) (C := RX7) (T := TX7) (N := 27) hx hb hts iwX7 tyX7 tyX7_ok nmX7 hown hK hP (mD hB.2.2.1 _) hS 0 k_md rfl 14 (by decide) hw2 (fun _ h9 => h9) rfl (tyX7_ok 14 (by decide)) rfl rfl (Nat.le_of_ble_eq_true rfl) dX7_next_175 (fun H locs hP _ hS => ?_)
              have hP : va_P g.1 vwCl (mw g (m_now, m_kept, m_aside, m_isKept, m_found, m_steps, m_queue, m_lives, m_treads, m_tape, m_taped, v2, s15.1, (2 : Int32), (if ((((10 : Int32) * s15.2) + q22) - (48 : Int32)) < (1000 : Int32) then ((((10 : Int32) * s15.2) + q22) - (48 : Int32)) else (1000 : Int32)), m_isWrong, m_items, m_itemMany, m_seedThen, m_groundThen, m_widths, m_sizes, m_numbers, m_moved)) H := w_eq (k_set_value (if ((((10 : Int32) * s15.2) + q22) - (48 : Int32)) < (1000 : Int32) then ((((10 : Int32) * s15.2) + q22) - (48 : Int32)) else (1000 : Int32))) hP
              refine lv_aload_n hx hb dX7_next_178 rfl (lv_at hl 0 rfl) ?_
              refine lv_dup hx hb dX7_next_179 rfl ?_
              refine va_get (D := g.1) (ci := 5) (v := .int s15.1) (C := RX7) (T := TX7) (N := 27) hx hb hts iwX7 hown hK hP 0 k_md rfl 12 (by decide) hw0 (fun _ h9 => h9) rfl dX7_next_180 ?_
              refine lv_iconst (v := (1 : Int32)) hx hb dX7_next_183 (by decide) ?_
              refine lv_iadd hx hb dX7_next_184 ?_
              refine va_put (D := g.1) (ci := 5) (v := .int (s15.1 + (1 : Int32))) (ty := .int) (C := RX7) (T := TX7) (N := 27) hx hb hts iwX7 tyX7 tyX7_ok nmX7 hown hK hP (mD hB.2.2.1 _) hS 0 k_md rfl 12 (by decide) hw0 (fun _ h9 => h9) rfl (tyX7_ok 12 (by decide)) rfl rfl (Nat.le_of_ble_eq_true rfl) dX7_next_185 (fun H locs hP _ hS => ?_)
              have hP : va_P g.1 vwCl (mw g (m_now, m_kept, m_aside, m_isKept, m_found, m_steps, m_queue, m_lives, m_treads, m_tape, m_taped, v2, (s15.1 + (1 : Int32)), (2 : Int32), (if ((((10 : Int32) * s15.2) + q22) - (48 : Int32)) < (1000 : Int32) then ((((10 : Int32) * s15.2) + q22) - (48 : Int32)) else (1000 : Int32)), m_isWrong, m_items, m_itemMany, m_seedThen, m_groundThen, m_widths, m_sizes, m_numbers, m_moved)) H := w_eq (k_set_ends (s15.1 + (1 : Int32))) hP
              refine lv_goto (tgt := 131) hx hb dX7_next_188 (by decide) ?_
              exact hback1 _ (Option.some.inj hf).symm H locs ls hP hS (lv_sub hl [0] rfl)
      · have hf := (if_neg hc11).symm.trans hf
        refine lv_aload_n hx hb dX7_next_79 rfl (lv_at hl 1 rfl) ?_
        refine lv_iconst (v := (1 : Int32)) hx hb dX7_next_80 (by decide) ?_
        refine va_put (D := g.1) (ci := 5) (v := .int (1 : Int32)) (ty := .int) (C := RX7) (T := TX7) (N := 27) hx hb hts iwX7 tyX7 tyX7_ok nmX7 hown hK hP (mD hB.2.2.1 _) hS 0 k_md rfl 13 (by decide) hw3 (fun _ h9 => h9) rfl (tyX7_ok 13 (by decide)) rfl rfl (Nat.le_of_ble_eq_true rfl) dX7_next_81 (fun H locs hP _ hS => ?_)
        have hP : va_P g.1 vwCl (mw g (m_now, m_kept, m_aside, m_isKept, m_found, m_steps, m_queue, m_lives, m_treads, m_tape, m_taped, v2, v2, (1 : Int32), (0 : Int32), m_isWrong, m_items, m_itemMany, m_seedThen, m_groundThen, m_widths, m_sizes, m_numbers, m_moved)) H := w_eq (k_set_sort (1 : Int32)) hP
        refine lp_run hf (fun s24 => ∀ (H : Heap) (locs : List Loc) (ls : Array Slot), va_P g.1 vwCl (mw g (m_now, m_kept, m_aside, m_isKept, m_found, m_steps, m_queue, m_lives, m_treads, m_tape, m_taped, v2, s24, (1 : Int32), (0 : Int32), m_isWrong, m_items, m_itemMany, m_seedThen, m_groundThen, m_widths, m_sizes, m_numbers, m_moved)) H → va_S (mA g) s.heap H locs → lv_has ls 2 [(0, .ref (gm g 0))] → W p l e (headSpec wsX7_next ({ frames := 1, cells := 0, slots := 0, locals := 24 })).room s m ([.ref (gm g 0)] : List Value).toArray below meth c H locs 0 0 (MQ below (qW none True g.1 (mw g (m_now, m_kept, m_aside, m_isKept, m_found, m_steps, m_queue, m_lives, m_treads, m_tape, m_taped, res.1, res.2.1, res.2.2.1, res.2.2.2, m_isWrong, m_items, m_itemMany, m_seedThen, m_groundThen, m_widths, m_sizes, m_numbers, m_moved)) (mA g)) ([.ref (gm g 0)] : List Value).toArray s 0 0 (mA g)) (F0 m 84 ls [])) (fun v25 => ∀ (H : Heap) (locs : List Loc) (ls : Array Slot), va_P g.1 vwCl (mw g (m_now, m_kept, m_aside, m_isKept, m_found, m_steps, m_queue, m_lives, m_treads, m_tape, m_taped, v2, v25, (1 : Int32), (0 : Int32), m_isWrong, m_items, m_itemMany, m_seedThen, m_groundThen, m_widths, m_sizes, m_numbers, m_moved)) H → va_S (mA g) s.heap H locs → lv_has ls 2 [] → W p l e (headSpec wsX7_next ({ frames := 1, cells := 0, slots := 0, locals := 24 })).room s m ([.ref (gm g 0)] : List Value).toArray below meth c H locs 0 0 (MQ below (qW none True g.1 (mw g (m_now, m_kept, m_aside, m_isKept, m_found, m_steps, m_queue, m_lives, m_treads, m_tape, m_taped, res.1, res.2.1, res.2.2.1, res.2.2.2, m_isWrong, m_items, m_itemMany, m_seedThen, m_groundThen, m_widths, m_sizes, m_numbers, m_moved)) (mA g)) ([.ref (gm g 0)] : List Value).toArray s 0 0 (mA g)) (F0 m 206 ls [])) ?_ ?_ _ _ _ hP hS (lv_sub hl [1] rfl)
        · intro v25 hf H locs ls hP hS hl
          have hres : (v2, v25, (1 : Int32), (0 : Int32)) = res := (Option.some.inj hf)
          have hP := w_eq (congrArg (fun z => mw g (m_now, m_kept, m_aside, m_isKept, m_found, m_steps, m_queue, m_lives, m_treads, m_tape, m_taped, z.1, z.2.1, z.2.2.1, z.2.2.2, m_isWrong, m_items, m_itemMany, m_seedThen, m_groundThen, m_widths, m_sizes, m_numbers, m_moved)) hres) hP
          exact W.vret hx hb hr (fun t ht hW => ⟨rfl, trivial, by rw [ht]; exact hP, hS.F ht⟩) hS.2.2 dX7_next_206
        · intro s24 r1 hf hback1 hexit1 H locs ls hP hS hl
          refine lv_aload_n hx hb dX7_next_84 rfl (lv_at hl 0 rfl) ?_
          refine lv_aload_n hx hb dX7_next_85 rfl (lv_at hl 0 rfl) ?_
          refine va_get (D := g.1) (ci := 5) (v := .int s24) (C := RX7) (T := TX7) (N := 27) hx hb hts iwX7 hown hK hP 0 k_md rfl 12 (by decide) hw0 (fun _ h9 => h9) rfl dX7_next_86 ?_
          obtain ⟨q26, hq26, hf⟩ := bd_some hf
          refine kr_S (st1 := [.int q26]) (va_runV (As := [.int s24]) (rest := []) ⟨hx, hb, hml, hown, hts⟩ (ct_X7_byteAt l n g m_now m_kept m_aside m_isKept m_found m_steps m_queue m_lives m_treads m_tape m_taped v2 s24 (1 : Int32) (0 : Int32) m_isWrong m_items m_itemMany m_seedThen m_groundThen m_widths m_sizes m_numbers m_moved s24 q26 hq26) (cwV 1 hts gX7_next_X7_byteAt rfl rfl rfl hd_X7_byteAt ⟨Nat.le_of_ble_eq_true rfl, Nat.le_of_ble_eq_true rfl⟩) ⟨bl_M, va_recv hK hP (ci := 5) (q0 := 0) rfl k_md, pr_M rfl hB hP hS⟩ rfl rfl hl.1 rfl (lv_room (Nat.le_of_ble_eq_true rfl)) dX7_next_89 ⟨Nat.le_refl _, Nat.le_refl _⟩) rfl (fun hn27 => ?_)
          refine lv_bipush (v := (97 : Int32)) hx hb dX7_next_92 (by decide) ?_
          refine lv_bipush (v := (122 : Int32)) hx hb dX7_next_94 (by decide) ?_
          obtain ⟨q28, hq28, hf⟩ := bd_some hf
          refine kr_S (st1 := [.int q28]) (va_runS (As := [.int q26, .int (97 : Int32), .int (122 : Int32)]) (rest := []) ⟨hx, hb, hml, hown, hts⟩ (ct_X7_within l n q26 (97 : Int32) (122 : Int32) q28 hq28) (va_cwS 3 hts gX7_next_X7_within rfl rfl rfl hn_X7_within ⟨Nat.le_of_ble_eq_true rfl, Nat.le_of_ble_eq_true rfl⟩) ⟨bl_N, pr_N rfl hNW⟩ rfl rfl hl.1 rfl (lv_room (Nat.le_of_ble_eq_true rfl)) dX7_next_96 ⟨Nat.le_refl _, Nat.le_refl _⟩) rfl (fun hn29 => ?_)
          refine lv_if_eq (tgt := 206) hx hb dX7_next_99 (by decide) (fun hc30 => ?_) (fun hc30 => ?_)
          · have hf := (if_pos hc30).symm.trans hf
            exact hexit1 s24 (Option.some.inj hf).symm H locs ls hP hS (lv_sub hl [] rfl)
          · have hf := (if_neg hc30).symm.trans hf
            refine lv_aload_n hx hb dX7_next_102 rfl (lv_at hl 0 rfl) ?_
            refine lv_dup hx hb dX7_next_103 rfl ?_
            refine va_get (D := g.1) (ci := 5) (v := .int s24) (C := RX7) (T := TX7) (N := 27) hx hb hts iwX7 hown hK hP 0 k_md rfl 12 (by decide) hw0 (fun _ h9 => h9) rfl dX7_next_104 ?_
            refine lv_iconst (v := (1 : Int32)) hx hb dX7_next_107 (by decide) ?_
            refine lv_iadd hx hb dX7_next_108 ?_
            refine va_put (D := g.1) (ci := 5) (v := .int (s24 + (1 : Int32))) (ty := .int) (C := RX7) (T := TX7) (N := 27) hx hb hts iwX7 tyX7 tyX7_ok nmX7 hown hK hP (mD hB.2.2.1 _) hS 0 k_md rfl 12 (by decide) hw0 (fun _ h9 => h9) rfl (tyX7_ok 12 (by decide)) rfl rfl (Nat.le_of_ble_eq_true rfl) dX7_next_109 (fun H locs hP _ hS => ?_)
            have hP : va_P g.1 vwCl (mw g (m_now, m_kept, m_aside, m_isKept, m_found, m_steps, m_queue, m_lives, m_treads, m_tape, m_taped, v2, (s24 + (1 : Int32)), (1 : Int32), (0 : Int32), m_isWrong, m_items, m_itemMany, m_seedThen, m_groundThen, m_widths, m_sizes, m_numbers, m_moved)) H := w_eq (k_set_ends (s24 + (1 : Int32))) hP
            refine lv_goto (tgt := 84) hx hb dX7_next_112 (by decide) ?_
            exact hback1 _ (Option.some.inj hf).symm H locs ls hP hS (lv_sub hl [0] rfl)
    · have hf := (if_neg hc8).symm.trans hf
      refine lv_aload_n hx hb dX7_next_60 rfl (lv_at hl 1 rfl) ?_
      refine lv_iconst (v := (0 : Int32)) hx hb dX7_next_61 (by decide) ?_
      refine va_put (D := g.1) (ci := 5) (v := .int (0 : Int32)) (ty := .int) (C := RX7) (T := TX7) (N := 27) hx hb hts iwX7 tyX7 tyX7_ok nmX7 hown hK hP (mD hB.2.2.1 _) hS 0 k_md rfl 13 (by decide) hw3 (fun _ h9 => h9) rfl (tyX7_ok 13 (by decide)) rfl rfl (Nat.le_of_ble_eq_true rfl) dX7_next_62 (fun H locs hP _ hS => ?_)
      have hP : va_P g.1 vwCl (mw g (m_now, m_kept, m_aside, m_isKept, m_found, m_steps, m_queue, m_lives, m_treads, m_tape, m_taped, v2, v2, (0 : Int32), (0 : Int32), m_isWrong, m_items, m_itemMany, m_seedThen, m_groundThen, m_widths, m_sizes, m_numbers, m_moved)) H := w_eq (k_set_sort (0 : Int32)) hP
      refine lv_goto (tgt := 206) hx hb dX7_next_65 (by decide) ?_
      have hres : (v2, v2, (0 : Int32), (0 : Int32)) = res := (Option.some.inj hf)
      have hP := w_eq (congrArg (fun z => mw g (m_now, m_kept, m_aside, m_isKept, m_found, m_steps, m_queue, m_lives, m_treads, m_tape, m_taped, z.1, z.2.1, z.2.2.1, z.2.2.2, m_isWrong, m_items, m_itemMany, m_seedThen, m_groundThen, m_widths, m_sizes, m_numbers, m_moved)) hres) hP
      exact W.vret hx hb hr (fun t ht hW => ⟨rfl, trivial, by rw [ht]; exact hP, hS.F ht⟩) hS.2.2 dX7_next_206
  · intro s1 r1 hf hback1 hexit1 H locs ls hP hS hl
    refine lv_aload_n hx hb dX7_next_8 rfl (lv_at hl 0 rfl) ?_
    refine lv_aload_n hx hb dX7_next_9 rfl (lv_at hl 0 rfl) ?_
    refine va_get (D := g.1) (ci := 5) (v := .int s1) (C := RX7) (T := TX7) (N := 27) hx hb hts iwX7 hown hK hP 0 k_md rfl 11 (by decide) hw1 (fun _ h9 => h9) rfl dX7_next_10 ?_
    obtain ⟨q3, hq3, hf⟩ := bd_some hf
    refine kr_S (st1 := [.int q3]) (va_runV (As := [.int s1]) (rest := []) ⟨hx, hb, hml, hown, hts⟩ (ct_X7_byteAt l n g m_now m_kept m_aside m_isKept m_found m_steps m_queue m_lives m_treads m_tape m_taped s1 m_ends m_sort m_value m_isWrong m_items m_itemMany m_seedThen m_groundThen m_widths m_sizes m_numbers m_moved s1 q3 hq3) (cwV 1 hts gX7_next_X7_byteAt rfl rfl rfl hd_X7_byteAt ⟨Nat.le_of_ble_eq_true rfl, Nat.le_of_ble_eq_true rfl⟩) ⟨bl_M, va_recv hK hP (ci := 5) (q0 := 0) rfl k_md, pr_M rfl hB hP hS⟩ rfl rfl hl.1 rfl (lv_room (Nat.le_of_ble_eq_true rfl)) dX7_next_13 ⟨Nat.le_refl _, Nat.le_refl _⟩) rfl (fun hn4 => ?_)
    refine lv_bipush (v := (32 : Int32)) hx hb dX7_next_16 (by decide) ?_
    refine lv_icmp_ne (tgt := 34) hx hb dX7_next_18 (by decide) (fun hc5 => ?_) (fun hc5 => ?_)
    · have hf := (if_neg hc5).symm.trans hf
      exact hexit1 s1 (Option.some.inj hf).symm H locs ls hP hS (lv_sub hl [0] rfl)
    · have hf := (if_pos hc5).symm.trans hf
      refine lv_aload_n hx hb dX7_next_21 rfl (lv_at hl 0 rfl) ?_
      refine lv_dup hx hb dX7_next_22 rfl ?_
      refine va_get (D := g.1) (ci := 5) (v := .int s1) (C := RX7) (T := TX7) (N := 27) hx hb hts iwX7 hown hK hP 0 k_md rfl 11 (by decide) hw1 (fun _ h9 => h9) rfl dX7_next_23 ?_
      refine lv_iconst (v := (1 : Int32)) hx hb dX7_next_26 (by decide) ?_
      refine lv_iadd hx hb dX7_next_27 ?_
      refine va_put (D := g.1) (ci := 5) (v := .int (s1 + (1 : Int32))) (ty := .int) (C := RX7) (T := TX7) (N := 27) hx hb hts iwX7 tyX7 tyX7_ok nmX7 hown hK hP (mD hB.2.2.1 _) hS 0 k_md rfl 11 (by decide) hw1 (fun _ h9 => h9) rfl (tyX7_ok 11 (by decide)) rfl rfl (Nat.le_of_ble_eq_true rfl) dX7_next_28 (fun H locs hP _ hS => ?_)
      have hP : va_P g.1 vwCl (mw g (m_now, m_kept, m_aside, m_isKept, m_found, m_steps, m_queue, m_lives, m_treads, m_tape, m_taped, (s1 + (1 : Int32)), m_ends, m_sort, m_value, m_isWrong, m_items, m_itemMany, m_seedThen, m_groundThen, m_widths, m_sizes, m_numbers, m_moved)) H := w_eq (k_set_begins (s1 + (1 : Int32))) hP
      refine lv_goto (tgt := 8) hx hb dX7_next_31 (by decide) ?_
      exact hback1 _ (Option.some.inj hf).symm H locs ls hP hS (lv_sub hl [0] rfl)
set_option maxHeartbeats 4000000 in
set_option maxRecDepth 100000 in
theorem ct_X7_isWord (l : Launch) (n : Nat) (g : GM) (m_now : Nat → Int32) (m_kept : Nat → Int32) (m_aside : Nat → Int32) (m_isKept : Int32) (m_found : Nat → Int32) (m_steps : Nat → Int32) (m_queue : Nat → Int32) (m_lives : Nat → Int32) (m_treads : Nat → Int32) (m_tape : Nat → Int32) (m_taped : Int32) (m_begins : Int32) (m_ends : Int32) (m_sort : Int32) (m_value : Int32) (m_isWrong : Int32) (m_items : Nat → Int32) (m_itemMany : Int32) (m_seedThen : Int32) (m_groundThen : Nat → Int32) (m_widths : Nat → Int32) (m_sizes : Nat → Int32) (m_numbers : Nat → Int32) (m_moved : Nat → Int32) (i : Nat) (hi : i < 16) (res : Int32) (hf : fX7_isWord n i m_tape m_begins m_ends m_sort = some res) : Met l yX7_isWord wsX7_isWord ({ frames := 5, cells := 0, slots := 0, locals := 141 }) (va_Pc [.ref (gm g 0), .ref (mK g i)] (mI g (m_now, m_kept, m_aside, m_isKept, m_found, m_steps, m_queue, m_lives, m_treads, m_tape, m_taped, m_begins, m_ends, m_sort, m_value, m_isWrong, m_items, m_itemMany, m_seedThen, m_groundThen, m_widths, m_sizes, m_numbers, m_moved))) (qS (some (.int res)) (narrow .boolean (.int res) = .int res)) 0 0 (fun _ => False) := by
  refine Met.ofW (cc := cX7_isWord) (maxL := 4) (ret := (some .boolean)) (by decide) rfl ?_
  intro p e s m args below meth c s₁ B hml hv
  obtain ⟨rfl, hI⟩ := hv
  have hx := B.exec
  have hb := B.bytes
  have hr := B.returns
  have hts := atoms_spec (ws := wsX7_isWord) B.pre
  have hown : s.vm.findClass RX7 = some m.cls := findClass_of_methodNamed B.named
  have hlocks := B.notSynchronized
  have hP := hI.1
  have hB := hI.2
  have hK := hB.1
  have hNW := hB.2.1
  have hS : va_S (mA g) s.heap s.heap [] := va_S.rf
  have hw0 := hts (.fieldLink RX7 309 "SownPathsModel" "sort" "I") (by decide +kernel)
  have hw1 := hts (.fieldLink RX7 34 "SownPathsModel" "tape" "[I") (by decide +kernel)
  have hw2 := hts (.fieldLink RX7 300 "SownPathsModel" "begins" "I") (by decide +kernel)
  have hw3 := hts (.fieldLink RX7 297 "SownPathsModel" "ends" "I") (by decide +kernel)
  have iwX7 : ∀ w ∈ wsX70, w ∈ wsX7_isWord := fun w h => List.mem_cons_of_mem _ (List.mem_append_right _ h)
  have hl := lv_entry ([.ref (gm g 0), .ref (mK g i)]) (n := 4) (Nat.le_of_ble_eq_true rfl)
  rw [lg_entry_eq]
  generalize (lg_sl ([.ref (gm g 0), .ref (mK g i)]) ++ List.replicate (4 - (lg_sl ([.ref (gm g 0), .ref (mK g i)])).length) Slot.unset).toArray = ls at hl ⊢
  have hl : lv_has ls 4 [(0, .ref (gm g 0)), (1, .ref (mK g i))] := hl
  unfold fX7_isWord at hf
  refine lv_aload_n hx hb dX7_isWord_0 rfl (lv_at hl 0 rfl) ?_
  refine va_get (D := g.1) (ci := 5) (v := .int m_sort) (C := RX7) (T := TX7) (N := 27) hx hb hts iwX7 hown hK hP 0 k_md rfl 13 (by decide) hw0 (fun _ h9 => h9) rfl dX7_isWord_1 ?_
  refine lv_iconst (v := (1 : Int32)) hx hb dX7_isWord_4 (by decide) ?_
  refine lv_icmp_ne (tgt := 28) hx hb dX7_isWord_5 (by decide) (fun hc1 => ?_) (fun hc1 => ?_)
  · have hf := (if_neg hc1).symm.trans hf
    refine lv_iconst (v := (0 : Int32)) hx hb dX7_isWord_28 (by decide) ?_
    refine lv_istore_n (lv' := [(2, .int (0 : Int32)), (0, .ref (gm g 0)), (1, .ref (mK g i))]) hx hb dX7_isWord_29 rfl hl (by decide) rfl (fun ls hl => ?_)
    refine lv_iconst (v := (0 : Int32)) hx hb dX7_isWord_30 (by decide) ?_
    refine lv_istore_n (lv' := [(3, .int (0 : Int32)), (2, .int (0 : Int32)), (0, .ref (gm g 0)), (1, .ref (mK g i))]) hx hb dX7_isWord_31 rfl hl (by decide) rfl (fun ls hl => ?_)
    refine lp_run hf (fun s2 => ∀ (ls : Array Slot), lv_has ls 4 [(0, .ref (gm g 0)), (1, .ref (mK g i)), (2, .int s2.1), (3, .int s2.2)] → W p l e (headSpec wsX7_isWord ({ frames := 5, cells := 0, slots := 0, locals := 141 })).room s m ([.ref (gm g 0), .ref (mK g i)] : List Value).toArray below meth c s.heap [] 0 0 (MQ below (qS (some (.int res)) (narrow .boolean (.int res) = .int res)) ([.ref (gm g 0), .ref (mK g i)] : List Value).toArray s 0 0 (fun _ => False)) (F0 m 32 ls [])) (fun v3 => ∀ (ls : Array Slot), lv_has ls 4 [(2, .int v3.1)] → W p l e (headSpec wsX7_isWord ({ frames := 5, cells := 0, slots := 0, locals := 141 })).room s m ([.ref (gm g 0), .ref (mK g i)] : List Value).toArray below meth c s.heap [] 0 0 (MQ below (qS (some (.int res)) (narrow .boolean (.int res) = .int res)) ([.ref (gm g 0), .ref (mK g i)] : List Value).toArray s 0 0 (fun _ => False)) (F0 m 75 ls [])) ?_ ?_ _ (lv_sub hl [2, 3, 1, 0] rfl)
    · intro v3 hf ls hl
      refine lv_iload_n hx hb dX7_isWord_75 rfl (lv_at hl 0 rfl) ?_
      obtain ⟨hg10, hf⟩ := gd_some hf
      have hres : v3.1 = res := (Option.some.inj hf)
      have hnr : narrow .boolean (.int v3.1) = .int v3.1 := (nar01 hg10)
      exact W.zret (v := v3.1) hx hb hr hnr (fun t ht hW => ⟨congrArg (fun z => Outcome.returned (some (Value.int z))) hres, Eq.mp (congrArg (fun z => narrow .boolean (.int z) = .int z) hres) hnr, ht⟩) t_nil dX7_isWord_76
    · intro s2 r1 hf hback1 hexit1 ls hl
      refine lv_iload_n hx hb dX7_isWord_32 rfl (lv_at hl 3 rfl) ?_
      refine lv_aload_n hx hb dX7_isWord_33 rfl (lv_at hl 1 rfl) ?_
      obtain ⟨q4, hq4, hf⟩ := bd_some hf
      refine kr_S (st1 := [.int q4, .int s2.2]) (va_runV (As := []) (rest := [.int s2.2]) ⟨hx, hb, hml, hown, hts⟩ (ct_J0_length_8abf5 l n (mK g) (mV g) (mA g) i hi q4 hq4) (cwV 0 hts gX7_isWord_J0_length_8abf5 rfl rfl rfl hd_J0_length_8abf5 ⟨Nat.le_of_ble_eq_true rfl, Nat.le_of_ble_eq_true rfl⟩) ⟨bl_St, vk_recv hB.2.2.2.2.1 hi hS, pr_St rfl hB.2.2.2.2 hS⟩ rfl rfl hl.1 rfl (lv_room (Nat.le_of_ble_eq_true rfl)) dX7_isWord_34 ⟨Nat.le_refl _, Nat.le_refl _⟩) rfl (fun hn => ?_)
      refine lv_icmp_ge (tgt := 75) hx hb dX7_isWord_37 (by decide) (fun hc5 => ?_) (fun hc5 => ?_)
      · have hf := (if_pos hc5).symm.trans hf
        exact hexit1 (s2.1, s2.2) (Option.some.inj hf).symm ls (lv_sub hl [2] rfl)
      · have hf := (if_neg hc5).symm.trans hf
        refine lv_iload_n hx hb dX7_isWord_40 rfl (lv_at hl 2 rfl) ?_
        refine lv_if_eq (tgt := 75) hx hb dX7_isWord_41 (by decide) (fun hc6 => ?_) (fun hc6 => ?_)
        · have hf := (if_pos hc6).symm.trans hf
          exact hexit1 (s2.1, s2.2) (Option.some.inj hf).symm ls (lv_sub hl [2] rfl)
        · have hf := (if_neg hc6).symm.trans hf
          refine lv_aload_n hx hb dX7_isWord_44 rfl (lv_at hl 0 rfl) ?_
          refine va_get (D := g.1) (ci := 5) (v := .ref (gm g 9)) (C := RX7) (T := TX7) (N := 27) hx hb hts iwX7 hown hK hP 0 k_md rfl 9 (by decide) hw1 (fun _ h9 => h9) rfl dX7_isWord_45 ?_
          refine lv_aload_n hx hb dX7_isWord_48 rfl (lv_at hl 0 rfl) ?_
          refine va_get (D := g.1) (ci := 5) (v := .int m_begins) (C := RX7) (T := TX7) (N := 27) hx hb hts iwX7 hown hK hP 0 k_md rfl 11 (by decide) hw2 (fun _ h9 => h9) rfl dX7_isWord_49 ?_
          refine lv_iload_n hx hb dX7_isWord_52 rfl (lv_at hl 3 rfl) ?_
          refine lv_iadd hx hb dX7_isWord_53 ?_
          obtain ⟨hg7, hf⟩ := gd_some hf
          refine va_iald (f := m_tape) hx hb hK hP 9 0 k_tape rfl hg7 dX7_isWord_54 ?_
          refine lv_aload_n hx hb dX7_isWord_55 rfl (lv_at hl 1 rfl) ?_
          refine lv_iload_n hx hb dX7_isWord_56 rfl (lv_at hl 3 rfl) ?_
          obtain ⟨q8, hq8, hf⟩ := bd_some hf
          refine kr_S (st1 := [.int q8, .int (m_tape (m_begins + s2.2).toNatClampNeg)]) (va_runV (As := [.int s2.2]) (rest := [.int (m_tape (m_begins + s2.2).toNatClampNeg)]) ⟨hx, hb, hml, hown, hts⟩ (ct_J0_charAt_5068e l n (mK g) (mV g) (mA g) i hi s2.2 q8 hq8) (cwV 1 hts gX7_isWord_J0_charAt_5068e rfl rfl rfl hd_J0_charAt_5068e ⟨Nat.le_of_ble_eq_true rfl, Nat.le_of_ble_eq_true rfl⟩) ⟨bl_St, vk_recv hB.2.2.2.2.1 hi hS, pr_St rfl hB.2.2.2.2 hS⟩ rfl rfl hl.1 rfl (lv_room (Nat.le_of_ble_eq_true rfl)) dX7_isWord_57 ⟨Nat.le_refl _, Nat.le_refl _⟩) rfl (fun hn => ?_)
          refine lv_icmp_ne (tgt := 67) hx hb dX7_isWord_60 (by decide) (fun hc9 => ?_) (fun hc9 => ?_)
          · have hf := (if_neg hc9).symm.trans hf
            refine lv_iconst (v := (0 : Int32)) hx hb dX7_isWord_67 (by decide) ?_
            refine lv_istore_n (lv' := [(2, .int (0 : Int32)), (0, .ref (gm g 0)), (1, .ref (mK g i)), (3, .int s2.2)]) hx hb dX7_isWord_68 rfl hl (by decide) rfl (fun ls hl => ?_)
            refine lv_iinc (v := (s2.2 + (1 : Int32))) (lv' := [(3, .int (s2.2 + (1 : Int32))), (2, .int (0 : Int32)), (0, .ref (gm g 0)), (1, .ref (mK g i))]) hx hb dX7_isWord_69 hl (k := 3) rfl (congrArg (fun y => s2.2 + y) (by decide : Int32.ofInt (1) = (1 : Int32))) (by decide) rfl (fun ls hl => ?_)
            refine lv_goto (tgt := 32) hx hb dX7_isWord_72 (by decide) ?_
            exact hback1 _ (Option.some.inj hf).symm ls (lv_sub hl [2, 3, 1, 0] rfl)
          · have hf := (if_pos hc9).symm.trans hf
            refine lv_iconst (v := (1 : Int32)) hx hb dX7_isWord_63 (by decide) ?_
            refine lv_goto (tgt := 68) hx hb dX7_isWord_64 (by decide) ?_
            refine lv_istore_n (lv' := [(2, .int (1 : Int32)), (0, .ref (gm g 0)), (1, .ref (mK g i)), (3, .int s2.2)]) hx hb dX7_isWord_68 rfl hl (by decide) rfl (fun ls hl => ?_)
            refine lv_iinc (v := (s2.2 + (1 : Int32))) (lv' := [(3, .int (s2.2 + (1 : Int32))), (2, .int (1 : Int32)), (0, .ref (gm g 0)), (1, .ref (mK g i))]) hx hb dX7_isWord_69 hl (k := 3) rfl (congrArg (fun y => s2.2 + y) (by decide : Int32.ofInt (1) = (1 : Int32))) (by decide) rfl (fun ls hl => ?_)
            refine lv_goto (tgt := 32) hx hb dX7_isWord_72 (by decide) ?_
            exact hback1 _ (Option.some.inj hf).symm ls (lv_sub hl [2, 3, 1, 0] rfl)
  · have hf := (if_pos hc1).symm.trans hf
    refine lv_aload_n hx hb dX7_isWord_8 rfl (lv_at hl 0 rfl) ?_
    refine va_get (D := g.1) (ci := 5) (v := .int m_ends) (C := RX7) (T := TX7) (N := 27) hx hb hts iwX7 hown hK hP 0 k_md rfl 12 (by decide) hw3 (fun _ h9 => h9) rfl dX7_isWord_9 ?_
    refine lv_aload_n hx hb dX7_isWord_12 rfl (lv_at hl 0 rfl) ?_
    refine va_get (D := g.1) (ci := 5) (v := .int m_begins) (C := RX7) (T := TX7) (N := 27) hx hb hts iwX7 hown hK hP 0 k_md rfl 11 (by decide) hw2 (fun _ h9 => h9) rfl dX7_isWord_13 ?_
    refine lv_isub hx hb dX7_isWord_16 ?_
    refine lv_aload_n hx hb dX7_isWord_17 rfl (lv_at hl 1 rfl) ?_
    obtain ⟨q11, hq11, hf⟩ := bd_some hf
    refine kr_S (st1 := [.int q11, .int (m_ends - m_begins)]) (va_runV (As := []) (rest := [.int (m_ends - m_begins)]) ⟨hx, hb, hml, hown, hts⟩ (ct_J0_length_8abf5 l n (mK g) (mV g) (mA g) i hi q11 hq11) (cwV 0 hts gX7_isWord_J0_length_8abf5 rfl rfl rfl hd_J0_length_8abf5 ⟨Nat.le_of_ble_eq_true rfl, Nat.le_of_ble_eq_true rfl⟩) ⟨bl_St, vk_recv hB.2.2.2.2.1 hi hS, pr_St rfl hB.2.2.2.2 hS⟩ rfl rfl hl.1 rfl (lv_room (Nat.le_of_ble_eq_true rfl)) dX7_isWord_18 ⟨Nat.le_refl _, Nat.le_refl _⟩) rfl (fun hn => ?_)
    refine lv_icmp_ne (tgt := 28) hx hb dX7_isWord_21 (by decide) (fun hc12 => ?_) (fun hc12 => ?_)
    · have hf := (if_neg hc12).symm.trans hf
      refine lv_iconst (v := (0 : Int32)) hx hb dX7_isWord_28 (by decide) ?_
      refine lv_istore_n (lv' := [(2, .int (0 : Int32)), (0, .ref (gm g 0)), (1, .ref (mK g i))]) hx hb dX7_isWord_29 rfl hl (by decide) rfl (fun ls hl => ?_)
      refine lv_iconst (v := (0 : Int32)) hx hb dX7_isWord_30 (by decide) ?_
      refine lv_istore_n (lv' := [(3, .int (0 : Int32)), (2, .int (0 : Int32)), (0, .ref (gm g 0)), (1, .ref (mK g i))]) hx hb dX7_isWord_31 rfl hl (by decide) rfl (fun ls hl => ?_)
      refine lp_run hf (fun s13 => ∀ (ls : Array Slot), lv_has ls 4 [(0, .ref (gm g 0)), (1, .ref (mK g i)), (2, .int s13.1), (3, .int s13.2)] → W p l e (headSpec wsX7_isWord ({ frames := 5, cells := 0, slots := 0, locals := 141 })).room s m ([.ref (gm g 0), .ref (mK g i)] : List Value).toArray below meth c s.heap [] 0 0 (MQ below (qS (some (.int res)) (narrow .boolean (.int res) = .int res)) ([.ref (gm g 0), .ref (mK g i)] : List Value).toArray s 0 0 (fun _ => False)) (F0 m 32 ls [])) (fun v14 => ∀ (ls : Array Slot), lv_has ls 4 [(2, .int v14.1)] → W p l e (headSpec wsX7_isWord ({ frames := 5, cells := 0, slots := 0, locals := 141 })).room s m ([.ref (gm g 0), .ref (mK g i)] : List Value).toArray below meth c s.heap [] 0 0 (MQ below (qS (some (.int res)) (narrow .boolean (.int res) = .int res)) ([.ref (gm g 0), .ref (mK g i)] : List Value).toArray s 0 0 (fun _ => False)) (F0 m 75 ls [])) ?_ ?_ _ (lv_sub hl [2, 3, 1, 0] rfl)
      · intro v14 hf ls hl
        refine lv_iload_n hx hb dX7_isWord_75 rfl (lv_at hl 0 rfl) ?_
        obtain ⟨hg21, hf⟩ := gd_some hf
        have hres : v14.1 = res := (Option.some.inj hf)
        have hnr : narrow .boolean (.int v14.1) = .int v14.1 := (nar01 hg21)
        exact W.zret (v := v14.1) hx hb hr hnr (fun t ht hW => ⟨congrArg (fun z => Outcome.returned (some (Value.int z))) hres, Eq.mp (congrArg (fun z => narrow .boolean (.int z) = .int z) hres) hnr, ht⟩) t_nil dX7_isWord_76
      · intro s13 r1 hf hback1 hexit1 ls hl
        refine lv_iload_n hx hb dX7_isWord_32 rfl (lv_at hl 3 rfl) ?_
        refine lv_aload_n hx hb dX7_isWord_33 rfl (lv_at hl 1 rfl) ?_
        obtain ⟨q15, hq15, hf⟩ := bd_some hf
        refine kr_S (st1 := [.int q15, .int s13.2]) (va_runV (As := []) (rest := [.int s13.2]) ⟨hx, hb, hml, hown, hts⟩ (ct_J0_length_8abf5 l n (mK g) (mV g) (mA g) i hi q15 hq15) (cwV 0 hts gX7_isWord_J0_length_8abf5 rfl rfl rfl hd_J0_length_8abf5 ⟨Nat.le_of_ble_eq_true rfl, Nat.le_of_ble_eq_true rfl⟩) ⟨bl_St, vk_recv hB.2.2.2.2.1 hi hS, pr_St rfl hB.2.2.2.2 hS⟩ rfl rfl hl.1 rfl (lv_room (Nat.le_of_ble_eq_true rfl)) dX7_isWord_34 ⟨Nat.le_refl _, Nat.le_refl _⟩) rfl (fun hn => ?_)
        refine lv_icmp_ge (tgt := 75) hx hb dX7_isWord_37 (by decide) (fun hc16 => ?_) (fun hc16 => ?_)
        · have hf := (if_pos hc16).symm.trans hf
          exact hexit1 (s13.1, s13.2) (Option.some.inj hf).symm ls (lv_sub hl [2] rfl)
        · have hf := (if_neg hc16).symm.trans hf
          refine lv_iload_n hx hb dX7_isWord_40 rfl (lv_at hl 2 rfl) ?_
          refine lv_if_eq (tgt := 75) hx hb dX7_isWord_41 (by decide) (fun hc17 => ?_) (fun hc17 => ?_)
          · have hf := (if_pos hc17).symm.trans hf
            exact hexit1 (s13.1, s13.2) (Option.some.inj hf).symm ls (lv_sub hl [2] rfl)
          · have hf := (if_neg hc17).symm.trans hf
            refine lv_aload_n hx hb dX7_isWord_44 rfl (lv_at hl 0 rfl) ?_
            refine va_get (D := g.1) (ci := 5) (v := .ref (gm g 9)) (C := RX7) (T := TX7) (N := 27) hx hb hts iwX7 hown hK hP 0 k_md rfl 9 (by decide) hw1 (fun _ h9 => h9) rfl dX7_isWord_45 ?_
            refine lv_aload_n hx hb dX7_isWord_48 rfl (lv_at hl 0 rfl) ?_
            refine va_get (D := g.1) (ci := 5) (v := .int m_begins) (C := RX7) (T := TX7) (N := 27) hx hb hts iwX7 hown hK hP 0 k_md rfl 11 (by decide) hw2 (fun _ h9 => h9) rfl dX7_isWord_49 ?_
            refine lv_iload_n hx hb dX7_isWord_52 rfl (lv_at hl 3 rfl) ?_
            refine lv_iadd hx hb dX7_isWord_53 ?_
            obtain ⟨hg18, hf⟩ := gd_some hf
            refine va_iald (f := m_tape) hx hb hK hP 9 0 k_tape rfl hg18 dX7_isWord_54 ?_
            refine lv_aload_n hx hb dX7_isWord_55 rfl (lv_at hl 1 rfl) ?_
            refine lv_iload_n hx hb dX7_isWord_56 rfl (lv_at hl 3 rfl) ?_
            obtain ⟨q19, hq19, hf⟩ := bd_some hf
            refine kr_S (st1 := [.int q19, .int (m_tape (m_begins + s13.2).toNatClampNeg)]) (va_runV (As := [.int s13.2]) (rest := [.int (m_tape (m_begins + s13.2).toNatClampNeg)]) ⟨hx, hb, hml, hown, hts⟩ (ct_J0_charAt_5068e l n (mK g) (mV g) (mA g) i hi s13.2 q19 hq19) (cwV 1 hts gX7_isWord_J0_charAt_5068e rfl rfl rfl hd_J0_charAt_5068e ⟨Nat.le_of_ble_eq_true rfl, Nat.le_of_ble_eq_true rfl⟩) ⟨bl_St, vk_recv hB.2.2.2.2.1 hi hS, pr_St rfl hB.2.2.2.2 hS⟩ rfl rfl hl.1 rfl (lv_room (Nat.le_of_ble_eq_true rfl)) dX7_isWord_57 ⟨Nat.le_refl _, Nat.le_refl _⟩) rfl (fun hn => ?_)
            refine lv_icmp_ne (tgt := 67) hx hb dX7_isWord_60 (by decide) (fun hc20 => ?_) (fun hc20 => ?_)
            · have hf := (if_neg hc20).symm.trans hf
              refine lv_iconst (v := (0 : Int32)) hx hb dX7_isWord_67 (by decide) ?_
              refine lv_istore_n (lv' := [(2, .int (0 : Int32)), (0, .ref (gm g 0)), (1, .ref (mK g i)), (3, .int s13.2)]) hx hb dX7_isWord_68 rfl hl (by decide) rfl (fun ls hl => ?_)
              refine lv_iinc (v := (s13.2 + (1 : Int32))) (lv' := [(3, .int (s13.2 + (1 : Int32))), (2, .int (0 : Int32)), (0, .ref (gm g 0)), (1, .ref (mK g i))]) hx hb dX7_isWord_69 hl (k := 3) rfl (congrArg (fun y => s13.2 + y) (by decide : Int32.ofInt (1) = (1 : Int32))) (by decide) rfl (fun ls hl => ?_)
              refine lv_goto (tgt := 32) hx hb dX7_isWord_72 (by decide) ?_
              exact hback1 _ (Option.some.inj hf).symm ls (lv_sub hl [2, 3, 1, 0] rfl)
            · have hf := (if_pos hc20).symm.trans hf
              refine lv_iconst (v := (1 : Int32)) hx hb dX7_isWord_63 (by decide) ?_
              refine lv_goto (tgt := 68) hx hb dX7_isWord_64 (by decide) ?_
              refine lv_istore_n (lv' := [(2, .int (1 : Int32)), (0, .ref (gm g 0)), (1, .ref (mK g i)), (3, .int s13.2)]) hx hb dX7_isWord_68 rfl hl (by decide) rfl (fun ls hl => ?_)
              refine lv_iinc (v := (s13.2 + (1 : Int32))) (lv' := [(3, .int (s13.2 + (1 : Int32))), (2, .int (1 : Int32)), (0, .ref (gm g 0)), (1, .ref (mK g i))]) hx hb dX7_isWord_69 hl (k := 3) rfl (congrArg (fun y => s13.2 + y) (by decide : Int32.ofInt (1) = (1 : Int32))) (by decide) rfl (fun ls hl => ?_)
              refine lv_goto (tgt := 32) hx hb dX7_isWord_72 (by decide) ?_
              exact hback1 _ (Option.some.inj hf).symm ls (lv_sub hl [2, 3, 1, 0] rfl)
    · have hf := (if_pos hc12).symm.trans hf
      refine lv_iconst (v := (1 : Int32)) hx hb dX7_isWord_24 (by decide) ?_
      refine lv_goto (tgt := 29) hx hb dX7_isWord_25 (by decide) ?_
      refine lv_istore_n (lv' := [(2, .int (1 : Int32)), (0, .ref (gm g 0)), (1, .ref (mK g i))]) hx hb dX7_isWord_29 rfl hl (by decide) rfl (fun ls hl => ?_)
      refine lv_iconst (v := (0 : Int32)) hx hb dX7_isWord_30 (by decide) ?_
      refine lv_istore_n (lv' := [(3, .int (0 : Int32)), (2, .int (1 : Int32)), (0, .ref (gm g 0)), (1, .ref (mK g i))]) hx hb dX7_isWord_31 rfl hl (by decide) rfl (fun ls hl => ?_)
      refine lp_run hf (fun s22 => ∀ (ls : Array Slot), lv_has ls 4 [(0, .ref (gm g 0)), (1, .ref (mK g i)), (2, .int s22.1), (3, .int s22.2)] → W p l e (headSpec wsX7_isWord ({ frames := 5, cells := 0, slots := 0, locals := 141 })).room s m ([.ref (gm g 0), .ref (mK g i)] : List Value).toArray below meth c s.heap [] 0 0 (MQ below (qS (some (.int res)) (narrow .boolean (.int res) = .int res)) ([.ref (gm g 0), .ref (mK g i)] : List Value).toArray s 0 0 (fun _ => False)) (F0 m 32 ls [])) (fun v23 => ∀ (ls : Array Slot), lv_has ls 4 [(2, .int v23.1)] → W p l e (headSpec wsX7_isWord ({ frames := 5, cells := 0, slots := 0, locals := 141 })).room s m ([.ref (gm g 0), .ref (mK g i)] : List Value).toArray below meth c s.heap [] 0 0 (MQ below (qS (some (.int res)) (narrow .boolean (.int res) = .int res)) ([.ref (gm g 0), .ref (mK g i)] : List Value).toArray s 0 0 (fun _ => False)) (F0 m 75 ls [])) ?_ ?_ _ (lv_sub hl [2, 3, 1, 0] rfl)
      · intro v23 hf ls hl
        refine lv_iload_n hx hb dX7_isWord_75 rfl (lv_at hl 0 rfl) ?_
        obtain ⟨hg30, hf⟩ := gd_some hf
        have hres : v23.1 = res := (Option.some.inj hf)
        have hnr : narrow .boolean (.int v23.1) = .int v23.1 := (nar01 hg30)
        exact W.zret (v := v23.1) hx hb hr hnr (fun t ht hW => ⟨congrArg (fun z => Outcome.returned (some (Value.int z))) hres, Eq.mp (congrArg (fun z => narrow .boolean (.int z) = .int z) hres) hnr, ht⟩) t_nil dX7_isWord_76
      · intro s22 r1 hf hback1 hexit1 ls hl
        refine lv_iload_n hx hb dX7_isWord_32 rfl (lv_at hl 3 rfl) ?_
        refine lv_aload_n hx hb dX7_isWord_33 rfl (lv_at hl 1 rfl) ?_
        obtain ⟨q24, hq24, hf⟩ := bd_some hf
        refine kr_S (st1 := [.int q24, .int s22.2]) (va_runV (As := []) (rest := [.int s22.2]) ⟨hx, hb, hml, hown, hts⟩ (ct_J0_length_8abf5 l n (mK g) (mV g) (mA g) i hi q24 hq24) (cwV 0 hts gX7_isWord_J0_length_8abf5 rfl rfl rfl hd_J0_length_8abf5 ⟨Nat.le_of_ble_eq_true rfl, Nat.le_of_ble_eq_true rfl⟩) ⟨bl_St, vk_recv hB.2.2.2.2.1 hi hS, pr_St rfl hB.2.2.2.2 hS⟩ rfl rfl hl.1 rfl (lv_room (Nat.le_of_ble_eq_true rfl)) dX7_isWord_34 ⟨Nat.le_refl _, Nat.le_refl _⟩) rfl (fun hn => ?_)
        refine lv_icmp_ge (tgt := 75) hx hb dX7_isWord_37 (by decide) (fun hc25 => ?_) (fun hc25 => ?_)
        · have hf := (if_pos hc25).symm.trans hf
          exact hexit1 (s22.1, s22.2) (Option.some.inj hf).symm ls (lv_sub hl [2] rfl)
        · have hf := (if_neg hc25).symm.trans hf
          refine lv_iload_n hx hb dX7_isWord_40 rfl (lv_at hl 2 rfl) ?_
          refine lv_if_eq (tgt := 75) hx hb dX7_isWord_41 (by decide) (fun hc26 => ?_) (fun hc26 => ?_)
          · have hf := (if_pos hc26).symm.trans hf
            exact hexit1 (s22.1, s22.2) (Option.some.inj hf).symm ls (lv_sub hl [2] rfl)
          · have hf := (if_neg hc26).symm.trans hf
            refine lv_aload_n hx hb dX7_isWord_44 rfl (lv_at hl 0 rfl) ?_
            refine va_get (D := g.1) (ci := 5) (v := .ref (gm g 9)) (C := RX7) (T := TX7) (N := 27) hx hb hts iwX7 hown hK hP 0 k_md rfl 9 (by decide) hw1 (fun _ h9 => h9) rfl dX7_isWord_45 ?_
            refine lv_aload_n hx hb dX7_isWord_48 rfl (lv_at hl 0 rfl) ?_
            refine va_get (D := g.1) (ci := 5) (v := .int m_begins) (C := RX7) (T := TX7) (N := 27) hx hb hts iwX7 hown hK hP 0 k_md rfl 11 (by decide) hw2 (fun _ h9 => h9) rfl dX7_isWord_49 ?_
            refine lv_iload_n hx hb dX7_isWord_52 rfl (lv_at hl 3 rfl) ?_
            refine lv_iadd hx hb dX7_isWord_53 ?_
            obtain ⟨hg27, hf⟩ := gd_some hf
            refine va_iald (f := m_tape) hx hb hK hP 9 0 k_tape rfl hg27 dX7_isWord_54 ?_
            refine lv_aload_n hx hb dX7_isWord_55 rfl (lv_at hl 1 rfl) ?_
            refine lv_iload_n hx hb dX7_isWord_56 rfl (lv_at hl 3 rfl) ?_
            obtain ⟨q28, hq28, hf⟩ := bd_some hf
            refine kr_S (st1 := [.int q28, .int (m_tape (m_begins + s22.2).toNatClampNeg)]) (va_runV (As := [.int s22.2]) (rest := [.int (m_tape (m_begins + s22.2).toNatClampNeg)]) ⟨hx, hb, hml, hown, hts⟩ (ct_J0_charAt_5068e l n (mK g) (mV g) (mA g) i hi s22.2 q28 hq28) (cwV 1 hts gX7_isWord_J0_charAt_5068e rfl rfl rfl hd_J0_charAt_5068e ⟨Nat.le_of_ble_eq_true rfl, Nat.le_of_ble_eq_true rfl⟩) ⟨bl_St, vk_recv hB.2.2.2.2.1 hi hS, pr_St rfl hB.2.2.2.2 hS⟩ rfl rfl hl.1 rfl (lv_room (Nat.le_of_ble_eq_true rfl)) dX7_isWord_57 ⟨Nat.le_refl _, Nat.le_refl _⟩) rfl (fun hn => ?_)
            refine lv_icmp_ne (tgt := 67) hx hb dX7_isWord_60 (by decide) (fun hc29 => ?_) (fun hc29 => ?_)
            · have hf := (if_neg hc29).symm.trans hf
              refine lv_iconst (v := (0 : Int32)) hx hb dX7_isWord_67 (by decide) ?_
              refine lv_istore_n (lv' := [(2, .int (0 : Int32)), (0, .ref (gm g 0)), (1, .ref (mK g i)), (3, .int s22.2)]) hx hb dX7_isWord_68 rfl hl (by decide) rfl (fun ls hl => ?_)
              refine lv_iinc (v := (s22.2 + (1 : Int32))) (lv' := [(3, .int (s22.2 + (1 : Int32))), (2, .int (0 : Int32)), (0, .ref (gm g 0)), (1, .ref (mK g i))]) hx hb dX7_isWord_69 hl (k := 3) rfl (congrArg (fun y => s22.2 + y) (by decide : Int32.ofInt (1) = (1 : Int32))) (by decide) rfl (fun ls hl => ?_)
              refine lv_goto (tgt := 32) hx hb dX7_isWord_72 (by decide) ?_
              exact hback1 _ (Option.some.inj hf).symm ls (lv_sub hl [2, 3, 1, 0] rfl)
            · have hf := (if_pos hc29).symm.trans hf
              refine lv_iconst (v := (1 : Int32)) hx hb dX7_isWord_63 (by decide) ?_
              refine lv_goto (tgt := 68) hx hb dX7_isWord_64 (by decide) ?_
              refine lv_istore_n (lv' := [(2, .int (1 : Int32)), (0, .ref (gm g 0)), (1, .ref (mK g i)), (3, .int s22.2)]) hx hb dX7_isWord_68 rfl hl (by decide) rfl (fun ls hl => ?_)
              refine lv_iinc (v := (s22.2 + (1 : Int32))) (lv' := [(3, .int (s22.2 + (1 : Int32))), (2, .int (1 : Int32)), (0, .ref (gm g 0)), (1, .ref (mK g i))]) hx hb dX7_isWord_69 hl (k := 3) rfl (congrArg (fun y => s22.2 + y) (by decide : Int32.ofInt (1) = (1 : Int32))) (by decide) rfl (fun ls hl => ?_)
              refine lv_goto (tgt := 32) hx hb dX7_isWord_72 (by decide) ?_
              exact hback1 _ (Option.some.inj hf).symm ls (lv_sub hl [2, 3, 1, 0] rfl)
