/-! CONTRACTS, by program -/
set_option maxHeartbeats 4000000 in
set_option maxRecDepth 100000 in
theorem ct_X7_bare (l : Launch) (n : Nat) (g : GM) (m_now : Nat → Int32) (m_kept : Nat → Int32) (m_aside : Nat → Int32) (m_isKept : Int32) (m_found : Nat → Int32) (m_steps : Nat → Int32) (m_queue : Nat → Int32) (m_lives : Nat → Int32) (m_treads : Nat → Int32) (m_tape : Nat → Int32) (m_taped : Int32) (m_begins : Int32) (m_ends : Int32) (m_sort : Int32) (m_value : Int32) (m_isWrong : Int32) (m_items : Nat → Int32) (m_itemMany : Int32) (m_seedThen : Int32) (m_groundThen : Nat → Int32) (m_widths : Nat → Int32) (m_sizes : Nat → Int32) (m_numbers : Nat → Int32) (m_moved : Nat → Int32) (res : Int32 × (Nat → Int32) × (Nat → Int32) × (Nat → Int32)) (hf : fX7_bare n m_now m_aside m_found m_lives m_treads = some res) : Met l yX7_bare wsX7_bare ({ frames := 8, cells := 0, slots := 0, locals := 182 }) (va_Pc [.ref (gm g 0)] (mI g (m_now, m_kept, m_aside, m_isKept, m_found, m_steps, m_queue, m_lives, m_treads, m_tape, m_taped, m_begins, m_ends, m_sort, m_value, m_isWrong, m_items, m_itemMany, m_seedThen, m_groundThen, m_widths, m_sizes, m_numbers, m_moved))) (qW (some (.int res.1)) True g.1 (mw g (res.2.1, m_kept, res.2.2.1, m_isKept, res.2.2.2, m_steps, m_queue, m_lives, m_treads, m_tape, m_taped, m_begins, m_ends, m_sort, m_value, m_isWrong, m_items, m_itemMany, m_seedThen, m_groundThen, m_widths, m_sizes, m_numbers, m_moved)) (mA g)) 0 0 (mA g) := by
  refine Met.ofW (cc := cX7_bare) (maxL := 2) (ret := (some .int)) (by decide) rfl ?_
  intro p e s m args below meth c s₁ B hml hv
  obtain ⟨rfl, hI⟩ := hv
  have hx := B.exec
  have hb := B.bytes
  have hr := B.returns
  have hts := atoms_spec (ws := wsX7_bare) B.pre
  have hown : s.vm.findClass RX7 = some m.cls := findClass_of_methodNamed B.named
  have hlocks := B.notSynchronized
  have hP := hI.1
  have hB := hI.2
  have hK := hB.1
  have hNW := hB.2.1
  have hS : va_S (mA g) s.heap s.heap [] := va_S.rf
  have hw0 := hts (.fieldLink RX7 9 "SownPathsModel" "now" "[I") (by decide +kernel)
  have hw1 := hts (.fieldLink RX7 16 "SownPathsModel" "aside" "[I") (by decide +kernel)
  have iwX7 : ∀ w ∈ wsX70, w ∈ wsX7_bare := fun w h => List.mem_cons_of_mem _ (List.mem_append_right _ h)
  have hl := lv_entry ([.ref (gm g 0)]) (n := 2) (Nat.le_of_ble_eq_true rfl)
  rw [lg_entry_eq]
  generalize (lg_sl ([.ref (gm g 0)]) ++ List.replicate (2 - (lg_sl ([.ref (gm g 0)])).length) Slot.unset).toArray = ls at hl ⊢
  have hl : lv_has ls 2 [(0, .ref (gm g 0))] := hl
  unfold fX7_bare at hf
  refine lv_aload_n hx hb dX7_bare_0 rfl (lv_at hl 0 rfl) ?_
  refine va_get (D := g.1) (ci := 5) (v := .ref (gm g 1)) (C := RX7) (T := TX7) (N := 27) hx hb hts iwX7 hown hK hP 0 k_md rfl 0 (by decide) hw0 (fun _ h9 => h9) rfl dX7_bare_1 ?_
  refine lv_aload_n hx hb dX7_bare_4 rfl (lv_at hl 0 rfl) ?_
  refine va_get (D := g.1) (ci := 5) (v := .ref (gm g 3)) (C := RX7) (T := TX7) (N := 27) hx hb hts iwX7 hown hK hP 0 k_md rfl 2 (by decide) hw1 (fun _ h9 => h9) rfl dX7_bare_5 ?_
  obtain ⟨q1, hq1, hf⟩ := bd_some hf
  refine kr_W (st1 := []) (va_runS (As := [.ref (gm g 1), .ref (gm g 3)]) (rest := []) ⟨hx, hb, hml, hown, hts⟩ (ct_X7_copyRow l n g (m_now, m_kept, m_aside, m_isKept, m_found, m_steps, m_queue, m_lives, m_treads, m_tape, m_taped, m_begins, m_ends, m_sort, m_value, m_isWrong, m_items, m_itemMany, m_seedThen, m_groundThen, m_widths, m_sizes, m_numbers, m_moved) 3 117 m_aside k_aside 1 117 m_now k_now (by decide) q1 hq1) (va_cwS 2 hts gX7_bare_X7_copyRow rfl rfl rfl hn_X7_copyRow ⟨Nat.le_of_ble_eq_true rfl, Nat.le_of_ble_eq_true rfl⟩) ⟨bl_M, pr_M rfl hB hP hS⟩ rfl rfl hl.1 rfl (lv_room (Nat.le_of_ble_eq_true rfl)) dX7_bare_8 ⟨Nat.le_refl _, Nat.le_refl _⟩) hS rfl (fun hn2 H locs hP hS => ?_)
  have hP : va_P g.1 vwCl (mw g (m_now, m_kept, q1, m_isKept, m_found, m_steps, m_queue, m_lives, m_treads, m_tape, m_taped, m_begins, m_ends, m_sort, m_value, m_isWrong, m_items, m_itemMany, m_seedThen, m_groundThen, m_widths, m_sizes, m_numbers, m_moved)) H := w_eq (k_set_aside q1) hP
  refine lv_iconst (v := (0 : Int32)) hx hb dX7_bare_11 (by decide) ?_
  refine lv_istore_n (lv' := [(1, .int (0 : Int32)), (0, .ref (gm g 0))]) hx hb dX7_bare_12 rfl hl (by decide) rfl (fun ls hl => ?_)
  refine lp_run hf (fun s3 => ∀ (H : Heap) (locs : List Loc) (ls : Array Slot), va_P g.1 vwCl (mw g (s3.2, m_kept, q1, m_isKept, m_found, m_steps, m_queue, m_lives, m_treads, m_tape, m_taped, m_begins, m_ends, m_sort, m_value, m_isWrong, m_items, m_itemMany, m_seedThen, m_groundThen, m_widths, m_sizes, m_numbers, m_moved)) H → va_S (mA g) s.heap H locs → lv_has ls 2 [(0, .ref (gm g 0)), (1, .int s3.1)] → W p l e (headSpec wsX7_bare ({ frames := 8, cells := 0, slots := 0, locals := 182 })).room s m ([.ref (gm g 0)] : List Value).toArray below meth c H locs 0 0 (MQ below (qW (some (.int res.1)) True g.1 (mw g (res.2.1, m_kept, res.2.2.1, m_isKept, res.2.2.2, m_steps, m_queue, m_lives, m_treads, m_tape, m_taped, m_begins, m_ends, m_sort, m_value, m_isWrong, m_items, m_itemMany, m_seedThen, m_groundThen, m_widths, m_sizes, m_numbers, m_moved)) (mA g)) ([.ref (gm g 0)] : List Value).toArray s 0 0 (mA g)) (F0 m 13 ls [])) (fun v4 => ∀ (H : Heap) (locs : List Loc) (ls : Array Slot), va_P g.1 vwCl (mw g (v4.2, m_kept, q1, m_isKept, m_found, m_steps, m_queue, m_lives, m_treads, m_tape, m_taped, m_begins, m_ends, m_sort, m_value, m_isWrong, m_items, m_itemMany, m_seedThen, m_groundThen, m_widths, m_sizes, m_numbers, m_moved)) H → va_S (mA g) s.heap H locs → lv_has ls 2 [(0, .ref (gm g 0)), (1, .int v4.1)] → W p l e (headSpec wsX7_bare ({ frames := 8, cells := 0, slots := 0, locals := 182 })).room s m ([.ref (gm g 0)] : List Value).toArray below meth c H locs 0 0 (MQ below (qW (some (.int res.1)) True g.1 (mw g (res.2.1, m_kept, res.2.2.1, m_isKept, res.2.2.2, m_steps, m_queue, m_lives, m_treads, m_tape, m_taped, m_begins, m_ends, m_sort, m_value, m_isWrong, m_items, m_itemMany, m_seedThen, m_groundThen, m_widths, m_sizes, m_numbers, m_moved)) (mA g)) ([.ref (gm g 0)] : List Value).toArray s 0 0 (mA g)) (F0 m 36 ls [])) ?_ ?_ _ _ _ hP hS (lv_sub hl [1, 0] rfl)
  · intro v4 hf H locs ls hP hS hl
    refine lv_aload_n hx hb dX7_bare_36 rfl (lv_at hl 0 rfl) ?_
    refine lv_aload_n hx hb dX7_bare_37 rfl (lv_at hl 0 rfl) ?_
    refine lv_aload_n hx hb dX7_bare_38 rfl (lv_at hl 0 rfl) ?_
    obtain ⟨q11, hq11, hf⟩ := bd_some hf
    refine kr_S (st1 := [.int q11, .ref (gm g 0), .ref (gm g 0)]) (va_runV (As := []) (rest := [.ref (gm g 0), .ref (gm g 0)]) ⟨hx, hb, hml, hown, hts⟩ (ct_X7_pathsNow l n g v4.2 m_kept q1 m_isKept m_found m_steps m_queue m_lives m_treads m_tape m_taped m_begins m_ends m_sort m_value m_isWrong m_items m_itemMany m_seedThen m_groundThen m_widths m_sizes m_numbers m_moved q11 hq11) (cwV 0 hts gX7_bare_X7_pathsNow rfl rfl rfl hd_X7_pathsNow ⟨Nat.le_of_ble_eq_true rfl, Nat.le_of_ble_eq_true rfl⟩) ⟨bl_M, va_recv hK hP (ci := 5) (q0 := 0) rfl k_md, pr_M rfl hB hP hS⟩ rfl rfl hl.1 rfl (lv_room (Nat.le_of_ble_eq_true rfl)) dX7_bare_39 ⟨Nat.le_refl _, Nat.le_refl _⟩) rfl (fun hn12 => ?_)
    refine lv_if_ne (tgt := 49) hx hb dX7_bare_42 (by decide) (fun hc13 => ?_) (fun hc13 => ?_)
    · have hf := (if_neg hc13).symm.trans hf
      refine lv_iconst (v := (-1 : Int32)) hx hb dX7_bare_49 (by decide) ?_
      obtain ⟨q14, hq14, hf⟩ := bd_some hf
      refine kr_W (st1 := [.int q14.1, .ref (gm g 0)]) (va_runV (As := [.int (-1 : Int32)]) (rest := [.ref (gm g 0)]) ⟨hx, hb, hml, hown, hts⟩ (ct_X7_putBack l n g v4.2 m_kept q1 m_isKept m_found m_steps m_queue m_lives m_treads m_tape m_taped m_begins m_ends m_sort m_value m_isWrong m_items m_itemMany m_seedThen m_groundThen m_widths m_sizes m_numbers m_moved (-1 : Int32) q14 hq14) (cwV 1 hts gX7_bare_X7_putBack rfl rfl rfl hd_X7_putBack ⟨Nat.le_of_ble_eq_true rfl, Nat.le_of_ble_eq_true rfl⟩) ⟨bl_M, va_recv hK hP (ci := 5) (q0 := 0) rfl k_md, pr_M rfl hB hP hS⟩ rfl rfl hl.1 rfl (lv_room (Nat.le_of_ble_eq_true rfl)) dX7_bare_50 ⟨Nat.le_refl _, Nat.le_refl _⟩) hS rfl (fun hn15 H locs hP hS => ?_)
      have hP : va_P g.1 vwCl (mw g (q14.2, m_kept, q1, m_isKept, m_found, m_steps, m_queue, m_lives, m_treads, m_tape, m_taped, m_begins, m_ends, m_sort, m_value, m_isWrong, m_items, m_itemMany, m_seedThen, m_groundThen, m_widths, m_sizes, m_numbers, m_moved)) H := hP
      obtain ⟨q16, hq16, hf⟩ := bd_some hf
      refine kr_W (st1 := [.int q16.1]) (va_runV (As := [.int q14.1]) (rest := []) ⟨hx, hb, hml, hown, hts⟩ (ct_X7_orNone l n g q14.2 m_kept q1 m_isKept m_found m_steps m_queue m_lives m_treads m_tape m_taped m_begins m_ends m_sort m_value m_isWrong m_items m_itemMany m_seedThen m_groundThen m_widths m_sizes m_numbers m_moved q14.1 q16 hq16) (cwV 1 hts gX7_bare_X7_orNone rfl rfl rfl hd_X7_orNone ⟨Nat.le_of_ble_eq_true rfl, Nat.le_of_ble_eq_true rfl⟩) ⟨bl_M, va_recv hK hP (ci := 5) (q0 := 0) rfl k_md, pr_M rfl hB hP hS⟩ rfl rfl hl.1 rfl (lv_room (Nat.le_of_ble_eq_true rfl)) dX7_bare_53 ⟨Nat.le_refl _, Nat.le_refl _⟩) hS rfl (fun hn17 H locs hP hS => ?_)
      have hP : va_P g.1 vwCl (mw g (q14.2, m_kept, q1, m_isKept, q16.2, m_steps, m_queue, m_lives, m_treads, m_tape, m_taped, m_begins, m_ends, m_sort, m_value, m_isWrong, m_items, m_itemMany, m_seedThen, m_groundThen, m_widths, m_sizes, m_numbers, m_moved)) H := hP
      have hres : (q16.1, q14.2, q1, q16.2) = res := (Option.some.inj hf)
      have hP := w_eq (congrArg (fun z => mw g (z.2.1, m_kept, z.2.2.1, m_isKept, z.2.2.2, m_steps, m_queue, m_lives, m_treads, m_tape, m_taped, m_begins, m_ends, m_sort, m_value, m_isWrong, m_items, m_itemMany, m_seedThen, m_groundThen, m_widths, m_sizes, m_numbers, m_moved)) hres) hP
      exact W.iret (v := q16.1) hx hb hr (fun t ht hW => ⟨congrArg (fun z => Outcome.returned (some (Value.int z.1))) hres, trivial, by rw [ht]; exact hP, hS.F ht⟩) hS.2.2 dX7_bare_56
    · have hf := (if_pos hc13).symm.trans hf
      refine lv_iload_n hx hb dX7_bare_45 rfl (lv_at hl 1 rfl) ?_
      refine lv_goto (tgt := 50) hx hb dX7_bare_46 (by decide) ?_
      obtain ⟨q18, hq18, hf⟩ := bd_some hf
      refine kr_W (st1 := [.int q18.1, .ref (gm g 0)]) (va_runV (As := [.int v4.1]) (rest := [.ref (gm g 0)]) ⟨hx, hb, hml, hown, hts⟩ (ct_X7_putBack l n g v4.2 m_kept q1 m_isKept m_found m_steps m_queue m_lives m_treads m_tape m_taped m_begins m_ends m_sort m_value m_isWrong m_items m_itemMany m_seedThen m_groundThen m_widths m_sizes m_numbers m_moved v4.1 q18 hq18) (cwV 1 hts gX7_bare_X7_putBack rfl rfl rfl hd_X7_putBack ⟨Nat.le_of_ble_eq_true rfl, Nat.le_of_ble_eq_true rfl⟩) ⟨bl_M, va_recv hK hP (ci := 5) (q0 := 0) rfl k_md, pr_M rfl hB hP hS⟩ rfl rfl hl.1 rfl (lv_room (Nat.le_of_ble_eq_true rfl)) dX7_bare_50 ⟨Nat.le_refl _, Nat.le_refl _⟩) hS rfl (fun hn19 H locs hP hS => ?_)
      have hP : va_P g.1 vwCl (mw g (q18.2, m_kept, q1, m_isKept, m_found, m_steps, m_queue, m_lives, m_treads, m_tape, m_taped, m_begins, m_ends, m_sort, m_value, m_isWrong, m_items, m_itemMany, m_seedThen, m_groundThen, m_widths, m_sizes, m_numbers, m_moved)) H := hP
      obtain ⟨q20, hq20, hf⟩ := bd_some hf
      refine kr_W (st1 := [.int q20.1]) (va_runV (As := [.int q18.1]) (rest := []) ⟨hx, hb, hml, hown, hts⟩ (ct_X7_orNone l n g q18.2 m_kept q1 m_isKept m_found m_steps m_queue m_lives m_treads m_tape m_taped m_begins m_ends m_sort m_value m_isWrong m_items m_itemMany m_seedThen m_groundThen m_widths m_sizes m_numbers m_moved q18.1 q20 hq20) (cwV 1 hts gX7_bare_X7_orNone rfl rfl rfl hd_X7_orNone ⟨Nat.le_of_ble_eq_true rfl, Nat.le_of_ble_eq_true rfl⟩) ⟨bl_M, va_recv hK hP (ci := 5) (q0 := 0) rfl k_md, pr_M rfl hB hP hS⟩ rfl rfl hl.1 rfl (lv_room (Nat.le_of_ble_eq_true rfl)) dX7_bare_53 ⟨Nat.le_refl _, Nat.le_refl _⟩) hS rfl (fun hn21 H locs hP hS => ?_)
      have hP : va_P g.1 vwCl (mw g (q18.2, m_kept, q1, m_isKept, q20.2, m_steps, m_queue, m_lives, m_treads, m_tape, m_taped, m_begins, m_ends, m_sort, m_value, m_isWrong, m_items, m_itemMany, m_seedThen, m_groundThen, m_widths, m_sizes, m_numbers, m_moved)) H := hP
      have hres : (q20.1, q18.2, q1, q20.2) = res := (Option.some.inj hf)
      have hP := w_eq (congrArg (fun z => mw g (z.2.1, m_kept, z.2.2.1, m_isKept, z.2.2.2, m_steps, m_queue, m_lives, m_treads, m_tape, m_taped, m_begins, m_ends, m_sort, m_value, m_isWrong, m_items, m_itemMany, m_seedThen, m_groundThen, m_widths, m_sizes, m_numbers, m_moved)) hres) hP
      exact W.iret (v := q20.1) hx hb hr (fun t ht hW => ⟨congrArg (fun z => Outcome.returned (some (Value.int z.1))) hres, trivial, by rw [ht]; exact hP, hS.F ht⟩) hS.2.2 dX7_bare_56
  · intro s3 r1 hf hback1 hexit1 H locs ls hP hS hl
    refine lv_iload_n hx hb dX7_bare_13 rfl (lv_at hl 1 rfl) ?_
    refine lv_bipush (v := (60 : Int32)) hx hb dX7_bare_14 (by decide) ?_
    refine lv_icmp_ge (tgt := 36) hx hb dX7_bare_16 (by decide) (fun hc5 => ?_) (fun hc5 => ?_)
    · have hf := (if_pos hc5).symm.trans hf
      exact hexit1 (s3.1, s3.2) (Option.some.inj hf).symm H locs ls hP hS (lv_sub hl [0, 1] rfl)
    · have hf := (if_neg hc5).symm.trans hf
      refine lv_aload_n hx hb dX7_bare_19 rfl (lv_at hl 0 rfl) ?_
      obtain ⟨q6, hq6, hf⟩ := bd_some hf
      refine kr_S (st1 := [.int q6]) (va_runV (As := []) (rest := []) ⟨hx, hb, hml, hown, hts⟩ (ct_X7_pathsNow l n g s3.2 m_kept q1 m_isKept m_found m_steps m_queue m_lives m_treads m_tape m_taped m_begins m_ends m_sort m_value m_isWrong m_items m_itemMany m_seedThen m_groundThen m_widths m_sizes m_numbers m_moved q6 hq6) (cwV 0 hts gX7_bare_X7_pathsNow rfl rfl rfl hd_X7_pathsNow ⟨Nat.le_of_ble_eq_true rfl, Nat.le_of_ble_eq_true rfl⟩) ⟨bl_M, va_recv hK hP (ci := 5) (q0 := 0) rfl k_md, pr_M rfl hB hP hS⟩ rfl rfl hl.1 rfl (lv_room (Nat.le_of_ble_eq_true rfl)) dX7_bare_20 ⟨Nat.le_refl _, Nat.le_refl _⟩) rfl (fun hn7 => ?_)
      refine lv_if_le (tgt := 36) hx hb dX7_bare_23 (by decide) (fun hc8 => ?_) (fun hc8 => ?_)
      · have hf := (if_pos hc8).symm.trans hf
        exact hexit1 (s3.1, s3.2) (Option.some.inj hf).symm H locs ls hP hS (lv_sub hl [0, 1] rfl)
      · have hf := (if_neg hc8).symm.trans hf
        refine lv_aload_n hx hb dX7_bare_26 rfl (lv_at hl 0 rfl) ?_
        obtain ⟨q9, hq9, hf⟩ := bd_some hf
        refine kr_W (st1 := []) (va_runV (As := []) (rest := []) ⟨hx, hb, hml, hown, hts⟩ (ct_X7_season l n g s3.2 m_kept q1 m_isKept m_found m_steps m_queue m_lives m_treads m_tape m_taped m_begins m_ends m_sort m_value m_isWrong m_items m_itemMany m_seedThen m_groundThen m_widths m_sizes m_numbers m_moved q9 hq9) (cwV 0 hts gX7_bare_X7_season rfl rfl rfl hd_X7_season ⟨Nat.le_of_ble_eq_true rfl, Nat.le_of_ble_eq_true rfl⟩) ⟨bl_M, va_recv hK hP (ci := 5) (q0 := 0) rfl k_md, pr_M rfl hB hP hS⟩ rfl rfl hl.1 rfl (lv_room (Nat.le_of_ble_eq_true rfl)) dX7_bare_27 ⟨Nat.le_refl _, Nat.le_refl _⟩) hS rfl (fun hn10 H locs hP hS => ?_)
        have hP : va_P g.1 vwCl (mw g (q9, m_kept, q1, m_isKept, m_found, m_steps, m_queue, m_lives, m_treads, m_tape, m_taped, m_begins, m_ends, m_sort, m_value, m_isWrong, m_items, m_itemMany, m_seedThen, m_groundThen, m_widths, m_sizes, m_numbers, m_moved)) H := hP
        refine lv_iinc (v := (s3.1 + (1 : Int32))) (lv' := [(1, .int (s3.1 + (1 : Int32))), (0, .ref (gm g 0))]) hx hb dX7_bare_30 hl (k := 1) rfl (congrArg (fun y => s3.1 + y) (by decide : Int32.ofInt (1) = (1 : Int32))) (by decide) rfl (fun ls hl => ?_)
        refine lv_goto (tgt := 13) hx hb dX7_bare_33 (by decide) ?_
        exact hback1 _ (Option.some.inj hf).symm H locs ls hP hS (lv_sub hl [1, 0] rfl)
set_option maxHeartbeats 4000000 in
set_option maxRecDepth 100000 in
theorem ct_X7_there (l : Launch) (n : Nat) (g : GM) (m_now : Nat → Int32) (m_kept : Nat → Int32) (m_aside : Nat → Int32) (m_isKept : Int32) (m_found : Nat → Int32) (m_steps : Nat → Int32) (m_queue : Nat → Int32) (m_lives : Nat → Int32) (m_treads : Nat → Int32) (m_tape : Nat → Int32) (m_taped : Int32) (m_begins : Int32) (m_ends : Int32) (m_sort : Int32) (m_value : Int32) (m_isWrong : Int32) (m_items : Nat → Int32) (m_itemMany : Int32) (m_seedThen : Int32) (m_groundThen : Nat → Int32) (m_widths : Nat → Int32) (m_sizes : Nat → Int32) (m_numbers : Nat → Int32) (m_moved : Nat → Int32) (a1 : Int32) (res : Int64 × (Nat → Int32) × (Nat → Int32) × (Nat → Int32)) (hf : fX7_there n a1 m_now m_aside m_found m_lives m_treads = some res) : Met l yX7_there wsX7_there ({ frames := 9, cells := 0, slots := 0, locals := 204 }) (va_Pc [.ref (gm g 0), .int a1] (mI g (m_now, m_kept, m_aside, m_isKept, m_found, m_steps, m_queue, m_lives, m_treads, m_tape, m_taped, m_begins, m_ends, m_sort, m_value, m_isWrong, m_items, m_itemMany, m_seedThen, m_groundThen, m_widths, m_sizes, m_numbers, m_moved))) (qW (some (.long res.1)) True g.1 (mw g (res.2.1, m_kept, res.2.2.1, m_isKept, res.2.2.2, m_steps, m_queue, m_lives, m_treads, m_tape, m_taped, m_begins, m_ends, m_sort, m_value, m_isWrong, m_items, m_itemMany, m_seedThen, m_groundThen, m_widths, m_sizes, m_numbers, m_moved)) (mA g)) 0 0 (mA g) := by
  refine Met.ofW (cc := cX7_there) (maxL := 4) (ret := (some .long)) (by decide) rfl ?_
  intro p e s m args below meth c s₁ B hml hv
  obtain ⟨rfl, hI⟩ := hv
  have hx := B.exec
  have hb := B.bytes
  have hr := B.returns
  have hts := atoms_spec (ws := wsX7_there) B.pre
  have hown : s.vm.findClass RX7 = some m.cls := findClass_of_methodNamed B.named
  have hlocks := B.notSynchronized
  have hP := hI.1
  have hB := hI.2
  have hK := hB.1
  have hNW := hB.2.1
  have hS : va_S (mA g) s.heap s.heap [] := va_S.rf
  have hw0 := hts (.fieldLink RX7 9 "SownPathsModel" "now" "[I") (by decide +kernel)
  have hw1 := hts (.fieldLink RX7 16 "SownPathsModel" "aside" "[I") (by decide +kernel)
  have hw2 := hts (.constant RX7 95 (-1000001)) (by decide +kernel)
  have iwX7 : ∀ w ∈ wsX70, w ∈ wsX7_there := fun w h => List.mem_cons_of_mem _ (List.mem_append_right _ h)
  have hl := lv_entry ([.ref (gm g 0), .int a1]) (n := 4) (Nat.le_of_ble_eq_true rfl)
  rw [lg_entry_eq]
  generalize (lg_sl ([.ref (gm g 0), .int a1]) ++ List.replicate (4 - (lg_sl ([.ref (gm g 0), .int a1])).length) Slot.unset).toArray = ls at hl ⊢
  have hl : lv_has ls 4 [(0, .ref (gm g 0)), (1, .int a1)] := hl
  unfold fX7_there at hf
  refine lv_iload_n hx hb dX7_there_0 rfl (lv_at hl 1 rfl) ?_
  refine lv_iconst (v := (0 : Int32)) hx hb dX7_there_1 (by decide) ?_
  refine lv_bipush (v := (60 : Int32)) hx hb dX7_there_2 (by decide) ?_
  obtain ⟨q1, hq1, hf⟩ := bd_some hf
  refine kr_S (st1 := [.int q1]) (va_runS (As := [.int a1, .int (0 : Int32), .int (60 : Int32)]) (rest := []) ⟨hx, hb, hml, hown, hts⟩ (ct_X7_within l n a1 (0 : Int32) (60 : Int32) q1 hq1) (va_cwS 3 hts gX7_there_X7_within rfl rfl rfl hn_X7_within ⟨Nat.le_of_ble_eq_true rfl, Nat.le_of_ble_eq_true rfl⟩) ⟨bl_N, pr_N rfl hNW⟩ rfl rfl hl.1 rfl (lv_room (Nat.le_of_ble_eq_true rfl)) dX7_there_4 ⟨Nat.le_refl _, Nat.le_refl _⟩) rfl (fun hn2 => ?_)
  refine lv_if_ne (tgt := 18) hx hb dX7_there_7 (by decide) (fun hc3 => ?_) (fun hc3 => ?_)
  · have hf := (if_neg hc3).symm.trans hf
    refine lv_aload_n hx hb dX7_there_18 rfl (lv_at hl 0 rfl) ?_
    refine va_get (D := g.1) (ci := 5) (v := .ref (gm g 1)) (C := RX7) (T := TX7) (N := 27) hx hb hts iwX7 hown hK hP 0 k_md rfl 0 (by decide) hw0 (fun _ h9 => h9) rfl dX7_there_19 ?_
    refine lv_aload_n hx hb dX7_there_22 rfl (lv_at hl 0 rfl) ?_
    refine va_get (D := g.1) (ci := 5) (v := .ref (gm g 3)) (C := RX7) (T := TX7) (N := 27) hx hb hts iwX7 hown hK hP 0 k_md rfl 2 (by decide) hw1 (fun _ h9 => h9) rfl dX7_there_23 ?_
    obtain ⟨q4, hq4, hf⟩ := bd_some hf
    refine kr_W (st1 := []) (va_runS (As := [.ref (gm g 1), .ref (gm g 3)]) (rest := []) ⟨hx, hb, hml, hown, hts⟩ (ct_X7_copyRow l n g (m_now, m_kept, m_aside, m_isKept, m_found, m_steps, m_queue, m_lives, m_treads, m_tape, m_taped, m_begins, m_ends, m_sort, m_value, m_isWrong, m_items, m_itemMany, m_seedThen, m_groundThen, m_widths, m_sizes, m_numbers, m_moved) 3 117 m_aside k_aside 1 117 m_now k_now (by decide) q4 hq4) (va_cwS 2 hts gX7_there_X7_copyRow rfl rfl rfl hn_X7_copyRow ⟨Nat.le_of_ble_eq_true rfl, Nat.le_of_ble_eq_true rfl⟩) ⟨bl_M, pr_M rfl hB hP hS⟩ rfl rfl hl.1 rfl (lv_room (Nat.le_of_ble_eq_true rfl)) dX7_there_26 ⟨Nat.le_refl _, Nat.le_refl _⟩) hS rfl (fun hn5 H locs hP hS => ?_)
    have hP : va_P g.1 vwCl (mw g (m_now, m_kept, q4, m_isKept, m_found, m_steps, m_queue, m_lives, m_treads, m_tape, m_taped, m_begins, m_ends, m_sort, m_value, m_isWrong, m_items, m_itemMany, m_seedThen, m_groundThen, m_widths, m_sizes, m_numbers, m_moved)) H := w_eq (k_set_aside q4) hP
    refine lv_aload_n hx hb dX7_there_29 rfl (lv_at hl 0 rfl) ?_
    refine lv_iload_n hx hb dX7_there_30 rfl (lv_at hl 1 rfl) ?_
    obtain ⟨q6, hq6, hf⟩ := bd_some hf
    refine kr_W (st1 := []) (va_runV (As := [.int a1]) (rest := []) ⟨hx, hb, hml, hown, hts⟩ (ct_X7_seasons l n g m_now m_kept q4 m_isKept m_found m_steps m_queue m_lives m_treads m_tape m_taped m_begins m_ends m_sort m_value m_isWrong m_items m_itemMany m_seedThen m_groundThen m_widths m_sizes m_numbers m_moved a1 q6 hq6) (cwV 1 hts gX7_there_X7_seasons rfl rfl rfl hd_X7_seasons ⟨Nat.le_of_ble_eq_true rfl, Nat.le_of_ble_eq_true rfl⟩) ⟨bl_M, va_recv hK hP (ci := 5) (q0 := 0) rfl k_md, pr_M rfl hB hP hS⟩ rfl rfl hl.1 rfl (lv_room (Nat.le_of_ble_eq_true rfl)) dX7_there_31 ⟨Nat.le_refl _, Nat.le_refl _⟩) hS rfl (fun hn7 H locs hP hS => ?_)
    have hP : va_P g.1 vwCl (mw g (q6, m_kept, q4, m_isKept, m_found, m_steps, m_queue, m_lives, m_treads, m_tape, m_taped, m_begins, m_ends, m_sort, m_value, m_isWrong, m_items, m_itemMany, m_seedThen, m_groundThen, m_widths, m_sizes, m_numbers, m_moved)) H := hP
    refine lv_aload_n hx hb dX7_there_34 rfl (lv_at hl 0 rfl) ?_
    obtain ⟨q8, hq8, hf⟩ := bd_some hf
    refine kr_S (st1 := [.long q8]) (va_runV (As := []) (rest := []) ⟨hx, hb, hml, hown, hts⟩ (ct_X7_pathSet l n g q6 m_kept q4 m_isKept m_found m_steps m_queue m_lives m_treads m_tape m_taped m_begins m_ends m_sort m_value m_isWrong m_items m_itemMany m_seedThen m_groundThen m_widths m_sizes m_numbers m_moved q8 hq8) (cwV 0 hts gX7_there_X7_pathSet rfl rfl rfl hd_X7_pathSet ⟨Nat.le_of_ble_eq_true rfl, Nat.le_of_ble_eq_true rfl⟩) ⟨bl_M, va_recv hK hP (ci := 5) (q0 := 0) rfl k_md, pr_M rfl hB hP hS⟩ rfl rfl hl.1 rfl (lv_room (Nat.le_of_ble_eq_true rfl)) dX7_there_35 ⟨Nat.le_refl _, Nat.le_refl _⟩) rfl (fun hn9 => ?_)
    refine lv_lstore_n (lv' := [(2, .long q8), (0, .ref (gm g 0)), (1, .int a1)]) hx hb dX7_there_38 rfl hl (by decide) rfl (fun ls hl => ?_)
    refine lv_aload_n hx hb dX7_there_39 rfl (lv_at hl 1 rfl) ?_
    refine va_get (D := g.1) (ci := 5) (v := .ref (gm g 3)) (C := RX7) (T := TX7) (N := 27) hx hb hts iwX7 hown hK hP 0 k_md rfl 2 (by decide) hw1 (fun _ h9 => h9) rfl dX7_there_40 ?_
    refine lv_aload_n hx hb dX7_there_43 rfl (lv_at hl 1 rfl) ?_
    refine va_get (D := g.1) (ci := 5) (v := .ref (gm g 1)) (C := RX7) (T := TX7) (N := 27) hx hb hts iwX7 hown hK hP 0 k_md rfl 0 (by decide) hw0 (fun _ h9 => h9) rfl dX7_there_44 ?_
    obtain ⟨q10, hq10, hf⟩ := bd_some hf
    refine kr_W (st1 := []) (va_runS (As := [.ref (gm g 3), .ref (gm g 1)]) (rest := []) ⟨hx, hb, hml, hown, hts⟩ (ct_X7_copyRow l n g (q6, m_kept, q4, m_isKept, m_found, m_steps, m_queue, m_lives, m_treads, m_tape, m_taped, m_begins, m_ends, m_sort, m_value, m_isWrong, m_items, m_itemMany, m_seedThen, m_groundThen, m_widths, m_sizes, m_numbers, m_moved) 1 117 q6 k_now 3 117 q4 k_aside (by decide) q10 hq10) (va_cwS 2 hts gX7_there_X7_copyRow rfl rfl rfl hn_X7_copyRow ⟨Nat.le_of_ble_eq_true rfl, Nat.le_of_ble_eq_true rfl⟩) ⟨bl_M, pr_M rfl hB hP hS⟩ rfl rfl hl.1 rfl (lv_room (Nat.le_of_ble_eq_true rfl)) dX7_there_47 ⟨Nat.le_refl _, Nat.le_refl _⟩) hS rfl (fun hn11 H locs hP hS => ?_)
    have hP : va_P g.1 vwCl (mw g (q10, m_kept, q4, m_isKept, m_found, m_steps, m_queue, m_lives, m_treads, m_tape, m_taped, m_begins, m_ends, m_sort, m_value, m_isWrong, m_items, m_itemMany, m_seedThen, m_groundThen, m_widths, m_sizes, m_numbers, m_moved)) H := w_eq (k_set_now q10) hP
    refine lv_lload_n hx hb dX7_there_50 rfl (lv_at hl 0 rfl) ?_
    have hres : (q8, q10, q4, m_found) = res := (Option.some.inj hf)
    have hP := w_eq (congrArg (fun z => mw g (z.2.1, m_kept, z.2.2.1, m_isKept, z.2.2.2, m_steps, m_queue, m_lives, m_treads, m_tape, m_taped, m_begins, m_ends, m_sort, m_value, m_isWrong, m_items, m_itemMany, m_seedThen, m_groundThen, m_widths, m_sizes, m_numbers, m_moved)) hres) hP
    exact W.lret (v := q8) hx hb hr (fun t ht hW => ⟨congrArg (fun z => Outcome.returned (some (Value.long z.1))) hres, trivial, by rw [ht]; exact hP, hS.F ht⟩) hS.2.2 dX7_there_51
  · have hf := (if_pos hc3).symm.trans hf
    refine lv_aload_n hx hb dX7_there_10 rfl (lv_at hl 0 rfl) ?_
    refine lv_ldc (v := (-1000001 : Int32)) hx hb hown hw2 dX7_there_11 ?_
    obtain ⟨q12, hq12, hf⟩ := bd_some hf
    refine kr_W (st1 := [.int q12.1]) (va_runV (As := [.int (-1000001 : Int32)]) (rest := []) ⟨hx, hb, hml, hown, hts⟩ (ct_X7_finding l n g m_now m_kept m_aside m_isKept m_found m_steps m_queue m_lives m_treads m_tape m_taped m_begins m_ends m_sort m_value m_isWrong m_items m_itemMany m_seedThen m_groundThen m_widths m_sizes m_numbers m_moved (-1000001 : Int32) q12 hq12) (cwV 1 hts gX7_there_X7_finding rfl rfl rfl hd_X7_finding ⟨Nat.le_of_ble_eq_true rfl, Nat.le_of_ble_eq_true rfl⟩) ⟨bl_M, va_recv hK hP (ci := 5) (q0 := 0) rfl k_md, pr_M rfl hB hP hS⟩ rfl rfl hl.1 rfl (lv_room (Nat.le_of_ble_eq_true rfl)) dX7_there_13 ⟨Nat.le_refl _, Nat.le_refl _⟩) hS rfl (fun hn13 H locs hP hS => ?_)
    have hP : va_P g.1 vwCl (mw g (m_now, m_kept, m_aside, m_isKept, q12.2, m_steps, m_queue, m_lives, m_treads, m_tape, m_taped, m_begins, m_ends, m_sort, m_value, m_isWrong, m_items, m_itemMany, m_seedThen, m_groundThen, m_widths, m_sizes, m_numbers, m_moved)) H := hP
    refine lv_i2l (v := q12.1.toInt64) hx hb dX7_there_16 rfl ?_
    have hres : (q12.1.toInt64, m_now, m_aside, q12.2) = res := (Option.some.inj hf)
    have hP := w_eq (congrArg (fun z => mw g (z.2.1, m_kept, z.2.2.1, m_isKept, z.2.2.2, m_steps, m_queue, m_lives, m_treads, m_tape, m_taped, m_begins, m_ends, m_sort, m_value, m_isWrong, m_items, m_itemMany, m_seedThen, m_groundThen, m_widths, m_sizes, m_numbers, m_moved)) hres) hP
    exact W.lret (v := q12.1.toInt64) hx hb hr (fun t ht hW => ⟨congrArg (fun z => Outcome.returned (some (Value.long z.1))) hres, trivial, by rw [ht]; exact hP, hS.F ht⟩) hS.2.2 dX7_there_17
set_option maxHeartbeats 4000000 in
set_option maxRecDepth 100000 in
theorem ct_X7_pathsBehind (l : Launch) (n : Nat) (g : GM) (m_now : Nat → Int32) (m_kept : Nat → Int32) (m_aside : Nat → Int32) (m_isKept : Int32) (m_found : Nat → Int32) (m_steps : Nat → Int32) (m_queue : Nat → Int32) (m_lives : Nat → Int32) (m_treads : Nat → Int32) (m_tape : Nat → Int32) (m_taped : Int32) (m_begins : Int32) (m_ends : Int32) (m_sort : Int32) (m_value : Int32) (m_isWrong : Int32) (m_items : Nat → Int32) (m_itemMany : Int32) (m_seedThen : Int32) (m_groundThen : Nat → Int32) (m_widths : Nat → Int32) (m_sizes : Nat → Int32) (m_numbers : Nat → Int32) (m_moved : Nat → Int32) (a1 : Int32) (res : Int32 × (Nat → Int32) × (Nat → Int32)) (hf : fX7_pathsBehind n a1 m_now m_aside m_lives m_treads = some res) : Met l yX7_pathsBehind wsX7_pathsBehind ({ frames := 9, cells := 0, slots := 0, locals := 204 }) (va_Pc [.ref (gm g 0), .int a1] (mI g (m_now, m_kept, m_aside, m_isKept, m_found, m_steps, m_queue, m_lives, m_treads, m_tape, m_taped, m_begins, m_ends, m_sort, m_value, m_isWrong, m_items, m_itemMany, m_seedThen, m_groundThen, m_widths, m_sizes, m_numbers, m_moved))) (qW (some (.int res.1)) True g.1 (mw g (res.2.1, m_kept, res.2.2, m_isKept, m_found, m_steps, m_queue, m_lives, m_treads, m_tape, m_taped, m_begins, m_ends, m_sort, m_value, m_isWrong, m_items, m_itemMany, m_seedThen, m_groundThen, m_widths, m_sizes, m_numbers, m_moved)) (mA g)) 0 0 (mA g) := by
  refine Met.ofW (cc := cX7_pathsBehind) (maxL := 2) (ret := (some .int)) (by decide) rfl ?_
  intro p e s m args below meth c s₁ B hml hv
  obtain ⟨rfl, hI⟩ := hv
  have hx := B.exec
  have hb := B.bytes
  have hr := B.returns
  have hts := atoms_spec (ws := wsX7_pathsBehind) B.pre
  have hown : s.vm.findClass RX7 = some m.cls := findClass_of_methodNamed B.named
  have hlocks := B.notSynchronized
  have hP := hI.1
  have hB := hI.2
  have hK := hB.1
  have hNW := hB.2.1
  have hS : va_S (mA g) s.heap s.heap [] := va_S.rf
  have hw0 := hts (.fieldLink RX7 9 "SownPathsModel" "now" "[I") (by decide +kernel)
  have hw1 := hts (.fieldLink RX7 16 "SownPathsModel" "aside" "[I") (by decide +kernel)
  have iwX7 : ∀ w ∈ wsX70, w ∈ wsX7_pathsBehind := fun w h => List.mem_cons_of_mem _ (List.mem_append_right _ h)
  have hl := lv_entry ([.ref (gm g 0), .int a1]) (n := 2) (Nat.le_of_ble_eq_true rfl)
  rw [lg_entry_eq]
  generalize (lg_sl ([.ref (gm g 0), .int a1]) ++ List.replicate (2 - (lg_sl ([.ref (gm g 0), .int a1])).length) Slot.unset).toArray = ls at hl ⊢
  have hl : lv_has ls 2 [(0, .ref (gm g 0)), (1, .int a1)] := hl
  unfold fX7_pathsBehind at hf
  refine lv_aload_n hx hb dX7_pathsBehind_0 rfl (lv_at hl 0 rfl) ?_
  refine va_get (D := g.1) (ci := 5) (v := .ref (gm g 1)) (C := RX7) (T := TX7) (N := 27) hx hb hts iwX7 hown hK hP 0 k_md rfl 0 (by decide) hw0 (fun _ h9 => h9) rfl dX7_pathsBehind_1 ?_
  refine lv_aload_n hx hb dX7_pathsBehind_4 rfl (lv_at hl 0 rfl) ?_
  refine va_get (D := g.1) (ci := 5) (v := .ref (gm g 3)) (C := RX7) (T := TX7) (N := 27) hx hb hts iwX7 hown hK hP 0 k_md rfl 2 (by decide) hw1 (fun _ h9 => h9) rfl dX7_pathsBehind_5 ?_
  obtain ⟨q1, hq1, hf⟩ := bd_some hf
  refine kr_W (st1 := []) (va_runS (As := [.ref (gm g 1), .ref (gm g 3)]) (rest := []) ⟨hx, hb, hml, hown, hts⟩ (ct_X7_copyRow l n g (m_now, m_kept, m_aside, m_isKept, m_found, m_steps, m_queue, m_lives, m_treads, m_tape, m_taped, m_begins, m_ends, m_sort, m_value, m_isWrong, m_items, m_itemMany, m_seedThen, m_groundThen, m_widths, m_sizes, m_numbers, m_moved) 3 117 m_aside k_aside 1 117 m_now k_now (by decide) q1 hq1) (va_cwS 2 hts gX7_pathsBehind_X7_copyRow rfl rfl rfl hn_X7_copyRow ⟨Nat.le_of_ble_eq_true rfl, Nat.le_of_ble_eq_true rfl⟩) ⟨bl_M, pr_M rfl hB hP hS⟩ rfl rfl hl.1 rfl (lv_room (Nat.le_of_ble_eq_true rfl)) dX7_pathsBehind_8 ⟨Nat.le_refl _, Nat.le_refl _⟩) hS rfl (fun hn2 H locs hP hS => ?_)
  have hP : va_P g.1 vwCl (mw g (m_now, m_kept, q1, m_isKept, m_found, m_steps, m_queue, m_lives, m_treads, m_tape, m_taped, m_begins, m_ends, m_sort, m_value, m_isWrong, m_items, m_itemMany, m_seedThen, m_groundThen, m_widths, m_sizes, m_numbers, m_moved)) H := w_eq (k_set_aside q1) hP
  refine lv_aload_n hx hb dX7_pathsBehind_11 rfl (lv_at hl 0 rfl) ?_
  refine lv_iload_n hx hb dX7_pathsBehind_12 rfl (lv_at hl 1 rfl) ?_
  obtain ⟨q3, hq3, hf⟩ := bd_some hf
  refine kr_W (st1 := []) (va_runV (As := [.int a1]) (rest := []) ⟨hx, hb, hml, hown, hts⟩ (ct_X7_seasons l n g m_now m_kept q1 m_isKept m_found m_steps m_queue m_lives m_treads m_tape m_taped m_begins m_ends m_sort m_value m_isWrong m_items m_itemMany m_seedThen m_groundThen m_widths m_sizes m_numbers m_moved a1 q3 hq3) (cwV 1 hts gX7_pathsBehind_X7_seasons rfl rfl rfl hd_X7_seasons ⟨Nat.le_of_ble_eq_true rfl, Nat.le_of_ble_eq_true rfl⟩) ⟨bl_M, va_recv hK hP (ci := 5) (q0 := 0) rfl k_md, pr_M rfl hB hP hS⟩ rfl rfl hl.1 rfl (lv_room (Nat.le_of_ble_eq_true rfl)) dX7_pathsBehind_13 ⟨Nat.le_refl _, Nat.le_refl _⟩) hS rfl (fun hn4 H locs hP hS => ?_)
  have hP : va_P g.1 vwCl (mw g (q3, m_kept, q1, m_isKept, m_found, m_steps, m_queue, m_lives, m_treads, m_tape, m_taped, m_begins, m_ends, m_sort, m_value, m_isWrong, m_items, m_itemMany, m_seedThen, m_groundThen, m_widths, m_sizes, m_numbers, m_moved)) H := hP
  refine lv_aload_n hx hb dX7_pathsBehind_16 rfl (lv_at hl 0 rfl) ?_
  refine lv_aload_n hx hb dX7_pathsBehind_17 rfl (lv_at hl 0 rfl) ?_
  obtain ⟨q5, hq5, hf⟩ := bd_some hf
  refine kr_S (st1 := [.int q5, .ref (gm g 0)]) (va_runV (As := []) (rest := [.ref (gm g 0)]) ⟨hx, hb, hml, hown, hts⟩ (ct_X7_pathsNow l n g q3 m_kept q1 m_isKept m_found m_steps m_queue m_lives m_treads m_tape m_taped m_begins m_ends m_sort m_value m_isWrong m_items m_itemMany m_seedThen m_groundThen m_widths m_sizes m_numbers m_moved q5 hq5) (cwV 0 hts gX7_pathsBehind_X7_pathsNow rfl rfl rfl hd_X7_pathsNow ⟨Nat.le_of_ble_eq_true rfl, Nat.le_of_ble_eq_true rfl⟩) ⟨bl_M, va_recv hK hP (ci := 5) (q0 := 0) rfl k_md, pr_M rfl hB hP hS⟩ rfl rfl hl.1 rfl (lv_room (Nat.le_of_ble_eq_true rfl)) dX7_pathsBehind_18 ⟨Nat.le_refl _, Nat.le_refl _⟩) rfl (fun hn6 => ?_)
  obtain ⟨q7, hq7, hf⟩ := bd_some hf
  refine kr_W (st1 := [.int q7.1]) (va_runV (As := [.int q5]) (rest := []) ⟨hx, hb, hml, hown, hts⟩ (ct_X7_putBack l n g q3 m_kept q1 m_isKept m_found m_steps m_queue m_lives m_treads m_tape m_taped m_begins m_ends m_sort m_value m_isWrong m_items m_itemMany m_seedThen m_groundThen m_widths m_sizes m_numbers m_moved q5 q7 hq7) (cwV 1 hts gX7_pathsBehind_X7_putBack rfl rfl rfl hd_X7_putBack ⟨Nat.le_of_ble_eq_true rfl, Nat.le_of_ble_eq_true rfl⟩) ⟨bl_M, va_recv hK hP (ci := 5) (q0 := 0) rfl k_md, pr_M rfl hB hP hS⟩ rfl rfl hl.1 rfl (lv_room (Nat.le_of_ble_eq_true rfl)) dX7_pathsBehind_21 ⟨Nat.le_refl _, Nat.le_refl _⟩) hS rfl (fun hn8 H locs hP hS => ?_)
  have hP : va_P g.1 vwCl (mw g (q7.2, m_kept, q1, m_isKept, m_found, m_steps, m_queue, m_lives, m_treads, m_tape, m_taped, m_begins, m_ends, m_sort, m_value, m_isWrong, m_items, m_itemMany, m_seedThen, m_groundThen, m_widths, m_sizes, m_numbers, m_moved)) H := hP
  have hres : (q7.1, q7.2, q1) = res := (Option.some.inj hf)
  have hP := w_eq (congrArg (fun z => mw g (z.2.1, m_kept, z.2.2, m_isKept, m_found, m_steps, m_queue, m_lives, m_treads, m_tape, m_taped, m_begins, m_ends, m_sort, m_value, m_isWrong, m_items, m_itemMany, m_seedThen, m_groundThen, m_widths, m_sizes, m_numbers, m_moved)) hres) hP
  exact W.iret (v := q7.1) hx hb hr (fun t ht hW => ⟨congrArg (fun z => Outcome.returned (some (Value.int z.1))) hres, trivial, by rw [ht]; exact hP, hS.F ht⟩) hS.2.2 dX7_pathsBehind_24
set_option maxHeartbeats 4000000 in
set_option maxRecDepth 100000 in
theorem ct_X7_best (l : Launch) (n : Nat) (g : GM) (m_now : Nat → Int32) (m_kept : Nat → Int32) (m_aside : Nat → Int32) (m_isKept : Int32) (m_found : Nat → Int32) (m_steps : Nat → Int32) (m_queue : Nat → Int32) (m_lives : Nat → Int32) (m_treads : Nat → Int32) (m_tape : Nat → Int32) (m_taped : Int32) (m_begins : Int32) (m_ends : Int32) (m_sort : Int32) (m_value : Int32) (m_isWrong : Int32) (m_items : Nat → Int32) (m_itemMany : Int32) (m_seedThen : Int32) (m_groundThen : Nat → Int32) (m_widths : Nat → Int32) (m_sizes : Nat → Int32) (m_numbers : Nat → Int32) (m_moved : Nat → Int32) (a1 : Int32) (a2 : Int32) (a3 : Int32) (res : Int32 × (Nat → Int32) × (Nat → Int32)) (hf : fX7_best n a1 a2 a3 m_now m_aside m_lives m_treads = some res) : Met l yX7_best wsX7_best ({ frames := 10, cells := 0, slots := 0, locals := 225 }) (va_Pc [.ref (gm g 0), .int a1, .int a2, .int a3] (mI g (m_now, m_kept, m_aside, m_isKept, m_found, m_steps, m_queue, m_lives, m_treads, m_tape, m_taped, m_begins, m_ends, m_sort, m_value, m_isWrong, m_items, m_itemMany, m_seedThen, m_groundThen, m_widths, m_sizes, m_numbers, m_moved))) (qW (some (.int res.1)) True g.1 (mw g (res.2.1, m_kept, res.2.2, m_isKept, m_found, m_steps, m_queue, m_lives, m_treads, m_tape, m_taped, m_begins, m_ends, m_sort, m_value, m_isWrong, m_items, m_itemMany, m_seedThen, m_groundThen, m_widths, m_sizes, m_numbers, m_moved)) (mA g)) 0 0 (mA g) := by
  refine Met.ofW (cc := cX7_best) (maxL := 9) (ret := (some .int)) (by decide) rfl ?_
  intro p e s m args below meth c s₁ B hml hv
  obtain ⟨rfl, hI⟩ := hv
  have hx := B.exec
  have hb := B.bytes
  have hr := B.returns
  have hts := atoms_spec (ws := wsX7_best) B.pre
  have hown : s.vm.findClass RX7 = some m.cls := findClass_of_methodNamed B.named
  have hlocks := B.notSynchronized
  have hP := hI.1
  have hB := hI.2
  have hK := hB.1
  have hNW := hB.2.1
  have hS : va_S (mA g) s.heap s.heap [] := va_S.rf
  have hw0 := hts (.fieldLink RX7 9 "SownPathsModel" "now" "[I") (by decide +kernel)
  have hw1 := hts (.methodLink RX7 192 Lib.Math.max.name) (by decide +kernel)
  have hw2 := hts (.static Lib.Math.max.name) (by decide +kernel)
  have hw3 := hts (.initialized "java/lang/Math") (by decide +kernel)
  have hw4 := hts (.code Lib.Math.max.name Lib.Math.max.code 2 (some .int)) (by decide +kernel)
  have iwX7 : ∀ w ∈ wsX70, w ∈ wsX7_best := fun w h => List.mem_cons_of_mem _ (List.mem_append_right _ h)
  have hl := lv_entry ([.ref (gm g 0), .int a1, .int a2, .int a3]) (n := 9) (Nat.le_of_ble_eq_true rfl)
  rw [lg_entry_eq]
  generalize (lg_sl ([.ref (gm g 0), .int a1, .int a2, .int a3]) ++ List.replicate (9 - (lg_sl ([.ref (gm g 0), .int a1, .int a2, .int a3])).length) Slot.unset).toArray = ls at hl ⊢
  have hl : lv_has ls 9 [(0, .ref (gm g 0)), (1, .int a1), (2, .int a2), (3, .int a3)] := hl
  unfold fX7_best at hf
  refine lv_aload_n hx hb dX7_best_0 rfl (lv_at hl 0 rfl) ?_
  refine va_get (D := g.1) (ci := 5) (v := .ref (gm g 1)) (C := RX7) (T := TX7) (N := 27) hx hb hts iwX7 hown hK hP 0 k_md rfl 0 (by decide) hw0 (fun _ h9 => h9) rfl dX7_best_1 ?_
  refine lv_iload_n hx hb dX7_best_4 rfl (lv_at hl 1 rfl) ?_
  obtain ⟨hg1, hf⟩ := gd_some hf
  refine va_iald (f := m_now) hx hb hK hP 1 0 k_now rfl hg1 dX7_best_5 ?_
  refine lv_istore (lv' := [(4, .int (m_now a1.toNatClampNeg)), (0, .ref (gm g 0)), (1, .int a1), (2, .int a2), (3, .int a3)]) hx hb dX7_best_6 hl (by decide) rfl (fun ls hl => ?_)
  refine lv_iconst (v := (0 : Int32)) hx hb dX7_best_8 (by decide) ?_
  refine lv_istore (lv' := [(5, .int (0 : Int32)), (4, .int (m_now a1.toNatClampNeg)), (0, .ref (gm g 0)), (1, .int a1), (2, .int a2), (3, .int a3)]) hx hb dX7_best_9 hl (by decide) rfl (fun ls hl => ?_)
  refine lv_iconst (v := (-1 : Int32)) hx hb dX7_best_11 (by decide) ?_
  refine lv_istore (lv' := [(6, .int (-1 : Int32)), (5, .int (0 : Int32)), (4, .int (m_now a1.toNatClampNeg)), (0, .ref (gm g 0)), (1, .int a1), (2, .int a2), (3, .int a3)]) hx hb dX7_best_12 hl (by decide) rfl (fun ls hl => ?_)
  refine lv_iconst (v := (0 : Int32)) hx hb dX7_best_14 (by decide) ?_
  refine lv_istore (lv' := [(7, .int (0 : Int32)), (6, .int (-1 : Int32)), (5, .int (0 : Int32)), (4, .int (m_now a1.toNatClampNeg)), (0, .ref (gm g 0)), (1, .int a1), (2, .int a2), (3, .int a3)]) hx hb dX7_best_15 hl (by decide) rfl (fun ls hl => ?_)
  refine lp_run hf (fun s2 => ∀ (H : Heap) (locs : List Loc) (ls : Array Slot), va_P g.1 vwCl (mw g (s2.2.2.2.1, m_kept, s2.2.2.2.2, m_isKept, m_found, m_steps, m_queue, m_lives, m_treads, m_tape, m_taped, m_begins, m_ends, m_sort, m_value, m_isWrong, m_items, m_itemMany, m_seedThen, m_groundThen, m_widths, m_sizes, m_numbers, m_moved)) H → va_S (mA g) s.heap H locs → lv_has ls 9 [(0, .ref (gm g 0)), (1, .int a1), (2, .int a2), (3, .int a3), (4, .int (m_now a1.toNatClampNeg)), (5, .int s2.1), (6, .int s2.2.1), (7, .int s2.2.2.1)] → W p l e (headSpec wsX7_best ({ frames := 10, cells := 0, slots := 0, locals := 225 })).room s m ([.ref (gm g 0), .int a1, .int a2, .int a3] : List Value).toArray below meth c H locs 0 0 (MQ below (qW (some (.int res.1)) True g.1 (mw g (res.2.1, m_kept, res.2.2, m_isKept, m_found, m_steps, m_queue, m_lives, m_treads, m_tape, m_taped, m_begins, m_ends, m_sort, m_value, m_isWrong, m_items, m_itemMany, m_seedThen, m_groundThen, m_widths, m_sizes, m_numbers, m_moved)) (mA g)) ([.ref (gm g 0), .int a1, .int a2, .int a3] : List Value).toArray s 0 0 (mA g)) (F0 m 17 ls [])) (fun v3 => ∀ (H : Heap) (locs : List Loc) (ls : Array Slot), va_P g.1 vwCl (mw g (v3.2.2.2.1, m_kept, v3.2.2.2.2, m_isKept, m_found, m_steps, m_queue, m_lives, m_treads, m_tape, m_taped, m_begins, m_ends, m_sort, m_value, m_isWrong, m_items, m_itemMany, m_seedThen, m_groundThen, m_widths, m_sizes, m_numbers, m_moved)) H → va_S (mA g) s.heap H locs → lv_has ls 9 [(0, .ref (gm g 0)), (1, .int a1), (4, .int (m_now a1.toNatClampNeg)), (5, .int v3.1)] → W p l e (headSpec wsX7_best ({ frames := 10, cells := 0, slots := 0, locals := 225 })).room s m ([.ref (gm g 0), .int a1, .int a2, .int a3] : List Value).toArray below meth c H locs 0 0 (MQ below (qW (some (.int res.1)) True g.1 (mw g (res.2.1, m_kept, res.2.2, m_isKept, m_found, m_steps, m_queue, m_lives, m_treads, m_tape, m_taped, m_begins, m_ends, m_sort, m_value, m_isWrong, m_items, m_itemMany, m_seedThen, m_groundThen, m_widths, m_sizes, m_numbers, m_moved)) (mA g)) ([.ref (gm g 0), .int a1, .int a2, .int a3] : List Value).toArray s 0 0 (mA g)) (F0 m 69 ls [])) ?_ ?_ _ _ _ hP hS (lv_sub hl [4, 5, 6, 7, 3, 2, 1, 0] rfl)
  · intro v3 hf H locs ls hP hS hl
    refine lv_aload_n hx hb dX7_best_69 rfl (lv_at hl 0 rfl) ?_
    refine va_get (D := g.1) (ci := 5) (v := .ref (gm g 1)) (C := RX7) (T := TX7) (N := 27) hx hb hts iwX7 hown hK hP 0 k_md rfl 0 (by decide) hw0 (fun _ h9 => h9) rfl dX7_best_70 ?_
    refine lv_iload_n hx hb dX7_best_73 rfl (lv_at hl 1 rfl) ?_
    refine lv_iload hx hb dX7_best_74 (lv_at hl 2 rfl) ?_
    obtain ⟨hg9, hf⟩ := gd_some hf
    refine va_iast (f := v3.2.2.2.1) hx hb hK hP (mD hB.2.2.1 _) hS 1 0 k_now rfl hg9 dX7_best_76 (fun H locs hP _ hS => ?_)
    have hP : va_P g.1 vwCl (mw g ((upd v3.2.2.2.1 a1.toNatClampNeg (m_now a1.toNatClampNeg)), m_kept, v3.2.2.2.2, m_isKept, m_found, m_steps, m_queue, m_lives, m_treads, m_tape, m_taped, m_begins, m_ends, m_sort, m_value, m_isWrong, m_items, m_itemMany, m_seedThen, m_groundThen, m_widths, m_sizes, m_numbers, m_moved)) H := w_eq (k_set_now (upd v3.2.2.2.1 a1.toNatClampNeg (m_now a1.toNatClampNeg))) hP
    refine lv_iload hx hb dX7_best_77 (lv_at hl 3 rfl) ?_
    have hres : (v3.1, (upd v3.2.2.2.1 a1.toNatClampNeg (m_now a1.toNatClampNeg)), v3.2.2.2.2) = res := (Option.some.inj hf)
    have hP := w_eq (congrArg (fun z => mw g (z.2.1, m_kept, z.2.2, m_isKept, m_found, m_steps, m_queue, m_lives, m_treads, m_tape, m_taped, m_begins, m_ends, m_sort, m_value, m_isWrong, m_items, m_itemMany, m_seedThen, m_groundThen, m_widths, m_sizes, m_numbers, m_moved)) hres) hP
    exact W.iret (v := v3.1) hx hb hr (fun t ht hW => ⟨congrArg (fun z => Outcome.returned (some (Value.int z.1))) hres, trivial, by rw [ht]; exact hP, hS.F ht⟩) hS.2.2 dX7_best_79
  · intro s2 r1 hf hback1 hexit1 H locs ls hP hS hl
    refine lv_iload hx hb dX7_best_17 (lv_at hl 7 rfl) ?_
    refine lv_iload_n hx hb dX7_best_19 rfl (lv_at hl 2 rfl) ?_
    refine lv_icmp_ge (tgt := 69) hx hb dX7_best_20 (by decide) (fun hc4 => ?_) (fun hc4 => ?_)
    · have hf := (if_pos hc4).symm.trans hf
      exact hexit1 (s2.1, s2.2.1, s2.2.2.1, s2.2.2.2.1, s2.2.2.2.2) (Option.some.inj hf).symm H locs ls hP hS (lv_sub hl [0, 1, 4, 5] rfl)
    · have hf := (if_neg hc4).symm.trans hf
      refine lv_aload_n hx hb dX7_best_23 rfl (lv_at hl 0 rfl) ?_
      refine va_get (D := g.1) (ci := 5) (v := .ref (gm g 1)) (C := RX7) (T := TX7) (N := 27) hx hb hts iwX7 hown hK hP 0 k_md rfl 0 (by decide) hw0 (fun _ h9 => h9) rfl dX7_best_24 ?_
      refine lv_iload_n hx hb dX7_best_27 rfl (lv_at hl 1 rfl) ?_
      refine lv_iload hx hb dX7_best_28 (lv_at hl 7 rfl) ?_
      obtain ⟨hg5, hf⟩ := gd_some hf
      refine va_iast (f := s2.2.2.2.1) hx hb hK hP (mD hB.2.2.1 _) hS 1 0 k_now rfl hg5 dX7_best_30 (fun H locs hP _ hS => ?_)
      have hP : va_P g.1 vwCl (mw g ((upd s2.2.2.2.1 a1.toNatClampNeg s2.2.2.1), m_kept, s2.2.2.2.2, m_isKept, m_found, m_steps, m_queue, m_lives, m_treads, m_tape, m_taped, m_begins, m_ends, m_sort, m_value, m_isWrong, m_items, m_itemMany, m_seedThen, m_groundThen, m_widths, m_sizes, m_numbers, m_moved)) H := w_eq (k_set_now (upd s2.2.2.2.1 a1.toNatClampNeg s2.2.2.1)) hP
      refine lv_aload_n hx hb dX7_best_31 rfl (lv_at hl 0 rfl) ?_
      refine lv_iload_n hx hb dX7_best_32 rfl (lv_at hl 3 rfl) ?_
      obtain ⟨q6, hq6, hf⟩ := bd_some hf
      refine kr_W (st1 := [.int q6.1]) (va_runV (As := [.int a3]) (rest := []) ⟨hx, hb, hml, hown, hts⟩ (ct_X7_pathsBehind l n g (upd s2.2.2.2.1 a1.toNatClampNeg s2.2.2.1) m_kept s2.2.2.2.2 m_isKept m_found m_steps m_queue m_lives m_treads m_tape m_taped m_begins m_ends m_sort m_value m_isWrong m_items m_itemMany m_seedThen m_groundThen m_widths m_sizes m_numbers m_moved a3 q6 hq6) (cwV 1 hts gX7_best_X7_pathsBehind rfl rfl rfl hd_X7_pathsBehind ⟨Nat.le_of_ble_eq_true rfl, Nat.le_of_ble_eq_true rfl⟩) ⟨bl_M, va_recv hK hP (ci := 5) (q0 := 0) rfl k_md, pr_M rfl hB hP hS⟩ rfl rfl hl.1 rfl (lv_room (Nat.le_of_ble_eq_true rfl)) dX7_best_33 ⟨Nat.le_refl _, Nat.le_refl _⟩) hS rfl (fun hn7 H locs hP hS => ?_)
      have hP : va_P g.1 vwCl (mw g (q6.2.1, m_kept, q6.2.2, m_isKept, m_found, m_steps, m_queue, m_lives, m_treads, m_tape, m_taped, m_begins, m_ends, m_sort, m_value, m_isWrong, m_items, m_itemMany, m_seedThen, m_groundThen, m_widths, m_sizes, m_numbers, m_moved)) H := hP
      refine lv_istore (lv' := [(8, .int q6.1), (0, .ref (gm g 0)), (1, .int a1), (2, .int a2), (3, .int a3), (4, .int (m_now a1.toNatClampNeg)), (5, .int s2.1), (6, .int s2.2.1), (7, .int s2.2.2.1)]) hx hb dX7_best_36 hl (by decide) rfl (fun ls hl => ?_)
      refine lv_iload hx hb dX7_best_38 (lv_at hl 0 rfl) ?_
      refine lv_iload hx hb dX7_best_40 (lv_at hl 7 rfl) ?_
      refine lv_icmp_le (tgt := 50) hx hb dX7_best_42 (by decide) (fun hc8 => ?_) (fun hc8 => ?_)
      · have hf := (if_pos hc8).symm.trans hf
        refine lv_iload hx hb dX7_best_50 (lv_at hl 6 rfl) ?_
        refine lv_istore (lv' := [(5, .int s2.1), (8, .int q6.1), (0, .ref (gm g 0)), (1, .int a1), (2, .int a2), (3, .int a3), (4, .int (m_now a1.toNatClampNeg)), (6, .int s2.2.1), (7, .int s2.2.2.1)]) hx hb dX7_best_52 hl (by decide) rfl (fun ls hl => ?_)
        refine lv_iload hx hb dX7_best_54 (lv_at hl 7 rfl) ?_
        refine lv_iload hx hb dX7_best_56 (lv_at hl 1 rfl) ?_
        refine va_mmax hx hb (hml.trans hl.1.symm) hown hw1 hw2 hw3 hw4 (Nat.le_of_ble_eq_true rfl) (Nat.le_of_ble_eq_true rfl) (Nat.le_of_ble_eq_true rfl) (Nat.le_of_ble_eq_true rfl) dX7_best_58 ?_
        refine lv_istore (lv' := [(6, .int (if s2.2.1 < q6.1 then q6.1 else s2.2.1)), (5, .int s2.1), (8, .int q6.1), (0, .ref (gm g 0)), (1, .int a1), (2, .int a2), (3, .int a3), (4, .int (m_now a1.toNatClampNeg)), (7, .int s2.2.2.1)]) hx hb dX7_best_61 hl (by decide) rfl (fun ls hl => ?_)
        refine lv_iinc (v := (s2.2.2.1 + (1 : Int32))) (lv' := [(7, .int (s2.2.2.1 + (1 : Int32))), (6, .int (if s2.2.1 < q6.1 then q6.1 else s2.2.1)), (5, .int s2.1), (8, .int q6.1), (0, .ref (gm g 0)), (1, .int a1), (2, .int a2), (3, .int a3), (4, .int (m_now a1.toNatClampNeg))]) hx hb dX7_best_63 hl (k := 8) rfl (congrArg (fun y => s2.2.2.1 + y) (by decide : Int32.ofInt (1) = (1 : Int32))) (by decide) rfl (fun ls hl => ?_)
        refine lv_goto (tgt := 17) hx hb dX7_best_66 (by decide) ?_
        exact hback1 _ (Option.some.inj hf).symm H locs ls hP hS (lv_sub hl [4, 5, 6, 7, 8, 2, 1, 0] rfl)
      · have hf := (if_neg hc8).symm.trans hf
        refine lv_iload hx hb dX7_best_45 (lv_at hl 8 rfl) ?_
        refine lv_goto (tgt := 52) hx hb dX7_best_47 (by decide) ?_
        refine lv_istore (lv' := [(5, .int s2.2.2.1), (8, .int q6.1), (0, .ref (gm g 0)), (1, .int a1), (2, .int a2), (3, .int a3), (4, .int (m_now a1.toNatClampNeg)), (6, .int s2.2.1), (7, .int s2.2.2.1)]) hx hb dX7_best_52 hl (by decide) rfl (fun ls hl => ?_)
        refine lv_iload hx hb dX7_best_54 (lv_at hl 7 rfl) ?_
        refine lv_iload hx hb dX7_best_56 (lv_at hl 1 rfl) ?_
        refine va_mmax hx hb (hml.trans hl.1.symm) hown hw1 hw2 hw3 hw4 (Nat.le_of_ble_eq_true rfl) (Nat.le_of_ble_eq_true rfl) (Nat.le_of_ble_eq_true rfl) (Nat.le_of_ble_eq_true rfl) dX7_best_58 ?_
        refine lv_istore (lv' := [(6, .int (if s2.2.1 < q6.1 then q6.1 else s2.2.1)), (5, .int s2.2.2.1), (8, .int q6.1), (0, .ref (gm g 0)), (1, .int a1), (2, .int a2), (3, .int a3), (4, .int (m_now a1.toNatClampNeg)), (7, .int s2.2.2.1)]) hx hb dX7_best_61 hl (by decide) rfl (fun ls hl => ?_)
        refine lv_iinc (v := (s2.2.2.1 + (1 : Int32))) (lv' := [(7, .int (s2.2.2.1 + (1 : Int32))), (6, .int (if s2.2.1 < q6.1 then q6.1 else s2.2.1)), (5, .int s2.2.2.1), (8, .int q6.1), (0, .ref (gm g 0)), (1, .int a1), (2, .int a2), (3, .int a3), (4, .int (m_now a1.toNatClampNeg))]) hx hb dX7_best_63 hl (k := 8) rfl (congrArg (fun y => s2.2.2.1 + y) (by decide : Int32.ofInt (1) = (1 : Int32))) (by decide) rfl (fun ls hl => ?_)
        refine lv_goto (tgt := 17) hx hb dX7_best_66 (by decide) ?_
        exact hback1 _ (Option.some.inj hf).symm H locs ls hP hS (lv_sub hl [4, 5, 6, 7, 8, 2, 1, 0] rfl)
set_option maxHeartbeats 4000000 in
set_option maxRecDepth 100000 in
theorem ct_X7_kindFor (l : Launch) (n : Nat) (g : GM) (m_now : Nat → Int32) (m_kept : Nat → Int32) (m_aside : Nat → Int32) (m_isKept : Int32) (m_found : Nat → Int32) (m_steps : Nat → Int32) (m_queue : Nat → Int32) (m_lives : Nat → Int32) (m_treads : Nat → Int32) (m_tape : Nat → Int32) (m_taped : Int32) (m_begins : Int32) (m_ends : Int32) (m_sort : Int32) (m_value : Int32) (m_isWrong : Int32) (m_items : Nat → Int32) (m_itemMany : Int32) (m_seedThen : Int32) (m_groundThen : Nat → Int32) (m_widths : Nat → Int32) (m_sizes : Nat → Int32) (m_numbers : Nat → Int32) (m_moved : Nat → Int32) (a1 : Int32) (a2 : Int32) (res : Int32 × (Nat → Int32) × (Nat → Int32) × (Nat → Int32)) (hf : fX7_kindFor n a1 a2 m_now m_aside m_found m_lives m_treads = some res) : Met l yX7_kindFor wsX7_kindFor ({ frames := 11, cells := 0, slots := 0, locals := 253 }) (va_Pc [.ref (gm g 0), .int a1, .int a2] (mI g (m_now, m_kept, m_aside, m_isKept, m_found, m_steps, m_queue, m_lives, m_treads, m_tape, m_taped, m_begins, m_ends, m_sort, m_value, m_isWrong, m_items, m_itemMany, m_seedThen, m_groundThen, m_widths, m_sizes, m_numbers, m_moved))) (qW (some (.int res.1)) True g.1 (mw g (res.2.1, m_kept, res.2.2.1, m_isKept, res.2.2.2, m_steps, m_queue, m_lives, m_treads, m_tape, m_taped, m_begins, m_ends, m_sort, m_value, m_isWrong, m_items, m_itemMany, m_seedThen, m_groundThen, m_widths, m_sizes, m_numbers, m_moved)) (mA g)) 0 0 (mA g) := by
  refine Met.ofW (cc := cX7_kindFor) (maxL := 3) (ret := (some .int)) (by decide) rfl ?_
  intro p e s m args below meth c s₁ B hml hv
  obtain ⟨rfl, hI⟩ := hv
  have hx := B.exec
  have hb := B.bytes
  have hr := B.returns
  have hts := atoms_spec (ws := wsX7_kindFor) B.pre
  have hown : s.vm.findClass RX7 = some m.cls := findClass_of_methodNamed B.named
  have hlocks := B.notSynchronized
  have hP := hI.1
  have hB := hI.2
  have hK := hB.1
  have hNW := hB.2.1
  have hS : va_S (mA g) s.heap s.heap [] := va_S.rf
  have hw0 := hts (.constant RX7 95 (-1000001)) (by decide +kernel)
  have hl := lv_entry ([.ref (gm g 0), .int a1, .int a2]) (n := 3) (Nat.le_of_ble_eq_true rfl)
  rw [lg_entry_eq]
  generalize (lg_sl ([.ref (gm g 0), .int a1, .int a2]) ++ List.replicate (3 - (lg_sl ([.ref (gm g 0), .int a1, .int a2])).length) Slot.unset).toArray = ls at hl ⊢
  have hl : lv_has ls 3 [(0, .ref (gm g 0)), (1, .int a1), (2, .int a2)] := hl
  unfold fX7_kindFor at hf
  refine lv_aload_n hx hb dX7_kindFor_0 rfl (lv_at hl 0 rfl) ?_
  refine lv_iload_n hx hb dX7_kindFor_1 rfl (lv_at hl 1 rfl) ?_
  obtain ⟨q1, hq1, hf⟩ := bd_some hf
  refine kr_S (st1 := [.int q1]) (va_runV (As := [.int a1]) (rest := []) ⟨hx, hb, hml, hown, hts⟩ (ct_X7_isSeed l n g m_now m_kept m_aside m_isKept m_found m_steps m_queue m_lives m_treads m_tape m_taped m_begins m_ends m_sort m_value m_isWrong m_items m_itemMany m_seedThen m_groundThen m_widths m_sizes m_numbers m_moved a1 q1 hq1) (cwV 1 hts gX7_kindFor_X7_isSeed rfl rfl rfl hd_X7_isSeed ⟨Nat.le_of_ble_eq_true rfl, Nat.le_of_ble_eq_true rfl⟩) ⟨bl_M, va_recv hK hP (ci := 5) (q0 := 0) rfl k_md, pr_M rfl hB hP hS⟩ rfl rfl hl.1 rfl (lv_room (Nat.le_of_ble_eq_true rfl)) dX7_kindFor_2 ⟨Nat.le_refl _, Nat.le_refl _⟩) rfl (fun hn2 => ?_)
  refine lv_if_eq (tgt := 33) hx hb dX7_kindFor_5 (by decide) (fun hc3 => ?_) (fun hc3 => ?_)
  · have hf := (if_pos hc3).symm.trans hf
    refine lv_aload_n hx hb dX7_kindFor_33 rfl (lv_at hl 0 rfl) ?_
    refine lv_ldc (v := (-1000001 : Int32)) hx hb hown hw0 dX7_kindFor_34 ?_
    obtain ⟨q4, hq4, hf⟩ := bd_some hf
    refine kr_W (st1 := [.int q4.1]) (va_runV (As := [.int (-1000001 : Int32)]) (rest := []) ⟨hx, hb, hml, hown, hts⟩ (ct_X7_finding l n g m_now m_kept m_aside m_isKept m_found m_steps m_queue m_lives m_treads m_tape m_taped m_begins m_ends m_sort m_value m_isWrong m_items m_itemMany m_seedThen m_groundThen m_widths m_sizes m_numbers m_moved (-1000001 : Int32) q4 hq4) (cwV 1 hts gX7_kindFor_X7_finding rfl rfl rfl hd_X7_finding ⟨Nat.le_of_ble_eq_true rfl, Nat.le_of_ble_eq_true rfl⟩) ⟨bl_M, va_recv hK hP (ci := 5) (q0 := 0) rfl k_md, pr_M rfl hB hP hS⟩ rfl rfl hl.1 rfl (lv_room (Nat.le_of_ble_eq_true rfl)) dX7_kindFor_36 ⟨Nat.le_refl _, Nat.le_refl _⟩) hS rfl (fun hn5 H locs hP hS => ?_)
    have hP : va_P g.1 vwCl (mw g (m_now, m_kept, m_aside, m_isKept, q4.2, m_steps, m_queue, m_lives, m_treads, m_tape, m_taped, m_begins, m_ends, m_sort, m_value, m_isWrong, m_items, m_itemMany, m_seedThen, m_groundThen, m_widths, m_sizes, m_numbers, m_moved)) H := hP
    have hres : (q4.1, m_now, m_aside, q4.2) = res := (Option.some.inj hf)
    have hP := w_eq (congrArg (fun z => mw g (z.2.1, m_kept, z.2.2.1, m_isKept, z.2.2.2, m_steps, m_queue, m_lives, m_treads, m_tape, m_taped, m_begins, m_ends, m_sort, m_value, m_isWrong, m_items, m_itemMany, m_seedThen, m_groundThen, m_widths, m_sizes, m_numbers, m_moved)) hres) hP
    exact W.iret (v := q4.1) hx hb hr (fun t ht hW => ⟨congrArg (fun z => Outcome.returned (some (Value.int z.1))) hres, trivial, by rw [ht]; exact hP, hS.F ht⟩) hS.2.2 dX7_kindFor_39
  · have hf := (if_neg hc3).symm.trans hf
    refine lv_iload_n hx hb dX7_kindFor_8 rfl (lv_at hl 2 rfl) ?_
    refine lv_iconst (v := (0 : Int32)) hx hb dX7_kindFor_9 (by decide) ?_
    refine lv_bipush (v := (60 : Int32)) hx hb dX7_kindFor_10 (by decide) ?_
    obtain ⟨q6, hq6, hf⟩ := bd_some hf
    refine kr_S (st1 := [.int q6]) (va_runS (As := [.int a2, .int (0 : Int32), .int (60 : Int32)]) (rest := []) ⟨hx, hb, hml, hown, hts⟩ (ct_X7_within l n a2 (0 : Int32) (60 : Int32) q6 hq6) (va_cwS 3 hts gX7_kindFor_X7_within rfl rfl rfl hn_X7_within ⟨Nat.le_of_ble_eq_true rfl, Nat.le_of_ble_eq_true rfl⟩) ⟨bl_N, pr_N rfl hNW⟩ rfl rfl hl.1 rfl (lv_room (Nat.le_of_ble_eq_true rfl)) dX7_kindFor_12 ⟨Nat.le_refl _, Nat.le_refl _⟩) rfl (fun hn7 => ?_)
    refine lv_if_eq (tgt := 33) hx hb dX7_kindFor_15 (by decide) (fun hc8 => ?_) (fun hc8 => ?_)
    · have hf := (if_pos hc8).symm.trans hf
      refine lv_aload_n hx hb dX7_kindFor_33 rfl (lv_at hl 0 rfl) ?_
      refine lv_ldc (v := (-1000001 : Int32)) hx hb hown hw0 dX7_kindFor_34 ?_
      obtain ⟨q9, hq9, hf⟩ := bd_some hf
      refine kr_W (st1 := [.int q9.1]) (va_runV (As := [.int (-1000001 : Int32)]) (rest := []) ⟨hx, hb, hml, hown, hts⟩ (ct_X7_finding l n g m_now m_kept m_aside m_isKept m_found m_steps m_queue m_lives m_treads m_tape m_taped m_begins m_ends m_sort m_value m_isWrong m_items m_itemMany m_seedThen m_groundThen m_widths m_sizes m_numbers m_moved (-1000001 : Int32) q9 hq9) (cwV 1 hts gX7_kindFor_X7_finding rfl rfl rfl hd_X7_finding ⟨Nat.le_of_ble_eq_true rfl, Nat.le_of_ble_eq_true rfl⟩) ⟨bl_M, va_recv hK hP (ci := 5) (q0 := 0) rfl k_md, pr_M rfl hB hP hS⟩ rfl rfl hl.1 rfl (lv_room (Nat.le_of_ble_eq_true rfl)) dX7_kindFor_36 ⟨Nat.le_refl _, Nat.le_refl _⟩) hS rfl (fun hn10 H locs hP hS => ?_)
      have hP : va_P g.1 vwCl (mw g (m_now, m_kept, m_aside, m_isKept, q9.2, m_steps, m_queue, m_lives, m_treads, m_tape, m_taped, m_begins, m_ends, m_sort, m_value, m_isWrong, m_items, m_itemMany, m_seedThen, m_groundThen, m_widths, m_sizes, m_numbers, m_moved)) H := hP
      have hres : (q9.1, m_now, m_aside, q9.2) = res := (Option.some.inj hf)
      have hP := w_eq (congrArg (fun z => mw g (z.2.1, m_kept, z.2.2.1, m_isKept, z.2.2.2, m_steps, m_queue, m_lives, m_treads, m_tape, m_taped, m_begins, m_ends, m_sort, m_value, m_isWrong, m_items, m_itemMany, m_seedThen, m_groundThen, m_widths, m_sizes, m_numbers, m_moved)) hres) hP
      exact W.iret (v := q9.1) hx hb hr (fun t ht hW => ⟨congrArg (fun z => Outcome.returned (some (Value.int z.1))) hres, trivial, by rw [ht]; exact hP, hS.F ht⟩) hS.2.2 dX7_kindFor_39
    · have hf := (if_neg hc8).symm.trans hf
      refine lv_aload_n hx hb dX7_kindFor_18 rfl (lv_at hl 0 rfl) ?_
      refine lv_iload_n hx hb dX7_kindFor_19 rfl (lv_at hl 1 rfl) ?_
      refine lv_iconst (v := (0 : Int32)) hx hb dX7_kindFor_20 (by decide) ?_
      obtain ⟨q11, hq11, hf⟩ := bd_some hf
      refine kr_S (st1 := [.int q11, .ref (gm g 0)]) (va_runS (As := [.int a1, .int (0 : Int32)]) (rest := [.ref (gm g 0)]) ⟨hx, hb, hml, hown, hts⟩ (ct_X7_at l n a1 (0 : Int32) q11 hq11) (va_cwS 2 hts gX7_kindFor_X7_at rfl rfl rfl hn_X7_at ⟨Nat.le_of_ble_eq_true rfl, Nat.le_of_ble_eq_true rfl⟩) ⟨bl_N, pr_N rfl hNW⟩ rfl rfl hl.1 rfl (lv_room (Nat.le_of_ble_eq_true rfl)) dX7_kindFor_21 ⟨Nat.le_refl _, Nat.le_refl _⟩) rfl (fun hn12 => ?_)
      refine lv_bipush (v := (7 : Int32)) hx hb dX7_kindFor_24 (by decide) ?_
      refine lv_iload_n hx hb dX7_kindFor_26 rfl (lv_at hl 2 rfl) ?_
      obtain ⟨q13, hq13, hf⟩ := bd_some hf
      refine kr_W (st1 := [.int q13.1]) (va_runV (As := [.int q11, .int (7 : Int32), .int a2]) (rest := []) ⟨hx, hb, hml, hown, hts⟩ (ct_X7_best l n g m_now m_kept m_aside m_isKept m_found m_steps m_queue m_lives m_treads m_tape m_taped m_begins m_ends m_sort m_value m_isWrong m_items m_itemMany m_seedThen m_groundThen m_widths m_sizes m_numbers m_moved q11 (7 : Int32) a2 q13 hq13) (cwV 3 hts gX7_kindFor_X7_best rfl rfl rfl hd_X7_best ⟨Nat.le_of_ble_eq_true rfl, Nat.le_of_ble_eq_true rfl⟩) ⟨bl_M, va_recv hK hP (ci := 5) (q0 := 0) rfl k_md, pr_M rfl hB hP hS⟩ rfl rfl hl.1 rfl (lv_room (Nat.le_of_ble_eq_true rfl)) dX7_kindFor_27 ⟨Nat.le_refl _, Nat.le_refl _⟩) hS rfl (fun hn14 H locs hP hS => ?_)
      have hP : va_P g.1 vwCl (mw g (q13.2.1, m_kept, q13.2.2, m_isKept, m_found, m_steps, m_queue, m_lives, m_treads, m_tape, m_taped, m_begins, m_ends, m_sort, m_value, m_isWrong, m_items, m_itemMany, m_seedThen, m_groundThen, m_widths, m_sizes, m_numbers, m_moved)) H := hP
      refine lv_goto (tgt := 39) hx hb dX7_kindFor_30 (by decide) ?_
      have hres : (q13.1, q13.2.1, q13.2.2, m_found) = res := (Option.some.inj hf)
      have hP := w_eq (congrArg (fun z => mw g (z.2.1, m_kept, z.2.2.1, m_isKept, z.2.2.2, m_steps, m_queue, m_lives, m_treads, m_tape, m_taped, m_begins, m_ends, m_sort, m_value, m_isWrong, m_items, m_itemMany, m_seedThen, m_groundThen, m_widths, m_sizes, m_numbers, m_moved)) hres) hP
      exact W.iret (v := q13.1) hx hb hr (fun t ht hW => ⟨congrArg (fun z => Outcome.returned (some (Value.int z.1))) hres, trivial, by rw [ht]; exact hP, hS.F ht⟩) hS.2.2 dX7_kindFor_39
set_option maxHeartbeats 4000000 in
set_option maxRecDepth 100000 in
theorem ct_X7_headingFor (l : Launch) (n : Nat) (g : GM) (m_now : Nat → Int32) (m_kept : Nat → Int32) (m_aside : Nat → Int32) (m_isKept : Int32) (m_found : Nat → Int32) (m_steps : Nat → Int32) (m_queue : Nat → Int32) (m_lives : Nat → Int32) (m_treads : Nat → Int32) (m_tape : Nat → Int32) (m_taped : Int32) (m_begins : Int32) (m_ends : Int32) (m_sort : Int32) (m_value : Int32) (m_isWrong : Int32) (m_items : Nat → Int32) (m_itemMany : Int32) (m_seedThen : Int32) (m_groundThen : Nat → Int32) (m_widths : Nat → Int32) (m_sizes : Nat → Int32) (m_numbers : Nat → Int32) (m_moved : Nat → Int32) (a1 : Int32) (a2 : Int32) (res : Int32 × (Nat → Int32) × (Nat → Int32) × (Nat → Int32)) (hf : fX7_headingFor n a1 a2 m_now m_aside m_found m_lives m_treads = some res) : Met l yX7_headingFor wsX7_headingFor ({ frames := 11, cells := 0, slots := 0, locals := 253 }) (va_Pc [.ref (gm g 0), .int a1, .int a2] (mI g (m_now, m_kept, m_aside, m_isKept, m_found, m_steps, m_queue, m_lives, m_treads, m_tape, m_taped, m_begins, m_ends, m_sort, m_value, m_isWrong, m_items, m_itemMany, m_seedThen, m_groundThen, m_widths, m_sizes, m_numbers, m_moved))) (qW (some (.int res.1)) True g.1 (mw g (res.2.1, m_kept, res.2.2.1, m_isKept, res.2.2.2, m_steps, m_queue, m_lives, m_treads, m_tape, m_taped, m_begins, m_ends, m_sort, m_value, m_isWrong, m_items, m_itemMany, m_seedThen, m_groundThen, m_widths, m_sizes, m_numbers, m_moved)) (mA g)) 0 0 (mA g) := by
  refine Met.ofW (cc := cX7_headingFor) (maxL := 3) (ret := (some .int)) (by decide) rfl ?_
  intro p e s m args below meth c s₁ B hml hv
  obtain ⟨rfl, hI⟩ := hv
  have hx := B.exec
  have hb := B.bytes
  have hr := B.returns
  have hts := atoms_spec (ws := wsX7_headingFor) B.pre
  have hown : s.vm.findClass RX7 = some m.cls := findClass_of_methodNamed B.named
  have hlocks := B.notSynchronized
  have hP := hI.1
  have hB := hI.2
  have hK := hB.1
  have hNW := hB.2.1
  have hS : va_S (mA g) s.heap s.heap [] := va_S.rf
  have hw0 := hts (.constant RX7 95 (-1000001)) (by decide +kernel)
  have hl := lv_entry ([.ref (gm g 0), .int a1, .int a2]) (n := 3) (Nat.le_of_ble_eq_true rfl)
  rw [lg_entry_eq]
  generalize (lg_sl ([.ref (gm g 0), .int a1, .int a2]) ++ List.replicate (3 - (lg_sl ([.ref (gm g 0), .int a1, .int a2])).length) Slot.unset).toArray = ls at hl ⊢
  have hl : lv_has ls 3 [(0, .ref (gm g 0)), (1, .int a1), (2, .int a2)] := hl
  unfold fX7_headingFor at hf
  refine lv_aload_n hx hb dX7_headingFor_0 rfl (lv_at hl 0 rfl) ?_
  refine lv_iload_n hx hb dX7_headingFor_1 rfl (lv_at hl 1 rfl) ?_
  obtain ⟨q1, hq1, hf⟩ := bd_some hf
  refine kr_S (st1 := [.int q1]) (va_runV (As := [.int a1]) (rest := []) ⟨hx, hb, hml, hown, hts⟩ (ct_X7_isSeed l n g m_now m_kept m_aside m_isKept m_found m_steps m_queue m_lives m_treads m_tape m_taped m_begins m_ends m_sort m_value m_isWrong m_items m_itemMany m_seedThen m_groundThen m_widths m_sizes m_numbers m_moved a1 q1 hq1) (cwV 1 hts gX7_headingFor_X7_isSeed rfl rfl rfl hd_X7_isSeed ⟨Nat.le_of_ble_eq_true rfl, Nat.le_of_ble_eq_true rfl⟩) ⟨bl_M, va_recv hK hP (ci := 5) (q0 := 0) rfl k_md, pr_M rfl hB hP hS⟩ rfl rfl hl.1 rfl (lv_room (Nat.le_of_ble_eq_true rfl)) dX7_headingFor_2 ⟨Nat.le_refl _, Nat.le_refl _⟩) rfl (fun hn2 => ?_)
  refine lv_if_eq (tgt := 32) hx hb dX7_headingFor_5 (by decide) (fun hc3 => ?_) (fun hc3 => ?_)
  · have hf := (if_pos hc3).symm.trans hf
    refine lv_aload_n hx hb dX7_headingFor_32 rfl (lv_at hl 0 rfl) ?_
    refine lv_ldc (v := (-1000001 : Int32)) hx hb hown hw0 dX7_headingFor_33 ?_
    obtain ⟨q4, hq4, hf⟩ := bd_some hf
    refine kr_W (st1 := [.int q4.1]) (va_runV (As := [.int (-1000001 : Int32)]) (rest := []) ⟨hx, hb, hml, hown, hts⟩ (ct_X7_finding l n g m_now m_kept m_aside m_isKept m_found m_steps m_queue m_lives m_treads m_tape m_taped m_begins m_ends m_sort m_value m_isWrong m_items m_itemMany m_seedThen m_groundThen m_widths m_sizes m_numbers m_moved (-1000001 : Int32) q4 hq4) (cwV 1 hts gX7_headingFor_X7_finding rfl rfl rfl hd_X7_finding ⟨Nat.le_of_ble_eq_true rfl, Nat.le_of_ble_eq_true rfl⟩) ⟨bl_M, va_recv hK hP (ci := 5) (q0 := 0) rfl k_md, pr_M rfl hB hP hS⟩ rfl rfl hl.1 rfl (lv_room (Nat.le_of_ble_eq_true rfl)) dX7_headingFor_35 ⟨Nat.le_refl _, Nat.le_refl _⟩) hS rfl (fun hn5 H locs hP hS => ?_)
    have hP : va_P g.1 vwCl (mw g (m_now, m_kept, m_aside, m_isKept, q4.2, m_steps, m_queue, m_lives, m_treads, m_tape, m_taped, m_begins, m_ends, m_sort, m_value, m_isWrong, m_items, m_itemMany, m_seedThen, m_groundThen, m_widths, m_sizes, m_numbers, m_moved)) H := hP
    have hres : (q4.1, m_now, m_aside, q4.2) = res := (Option.some.inj hf)
    have hP := w_eq (congrArg (fun z => mw g (z.2.1, m_kept, z.2.2.1, m_isKept, z.2.2.2, m_steps, m_queue, m_lives, m_treads, m_tape, m_taped, m_begins, m_ends, m_sort, m_value, m_isWrong, m_items, m_itemMany, m_seedThen, m_groundThen, m_widths, m_sizes, m_numbers, m_moved)) hres) hP
    exact W.iret (v := q4.1) hx hb hr (fun t ht hW => ⟨congrArg (fun z => Outcome.returned (some (Value.int z.1))) hres, trivial, by rw [ht]; exact hP, hS.F ht⟩) hS.2.2 dX7_headingFor_38
  · have hf := (if_neg hc3).symm.trans hf
    refine lv_iload_n hx hb dX7_headingFor_8 rfl (lv_at hl 2 rfl) ?_
    refine lv_iconst (v := (0 : Int32)) hx hb dX7_headingFor_9 (by decide) ?_
    refine lv_bipush (v := (60 : Int32)) hx hb dX7_headingFor_10 (by decide) ?_
    obtain ⟨q6, hq6, hf⟩ := bd_some hf
    refine kr_S (st1 := [.int q6]) (va_runS (As := [.int a2, .int (0 : Int32), .int (60 : Int32)]) (rest := []) ⟨hx, hb, hml, hown, hts⟩ (ct_X7_within l n a2 (0 : Int32) (60 : Int32) q6 hq6) (va_cwS 3 hts gX7_headingFor_X7_within rfl rfl rfl hn_X7_within ⟨Nat.le_of_ble_eq_true rfl, Nat.le_of_ble_eq_true rfl⟩) ⟨bl_N, pr_N rfl hNW⟩ rfl rfl hl.1 rfl (lv_room (Nat.le_of_ble_eq_true rfl)) dX7_headingFor_12 ⟨Nat.le_refl _, Nat.le_refl _⟩) rfl (fun hn7 => ?_)
    refine lv_if_eq (tgt := 32) hx hb dX7_headingFor_15 (by decide) (fun hc8 => ?_) (fun hc8 => ?_)
    · have hf := (if_pos hc8).symm.trans hf
      refine lv_aload_n hx hb dX7_headingFor_32 rfl (lv_at hl 0 rfl) ?_
      refine lv_ldc (v := (-1000001 : Int32)) hx hb hown hw0 dX7_headingFor_33 ?_
      obtain ⟨q9, hq9, hf⟩ := bd_some hf
      refine kr_W (st1 := [.int q9.1]) (va_runV (As := [.int (-1000001 : Int32)]) (rest := []) ⟨hx, hb, hml, hown, hts⟩ (ct_X7_finding l n g m_now m_kept m_aside m_isKept m_found m_steps m_queue m_lives m_treads m_tape m_taped m_begins m_ends m_sort m_value m_isWrong m_items m_itemMany m_seedThen m_groundThen m_widths m_sizes m_numbers m_moved (-1000001 : Int32) q9 hq9) (cwV 1 hts gX7_headingFor_X7_finding rfl rfl rfl hd_X7_finding ⟨Nat.le_of_ble_eq_true rfl, Nat.le_of_ble_eq_true rfl⟩) ⟨bl_M, va_recv hK hP (ci := 5) (q0 := 0) rfl k_md, pr_M rfl hB hP hS⟩ rfl rfl hl.1 rfl (lv_room (Nat.le_of_ble_eq_true rfl)) dX7_headingFor_35 ⟨Nat.le_refl _, Nat.le_refl _⟩) hS rfl (fun hn10 H locs hP hS => ?_)
      have hP : va_P g.1 vwCl (mw g (m_now, m_kept, m_aside, m_isKept, q9.2, m_steps, m_queue, m_lives, m_treads, m_tape, m_taped, m_begins, m_ends, m_sort, m_value, m_isWrong, m_items, m_itemMany, m_seedThen, m_groundThen, m_widths, m_sizes, m_numbers, m_moved)) H := hP
      have hres : (q9.1, m_now, m_aside, q9.2) = res := (Option.some.inj hf)
      have hP := w_eq (congrArg (fun z => mw g (z.2.1, m_kept, z.2.2.1, m_isKept, z.2.2.2, m_steps, m_queue, m_lives, m_treads, m_tape, m_taped, m_begins, m_ends, m_sort, m_value, m_isWrong, m_items, m_itemMany, m_seedThen, m_groundThen, m_widths, m_sizes, m_numbers, m_moved)) hres) hP
      exact W.iret (v := q9.1) hx hb hr (fun t ht hW => ⟨congrArg (fun z => Outcome.returned (some (Value.int z.1))) hres, trivial, by rw [ht]; exact hP, hS.F ht⟩) hS.2.2 dX7_headingFor_38
    · have hf := (if_neg hc8).symm.trans hf
      refine lv_aload_n hx hb dX7_headingFor_18 rfl (lv_at hl 0 rfl) ?_
      refine lv_iload_n hx hb dX7_headingFor_19 rfl (lv_at hl 1 rfl) ?_
      refine lv_iconst (v := (2 : Int32)) hx hb dX7_headingFor_20 (by decide) ?_
      obtain ⟨q11, hq11, hf⟩ := bd_some hf
      refine kr_S (st1 := [.int q11, .ref (gm g 0)]) (va_runS (As := [.int a1, .int (2 : Int32)]) (rest := [.ref (gm g 0)]) ⟨hx, hb, hml, hown, hts⟩ (ct_X7_at l n a1 (2 : Int32) q11 hq11) (va_cwS 2 hts gX7_headingFor_X7_at rfl rfl rfl hn_X7_at ⟨Nat.le_of_ble_eq_true rfl, Nat.le_of_ble_eq_true rfl⟩) ⟨bl_N, pr_N rfl hNW⟩ rfl rfl hl.1 rfl (lv_room (Nat.le_of_ble_eq_true rfl)) dX7_headingFor_21 ⟨Nat.le_refl _, Nat.le_refl _⟩) rfl (fun hn12 => ?_)
      refine lv_iconst (v := (4 : Int32)) hx hb dX7_headingFor_24 (by decide) ?_
      refine lv_iload_n hx hb dX7_headingFor_25 rfl (lv_at hl 2 rfl) ?_
      obtain ⟨q13, hq13, hf⟩ := bd_some hf
      refine kr_W (st1 := [.int q13.1]) (va_runV (As := [.int q11, .int (4 : Int32), .int a2]) (rest := []) ⟨hx, hb, hml, hown, hts⟩ (ct_X7_best l n g m_now m_kept m_aside m_isKept m_found m_steps m_queue m_lives m_treads m_tape m_taped m_begins m_ends m_sort m_value m_isWrong m_items m_itemMany m_seedThen m_groundThen m_widths m_sizes m_numbers m_moved q11 (4 : Int32) a2 q13 hq13) (cwV 3 hts gX7_headingFor_X7_best rfl rfl rfl hd_X7_best ⟨Nat.le_of_ble_eq_true rfl, Nat.le_of_ble_eq_true rfl⟩) ⟨bl_M, va_recv hK hP (ci := 5) (q0 := 0) rfl k_md, pr_M rfl hB hP hS⟩ rfl rfl hl.1 rfl (lv_room (Nat.le_of_ble_eq_true rfl)) dX7_headingFor_26 ⟨Nat.le_refl _, Nat.le_refl _⟩) hS rfl (fun hn14 H locs hP hS => ?_)
      have hP : va_P g.1 vwCl (mw g (q13.2.1, m_kept, q13.2.2, m_isKept, m_found, m_steps, m_queue, m_lives, m_treads, m_tape, m_taped, m_begins, m_ends, m_sort, m_value, m_isWrong, m_items, m_itemMany, m_seedThen, m_groundThen, m_widths, m_sizes, m_numbers, m_moved)) H := hP
      refine lv_goto (tgt := 38) hx hb dX7_headingFor_29 (by decide) ?_
      have hres : (q13.1, q13.2.1, q13.2.2, m_found) = res := (Option.some.inj hf)
      have hP := w_eq (congrArg (fun z => mw g (z.2.1, m_kept, z.2.2.1, m_isKept, z.2.2.2, m_steps, m_queue, m_lives, m_treads, m_tape, m_taped, m_begins, m_ends, m_sort, m_value, m_isWrong, m_items, m_itemMany, m_seedThen, m_groundThen, m_widths, m_sizes, m_numbers, m_moved)) hres) hP
      exact W.iret (v := q13.1) hx hb hr (fun t ht hW => ⟨congrArg (fun z => Outcome.returned (some (Value.int z.1))) hres, trivial, by rw [ht]; exact hP, hS.F ht⟩) hS.2.2 dX7_headingFor_38
set_option maxHeartbeats 4000000 in
set_option maxRecDepth 100000 in
theorem ct_X7_joinsFrom (l : Launch) (n : Nat) (g : GM) (m_now : Nat → Int32) (m_kept : Nat → Int32) (m_aside : Nat → Int32) (m_isKept : Int32) (m_found : Nat → Int32) (m_steps : Nat → Int32) (m_queue : Nat → Int32) (m_lives : Nat → Int32) (m_treads : Nat → Int32) (m_tape : Nat → Int32) (m_taped : Int32) (m_begins : Int32) (m_ends : Int32) (m_sort : Int32) (m_value : Int32) (m_isWrong : Int32) (m_items : Nat → Int32) (m_itemMany : Int32) (m_seedThen : Int32) (m_groundThen : Nat → Int32) (m_widths : Nat → Int32) (m_sizes : Nat → Int32) (m_numbers : Nat → Int32) (m_moved : Nat → Int32) (a1 : Int32) (a2 : Int32) (a3 : Int32) (a4 : Int32) (a5 : Int32) (res : Int32 × (Nat → Int32) × (Nat → Int32) × (Nat → Int32) × (Nat → Int32)) (hf : fX7_joinsFrom n a1 a2 a3 a4 a5 m_now m_aside m_steps m_queue m_lives m_treads = some res) : Met l yX7_joinsFrom wsX7_joinsFrom ({ frames := 9, cells := 0, slots := 0, locals := 204 }) (va_Pc [.ref (gm g 0), .int a1, .int a2, .int a3, .int a4, .int a5] (mI g (m_now, m_kept, m_aside, m_isKept, m_found, m_steps, m_queue, m_lives, m_treads, m_tape, m_taped, m_begins, m_ends, m_sort, m_value, m_isWrong, m_items, m_itemMany, m_seedThen, m_groundThen, m_widths, m_sizes, m_numbers, m_moved))) (qW (some (.int res.1)) (narrow .boolean (.int res.1) = .int res.1) g.1 (mw g (res.2.1, m_kept, res.2.2.1, m_isKept, m_found, res.2.2.2.1, res.2.2.2.2, m_lives, m_treads, m_tape, m_taped, m_begins, m_ends, m_sort, m_value, m_isWrong, m_items, m_itemMany, m_seedThen, m_groundThen, m_widths, m_sizes, m_numbers, m_moved)) (mA g)) 0 0 (mA g) := by
  refine Met.ofW (cc := cX7_joinsFrom) (maxL := 8) (ret := (some .boolean)) (by decide) rfl ?_
  intro p e s m args below meth c s₁ B hml hv
  obtain ⟨rfl, hI⟩ := hv
  have hx := B.exec
  have hb := B.bytes
  have hr := B.returns
  have hts := atoms_spec (ws := wsX7_joinsFrom) B.pre
  have hown : s.vm.findClass RX7 = some m.cls := findClass_of_methodNamed B.named
  have hlocks := B.notSynchronized
  have hP := hI.1
  have hB := hI.2
  have hK := hB.1
  have hNW := hB.2.1
  have hS : va_S (mA g) s.heap s.heap [] := va_S.rf
  have hw0 := hts (.fieldLink RX7 9 "SownPathsModel" "now" "[I") (by decide +kernel)
  have hw1 := hts (.fieldLink RX7 16 "SownPathsModel" "aside" "[I") (by decide +kernel)
  have iwX7 : ∀ w ∈ wsX70, w ∈ wsX7_joinsFrom := fun w h => List.mem_cons_of_mem _ (List.mem_append_right _ h)
  have hl := lv_entry ([.ref (gm g 0), .int a1, .int a2, .int a3, .int a4, .int a5]) (n := 8) (Nat.le_of_ble_eq_true rfl)
  rw [lg_entry_eq]
  generalize (lg_sl ([.ref (gm g 0), .int a1, .int a2, .int a3, .int a4, .int a5]) ++ List.replicate (8 - (lg_sl ([.ref (gm g 0), .int a1, .int a2, .int a3, .int a4, .int a5])).length) Slot.unset).toArray = ls at hl ⊢
  have hl : lv_has ls 8 [(0, .ref (gm g 0)), (1, .int a1), (2, .int a2), (3, .int a3), (4, .int a4), (5, .int a5)] := hl
  unfold fX7_joinsFrom at hf
  refine lv_aload_n hx hb dX7_joinsFrom_0 rfl (lv_at hl 0 rfl) ?_
  refine va_get (D := g.1) (ci := 5) (v := .ref (gm g 1)) (C := RX7) (T := TX7) (N := 27) hx hb hts iwX7 hown hK hP 0 k_md rfl 0 (by decide) hw0 (fun _ h9 => h9) rfl dX7_joinsFrom_1 ?_
  refine lv_aload_n hx hb dX7_joinsFrom_4 rfl (lv_at hl 0 rfl) ?_
  refine va_get (D := g.1) (ci := 5) (v := .ref (gm g 3)) (C := RX7) (T := TX7) (N := 27) hx hb hts iwX7 hown hK hP 0 k_md rfl 2 (by decide) hw1 (fun _ h9 => h9) rfl dX7_joinsFrom_5 ?_
  obtain ⟨q1, hq1, hf⟩ := bd_some hf
  refine kr_W (st1 := []) (va_runS (As := [.ref (gm g 1), .ref (gm g 3)]) (rest := []) ⟨hx, hb, hml, hown, hts⟩ (ct_X7_copyRow l n g (m_now, m_kept, m_aside, m_isKept, m_found, m_steps, m_queue, m_lives, m_treads, m_tape, m_taped, m_begins, m_ends, m_sort, m_value, m_isWrong, m_items, m_itemMany, m_seedThen, m_groundThen, m_widths, m_sizes, m_numbers, m_moved) 3 117 m_aside k_aside 1 117 m_now k_now (by decide) q1 hq1) (va_cwS 2 hts gX7_joinsFrom_X7_copyRow rfl rfl rfl hn_X7_copyRow ⟨Nat.le_of_ble_eq_true rfl, Nat.le_of_ble_eq_true rfl⟩) ⟨bl_M, pr_M rfl hB hP hS⟩ rfl rfl hl.1 rfl (lv_room (Nat.le_of_ble_eq_true rfl)) dX7_joinsFrom_8 ⟨Nat.le_refl _, Nat.le_refl _⟩) hS rfl (fun hn2 H locs hP hS => ?_)
  have hP : va_P g.1 vwCl (mw g (m_now, m_kept, q1, m_isKept, m_found, m_steps, m_queue, m_lives, m_treads, m_tape, m_taped, m_begins, m_ends, m_sort, m_value, m_isWrong, m_items, m_itemMany, m_seedThen, m_groundThen, m_widths, m_sizes, m_numbers, m_moved)) H := w_eq (k_set_aside q1) hP
  refine lv_aload_n hx hb dX7_joinsFrom_11 rfl (lv_at hl 0 rfl) ?_
  refine lv_iload_n hx hb dX7_joinsFrom_12 rfl (lv_at hl 1 rfl) ?_
  refine lv_iload_n hx hb dX7_joinsFrom_13 rfl (lv_at hl 2 rfl) ?_
  refine lv_iconst (v := (0 : Int32)) hx hb dX7_joinsFrom_14 (by decide) ?_
  refine lv_iconst (v := (0 : Int32)) hx hb dX7_joinsFrom_15 (by decide) ?_
  obtain ⟨q3, hq3, hf⟩ := bd_some hf
  refine kr_W (st1 := [.int q3.1]) (va_runV (As := [.int a1, .int a2, .int (0 : Int32), .int (0 : Int32)]) (rest := []) ⟨hx, hb, hml, hown, hts⟩ (ct_X7_comes l n g m_now m_kept q1 m_isKept m_found m_steps m_queue m_lives m_treads m_tape m_taped m_begins m_ends m_sort m_value m_isWrong m_items m_itemMany m_seedThen m_groundThen m_widths m_sizes m_numbers m_moved a1 a2 (0 : Int32) (0 : Int32) q3 hq3) (cwV 4 hts gX7_joinsFrom_X7_comes rfl rfl rfl hd_X7_comes ⟨Nat.le_of_ble_eq_true rfl, Nat.le_of_ble_eq_true rfl⟩) ⟨bl_M, va_recv hK hP (ci := 5) (q0 := 0) rfl k_md, pr_M rfl hB hP hS⟩ rfl rfl hl.1 rfl (lv_room (Nat.le_of_ble_eq_true rfl)) dX7_joinsFrom_16 ⟨Nat.le_refl _, Nat.le_refl _⟩) hS rfl (fun hn4 H locs hP hS => ?_)
  have hP : va_P g.1 vwCl (mw g (q3.2, m_kept, q1, m_isKept, m_found, m_steps, m_queue, m_lives, m_treads, m_tape, m_taped, m_begins, m_ends, m_sort, m_value, m_isWrong, m_items, m_itemMany, m_seedThen, m_groundThen, m_widths, m_sizes, m_numbers, m_moved)) H := hP
  refine lv_istore (lv' := [(6, .int q3.1), (0, .ref (gm g 0)), (1, .int a1), (2, .int a2), (3, .int a3), (4, .int a4), (5, .int a5)]) hx hb dX7_joinsFrom_19 hl (by decide) rfl (fun ls hl => ?_)
  refine lv_aload_n hx hb dX7_joinsFrom_21 rfl (lv_at hl 1 rfl) ?_
  refine lv_iload hx hb dX7_joinsFrom_22 (lv_at hl 6 rfl) ?_
  obtain ⟨q5, hq5, hf⟩ := bd_some hf
  refine kr_W (st1 := []) (va_runV (As := [.int a5]) (rest := []) ⟨hx, hb, hml, hown, hts⟩ (ct_X7_seasons l n g q3.2 m_kept q1 m_isKept m_found m_steps m_queue m_lives m_treads m_tape m_taped m_begins m_ends m_sort m_value m_isWrong m_items m_itemMany m_seedThen m_groundThen m_widths m_sizes m_numbers m_moved a5 q5 hq5) (cwV 1 hts gX7_joinsFrom_X7_seasons rfl rfl rfl hd_X7_seasons ⟨Nat.le_of_ble_eq_true rfl, Nat.le_of_ble_eq_true rfl⟩) ⟨bl_M, va_recv hK hP (ci := 5) (q0 := 0) rfl k_md, pr_M rfl hB hP hS⟩ rfl rfl hl.1 rfl (lv_room (Nat.le_of_ble_eq_true rfl)) dX7_joinsFrom_24 ⟨Nat.le_refl _, Nat.le_refl _⟩) hS rfl (fun hn6 H locs hP hS => ?_)
  have hP : va_P g.1 vwCl (mw g (q5, m_kept, q1, m_isKept, m_found, m_steps, m_queue, m_lives, m_treads, m_tape, m_taped, m_begins, m_ends, m_sort, m_value, m_isWrong, m_items, m_itemMany, m_seedThen, m_groundThen, m_widths, m_sizes, m_numbers, m_moved)) H := hP
  refine lv_iload hx hb dX7_joinsFrom_27 (lv_at hl 0 rfl) ?_
  refine lv_if_lt (tgt := 46) hx hb dX7_joinsFrom_29 (by decide) (fun hc7 => ?_) (fun hc7 => ?_)
  · have hf := (if_pos hc7).symm.trans hf
    refine lv_iconst (v := (0 : Int32)) hx hb dX7_joinsFrom_46 (by decide) ?_
    refine lv_istore (lv' := [(7, .int (0 : Int32)), (6, .int q3.1), (0, .ref (gm g 0)), (1, .int a1), (2, .int a2), (3, .int a3), (4, .int a4), (5, .int a5)]) hx hb dX7_joinsFrom_47 hl (by decide) rfl (fun ls hl => ?_)
    refine lv_aload_n hx hb dX7_joinsFrom_49 rfl (lv_at hl 2 rfl) ?_
    refine va_get (D := g.1) (ci := 5) (v := .ref (gm g 3)) (C := RX7) (T := TX7) (N := 27) hx hb hts iwX7 hown hK hP 0 k_md rfl 2 (by decide) hw1 (fun _ h9 => h9) rfl dX7_joinsFrom_50 ?_
    refine lv_aload_n hx hb dX7_joinsFrom_53 rfl (lv_at hl 2 rfl) ?_
    refine va_get (D := g.1) (ci := 5) (v := .ref (gm g 1)) (C := RX7) (T := TX7) (N := 27) hx hb hts iwX7 hown hK hP 0 k_md rfl 0 (by decide) hw0 (fun _ h9 => h9) rfl dX7_joinsFrom_54 ?_
    obtain ⟨q8, hq8, hf⟩ := bd_some hf
    refine kr_W (st1 := []) (va_runS (As := [.ref (gm g 3), .ref (gm g 1)]) (rest := []) ⟨hx, hb, hml, hown, hts⟩ (ct_X7_copyRow l n g (q5, m_kept, q1, m_isKept, m_found, m_steps, m_queue, m_lives, m_treads, m_tape, m_taped, m_begins, m_ends, m_sort, m_value, m_isWrong, m_items, m_itemMany, m_seedThen, m_groundThen, m_widths, m_sizes, m_numbers, m_moved) 1 117 q5 k_now 3 117 q1 k_aside (by decide) q8 hq8) (va_cwS 2 hts gX7_joinsFrom_X7_copyRow rfl rfl rfl hn_X7_copyRow ⟨Nat.le_of_ble_eq_true rfl, Nat.le_of_ble_eq_true rfl⟩) ⟨bl_M, pr_M rfl hB hP hS⟩ rfl rfl hl.1 rfl (lv_room (Nat.le_of_ble_eq_true rfl)) dX7_joinsFrom_57 ⟨Nat.le_refl _, Nat.le_refl _⟩) hS rfl (fun hn9 H locs hP hS => ?_)
    have hP : va_P g.1 vwCl (mw g (q8, m_kept, q1, m_isKept, m_found, m_steps, m_queue, m_lives, m_treads, m_tape, m_taped, m_begins, m_ends, m_sort, m_value, m_isWrong, m_items, m_itemMany, m_seedThen, m_groundThen, m_widths, m_sizes, m_numbers, m_moved)) H := w_eq (k_set_now q8) hP
    refine lv_iload hx hb dX7_joinsFrom_60 (lv_at hl 0 rfl) ?_
    have hres : ((0 : Int32), q8, q1, m_steps, m_queue) = res := (Option.some.inj hf)
    have hnr : narrow .boolean (.int (0 : Int32)) = .int (0 : Int32) := rfl
    have hP := w_eq (congrArg (fun z => mw g (z.2.1, m_kept, z.2.2.1, m_isKept, m_found, z.2.2.2.1, z.2.2.2.2, m_lives, m_treads, m_tape, m_taped, m_begins, m_ends, m_sort, m_value, m_isWrong, m_items, m_itemMany, m_seedThen, m_groundThen, m_widths, m_sizes, m_numbers, m_moved)) hres) hP
    exact W.zret (v := (0 : Int32)) hx hb hr hnr (fun t ht hW => ⟨congrArg (fun z => Outcome.returned (some (Value.int z.1))) hres, Eq.mp (congrArg (fun z => narrow .boolean (.int z.1) = .int z.1) hres) hnr, by rw [ht]; exact hP, hS.F ht⟩) hS.2.2 dX7_joinsFrom_62
  · have hf := (if_neg hc7).symm.trans hf
    refine lv_aload_n hx hb dX7_joinsFrom_32 rfl (lv_at hl 1 rfl) ?_
    refine lv_iload_n hx hb dX7_joinsFrom_33 rfl (lv_at hl 4 rfl) ?_
    refine lv_iload hx hb dX7_joinsFrom_34 (lv_at hl 5 rfl) ?_
    obtain ⟨q10, hq10, hf⟩ := bd_some hf
    refine kr_W (st1 := [.int q10.1]) (va_runV (As := [.int a3, .int a4]) (rest := []) ⟨hx, hb, hml, hown, hts⟩ (ct_X7_areJoined l n g q5 m_kept q1 m_isKept m_found m_steps m_queue m_lives m_treads m_tape m_taped m_begins m_ends m_sort m_value m_isWrong m_items m_itemMany m_seedThen m_groundThen m_widths m_sizes m_numbers m_moved a3 a4 q10 hq10) (cwV 2 hts gX7_joinsFrom_X7_areJoined rfl rfl rfl hd_X7_areJoined ⟨Nat.le_of_ble_eq_true rfl, Nat.le_of_ble_eq_true rfl⟩) ⟨bl_M, va_recv hK hP (ci := 5) (q0 := 0) rfl k_md, pr_M rfl hB hP hS⟩ rfl rfl hl.1 rfl (lv_room (Nat.le_of_ble_eq_true rfl)) dX7_joinsFrom_36 ⟨Nat.le_refl _, Nat.le_refl _⟩) hS rfl (fun hn11 H locs hP hS => ?_)
    have hP : va_P g.1 vwCl (mw g (q5, m_kept, q1, m_isKept, m_found, q10.2.1, q10.2.2, m_lives, m_treads, m_tape, m_taped, m_begins, m_ends, m_sort, m_value, m_isWrong, m_items, m_itemMany, m_seedThen, m_groundThen, m_widths, m_sizes, m_numbers, m_moved)) H := hP
    refine lv_if_eq (tgt := 46) hx hb dX7_joinsFrom_39 (by decide) (fun hc12 => ?_) (fun hc12 => ?_)
    · have hf := (if_pos hc12).symm.trans hf
      refine lv_iconst (v := (0 : Int32)) hx hb dX7_joinsFrom_46 (by decide) ?_
      refine lv_istore (lv' := [(7, .int (0 : Int32)), (6, .int q3.1), (0, .ref (gm g 0)), (1, .int a1), (2, .int a2), (3, .int a3), (4, .int a4), (5, .int a5)]) hx hb dX7_joinsFrom_47 hl (by decide) rfl (fun ls hl => ?_)
      refine lv_aload_n hx hb dX7_joinsFrom_49 rfl (lv_at hl 2 rfl) ?_
      refine va_get (D := g.1) (ci := 5) (v := .ref (gm g 3)) (C := RX7) (T := TX7) (N := 27) hx hb hts iwX7 hown hK hP 0 k_md rfl 2 (by decide) hw1 (fun _ h9 => h9) rfl dX7_joinsFrom_50 ?_
      refine lv_aload_n hx hb dX7_joinsFrom_53 rfl (lv_at hl 2 rfl) ?_
      refine va_get (D := g.1) (ci := 5) (v := .ref (gm g 1)) (C := RX7) (T := TX7) (N := 27) hx hb hts iwX7 hown hK hP 0 k_md rfl 0 (by decide) hw0 (fun _ h9 => h9) rfl dX7_joinsFrom_54 ?_
      obtain ⟨q13, hq13, hf⟩ := bd_some hf
      refine kr_W (st1 := []) (va_runS (As := [.ref (gm g 3), .ref (gm g 1)]) (rest := []) ⟨hx, hb, hml, hown, hts⟩ (ct_X7_copyRow l n g (q5, m_kept, q1, m_isKept, m_found, q10.2.1, q10.2.2, m_lives, m_treads, m_tape, m_taped, m_begins, m_ends, m_sort, m_value, m_isWrong, m_items, m_itemMany, m_seedThen, m_groundThen, m_widths, m_sizes, m_numbers, m_moved) 1 117 q5 k_now 3 117 q1 k_aside (by decide) q13 hq13) (va_cwS 2 hts gX7_joinsFrom_X7_copyRow rfl rfl rfl hn_X7_copyRow ⟨Nat.le_of_ble_eq_true rfl, Nat.le_of_ble_eq_true rfl⟩) ⟨bl_M, pr_M rfl hB hP hS⟩ rfl rfl hl.1 rfl (lv_room (Nat.le_of_ble_eq_true rfl)) dX7_joinsFrom_57 ⟨Nat.le_refl _, Nat.le_refl _⟩) hS rfl (fun hn14 H locs hP hS => ?_)
      have hP : va_P g.1 vwCl (mw g (q13, m_kept, q1, m_isKept, m_found, q10.2.1, q10.2.2, m_lives, m_treads, m_tape, m_taped, m_begins, m_ends, m_sort, m_value, m_isWrong, m_items, m_itemMany, m_seedThen, m_groundThen, m_widths, m_sizes, m_numbers, m_moved)) H := w_eq (k_set_now q13) hP
      refine lv_iload hx hb dX7_joinsFrom_60 (lv_at hl 0 rfl) ?_
      have hres : ((0 : Int32), q13, q1, q10.2.1, q10.2.2) = res := (Option.some.inj hf)
      have hnr : narrow .boolean (.int (0 : Int32)) = .int (0 : Int32) := rfl
      have hP := w_eq (congrArg (fun z => mw g (z.2.1, m_kept, z.2.2.1, m_isKept, m_found, z.2.2.2.1, z.2.2.2.2, m_lives, m_treads, m_tape, m_taped, m_begins, m_ends, m_sort, m_value, m_isWrong, m_items, m_itemMany, m_seedThen, m_groundThen, m_widths, m_sizes, m_numbers, m_moved)) hres) hP
      exact W.zret (v := (0 : Int32)) hx hb hr hnr (fun t ht hW => ⟨congrArg (fun z => Outcome.returned (some (Value.int z.1))) hres, Eq.mp (congrArg (fun z => narrow .boolean (.int z.1) = .int z.1) hres) hnr, by rw [ht]; exact hP, hS.F ht⟩) hS.2.2 dX7_joinsFrom_62
    · have hf := (if_neg hc12).symm.trans hf
      refine lv_iconst (v := (1 : Int32)) hx hb dX7_joinsFrom_42 (by decide) ?_
      refine lv_goto (tgt := 47) hx hb dX7_joinsFrom_43 (by decide) ?_
      refine lv_istore (lv' := [(7, .int (1 : Int32)), (6, .int q3.1), (0, .ref (gm g 0)), (1, .int a1), (2, .int a2), (3, .int a3), (4, .int a4), (5, .int a5)]) hx hb dX7_joinsFrom_47 hl (by decide) rfl (fun ls hl => ?_)
      refine lv_aload_n hx hb dX7_joinsFrom_49 rfl (lv_at hl 2 rfl) ?_
      refine va_get (D := g.1) (ci := 5) (v := .ref (gm g 3)) (C := RX7) (T := TX7) (N := 27) hx hb hts iwX7 hown hK hP 0 k_md rfl 2 (by decide) hw1 (fun _ h9 => h9) rfl dX7_joinsFrom_50 ?_
      refine lv_aload_n hx hb dX7_joinsFrom_53 rfl (lv_at hl 2 rfl) ?_
      refine va_get (D := g.1) (ci := 5) (v := .ref (gm g 1)) (C := RX7) (T := TX7) (N := 27) hx hb hts iwX7 hown hK hP 0 k_md rfl 0 (by decide) hw0 (fun _ h9 => h9) rfl dX7_joinsFrom_54 ?_
      obtain ⟨q15, hq15, hf⟩ := bd_some hf
      refine kr_W (st1 := []) (va_runS (As := [.ref (gm g 3), .ref (gm g 1)]) (rest := []) ⟨hx, hb, hml, hown, hts⟩ (ct_X7_copyRow l n g (q5, m_kept, q1, m_isKept, m_found, q10.2.1, q10.2.2, m_lives, m_treads, m_tape, m_taped, m_begins, m_ends, m_sort, m_value, m_isWrong, m_items, m_itemMany, m_seedThen, m_groundThen, m_widths, m_sizes, m_numbers, m_moved) 1 117 q5 k_now 3 117 q1 k_aside (by decide) q15 hq15) (va_cwS 2 hts gX7_joinsFrom_X7_copyRow rfl rfl rfl hn_X7_copyRow ⟨Nat.le_of_ble_eq_true rfl, Nat.le_of_ble_eq_true rfl⟩) ⟨bl_M, pr_M rfl hB hP hS⟩ rfl rfl hl.1 rfl (lv_room (Nat.le_of_ble_eq_true rfl)) dX7_joinsFrom_57 ⟨Nat.le_refl _, Nat.le_refl _⟩) hS rfl (fun hn16 H locs hP hS => ?_)
      have hP : va_P g.1 vwCl (mw g (q15, m_kept, q1, m_isKept, m_found, q10.2.1, q10.2.2, m_lives, m_treads, m_tape, m_taped, m_begins, m_ends, m_sort, m_value, m_isWrong, m_items, m_itemMany, m_seedThen, m_groundThen, m_widths, m_sizes, m_numbers, m_moved)) H := w_eq (k_set_now q15) hP
      refine lv_iload hx hb dX7_joinsFrom_60 (lv_at hl 0 rfl) ?_
      have hres : ((1 : Int32), q15, q1, q10.2.1, q10.2.2) = res := (Option.some.inj hf)
      have hnr : narrow .boolean (.int (1 : Int32)) = .int (1 : Int32) := rfl
      have hP := w_eq (congrArg (fun z => mw g (z.2.1, m_kept, z.2.2.1, m_isKept, m_found, z.2.2.2.1, z.2.2.2.2, m_lives, m_treads, m_tape, m_taped, m_begins, m_ends, m_sort, m_value, m_isWrong, m_items, m_itemMany, m_seedThen, m_groundThen, m_widths, m_sizes, m_numbers, m_moved)) hres) hP
      exact W.zret (v := (1 : Int32)) hx hb hr hnr (fun t ht hW => ⟨congrArg (fun z => Outcome.returned (some (Value.int z.1))) hres, Eq.mp (congrArg (fun z => narrow .boolean (.int z.1) = .int z.1) hres) hnr, by rw [ht]; exact hP, hS.F ht⟩) hS.2.2 dX7_joinsFrom_62
set_option maxHeartbeats 4000000 in
set_option maxRecDepth 100000 in
theorem ct_X7_sowFor (l : Launch) (n : Nat) (g : GM) (m_now : Nat → Int32) (m_kept : Nat → Int32) (m_aside : Nat → Int32) (m_isKept : Int32) (m_found : Nat → Int32) (m_steps : Nat → Int32) (m_queue : Nat → Int32) (m_lives : Nat → Int32) (m_treads : Nat → Int32) (m_tape : Nat → Int32) (m_taped : Int32) (m_begins : Int32) (m_ends : Int32) (m_sort : Int32) (m_value : Int32) (m_isWrong : Int32) (m_items : Nat → Int32) (m_itemMany : Int32) (m_seedThen : Int32) (m_groundThen : Nat → Int32) (m_widths : Nat → Int32) (m_sizes : Nat → Int32) (m_numbers : Nat → Int32) (m_moved : Nat → Int32) (a1 : Int32) (a2 : Int32) (a3 : Int32) (a4 : Int32) (res : Int32 × (Nat → Int32) × (Nat → Int32) × (Nat → Int32) × (Nat → Int32) × (Nat → Int32)) (hf : fX7_sowFor n a1 a2 a3 a4 m_now m_aside m_found m_steps m_queue m_lives m_treads = some res) : Met l yX7_sowFor wsX7_sowFor ({ frames := 10, cells := 0, slots := 0, locals := 231 }) (va_Pc [.ref (gm g 0), .int a1, .int a2, .int a3, .int a4] (mI g (m_now, m_kept, m_aside, m_isKept, m_found, m_steps, m_queue, m_lives, m_treads, m_tape, m_taped, m_begins, m_ends, m_sort, m_value, m_isWrong, m_items, m_itemMany, m_seedThen, m_groundThen, m_widths, m_sizes, m_numbers, m_moved))) (qW (some (.int res.1)) True g.1 (mw g (res.2.1, m_kept, res.2.2.1, m_isKept, res.2.2.2.1, res.2.2.2.2.1, res.2.2.2.2.2, m_lives, m_treads, m_tape, m_taped, m_begins, m_ends, m_sort, m_value, m_isWrong, m_items, m_itemMany, m_seedThen, m_groundThen, m_widths, m_sizes, m_numbers, m_moved)) (mA g)) 0 0 (mA g) := by
  refine Met.ofW (cc := cX7_sowFor) (maxL := 6) (ret := (some .int)) (by decide) rfl ?_
  intro p e s m args below meth c s₁ B hml hv
  obtain ⟨rfl, hI⟩ := hv
  have hx := B.exec
  have hb := B.bytes
  have hr := B.returns
  have hts := atoms_spec (ws := wsX7_sowFor) B.pre
  have hown : s.vm.findClass RX7 = some m.cls := findClass_of_methodNamed B.named
  have hlocks := B.notSynchronized
  have hP := hI.1
  have hB := hI.2
  have hK := hB.1
  have hNW := hB.2.1
  have hS : va_S (mA g) s.heap s.heap [] := va_S.rf
  have hw0 := hts (.constant RX7 95 (-1000001)) (by decide +kernel)
  have hw1 := hts (.fieldLink RX7 9 "SownPathsModel" "now" "[I") (by decide +kernel)
  have hw2 := hts (.constant RX7 100 (-1000004)) (by decide +kernel)
  have hw3 := hts (.constant RX7 151 (-1000002)) (by decide +kernel)
  have iwX7 : ∀ w ∈ wsX70, w ∈ wsX7_sowFor := fun w h => List.mem_cons_of_mem _ (List.mem_append_right _ h)
  have hl := lv_entry ([.ref (gm g 0), .int a1, .int a2, .int a3, .int a4]) (n := 6) (Nat.le_of_ble_eq_true rfl)
  rw [lg_entry_eq]
  generalize (lg_sl ([.ref (gm g 0), .int a1, .int a2, .int a3, .int a4]) ++ List.replicate (6 - (lg_sl ([.ref (gm g 0), .int a1, .int a2, .int a3, .int a4])).length) Slot.unset).toArray = ls at hl ⊢
  have hl : lv_has ls 6 [(0, .ref (gm g 0)), (1, .int a1), (2, .int a2), (3, .int a3), (4, .int a4)] := hl
  unfold fX7_sowFor at hf
  refine lv_iload_n hx hb dX7_sowFor_0 rfl (lv_at hl 1 rfl) ?_
  obtain ⟨q1, hq1, hf⟩ := bd_some hf
  refine kr_S (st1 := [.int q1]) (va_runS (As := [.int a1]) (rest := []) ⟨hx, hb, hml, hown, hts⟩ (ct_X7_isKind l n a1 q1 hq1) (va_cwS 1 hts gX7_sowFor_X7_isKind rfl rfl rfl hn_X7_isKind ⟨Nat.le_of_ble_eq_true rfl, Nat.le_of_ble_eq_true rfl⟩) ⟨bl_N, pr_N rfl hNW⟩ rfl rfl hl.1 rfl (lv_room (Nat.le_of_ble_eq_true rfl)) dX7_sowFor_1 ⟨Nat.le_refl _, Nat.le_refl _⟩) rfl (fun hn2 => ?_)
  refine lv_if_eq (tgt := 26) hx hb dX7_sowFor_4 (by decide) (fun hc3 => ?_) (fun hc3 => ?_)
  · have hf := (if_pos hc3).symm.trans hf
    refine lv_aload_n hx hb dX7_sowFor_26 rfl (lv_at hl 0 rfl) ?_
    refine lv_ldc (v := (-1000001 : Int32)) hx hb hown hw0 dX7_sowFor_27 ?_
    obtain ⟨q4, hq4, hf⟩ := bd_some hf
    refine kr_W (st1 := [.int q4.1]) (va_runV (As := [.int (-1000001 : Int32)]) (rest := []) ⟨hx, hb, hml, hown, hts⟩ (ct_X7_finding l n g m_now m_kept m_aside m_isKept m_found m_steps m_queue m_lives m_treads m_tape m_taped m_begins m_ends m_sort m_value m_isWrong m_items m_itemMany m_seedThen m_groundThen m_widths m_sizes m_numbers m_moved (-1000001 : Int32) q4 hq4) (cwV 1 hts gX7_sowFor_X7_finding rfl rfl rfl hd_X7_finding ⟨Nat.le_of_ble_eq_true rfl, Nat.le_of_ble_eq_true rfl⟩) ⟨bl_M, va_recv hK hP (ci := 5) (q0 := 0) rfl k_md, pr_M rfl hB hP hS⟩ rfl rfl hl.1 rfl (lv_room (Nat.le_of_ble_eq_true rfl)) dX7_sowFor_29 ⟨Nat.le_refl _, Nat.le_refl _⟩) hS rfl (fun hn5 H locs hP hS => ?_)
    have hP : va_P g.1 vwCl (mw g (m_now, m_kept, m_aside, m_isKept, q4.2, m_steps, m_queue, m_lives, m_treads, m_tape, m_taped, m_begins, m_ends, m_sort, m_value, m_isWrong, m_items, m_itemMany, m_seedThen, m_groundThen, m_widths, m_sizes, m_numbers, m_moved)) H := hP
    have hres : (q4.1, m_now, m_aside, q4.2, m_steps, m_queue) = res := (Option.some.inj hf)
    have hP := w_eq (congrArg (fun z => mw g (z.2.1, m_kept, z.2.2.1, m_isKept, z.2.2.2.1, z.2.2.2.2.1, z.2.2.2.2.2, m_lives, m_treads, m_tape, m_taped, m_begins, m_ends, m_sort, m_value, m_isWrong, m_items, m_itemMany, m_seedThen, m_groundThen, m_widths, m_sizes, m_numbers, m_moved)) hres) hP
    exact W.iret (v := q4.1) hx hb hr (fun t ht hW => ⟨congrArg (fun z => Outcome.returned (some (Value.int z.1))) hres, trivial, by rw [ht]; exact hP, hS.F ht⟩) hS.2.2 dX7_sowFor_32
  · have hf := (if_neg hc3).symm.trans hf
    refine lv_iload_n hx hb dX7_sowFor_7 rfl (lv_at hl 2 rfl) ?_
    refine lv_iload_n hx hb dX7_sowFor_8 rfl (lv_at hl 3 rfl) ?_
    obtain ⟨q6, hq6, hf⟩ := bd_some hf
    refine kr_S (st1 := [.int q6]) (va_runS (As := [.int a2, .int a3]) (rest := []) ⟨hx, hb, hml, hown, hts⟩ (ct_X7_areCells l n a2 a3 q6 hq6) (va_cwS 2 hts gX7_sowFor_X7_areCells rfl rfl rfl hn_X7_areCells ⟨Nat.le_of_ble_eq_true rfl, Nat.le_of_ble_eq_true rfl⟩) ⟨bl_N, pr_N rfl hNW⟩ rfl rfl hl.1 rfl (lv_room (Nat.le_of_ble_eq_true rfl)) dX7_sowFor_9 ⟨Nat.le_refl _, Nat.le_refl _⟩) rfl (fun hn7 => ?_)
    refine lv_if_eq (tgt := 26) hx hb dX7_sowFor_12 (by decide) (fun hc8 => ?_) (fun hc8 => ?_)
    · have hf := (if_pos hc8).symm.trans hf
      refine lv_aload_n hx hb dX7_sowFor_26 rfl (lv_at hl 0 rfl) ?_
      refine lv_ldc (v := (-1000001 : Int32)) hx hb hown hw0 dX7_sowFor_27 ?_
      obtain ⟨q9, hq9, hf⟩ := bd_some hf
      refine kr_W (st1 := [.int q9.1]) (va_runV (As := [.int (-1000001 : Int32)]) (rest := []) ⟨hx, hb, hml, hown, hts⟩ (ct_X7_finding l n g m_now m_kept m_aside m_isKept m_found m_steps m_queue m_lives m_treads m_tape m_taped m_begins m_ends m_sort m_value m_isWrong m_items m_itemMany m_seedThen m_groundThen m_widths m_sizes m_numbers m_moved (-1000001 : Int32) q9 hq9) (cwV 1 hts gX7_sowFor_X7_finding rfl rfl rfl hd_X7_finding ⟨Nat.le_of_ble_eq_true rfl, Nat.le_of_ble_eq_true rfl⟩) ⟨bl_M, va_recv hK hP (ci := 5) (q0 := 0) rfl k_md, pr_M rfl hB hP hS⟩ rfl rfl hl.1 rfl (lv_room (Nat.le_of_ble_eq_true rfl)) dX7_sowFor_29 ⟨Nat.le_refl _, Nat.le_refl _⟩) hS rfl (fun hn10 H locs hP hS => ?_)
      have hP : va_P g.1 vwCl (mw g (m_now, m_kept, m_aside, m_isKept, q9.2, m_steps, m_queue, m_lives, m_treads, m_tape, m_taped, m_begins, m_ends, m_sort, m_value, m_isWrong, m_items, m_itemMany, m_seedThen, m_groundThen, m_widths, m_sizes, m_numbers, m_moved)) H := hP
      have hres : (q9.1, m_now, m_aside, q9.2, m_steps, m_queue) = res := (Option.some.inj hf)
      have hP := w_eq (congrArg (fun z => mw g (z.2.1, m_kept, z.2.2.1, m_isKept, z.2.2.2.1, z.2.2.2.2.1, z.2.2.2.2.2, m_lives, m_treads, m_tape, m_taped, m_begins, m_ends, m_sort, m_value, m_isWrong, m_items, m_itemMany, m_seedThen, m_groundThen, m_widths, m_sizes, m_numbers, m_moved)) hres) hP
      exact W.iret (v := q9.1) hx hb hr (fun t ht hW => ⟨congrArg (fun z => Outcome.returned (some (Value.int z.1))) hres, trivial, by rw [ht]; exact hP, hS.F ht⟩) hS.2.2 dX7_sowFor_32
    · have hf := (if_neg hc8).symm.trans hf
      refine lv_iload hx hb dX7_sowFor_15 (lv_at hl 4 rfl) ?_
      refine lv_iconst (v := (0 : Int32)) hx hb dX7_sowFor_17 (by decide) ?_
      refine lv_bipush (v := (30 : Int32)) hx hb dX7_sowFor_18 (by decide) ?_
      obtain ⟨q11, hq11, hf⟩ := bd_some hf
      refine kr_S (st1 := [.int q11]) (va_runS (As := [.int a4, .int (0 : Int32), .int (30 : Int32)]) (rest := []) ⟨hx, hb, hml, hown, hts⟩ (ct_X7_within l n a4 (0 : Int32) (30 : Int32) q11 hq11) (va_cwS 3 hts gX7_sowFor_X7_within rfl rfl rfl hn_X7_within ⟨Nat.le_of_ble_eq_true rfl, Nat.le_of_ble_eq_true rfl⟩) ⟨bl_N, pr_N rfl hNW⟩ rfl rfl hl.1 rfl (lv_room (Nat.le_of_ble_eq_true rfl)) dX7_sowFor_20 ⟨Nat.le_refl _, Nat.le_refl _⟩) rfl (fun hn12 => ?_)
      refine lv_if_ne (tgt := 33) hx hb dX7_sowFor_23 (by decide) (fun hc13 => ?_) (fun hc13 => ?_)
      · have hf := (if_neg hc13).symm.trans hf
        refine lv_aload_n hx hb dX7_sowFor_33 rfl (lv_at hl 0 rfl) ?_
        refine va_get (D := g.1) (ci := 5) (v := .ref (gm g 1)) (C := RX7) (T := TX7) (N := 27) hx hb hts iwX7 hown hK hP 0 k_md rfl 0 (by decide) hw1 (fun _ h9 => h9) rfl dX7_sowFor_34 ?_
        refine lv_iconst (v := (1 : Int32)) hx hb dX7_sowFor_37 (by decide) ?_
        refine va_iald (f := m_now) hx hb hK hP 1 0 k_now rfl (vi_lit (by decide)) dX7_sowFor_38 ?_
        refine lv_bipush (v := (8 : Int32)) hx hb dX7_sowFor_39 (by decide) ?_
        refine lv_icmp_ne (tgt := 51) hx hb dX7_sowFor_41 (by decide) (fun hc14 => ?_) (fun hc14 => ?_)
        · have hf := (if_neg hc14).symm.trans hf
          refine lv_iconst (v := (0 : Int32)) hx hb dX7_sowFor_51 (by decide) ?_
          refine lv_istore (lv' := [(5, .int (0 : Int32)), (0, .ref (gm g 0)), (1, .int a1), (2, .int a2), (3, .int a3), (4, .int a4)]) hx hb dX7_sowFor_52 hl (by decide) rfl (fun ls hl => ?_)
          refine lp_run hf (fun s15 => ∀ (H : Heap) (locs : List Loc) (ls : Array Slot), va_P g.1 vwCl (mw g (s15.2.1, m_kept, s15.2.2.1, m_isKept, m_found, s15.2.2.2.1, s15.2.2.2.2, m_lives, m_treads, m_tape, m_taped, m_begins, m_ends, m_sort, m_value, m_isWrong, m_items, m_itemMany, m_seedThen, m_groundThen, m_widths, m_sizes, m_numbers, m_moved)) H → va_S (mA g) s.heap H locs → lv_has ls 6 [(0, .ref (gm g 0)), (1, .int a1), (2, .int a2), (3, .int a3), (4, .int a4), (5, .int s15.1)] → W p l e (headSpec wsX7_sowFor ({ frames := 10, cells := 0, slots := 0, locals := 231 })).room s m ([.ref (gm g 0), .int a1, .int a2, .int a3, .int a4] : List Value).toArray below meth c H locs 0 0 (MQ below (qW (some (.int res.1)) True g.1 (mw g (res.2.1, m_kept, res.2.2.1, m_isKept, res.2.2.2.1, res.2.2.2.2.1, res.2.2.2.2.2, m_lives, m_treads, m_tape, m_taped, m_begins, m_ends, m_sort, m_value, m_isWrong, m_items, m_itemMany, m_seedThen, m_groundThen, m_widths, m_sizes, m_numbers, m_moved)) (mA g)) ([.ref (gm g 0), .int a1, .int a2, .int a3, .int a4] : List Value).toArray s 0 0 (mA g)) (F0 m 54 ls [])) (fun v16 => ∀ (H : Heap) (locs : List Loc) (ls : Array Slot), va_P g.1 vwCl (mw g (v16.2.1, m_kept, v16.2.2.1, m_isKept, m_found, v16.2.2.2.1, v16.2.2.2.2, m_lives, m_treads, m_tape, m_taped, m_begins, m_ends, m_sort, m_value, m_isWrong, m_items, m_itemMany, m_seedThen, m_groundThen, m_widths, m_sizes, m_numbers, m_moved)) H → va_S (mA g) s.heap H locs → lv_has ls 6 [(0, .ref (gm g 0)), (5, .int v16.1)] → W p l e (headSpec wsX7_sowFor ({ frames := 10, cells := 0, slots := 0, locals := 231 })).room s m ([.ref (gm g 0), .int a1, .int a2, .int a3, .int a4] : List Value).toArray below meth c H locs 0 0 (MQ below (qW (some (.int res.1)) True g.1 (mw g (res.2.1, m_kept, res.2.2.1, m_isKept, res.2.2.2.1, res.2.2.2.2.1, res.2.2.2.2.2, m_lives, m_treads, m_tape, m_taped, m_begins, m_ends, m_sort, m_value, m_isWrong, m_items, m_itemMany, m_seedThen, m_groundThen, m_widths, m_sizes, m_numbers, m_moved)) (mA g)) ([.ref (gm g 0), .int a1, .int a2, .int a3, .int a4] : List Value).toArray s 0 0 (mA g)) (F0 m 90 ls [])) ?_ ?_ _ _ _ hP hS (lv_sub hl [1, 2, 3, 4, 5, 0] rfl)
          · intro v16 hf H locs ls hP hS hl
            refine lv_iload hx hb dX7_sowFor_90 (lv_at hl 1 rfl) ?_
            refine lv_bipush (v := (36 : Int32)) hx hb dX7_sowFor_92 (by decide) ?_
            refine lv_icmp_ge (tgt := 102) hx hb dX7_sowFor_94 (by decide) (fun hc24 => ?_) (fun hc24 => ?_)
            · have hf := (if_pos hc24).symm.trans hf
              refine lv_aload_n hx hb dX7_sowFor_102 rfl (lv_at hl 0 rfl) ?_
              refine lv_ldc (v := (-1000004 : Int32)) hx hb hown hw2 dX7_sowFor_103 ?_
              obtain ⟨q25, hq25, hf⟩ := bd_some hf
              refine kr_W (st1 := [.int q25.1]) (va_runV (As := [.int (-1000004 : Int32)]) (rest := []) ⟨hx, hb, hml, hown, hts⟩ (ct_X7_finding l n g v16.2.1 m_kept v16.2.2.1 m_isKept m_found v16.2.2.2.1 v16.2.2.2.2 m_lives m_treads m_tape m_taped m_begins m_ends m_sort m_value m_isWrong m_items m_itemMany m_seedThen m_groundThen m_widths m_sizes m_numbers m_moved (-1000004 : Int32) q25 hq25) (cwV 1 hts gX7_sowFor_X7_finding rfl rfl rfl hd_X7_finding ⟨Nat.le_of_ble_eq_true rfl, Nat.le_of_ble_eq_true rfl⟩) ⟨bl_M, va_recv hK hP (ci := 5) (q0 := 0) rfl k_md, pr_M rfl hB hP hS⟩ rfl rfl hl.1 rfl (lv_room (Nat.le_of_ble_eq_true rfl)) dX7_sowFor_105 ⟨Nat.le_refl _, Nat.le_refl _⟩) hS rfl (fun hn26 H locs hP hS => ?_)
              have hP : va_P g.1 vwCl (mw g (v16.2.1, m_kept, v16.2.2.1, m_isKept, q25.2, v16.2.2.2.1, v16.2.2.2.2, m_lives, m_treads, m_tape, m_taped, m_begins, m_ends, m_sort, m_value, m_isWrong, m_items, m_itemMany, m_seedThen, m_groundThen, m_widths, m_sizes, m_numbers, m_moved)) H := hP
              have hres : (q25.1, v16.2.1, v16.2.2.1, q25.2, v16.2.2.2.1, v16.2.2.2.2) = res := (Option.some.inj hf)
              have hP := w_eq (congrArg (fun z => mw g (z.2.1, m_kept, z.2.2.1, m_isKept, z.2.2.2.1, z.2.2.2.2.1, z.2.2.2.2.2, m_lives, m_treads, m_tape, m_taped, m_begins, m_ends, m_sort, m_value, m_isWrong, m_items, m_itemMany, m_seedThen, m_groundThen, m_widths, m_sizes, m_numbers, m_moved)) hres) hP
              exact W.iret (v := q25.1) hx hb hr (fun t ht hW => ⟨congrArg (fun z => Outcome.returned (some (Value.int z.1))) hres, trivial, by rw [ht]; exact hP, hS.F ht⟩) hS.2.2 dX7_sowFor_108
            · have hf := (if_neg hc24).symm.trans hf
              refine lv_iload hx hb dX7_sowFor_97 (lv_at hl 1 rfl) ?_
              refine lv_goto (tgt := 108) hx hb dX7_sowFor_99 (by decide) ?_
              have hres : (v16.1, v16.2.1, v16.2.2.1, m_found, v16.2.2.2.1, v16.2.2.2.2) = res := (Option.some.inj hf)
              have hP := w_eq (congrArg (fun z => mw g (z.2.1, m_kept, z.2.2.1, m_isKept, z.2.2.2.1, z.2.2.2.2.1, z.2.2.2.2.2, m_lives, m_treads, m_tape, m_taped, m_begins, m_ends, m_sort, m_value, m_isWrong, m_items, m_itemMany, m_seedThen, m_groundThen, m_widths, m_sizes, m_numbers, m_moved)) hres) hP
              exact W.iret (v := v16.1) hx hb hr (fun t ht hW => ⟨congrArg (fun z => Outcome.returned (some (Value.int z.1))) hres, trivial, by rw [ht]; exact hP, hS.F ht⟩) hS.2.2 dX7_sowFor_108
          · intro s15 r1 hf hback1 hexit1 H locs ls hP hS hl
            refine lv_iload hx hb dX7_sowFor_54 (lv_at hl 5 rfl) ?_
            refine lv_bipush (v := (36 : Int32)) hx hb dX7_sowFor_56 (by decide) ?_
            refine lv_icmp_ge (tgt := 90) hx hb dX7_sowFor_58 (by decide) (fun hc17 => ?_) (fun hc17 => ?_)
            · have hf := (if_pos hc17).symm.trans hf
              exact hexit1 (s15.1, s15.2.1, s15.2.2.1, s15.2.2.2.1, s15.2.2.2.2) (Option.some.inj hf).symm H locs ls hP hS (lv_sub hl [0, 5] rfl)
            · have hf := (if_neg hc17).symm.trans hf
              refine lv_aload_n hx hb dX7_sowFor_61 rfl (lv_at hl 0 rfl) ?_
              refine lv_iload hx hb dX7_sowFor_62 (lv_at hl 5 rfl) ?_
              obtain ⟨q18, hq18, hf⟩ := bd_some hf
              refine kr_S (st1 := [.int q18]) (va_runV (As := [.int s15.1]) (rest := []) ⟨hx, hb, hml, hown, hts⟩ (ct_X7_isGrass l n g s15.2.1 m_kept s15.2.2.1 m_isKept m_found s15.2.2.2.1 s15.2.2.2.2 m_lives m_treads m_tape m_taped m_begins m_ends m_sort m_value m_isWrong m_items m_itemMany m_seedThen m_groundThen m_widths m_sizes m_numbers m_moved s15.1 q18 hq18) (cwV 1 hts gX7_sowFor_X7_isGrass rfl rfl rfl hd_X7_isGrass ⟨Nat.le_of_ble_eq_true rfl, Nat.le_of_ble_eq_true rfl⟩) ⟨bl_M, va_recv hK hP (ci := 5) (q0 := 0) rfl k_md, pr_M rfl hB hP hS⟩ rfl rfl hl.1 rfl (lv_room (Nat.le_of_ble_eq_true rfl)) dX7_sowFor_64 ⟨Nat.le_refl _, Nat.le_refl _⟩) rfl (fun hn19 => ?_)
              refine lv_if_eq (tgt := 84) hx hb dX7_sowFor_67 (by decide) (fun hc20 => ?_) (fun hc20 => ?_)
              · have hf := (if_pos hc20).symm.trans hf
                refine lv_iinc (v := (s15.1 + (1 : Int32))) (lv' := [(5, .int (s15.1 + (1 : Int32))), (0, .ref (gm g 0)), (1, .int a1), (2, .int a2), (3, .int a3), (4, .int a4)]) hx hb dX7_sowFor_84 hl (k := 5) rfl (congrArg (fun y => s15.1 + y) (by decide : Int32.ofInt (1) = (1 : Int32))) (by decide) rfl (fun ls hl => ?_)
                refine lv_goto (tgt := 54) hx hb dX7_sowFor_87 (by decide) ?_
                exact hback1 _ (Option.some.inj hf).symm H locs ls hP hS (lv_sub hl [1, 2, 3, 4, 5, 0] rfl)
              · have hf := (if_neg hc20).symm.trans hf
                refine lv_aload_n hx hb dX7_sowFor_70 rfl (lv_at hl 0 rfl) ?_
                refine lv_iload_n hx hb dX7_sowFor_71 rfl (lv_at hl 1 rfl) ?_
                refine lv_iload hx hb dX7_sowFor_72 (lv_at hl 5 rfl) ?_
                refine lv_iload_n hx hb dX7_sowFor_74 rfl (lv_at hl 2 rfl) ?_
                refine lv_iload_n hx hb dX7_sowFor_75 rfl (lv_at hl 3 rfl) ?_
                refine lv_iload hx hb dX7_sowFor_76 (lv_at hl 4 rfl) ?_
                obtain ⟨q21, hq21, hf⟩ := bd_some hf
                refine kr_W (st1 := [.int q21.1]) (va_runV (As := [.int a1, .int s15.1, .int a2, .int a3, .int a4]) (rest := []) ⟨hx, hb, hml, hown, hts⟩ (ct_X7_joinsFrom l n g s15.2.1 m_kept s15.2.2.1 m_isKept m_found s15.2.2.2.1 s15.2.2.2.2 m_lives m_treads m_tape m_taped m_begins m_ends m_sort m_value m_isWrong m_items m_itemMany m_seedThen m_groundThen m_widths m_sizes m_numbers m_moved a1 s15.1 a2 a3 a4 q21 hq21) (cwV 5 hts gX7_sowFor_X7_joinsFrom rfl rfl rfl hd_X7_joinsFrom ⟨Nat.le_of_ble_eq_true rfl, Nat.le_of_ble_eq_true rfl⟩) ⟨bl_M, va_recv hK hP (ci := 5) (q0 := 0) rfl k_md, pr_M rfl hB hP hS⟩ rfl rfl hl.1 rfl (lv_room (Nat.le_of_ble_eq_true rfl)) dX7_sowFor_78 ⟨Nat.le_refl _, Nat.le_refl _⟩) hS rfl (fun hn22 H locs hP hS => ?_)
                have hP : va_P g.1 vwCl (mw g (q21.2.1, m_kept, q21.2.2.1, m_isKept, m_found, q21.2.2.2.1, q21.2.2.2.2, m_lives, m_treads, m_tape, m_taped, m_begins, m_ends, m_sort, m_value, m_isWrong, m_items, m_itemMany, m_seedThen, m_groundThen, m_widths, m_sizes, m_numbers, m_moved)) H := hP
                refine lv_if_ne (tgt := 90) hx hb dX7_sowFor_81 (by decide) (fun hc23 => ?_) (fun hc23 => ?_)
                · have hf := (if_neg hc23).symm.trans hf
                  exact hexit1 (s15.1, q21.2.1, q21.2.2.1, q21.2.2.2.1, q21.2.2.2.2) (Option.some.inj hf).symm H locs ls hP hS (lv_sub hl [0, 5] rfl)
                · have hf := (if_pos hc23).symm.trans hf
                  refine lv_iinc (v := (s15.1 + (1 : Int32))) (lv' := [(5, .int (s15.1 + (1 : Int32))), (0, .ref (gm g 0)), (1, .int a1), (2, .int a2), (3, .int a3), (4, .int a4)]) hx hb dX7_sowFor_84 hl (k := 5) rfl (congrArg (fun y => s15.1 + y) (by decide : Int32.ofInt (1) = (1 : Int32))) (by decide) rfl (fun ls hl => ?_)
                  refine lv_goto (tgt := 54) hx hb dX7_sowFor_87 (by decide) ?_
                  exact hback1 _ (Option.some.inj hf).symm H locs ls hP hS (lv_sub hl [1, 2, 3, 4, 5, 0] rfl)
        · have hf := (if_pos hc14).symm.trans hf
          refine lv_aload_n hx hb dX7_sowFor_44 rfl (lv_at hl 0 rfl) ?_
          refine lv_ldc (v := (-1000002 : Int32)) hx hb hown hw3 dX7_sowFor_45 ?_
          obtain ⟨q27, hq27, hf⟩ := bd_some hf
          refine kr_W (st1 := [.int q27.1]) (va_runV (As := [.int (-1000002 : Int32)]) (rest := []) ⟨hx, hb, hml, hown, hts⟩ (ct_X7_finding l n g m_now m_kept m_aside m_isKept m_found m_steps m_queue m_lives m_treads m_tape m_taped m_begins m_ends m_sort m_value m_isWrong m_items m_itemMany m_seedThen m_groundThen m_widths m_sizes m_numbers m_moved (-1000002 : Int32) q27 hq27) (cwV 1 hts gX7_sowFor_X7_finding rfl rfl rfl hd_X7_finding ⟨Nat.le_of_ble_eq_true rfl, Nat.le_of_ble_eq_true rfl⟩) ⟨bl_M, va_recv hK hP (ci := 5) (q0 := 0) rfl k_md, pr_M rfl hB hP hS⟩ rfl rfl hl.1 rfl (lv_room (Nat.le_of_ble_eq_true rfl)) dX7_sowFor_47 ⟨Nat.le_refl _, Nat.le_refl _⟩) hS rfl (fun hn28 H locs hP hS => ?_)
          have hP : va_P g.1 vwCl (mw g (m_now, m_kept, m_aside, m_isKept, q27.2, m_steps, m_queue, m_lives, m_treads, m_tape, m_taped, m_begins, m_ends, m_sort, m_value, m_isWrong, m_items, m_itemMany, m_seedThen, m_groundThen, m_widths, m_sizes, m_numbers, m_moved)) H := hP
          have hres : (q27.1, m_now, m_aside, q27.2, m_steps, m_queue) = res := (Option.some.inj hf)
          have hP := w_eq (congrArg (fun z => mw g (z.2.1, m_kept, z.2.2.1, m_isKept, z.2.2.2.1, z.2.2.2.2.1, z.2.2.2.2.2, m_lives, m_treads, m_tape, m_taped, m_begins, m_ends, m_sort, m_value, m_isWrong, m_items, m_itemMany, m_seedThen, m_groundThen, m_widths, m_sizes, m_numbers, m_moved)) hres) hP
          exact W.iret (v := q27.1) hx hb hr (fun t ht hW => ⟨congrArg (fun z => Outcome.returned (some (Value.int z.1))) hres, trivial, by rw [ht]; exact hP, hS.F ht⟩) hS.2.2 dX7_sowFor_50
      · have hf := (if_pos hc13).symm.trans hf
        refine lv_aload_n hx hb dX7_sowFor_26 rfl (lv_at hl 0 rfl) ?_
        refine lv_ldc (v := (-1000001 : Int32)) hx hb hown hw0 dX7_sowFor_27 ?_
        obtain ⟨q29, hq29, hf⟩ := bd_some hf
        refine kr_W (st1 := [.int q29.1]) (va_runV (As := [.int (-1000001 : Int32)]) (rest := []) ⟨hx, hb, hml, hown, hts⟩ (ct_X7_finding l n g m_now m_kept m_aside m_isKept m_found m_steps m_queue m_lives m_treads m_tape m_taped m_begins m_ends m_sort m_value m_isWrong m_items m_itemMany m_seedThen m_groundThen m_widths m_sizes m_numbers m_moved (-1000001 : Int32) q29 hq29) (cwV 1 hts gX7_sowFor_X7_finding rfl rfl rfl hd_X7_finding ⟨Nat.le_of_ble_eq_true rfl, Nat.le_of_ble_eq_true rfl⟩) ⟨bl_M, va_recv hK hP (ci := 5) (q0 := 0) rfl k_md, pr_M rfl hB hP hS⟩ rfl rfl hl.1 rfl (lv_room (Nat.le_of_ble_eq_true rfl)) dX7_sowFor_29 ⟨Nat.le_refl _, Nat.le_refl _⟩) hS rfl (fun hn30 H locs hP hS => ?_)
        have hP : va_P g.1 vwCl (mw g (m_now, m_kept, m_aside, m_isKept, q29.2, m_steps, m_queue, m_lives, m_treads, m_tape, m_taped, m_begins, m_ends, m_sort, m_value, m_isWrong, m_items, m_itemMany, m_seedThen, m_groundThen, m_widths, m_sizes, m_numbers, m_moved)) H := hP
        have hres : (q29.1, m_now, m_aside, q29.2, m_steps, m_queue) = res := (Option.some.inj hf)
        have hP := w_eq (congrArg (fun z => mw g (z.2.1, m_kept, z.2.2.1, m_isKept, z.2.2.2.1, z.2.2.2.2.1, z.2.2.2.2.2, m_lives, m_treads, m_tape, m_taped, m_begins, m_ends, m_sort, m_value, m_isWrong, m_items, m_itemMany, m_seedThen, m_groundThen, m_widths, m_sizes, m_numbers, m_moved)) hres) hP
        exact W.iret (v := q29.1) hx hb hr (fun t ht hW => ⟨congrArg (fun z => Outcome.returned (some (Value.int z.1))) hres, trivial, by rw [ht]; exact hP, hS.F ht⟩) hS.2.2 dX7_sowFor_32
set_option maxHeartbeats 4000000 in
set_option maxRecDepth 100000 in
theorem ct_X7_without (l : Launch) (n : Nat) (g : GM) (m_now : Nat → Int32) (m_kept : Nat → Int32) (m_aside : Nat → Int32) (m_isKept : Int32) (m_found : Nat → Int32) (m_steps : Nat → Int32) (m_queue : Nat → Int32) (m_lives : Nat → Int32) (m_treads : Nat → Int32) (m_tape : Nat → Int32) (m_taped : Int32) (m_begins : Int32) (m_ends : Int32) (m_sort : Int32) (m_value : Int32) (m_isWrong : Int32) (m_items : Nat → Int32) (m_itemMany : Int32) (m_seedThen : Int32) (m_groundThen : Nat → Int32) (m_widths : Nat → Int32) (m_sizes : Nat → Int32) (m_numbers : Nat → Int32) (m_moved : Nat → Int32) (a1 : Int32) (res : Int32 × (Nat → Int32) × (Nat → Int32) × (Nat → Int32)) (hf : fX7_without n a1 m_now m_aside m_found m_lives m_treads = some res) : Met l yX7_without wsX7_without ({ frames := 10, cells := 0, slots := 0, locals := 225 }) (va_Pc [.ref (gm g 0), .int a1] (mI g (m_now, m_kept, m_aside, m_isKept, m_found, m_steps, m_queue, m_lives, m_treads, m_tape, m_taped, m_begins, m_ends, m_sort, m_value, m_isWrong, m_items, m_itemMany, m_seedThen, m_groundThen, m_widths, m_sizes, m_numbers, m_moved))) (qW (some (.int res.1)) True g.1 (mw g (res.2.1, m_kept, res.2.2.1, m_isKept, res.2.2.2, m_steps, m_queue, m_lives, m_treads, m_tape, m_taped, m_begins, m_ends, m_sort, m_value, m_isWrong, m_items, m_itemMany, m_seedThen, m_groundThen, m_widths, m_sizes, m_numbers, m_moved)) (mA g)) 0 0 (mA g) := by
  refine Met.ofW (cc := cX7_without) (maxL := 7) (ret := (some .int)) (by decide) rfl ?_
  intro p e s m args below meth c s₁ B hml hv
  obtain ⟨rfl, hI⟩ := hv
  have hx := B.exec
  have hb := B.bytes
  have hr := B.returns
  have hts := atoms_spec (ws := wsX7_without) B.pre
  have hown : s.vm.findClass RX7 = some m.cls := findClass_of_methodNamed B.named
  have hlocks := B.notSynchronized
  have hP := hI.1
  have hB := hI.2
  have hK := hB.1
  have hNW := hB.2.1
  have hS : va_S (mA g) s.heap s.heap [] := va_S.rf
  have hw0 := hts (.fieldLink RX7 9 "SownPathsModel" "now" "[I") (by decide +kernel)
  have hw1 := hts (.methodLink RX7 270 Lib.Math.min.name) (by decide +kernel)
  have hw2 := hts (.static Lib.Math.min.name) (by decide +kernel)
  have hw3 := hts (.initialized "java/lang/Math") (by decide +kernel)
  have hw4 := hts (.code Lib.Math.min.name Lib.Math.min.code 2 (some .int)) (by decide +kernel)
  have hw5 := hts (.constant RX7 95 (-1000001)) (by decide +kernel)
  have iwX7 : ∀ w ∈ wsX70, w ∈ wsX7_without := fun w h => List.mem_cons_of_mem _ (List.mem_append_right _ h)
  have hl := lv_entry ([.ref (gm g 0), .int a1]) (n := 7) (Nat.le_of_ble_eq_true rfl)
  rw [lg_entry_eq]
  generalize (lg_sl ([.ref (gm g 0), .int a1]) ++ List.replicate (7 - (lg_sl ([.ref (gm g 0), .int a1])).length) Slot.unset).toArray = ls at hl ⊢
  have hl : lv_has ls 7 [(0, .ref (gm g 0)), (1, .int a1)] := hl
  unfold fX7_without at hf
  refine lv_iload_n hx hb dX7_without_0 rfl (lv_at hl 1 rfl) ?_
  refine lv_iconst (v := (0 : Int32)) hx hb dX7_without_1 (by decide) ?_
  refine lv_bipush (v := (60 : Int32)) hx hb dX7_without_2 (by decide) ?_
  obtain ⟨q1, hq1, hf⟩ := bd_some hf
  refine kr_S (st1 := [.int q1]) (va_runS (As := [.int a1, .int (0 : Int32), .int (60 : Int32)]) (rest := []) ⟨hx, hb, hml, hown, hts⟩ (ct_X7_within l n a1 (0 : Int32) (60 : Int32) q1 hq1) (va_cwS 3 hts gX7_without_X7_within rfl rfl rfl hn_X7_within ⟨Nat.le_of_ble_eq_true rfl, Nat.le_of_ble_eq_true rfl⟩) ⟨bl_N, pr_N rfl hNW⟩ rfl rfl hl.1 rfl (lv_room (Nat.le_of_ble_eq_true rfl)) dX7_without_4 ⟨Nat.le_refl _, Nat.le_refl _⟩) rfl (fun hn2 => ?_)
  refine lv_if_ne (tgt := 17) hx hb dX7_without_7 (by decide) (fun hc3 => ?_) (fun hc3 => ?_)
  · have hf := (if_neg hc3).symm.trans hf
    refine lv_iconst (v := (-1 : Int32)) hx hb dX7_without_17 (by decide) ?_
    refine lv_istore_n (lv' := [(2, .int (-1 : Int32)), (0, .ref (gm g 0)), (1, .int a1)]) hx hb dX7_without_18 rfl hl (by decide) rfl (fun ls hl => ?_)
    refine lv_bipush (v := (37 : Int32)) hx hb dX7_without_19 (by decide) ?_
    refine lv_istore_n (lv' := [(3, .int (37 : Int32)), (2, .int (-1 : Int32)), (0, .ref (gm g 0)), (1, .int a1)]) hx hb dX7_without_21 rfl hl (by decide) rfl (fun ls hl => ?_)
    refine lv_iconst (v := (0 : Int32)) hx hb dX7_without_22 (by decide) ?_
    refine lv_istore (lv' := [(4, .int (0 : Int32)), (3, .int (37 : Int32)), (2, .int (-1 : Int32)), (0, .ref (gm g 0)), (1, .int a1)]) hx hb dX7_without_23 hl (by decide) rfl (fun ls hl => ?_)
    refine lp_run hf (fun s4 => ∀ (H : Heap) (locs : List Loc) (ls : Array Slot), va_P g.1 vwCl (mw g (s4.2.2.2.1, m_kept, s4.2.2.2.2, m_isKept, m_found, m_steps, m_queue, m_lives, m_treads, m_tape, m_taped, m_begins, m_ends, m_sort, m_value, m_isWrong, m_items, m_itemMany, m_seedThen, m_groundThen, m_widths, m_sizes, m_numbers, m_moved)) H → va_S (mA g) s.heap H locs → lv_has ls 7 [(0, .ref (gm g 0)), (1, .int a1), (2, .int s4.1), (3, .int s4.2.1), (4, .int s4.2.2.1)] → W p l e (headSpec wsX7_without ({ frames := 10, cells := 0, slots := 0, locals := 225 })).room s m ([.ref (gm g 0), .int a1] : List Value).toArray below meth c H locs 0 0 (MQ below (qW (some (.int res.1)) True g.1 (mw g (res.2.1, m_kept, res.2.2.1, m_isKept, res.2.2.2, m_steps, m_queue, m_lives, m_treads, m_tape, m_taped, m_begins, m_ends, m_sort, m_value, m_isWrong, m_items, m_itemMany, m_seedThen, m_groundThen, m_widths, m_sizes, m_numbers, m_moved)) (mA g)) ([.ref (gm g 0), .int a1] : List Value).toArray s 0 0 (mA g)) (F0 m 25 ls [])) (fun v5 => ∀ (H : Heap) (locs : List Loc) (ls : Array Slot), va_P g.1 vwCl (mw g (v5.2.2.2.1, m_kept, v5.2.2.2.2, m_isKept, m_found, m_steps, m_queue, m_lives, m_treads, m_tape, m_taped, m_begins, m_ends, m_sort, m_value, m_isWrong, m_items, m_itemMany, m_seedThen, m_groundThen, m_widths, m_sizes, m_numbers, m_moved)) H → va_S (mA g) s.heap H locs → lv_has ls 7 [(0, .ref (gm g 0)), (2, .int v5.1)] → W p l e (headSpec wsX7_without ({ frames := 10, cells := 0, slots := 0, locals := 225 })).room s m ([.ref (gm g 0), .int a1] : List Value).toArray below meth c H locs 0 0 (MQ below (qW (some (.int res.1)) True g.1 (mw g (res.2.1, m_kept, res.2.2.1, m_isKept, res.2.2.2, m_steps, m_queue, m_lives, m_treads, m_tape, m_taped, m_begins, m_ends, m_sort, m_value, m_isWrong, m_items, m_itemMany, m_seedThen, m_groundThen, m_widths, m_sizes, m_numbers, m_moved)) (mA g)) ([.ref (gm g 0), .int a1] : List Value).toArray s 0 0 (mA g)) (F0 m 97 ls [])) ?_ ?_ _ _ _ hP hS (lv_sub hl [3, 4, 2, 1, 0] rfl)
    · intro v5 hf H locs ls hP hS hl
      refine lv_aload_n hx hb dX7_without_97 rfl (lv_at hl 0 rfl) ?_
      refine lv_iload_n hx hb dX7_without_98 rfl (lv_at hl 1 rfl) ?_
      obtain ⟨q17, hq17, hf⟩ := bd_some hf
      refine kr_W (st1 := [.int q17.1]) (va_runV (As := [.int v5.1]) (rest := []) ⟨hx, hb, hml, hown, hts⟩ (ct_X7_orNone l n g v5.2.2.2.1 m_kept v5.2.2.2.2 m_isKept m_found m_steps m_queue m_lives m_treads m_tape m_taped m_begins m_ends m_sort m_value m_isWrong m_items m_itemMany m_seedThen m_groundThen m_widths m_sizes m_numbers m_moved v5.1 q17 hq17) (cwV 1 hts gX7_without_X7_orNone rfl rfl rfl hd_X7_orNone ⟨Nat.le_of_ble_eq_true rfl, Nat.le_of_ble_eq_true rfl⟩) ⟨bl_M, va_recv hK hP (ci := 5) (q0 := 0) rfl k_md, pr_M rfl hB hP hS⟩ rfl rfl hl.1 rfl (lv_room (Nat.le_of_ble_eq_true rfl)) dX7_without_99 ⟨Nat.le_refl _, Nat.le_refl _⟩) hS rfl (fun hn18 H locs hP hS => ?_)
      have hP : va_P g.1 vwCl (mw g (v5.2.2.2.1, m_kept, v5.2.2.2.2, m_isKept, q17.2, m_steps, m_queue, m_lives, m_treads, m_tape, m_taped, m_begins, m_ends, m_sort, m_value, m_isWrong, m_items, m_itemMany, m_seedThen, m_groundThen, m_widths, m_sizes, m_numbers, m_moved)) H := hP
      have hres : (q17.1, v5.2.2.2.1, v5.2.2.2.2, q17.2) = res := (Option.some.inj hf)
      have hP := w_eq (congrArg (fun z => mw g (z.2.1, m_kept, z.2.2.1, m_isKept, z.2.2.2, m_steps, m_queue, m_lives, m_treads, m_tape, m_taped, m_begins, m_ends, m_sort, m_value, m_isWrong, m_items, m_itemMany, m_seedThen, m_groundThen, m_widths, m_sizes, m_numbers, m_moved)) hres) hP
      exact W.iret (v := q17.1) hx hb hr (fun t ht hW => ⟨congrArg (fun z => Outcome.returned (some (Value.int z.1))) hres, trivial, by rw [ht]; exact hP, hS.F ht⟩) hS.2.2 dX7_without_102
    · intro s4 r1 hf hback1 hexit1 H locs ls hP hS hl
      refine lv_iload hx hb dX7_without_25 (lv_at hl 4 rfl) ?_
      refine lv_aload_n hx hb dX7_without_27 rfl (lv_at hl 0 rfl) ?_
      refine va_get (D := g.1) (ci := 5) (v := .ref (gm g 1)) (C := RX7) (T := TX7) (N := 27) hx hb hts iwX7 hown hK hP 0 k_md rfl 0 (by decide) hw0 (fun _ h9 => h9) rfl dX7_without_28 ?_
      refine lv_iconst (v := (1 : Int32)) hx hb dX7_without_31 (by decide) ?_
      refine va_iald (f := s4.2.2.2.1) hx hb hK hP 1 0 k_now rfl (vi_lit (by decide)) dX7_without_32 ?_
      refine lv_icmp_ge (tgt := 97) hx hb dX7_without_33 (by decide) (fun hc6 => ?_) (fun hc6 => ?_)
      · have hf := (if_pos hc6).symm.trans hf
        exact hexit1 (s4.1, s4.2.1, s4.2.2.1, s4.2.2.2.1, s4.2.2.2.2) (Option.some.inj hf).symm H locs ls hP hS (lv_sub hl [0, 2] rfl)
      · have hf := (if_neg hc6).symm.trans hf
        refine lv_aload_n hx hb dX7_without_36 rfl (lv_at hl 0 rfl) ?_
        refine lv_iload hx hb dX7_without_37 (lv_at hl 4 rfl) ?_
        refine lv_iconst (v := (3 : Int32)) hx hb dX7_without_39 (by decide) ?_
        obtain ⟨q7, hq7, hf⟩ := bd_some hf
        refine kr_S (st1 := [.int q7, .ref (gm g 0)]) (va_runS (As := [.int s4.2.2.1, .int (3 : Int32)]) (rest := [.ref (gm g 0)]) ⟨hx, hb, hml, hown, hts⟩ (ct_X7_at l n s4.2.2.1 (3 : Int32) q7 hq7) (va_cwS 2 hts gX7_without_X7_at rfl rfl rfl hn_X7_at ⟨Nat.le_of_ble_eq_true rfl, Nat.le_of_ble_eq_true rfl⟩) ⟨bl_N, pr_N rfl hNW⟩ rfl rfl hl.1 rfl (lv_room (Nat.le_of_ble_eq_true rfl)) dX7_without_40 ⟨Nat.le_refl _, Nat.le_refl _⟩) rfl (fun hn8 => ?_)
        refine lv_sipush (v := (999 : Int32)) hx hb dX7_without_43 (by decide) ?_
        obtain ⟨q9, hq9, hf⟩ := bd_some hf
        refine kr_W (st1 := [.int q9.1]) (va_runV (As := [.int q7, .int (999 : Int32)]) (rest := []) ⟨hx, hb, hml, hown, hts⟩ (ct_X7_become l n g s4.2.2.2.1 m_kept s4.2.2.2.2 m_isKept m_found m_steps m_queue m_lives m_treads m_tape m_taped m_begins m_ends m_sort m_value m_isWrong m_items m_itemMany m_seedThen m_groundThen m_widths m_sizes m_numbers m_moved q7 (999 : Int32) q9 hq9) (cwV 2 hts gX7_without_X7_become rfl rfl rfl hd_X7_become ⟨Nat.le_of_ble_eq_true rfl, Nat.le_of_ble_eq_true rfl⟩) ⟨bl_M, va_recv hK hP (ci := 5) (q0 := 0) rfl k_md, pr_M rfl hB hP hS⟩ rfl rfl hl.1 rfl (lv_room (Nat.le_of_ble_eq_true rfl)) dX7_without_46 ⟨Nat.le_refl _, Nat.le_refl _⟩) hS rfl (fun hn10 H locs hP hS => ?_)
        have hP : va_P g.1 vwCl (mw g (q9.2, m_kept, s4.2.2.2.2, m_isKept, m_found, m_steps, m_queue, m_lives, m_treads, m_tape, m_taped, m_begins, m_ends, m_sort, m_value, m_isWrong, m_items, m_itemMany, m_seedThen, m_groundThen, m_widths, m_sizes, m_numbers, m_moved)) H := hP
        refine lv_istore (lv' := [(5, .int q9.1), (0, .ref (gm g 0)), (1, .int a1), (2, .int s4.1), (3, .int s4.2.1), (4, .int s4.2.2.1)]) hx hb dX7_without_49 hl (by decide) rfl (fun ls hl => ?_)
        refine lv_aload_n hx hb dX7_without_51 rfl (lv_at hl 1 rfl) ?_
        refine lv_iload_n hx hb dX7_without_52 rfl (lv_at hl 2 rfl) ?_
        obtain ⟨q11, hq11, hf⟩ := bd_some hf
        refine kr_W (st1 := [.int q11.1]) (va_runV (As := [.int a1]) (rest := []) ⟨hx, hb, hml, hown, hts⟩ (ct_X7_pathsBehind l n g q9.2 m_kept s4.2.2.2.2 m_isKept m_found m_steps m_queue m_lives m_treads m_tape m_taped m_begins m_ends m_sort m_value m_isWrong m_items m_itemMany m_seedThen m_groundThen m_widths m_sizes m_numbers m_moved a1 q11 hq11) (cwV 1 hts gX7_without_X7_pathsBehind rfl rfl rfl hd_X7_pathsBehind ⟨Nat.le_of_ble_eq_true rfl, Nat.le_of_ble_eq_true rfl⟩) ⟨bl_M, va_recv hK hP (ci := 5) (q0 := 0) rfl k_md, pr_M rfl hB hP hS⟩ rfl rfl hl.1 rfl (lv_room (Nat.le_of_ble_eq_true rfl)) dX7_without_53 ⟨Nat.le_refl _, Nat.le_refl _⟩) hS rfl (fun hn12 H locs hP hS => ?_)
        have hP : va_P g.1 vwCl (mw g (q11.2.1, m_kept, q11.2.2, m_isKept, m_found, m_steps, m_queue, m_lives, m_treads, m_tape, m_taped, m_begins, m_ends, m_sort, m_value, m_isWrong, m_items, m_itemMany, m_seedThen, m_groundThen, m_widths, m_sizes, m_numbers, m_moved)) H := hP
        refine lv_istore (lv' := [(6, .int q11.1), (5, .int q9.1), (0, .ref (gm g 0)), (1, .int a1), (2, .int s4.1), (3, .int s4.2.1), (4, .int s4.2.2.1)]) hx hb dX7_without_56 hl (by decide) rfl (fun ls hl => ?_)
        refine lv_aload_n hx hb dX7_without_58 rfl (lv_at hl 2 rfl) ?_
        refine va_get (D := g.1) (ci := 5) (v := .ref (gm g 1)) (C := RX7) (T := TX7) (N := 27) hx hb hts iwX7 hown hK hP 0 k_md rfl 0 (by decide) hw0 (fun _ h9 => h9) rfl dX7_without_59 ?_
        refine lv_iload hx hb dX7_without_62 (lv_at hl 6 rfl) ?_
        refine lv_iconst (v := (3 : Int32)) hx hb dX7_without_64 (by decide) ?_
        obtain ⟨q13, hq13, hf⟩ := bd_some hf
        refine kr_S (st1 := [.int q13, .ref (gm g 1)]) (va_runS (As := [.int s4.2.2.1, .int (3 : Int32)]) (rest := [.ref (gm g 1)]) ⟨hx, hb, hml, hown, hts⟩ (ct_X7_at l n s4.2.2.1 (3 : Int32) q13 hq13) (va_cwS 2 hts gX7_without_X7_at rfl rfl rfl hn_X7_at ⟨Nat.le_of_ble_eq_true rfl, Nat.le_of_ble_eq_true rfl⟩) ⟨bl_N, pr_N rfl hNW⟩ rfl rfl hl.1 rfl (lv_room (Nat.le_of_ble_eq_true rfl)) dX7_without_65 ⟨Nat.le_refl _, Nat.le_refl _⟩) rfl (fun hn14 => ?_)
        refine lv_iload hx hb dX7_without_68 (lv_at hl 1 rfl) ?_
        obtain ⟨hg15, hf⟩ := gd_some hf
        refine va_iast (f := q11.2.1) hx hb hK hP (mD hB.2.2.1 _) hS 1 0 k_now rfl hg15 dX7_without_70 (fun H locs hP _ hS => ?_)
        have hP : va_P g.1 vwCl (mw g ((upd q11.2.1 q13.toNatClampNeg q9.1), m_kept, q11.2.2, m_isKept, m_found, m_steps, m_queue, m_lives, m_treads, m_tape, m_taped, m_begins, m_ends, m_sort, m_value, m_isWrong, m_items, m_itemMany, m_seedThen, m_groundThen, m_widths, m_sizes, m_numbers, m_moved)) H := w_eq (k_set_now (upd q11.2.1 q13.toNatClampNeg q9.1)) hP
        refine lv_iload hx hb dX7_without_71 (lv_at hl 0 rfl) ?_
        refine lv_iload_n hx hb dX7_without_73 rfl (lv_at hl 5 rfl) ?_
        refine lv_icmp_ge (tgt := 82) hx hb dX7_without_74 (by decide) (fun hc16 => ?_) (fun hc16 => ?_)
        · have hf := (if_pos hc16).symm.trans hf
          refine lv_iload_n hx hb dX7_without_82 rfl (lv_at hl 4 rfl) ?_
          refine lv_istore_n (lv' := [(2, .int s4.1), (6, .int q11.1), (5, .int q9.1), (0, .ref (gm g 0)), (1, .int a1), (3, .int s4.2.1), (4, .int s4.2.2.1)]) hx hb dX7_without_83 rfl hl (by decide) rfl (fun ls hl => ?_)
          refine lv_iload_n hx hb dX7_without_84 rfl (lv_at hl 5 rfl) ?_
          refine lv_iload hx hb dX7_without_85 (lv_at hl 1 rfl) ?_
          refine va_mmin hx hb (hml.trans hl.1.symm) hown hw1 hw2 hw3 hw4 (Nat.le_of_ble_eq_true rfl) (Nat.le_of_ble_eq_true rfl) (Nat.le_of_ble_eq_true rfl) (Nat.le_of_ble_eq_true rfl) dX7_without_87 ?_
          refine lv_istore_n (lv' := [(3, .int (if q11.1 < s4.2.1 then q11.1 else s4.2.1)), (2, .int s4.1), (6, .int q11.1), (5, .int q9.1), (0, .ref (gm g 0)), (1, .int a1), (4, .int s4.2.2.1)]) hx hb dX7_without_90 rfl hl (by decide) rfl (fun ls hl => ?_)
          refine lv_iinc (v := (s4.2.2.1 + (1 : Int32))) (lv' := [(4, .int (s4.2.2.1 + (1 : Int32))), (3, .int (if q11.1 < s4.2.1 then q11.1 else s4.2.1)), (2, .int s4.1), (6, .int q11.1), (5, .int q9.1), (0, .ref (gm g 0)), (1, .int a1)]) hx hb dX7_without_91 hl (k := 6) rfl (congrArg (fun y => s4.2.2.1 + y) (by decide : Int32.ofInt (1) = (1 : Int32))) (by decide) rfl (fun ls hl => ?_)
          refine lv_goto (tgt := 25) hx hb dX7_without_94 (by decide) ?_
          exact hback1 _ (Option.some.inj hf).symm H locs ls hP hS (lv_sub hl [5, 6, 2, 1, 0] rfl)
        · have hf := (if_neg hc16).symm.trans hf
          refine lv_iload hx hb dX7_without_77 (lv_at hl 6 rfl) ?_
          refine lv_goto (tgt := 83) hx hb dX7_without_79 (by decide) ?_
          refine lv_istore_n (lv' := [(2, .int s4.2.2.1), (6, .int q11.1), (5, .int q9.1), (0, .ref (gm g 0)), (1, .int a1), (3, .int s4.2.1), (4, .int s4.2.2.1)]) hx hb dX7_without_83 rfl hl (by decide) rfl (fun ls hl => ?_)
          refine lv_iload_n hx hb dX7_without_84 rfl (lv_at hl 5 rfl) ?_
          refine lv_iload hx hb dX7_without_85 (lv_at hl 1 rfl) ?_
          refine va_mmin hx hb (hml.trans hl.1.symm) hown hw1 hw2 hw3 hw4 (Nat.le_of_ble_eq_true rfl) (Nat.le_of_ble_eq_true rfl) (Nat.le_of_ble_eq_true rfl) (Nat.le_of_ble_eq_true rfl) dX7_without_87 ?_
          refine lv_istore_n (lv' := [(3, .int (if q11.1 < s4.2.1 then q11.1 else s4.2.1)), (2, .int s4.2.2.1), (6, .int q11.1), (5, .int q9.1), (0, .ref (gm g 0)), (1, .int a1), (4, .int s4.2.2.1)]) hx hb dX7_without_90 rfl hl (by decide) rfl (fun ls hl => ?_)
          refine lv_iinc (v := (s4.2.2.1 + (1 : Int32))) (lv' := [(4, .int (s4.2.2.1 + (1 : Int32))), (3, .int (if q11.1 < s4.2.1 then q11.1 else s4.2.1)), (2, .int s4.2.2.1), (6, .int q11.1), (5, .int q9.1), (0, .ref (gm g 0)), (1, .int a1)]) hx hb dX7_without_91 hl (k := 6) rfl (congrArg (fun y => s4.2.2.1 + y) (by decide : Int32.ofInt (1) = (1 : Int32))) (by decide) rfl (fun ls hl => ?_)
          refine lv_goto (tgt := 25) hx hb dX7_without_94 (by decide) ?_
          exact hback1 _ (Option.some.inj hf).symm H locs ls hP hS (lv_sub hl [5, 6, 2, 1, 0] rfl)
  · have hf := (if_pos hc3).symm.trans hf
    refine lv_aload_n hx hb dX7_without_10 rfl (lv_at hl 0 rfl) ?_
    refine lv_ldc (v := (-1000001 : Int32)) hx hb hown hw5 dX7_without_11 ?_
    obtain ⟨q19, hq19, hf⟩ := bd_some hf
    refine kr_W (st1 := [.int q19.1]) (va_runV (As := [.int (-1000001 : Int32)]) (rest := []) ⟨hx, hb, hml, hown, hts⟩ (ct_X7_finding l n g m_now m_kept m_aside m_isKept m_found m_steps m_queue m_lives m_treads m_tape m_taped m_begins m_ends m_sort m_value m_isWrong m_items m_itemMany m_seedThen m_groundThen m_widths m_sizes m_numbers m_moved (-1000001 : Int32) q19 hq19) (cwV 1 hts gX7_without_X7_finding rfl rfl rfl hd_X7_finding ⟨Nat.le_of_ble_eq_true rfl, Nat.le_of_ble_eq_true rfl⟩) ⟨bl_M, va_recv hK hP (ci := 5) (q0 := 0) rfl k_md, pr_M rfl hB hP hS⟩ rfl rfl hl.1 rfl (lv_room (Nat.le_of_ble_eq_true rfl)) dX7_without_13 ⟨Nat.le_refl _, Nat.le_refl _⟩) hS rfl (fun hn20 H locs hP hS => ?_)
    have hP : va_P g.1 vwCl (mw g (m_now, m_kept, m_aside, m_isKept, q19.2, m_steps, m_queue, m_lives, m_treads, m_tape, m_taped, m_begins, m_ends, m_sort, m_value, m_isWrong, m_items, m_itemMany, m_seedThen, m_groundThen, m_widths, m_sizes, m_numbers, m_moved)) H := hP
    have hres : (q19.1, m_now, m_aside, q19.2) = res := (Option.some.inj hf)
    have hP := w_eq (congrArg (fun z => mw g (z.2.1, m_kept, z.2.2.1, m_isKept, z.2.2.2, m_steps, m_queue, m_lives, m_treads, m_tape, m_taped, m_begins, m_ends, m_sort, m_value, m_isWrong, m_items, m_itemMany, m_seedThen, m_groundThen, m_widths, m_sizes, m_numbers, m_moved)) hres) hP
    exact W.iret (v := q19.1) hx hb hr (fun t ht hW => ⟨congrArg (fun z => Outcome.returned (some (Value.int z.1))) hres, trivial, by rw [ht]; exact hP, hS.F ht⟩) hS.2.2 dX7_without_16
set_option maxHeartbeats 4000000 in
set_option maxRecDepth 100000 in
theorem ct_X7_weed (l : Launch) (n : Nat) (g : GM) (m_now : Nat → Int32) (m_kept : Nat → Int32) (m_aside : Nat → Int32) (m_isKept : Int32) (m_found : Nat → Int32) (m_steps : Nat → Int32) (m_queue : Nat → Int32) (m_lives : Nat → Int32) (m_treads : Nat → Int32) (m_tape : Nat → Int32) (m_taped : Int32) (m_begins : Int32) (m_ends : Int32) (m_sort : Int32) (m_value : Int32) (m_isWrong : Int32) (m_items : Nat → Int32) (m_itemMany : Int32) (m_seedThen : Int32) (m_groundThen : Nat → Int32) (m_widths : Nat → Int32) (m_sizes : Nat → Int32) (m_numbers : Nat → Int32) (m_moved : Nat → Int32) (res : Int32 × (Nat → Int32) × (Nat → Int32) × (Nat → Int32) × (Nat → Int32)) (hf : fX7_weed n m_now m_found m_steps m_queue = some res) : Met l yX7_weed wsX7_weed ({ frames := 3, cells := 0, slots := 0, locals := 71 }) (va_Pc [.ref (gm g 0)] (mI g (m_now, m_kept, m_aside, m_isKept, m_found, m_steps, m_queue, m_lives, m_treads, m_tape, m_taped, m_begins, m_ends, m_sort, m_value, m_isWrong, m_items, m_itemMany, m_seedThen, m_groundThen, m_widths, m_sizes, m_numbers, m_moved))) (qW (some (.int res.1)) True g.1 (mw g (res.2.1, m_kept, m_aside, m_isKept, res.2.2.1, res.2.2.2.1, res.2.2.2.2, m_lives, m_treads, m_tape, m_taped, m_begins, m_ends, m_sort, m_value, m_isWrong, m_items, m_itemMany, m_seedThen, m_groundThen, m_widths, m_sizes, m_numbers, m_moved)) (mA g)) 0 0 (mA g) := by
  refine Met.ofW (cc := cX7_weed) (maxL := 6) (ret := (some .int)) (by decide) rfl ?_
  intro p e s m args below meth c s₁ B hml hv
  obtain ⟨rfl, hI⟩ := hv
  have hx := B.exec
  have hb := B.bytes
  have hr := B.returns
  have hts := atoms_spec (ws := wsX7_weed) B.pre
  have hown : s.vm.findClass RX7 = some m.cls := findClass_of_methodNamed B.named
  have hlocks := B.notSynchronized
  have hP := hI.1
  have hB := hI.2
  have hK := hB.1
  have hNW := hB.2.1
  have hS : va_S (mA g) s.heap s.heap [] := va_S.rf
  have hw0 := hts (.fieldLink RX7 9 "SownPathsModel" "now" "[I") (by decide +kernel)
  have hw1 := hts (.methodLink RX7 192 Lib.Math.max.name) (by decide +kernel)
  have hw2 := hts (.static Lib.Math.max.name) (by decide +kernel)
  have hw3 := hts (.initialized "java/lang/Math") (by decide +kernel)
  have hw4 := hts (.code Lib.Math.max.name Lib.Math.max.code 2 (some .int)) (by decide +kernel)
  have iwX7 : ∀ w ∈ wsX70, w ∈ wsX7_weed := fun w h => List.mem_cons_of_mem _ (List.mem_append_right _ h)
  have hl := lv_entry ([.ref (gm g 0)]) (n := 6) (Nat.le_of_ble_eq_true rfl)
  rw [lg_entry_eq]
  generalize (lg_sl ([.ref (gm g 0)]) ++ List.replicate (6 - (lg_sl ([.ref (gm g 0)])).length) Slot.unset).toArray = ls at hl ⊢
  have hl : lv_has ls 6 [(0, .ref (gm g 0))] := hl
  unfold fX7_weed at hf
  refine lv_iconst (v := (-1 : Int32)) hx hb dX7_weed_0 (by decide) ?_
  refine lv_istore_n (lv' := [(1, .int (-1 : Int32)), (0, .ref (gm g 0))]) hx hb dX7_weed_1 rfl hl (by decide) rfl (fun ls hl => ?_)
  refine lv_iconst (v := (-1 : Int32)) hx hb dX7_weed_2 (by decide) ?_
  refine lv_istore_n (lv' := [(2, .int (-1 : Int32)), (1, .int (-1 : Int32)), (0, .ref (gm g 0))]) hx hb dX7_weed_3 rfl hl (by decide) rfl (fun ls hl => ?_)
  refine lv_iconst (v := (0 : Int32)) hx hb dX7_weed_4 (by decide) ?_
  refine lv_istore_n (lv' := [(3, .int (0 : Int32)), (2, .int (-1 : Int32)), (1, .int (-1 : Int32)), (0, .ref (gm g 0))]) hx hb dX7_weed_5 rfl hl (by decide) rfl (fun ls hl => ?_)
  refine lp_run hf (fun s1 => ∀ (H : Heap) (locs : List Loc) (ls : Array Slot), va_P g.1 vwCl (mw g (s1.2.2.2.1, m_kept, m_aside, m_isKept, m_found, s1.2.2.2.2.1, s1.2.2.2.2.2, m_lives, m_treads, m_tape, m_taped, m_begins, m_ends, m_sort, m_value, m_isWrong, m_items, m_itemMany, m_seedThen, m_groundThen, m_widths, m_sizes, m_numbers, m_moved)) H → va_S (mA g) s.heap H locs → lv_has ls 6 [(0, .ref (gm g 0)), (1, .int s1.1), (2, .int s1.2.1), (3, .int s1.2.2.1)] → W p l e (headSpec wsX7_weed ({ frames := 3, cells := 0, slots := 0, locals := 71 })).room s m ([.ref (gm g 0)] : List Value).toArray below meth c H locs 0 0 (MQ below (qW (some (.int res.1)) True g.1 (mw g (res.2.1, m_kept, m_aside, m_isKept, res.2.2.1, res.2.2.2.1, res.2.2.2.2, m_lives, m_treads, m_tape, m_taped, m_begins, m_ends, m_sort, m_value, m_isWrong, m_items, m_itemMany, m_seedThen, m_groundThen, m_widths, m_sizes, m_numbers, m_moved)) (mA g)) ([.ref (gm g 0)] : List Value).toArray s 0 0 (mA g)) (F0 m 6 ls [])) (fun v2 => ∀ (H : Heap) (locs : List Loc) (ls : Array Slot), va_P g.1 vwCl (mw g (v2.2.2.2.1, m_kept, m_aside, m_isKept, m_found, v2.2.2.2.2.1, v2.2.2.2.2.2, m_lives, m_treads, m_tape, m_taped, m_begins, m_ends, m_sort, m_value, m_isWrong, m_items, m_itemMany, m_seedThen, m_groundThen, m_widths, m_sizes, m_numbers, m_moved)) H → va_S (mA g) s.heap H locs → lv_has ls 6 [(0, .ref (gm g 0)), (1, .int v2.1)] → W p l e (headSpec wsX7_weed ({ frames := 3, cells := 0, slots := 0, locals := 71 })).room s m ([.ref (gm g 0)] : List Value).toArray below meth c H locs 0 0 (MQ below (qW (some (.int res.1)) True g.1 (mw g (res.2.1, m_kept, m_aside, m_isKept, res.2.2.1, res.2.2.2.1, res.2.2.2.2, m_lives, m_treads, m_tape, m_taped, m_begins, m_ends, m_sort, m_value, m_isWrong, m_items, m_itemMany, m_seedThen, m_groundThen, m_widths, m_sizes, m_numbers, m_moved)) (mA g)) ([.ref (gm g 0)] : List Value).toArray s 0 0 (mA g)) (F0 m 84 ls [])) ?_ ?_ _ _ _ hP hS (lv_sub hl [3, 2, 1, 0] rfl)
  · intro v2 hf H locs ls hP hS hl
    refine lv_aload_n hx hb dX7_weed_84 rfl (lv_at hl 0 rfl) ?_
    refine lv_iload_n hx hb dX7_weed_85 rfl (lv_at hl 1 rfl) ?_
    obtain ⟨q13, hq13, hf⟩ := bd_some hf
    refine kr_W (st1 := [.int q13.1]) (va_runV (As := [.int v2.1]) (rest := []) ⟨hx, hb, hml, hown, hts⟩ (ct_X7_orNone l n g v2.2.2.2.1 m_kept m_aside m_isKept m_found v2.2.2.2.2.1 v2.2.2.2.2.2 m_lives m_treads m_tape m_taped m_begins m_ends m_sort m_value m_isWrong m_items m_itemMany m_seedThen m_groundThen m_widths m_sizes m_numbers m_moved v2.1 q13 hq13) (cwV 1 hts gX7_weed_X7_orNone rfl rfl rfl hd_X7_orNone ⟨Nat.le_of_ble_eq_true rfl, Nat.le_of_ble_eq_true rfl⟩) ⟨bl_M, va_recv hK hP (ci := 5) (q0 := 0) rfl k_md, pr_M rfl hB hP hS⟩ rfl rfl hl.1 rfl (lv_room (Nat.le_of_ble_eq_true rfl)) dX7_weed_86 ⟨Nat.le_refl _, Nat.le_refl _⟩) hS rfl (fun hn14 H locs hP hS => ?_)
    have hP : va_P g.1 vwCl (mw g (v2.2.2.2.1, m_kept, m_aside, m_isKept, q13.2, v2.2.2.2.2.1, v2.2.2.2.2.2, m_lives, m_treads, m_tape, m_taped, m_begins, m_ends, m_sort, m_value, m_isWrong, m_items, m_itemMany, m_seedThen, m_groundThen, m_widths, m_sizes, m_numbers, m_moved)) H := hP
    have hres : (q13.1, v2.2.2.2.1, q13.2, v2.2.2.2.2.1, v2.2.2.2.2.2) = res := (Option.some.inj hf)
    have hP := w_eq (congrArg (fun z => mw g (z.2.1, m_kept, m_aside, m_isKept, z.2.2.1, z.2.2.2.1, z.2.2.2.2, m_lives, m_treads, m_tape, m_taped, m_begins, m_ends, m_sort, m_value, m_isWrong, m_items, m_itemMany, m_seedThen, m_groundThen, m_widths, m_sizes, m_numbers, m_moved)) hres) hP
    exact W.iret (v := q13.1) hx hb hr (fun t ht hW => ⟨congrArg (fun z => Outcome.returned (some (Value.int z.1))) hres, trivial, by rw [ht]; exact hP, hS.F ht⟩) hS.2.2 dX7_weed_89
  · intro s1 r1 hf hback1 hexit1 H locs ls hP hS hl
    refine lv_iload_n hx hb dX7_weed_6 rfl (lv_at hl 3 rfl) ?_
    refine lv_bipush (v := (36 : Int32)) hx hb dX7_weed_7 (by decide) ?_
    refine lv_icmp_ge (tgt := 84) hx hb dX7_weed_9 (by decide) (fun hc3 => ?_) (fun hc3 => ?_)
    · have hf := (if_pos hc3).symm.trans hf
      exact hexit1 (s1.1, s1.2.1, s1.2.2.1, s1.2.2.2.1, s1.2.2.2.2.1, s1.2.2.2.2.2) (Option.some.inj hf).symm H locs ls hP hS (lv_sub hl [0, 1] rfl)
    · have hf := (if_neg hc3).symm.trans hf
      refine lv_aload_n hx hb dX7_weed_12 rfl (lv_at hl 0 rfl) ?_
      refine va_get (D := g.1) (ci := 5) (v := .ref (gm g 1)) (C := RX7) (T := TX7) (N := 27) hx hb hts iwX7 hown hK hP 0 k_md rfl 0 (by decide) hw0 (fun _ h9 => h9) rfl dX7_weed_13 ?_
      refine lv_bipush (v := (49 : Int32)) hx hb dX7_weed_16 (by decide) ?_
      refine lv_iload_n hx hb dX7_weed_18 rfl (lv_at hl 3 rfl) ?_
      refine lv_iadd hx hb dX7_weed_19 ?_
      obtain ⟨hg4, hf⟩ := gd_some hf
      refine va_iald (f := s1.2.2.2.1) hx hb hK hP 1 0 k_now rfl hg4 dX7_weed_20 ?_
      refine lv_istore (lv' := [(4, .int (s1.2.2.2.1 ((49 : Int32) + s1.2.2.1).toNatClampNeg)), (0, .ref (gm g 0)), (1, .int s1.1), (2, .int s1.2.1), (3, .int s1.2.2.1)]) hx hb dX7_weed_21 hl (by decide) rfl (fun ls hl => ?_)
      refine lv_aload_n hx hb dX7_weed_23 rfl (lv_at hl 1 rfl) ?_
      refine va_get (D := g.1) (ci := 5) (v := .ref (gm g 1)) (C := RX7) (T := TX7) (N := 27) hx hb hts iwX7 hown hK hP 0 k_md rfl 0 (by decide) hw0 (fun _ h9 => h9) rfl dX7_weed_24 ?_
      refine lv_bipush (v := (49 : Int32)) hx hb dX7_weed_27 (by decide) ?_
      refine lv_iload_n hx hb dX7_weed_29 rfl (lv_at hl 4 rfl) ?_
      refine lv_iadd hx hb dX7_weed_30 ?_
      refine lv_iconst (v := (0 : Int32)) hx hb dX7_weed_31 (by decide) ?_
      obtain ⟨hg5, hf⟩ := gd_some hf
      refine va_iast (f := s1.2.2.2.1) hx hb hK hP (mD hB.2.2.1 _) hS 1 0 k_now rfl hg5 dX7_weed_32 (fun H locs hP _ hS => ?_)
      have hP : va_P g.1 vwCl (mw g ((upd s1.2.2.2.1 ((49 : Int32) + s1.2.2.1).toNatClampNeg (0 : Int32)), m_kept, m_aside, m_isKept, m_found, s1.2.2.2.2.1, s1.2.2.2.2.2, m_lives, m_treads, m_tape, m_taped, m_begins, m_ends, m_sort, m_value, m_isWrong, m_items, m_itemMany, m_seedThen, m_groundThen, m_widths, m_sizes, m_numbers, m_moved)) H := w_eq (k_set_now (upd s1.2.2.2.1 ((49 : Int32) + s1.2.2.1).toNatClampNeg (0 : Int32))) hP
      refine lv_iload hx hb dX7_weed_33 (lv_at hl 0 rfl) ?_
      refine lv_if_le (tgt := 45) hx hb dX7_weed_35 (by decide) (fun hc6 => ?_) (fun hc6 => ?_)
      · have hf := (if_pos hc6).symm.trans hf
        refine lv_iconst (v := (-1 : Int32)) hx hb dX7_weed_45 (by decide) ?_
        refine lv_istore (lv' := [(5, .int (-1 : Int32)), (4, .int (s1.2.2.2.1 ((49 : Int32) + s1.2.2.1).toNatClampNeg)), (0, .ref (gm g 0)), (1, .int s1.1), (2, .int s1.2.1), (3, .int s1.2.2.1)]) hx hb dX7_weed_46 hl (by decide) rfl (fun ls hl => ?_)
        refine lv_aload_n hx hb dX7_weed_48 rfl (lv_at hl 2 rfl) ?_
        refine va_get (D := g.1) (ci := 5) (v := .ref (gm g 1)) (C := RX7) (T := TX7) (N := 27) hx hb hts iwX7 hown hK hP 0 k_md rfl 0 (by decide) hw0 (fun _ h9 => h9) rfl dX7_weed_49 ?_
        refine lv_bipush (v := (49 : Int32)) hx hb dX7_weed_52 (by decide) ?_
        refine lv_iload_n hx hb dX7_weed_54 rfl (lv_at hl 5 rfl) ?_
        refine lv_iadd hx hb dX7_weed_55 ?_
        refine lv_iload hx hb dX7_weed_56 (lv_at hl 1 rfl) ?_
        obtain ⟨hg7, hf⟩ := gd_some hf
        refine va_iast (f := (upd s1.2.2.2.1 ((49 : Int32) + s1.2.2.1).toNatClampNeg (0 : Int32))) hx hb hK hP (mD hB.2.2.1 _) hS 1 0 k_now rfl hg7 dX7_weed_58 (fun H locs hP _ hS => ?_)
        have hP : va_P g.1 vwCl (mw g ((upd (upd s1.2.2.2.1 ((49 : Int32) + s1.2.2.1).toNatClampNeg (0 : Int32)) ((49 : Int32) + s1.2.2.1).toNatClampNeg (s1.2.2.2.1 ((49 : Int32) + s1.2.2.1).toNatClampNeg)), m_kept, m_aside, m_isKept, m_found, s1.2.2.2.2.1, s1.2.2.2.2.2, m_lives, m_treads, m_tape, m_taped, m_begins, m_ends, m_sort, m_value, m_isWrong, m_items, m_itemMany, m_seedThen, m_groundThen, m_widths, m_sizes, m_numbers, m_moved)) H := w_eq (k_set_now (upd (upd s1.2.2.2.1 ((49 : Int32) + s1.2.2.1).toNatClampNeg (0 : Int32)) ((49 : Int32) + s1.2.2.1).toNatClampNeg (s1.2.2.2.1 ((49 : Int32) + s1.2.2.1).toNatClampNeg))) hP
        refine lv_iload hx hb dX7_weed_59 (lv_at hl 0 rfl) ?_
        refine lv_iload_n hx hb dX7_weed_61 rfl (lv_at hl 4 rfl) ?_
        refine lv_icmp_le (tgt := 69) hx hb dX7_weed_62 (by decide) (fun hc8 => ?_) (fun hc8 => ?_)
        · have hf := (if_pos hc8).symm.trans hf
          refine lv_iload_n hx hb dX7_weed_69 rfl (lv_at hl 3 rfl) ?_
          refine lv_istore_n (lv' := [(1, .int s1.1), (5, .int (-1 : Int32)), (4, .int (s1.2.2.2.1 ((49 : Int32) + s1.2.2.1).toNatClampNeg)), (0, .ref (gm g 0)), (2, .int s1.2.1), (3, .int s1.2.2.1)]) hx hb dX7_weed_70 rfl hl (by decide) rfl (fun ls hl => ?_)
          refine lv_iload_n hx hb dX7_weed_71 rfl (lv_at hl 4 rfl) ?_
          refine lv_iload hx hb dX7_weed_72 (lv_at hl 1 rfl) ?_
          refine va_mmax hx hb (hml.trans hl.1.symm) hown hw1 hw2 hw3 hw4 (Nat.le_of_ble_eq_true rfl) (Nat.le_of_ble_eq_true rfl) (Nat.le_of_ble_eq_true rfl) (Nat.le_of_ble_eq_true rfl) dX7_weed_74 ?_
          refine lv_istore_n (lv' := [(2, .int (if s1.2.1 < (-1 : Int32) then (-1 : Int32) else s1.2.1)), (1, .int s1.1), (5, .int (-1 : Int32)), (4, .int (s1.2.2.2.1 ((49 : Int32) + s1.2.2.1).toNatClampNeg)), (0, .ref (gm g 0)), (3, .int s1.2.2.1)]) hx hb dX7_weed_77 rfl hl (by decide) rfl (fun ls hl => ?_)
          refine lv_iinc (v := (s1.2.2.1 + (1 : Int32))) (lv' := [(3, .int (s1.2.2.1 + (1 : Int32))), (2, .int (if s1.2.1 < (-1 : Int32) then (-1 : Int32) else s1.2.1)), (1, .int s1.1), (5, .int (-1 : Int32)), (4, .int (s1.2.2.2.1 ((49 : Int32) + s1.2.2.1).toNatClampNeg)), (0, .ref (gm g 0))]) hx hb dX7_weed_78 hl (k := 5) rfl (congrArg (fun y => s1.2.2.1 + y) (by decide : Int32.ofInt (1) = (1 : Int32))) (by decide) rfl (fun ls hl => ?_)
          refine lv_goto (tgt := 6) hx hb dX7_weed_81 (by decide) ?_
          exact hback1 _ (Option.some.inj hf).symm H locs ls hP hS (lv_sub hl [5, 2, 1, 0] rfl)
        · have hf := (if_neg hc8).symm.trans hf
          refine lv_iload_n hx hb dX7_weed_65 rfl (lv_at hl 5 rfl) ?_
          refine lv_goto (tgt := 70) hx hb dX7_weed_66 (by decide) ?_
          refine lv_istore_n (lv' := [(1, .int s1.2.2.1), (5, .int (-1 : Int32)), (4, .int (s1.2.2.2.1 ((49 : Int32) + s1.2.2.1).toNatClampNeg)), (0, .ref (gm g 0)), (2, .int s1.2.1), (3, .int s1.2.2.1)]) hx hb dX7_weed_70 rfl hl (by decide) rfl (fun ls hl => ?_)
          refine lv_iload_n hx hb dX7_weed_71 rfl (lv_at hl 4 rfl) ?_
          refine lv_iload hx hb dX7_weed_72 (lv_at hl 1 rfl) ?_
          refine va_mmax hx hb (hml.trans hl.1.symm) hown hw1 hw2 hw3 hw4 (Nat.le_of_ble_eq_true rfl) (Nat.le_of_ble_eq_true rfl) (Nat.le_of_ble_eq_true rfl) (Nat.le_of_ble_eq_true rfl) dX7_weed_74 ?_
          refine lv_istore_n (lv' := [(2, .int (if s1.2.1 < (-1 : Int32) then (-1 : Int32) else s1.2.1)), (1, .int s1.2.2.1), (5, .int (-1 : Int32)), (4, .int (s1.2.2.2.1 ((49 : Int32) + s1.2.2.1).toNatClampNeg)), (0, .ref (gm g 0)), (3, .int s1.2.2.1)]) hx hb dX7_weed_77 rfl hl (by decide) rfl (fun ls hl => ?_)
          refine lv_iinc (v := (s1.2.2.1 + (1 : Int32))) (lv' := [(3, .int (s1.2.2.1 + (1 : Int32))), (2, .int (if s1.2.1 < (-1 : Int32) then (-1 : Int32) else s1.2.1)), (1, .int s1.2.2.1), (5, .int (-1 : Int32)), (4, .int (s1.2.2.2.1 ((49 : Int32) + s1.2.2.1).toNatClampNeg)), (0, .ref (gm g 0))]) hx hb dX7_weed_78 hl (k := 5) rfl (congrArg (fun y => s1.2.2.1 + y) (by decide : Int32.ofInt (1) = (1 : Int32))) (by decide) rfl (fun ls hl => ?_)
          refine lv_goto (tgt := 6) hx hb dX7_weed_81 (by decide) ?_
          exact hback1 _ (Option.some.inj hf).symm H locs ls hP hS (lv_sub hl [5, 2, 1, 0] rfl)
      · have hf := (if_neg hc6).symm.trans hf
        refine lv_aload_n hx hb dX7_weed_38 rfl (lv_at hl 1 rfl) ?_
        obtain ⟨q9, hq9, hf⟩ := bd_some hf
        refine kr_W (st1 := [.int q9.1]) (va_runV (As := []) (rest := []) ⟨hx, hb, hml, hown, hts⟩ (ct_X7_groupsNow l n g (upd s1.2.2.2.1 ((49 : Int32) + s1.2.2.1).toNatClampNeg (0 : Int32)) m_kept m_aside m_isKept m_found s1.2.2.2.2.1 s1.2.2.2.2.2 m_lives m_treads m_tape m_taped m_begins m_ends m_sort m_value m_isWrong m_items m_itemMany m_seedThen m_groundThen m_widths m_sizes m_numbers m_moved q9 hq9) (cwV 0 hts gX7_weed_X7_groupsNow rfl rfl rfl hd_X7_groupsNow ⟨Nat.le_of_ble_eq_true rfl, Nat.le_of_ble_eq_true rfl⟩) ⟨bl_M, va_recv hK hP (ci := 5) (q0 := 0) rfl k_md, pr_M rfl hB hP hS⟩ rfl rfl hl.1 rfl (lv_room (Nat.le_of_ble_eq_true rfl)) dX7_weed_39 ⟨Nat.le_refl _, Nat.le_refl _⟩) hS rfl (fun hn10 H locs hP hS => ?_)
        have hP : va_P g.1 vwCl (mw g ((upd s1.2.2.2.1 ((49 : Int32) + s1.2.2.1).toNatClampNeg (0 : Int32)), m_kept, m_aside, m_isKept, m_found, q9.2.1, q9.2.2, m_lives, m_treads, m_tape, m_taped, m_begins, m_ends, m_sort, m_value, m_isWrong, m_items, m_itemMany, m_seedThen, m_groundThen, m_widths, m_sizes, m_numbers, m_moved)) H := hP
        refine lv_goto (tgt := 46) hx hb dX7_weed_42 (by decide) ?_
        refine lv_istore (lv' := [(5, .int q9.1), (4, .int (s1.2.2.2.1 ((49 : Int32) + s1.2.2.1).toNatClampNeg)), (0, .ref (gm g 0)), (1, .int s1.1), (2, .int s1.2.1), (3, .int s1.2.2.1)]) hx hb dX7_weed_46 hl (by decide) rfl (fun ls hl => ?_)
        refine lv_aload_n hx hb dX7_weed_48 rfl (lv_at hl 2 rfl) ?_
        refine va_get (D := g.1) (ci := 5) (v := .ref (gm g 1)) (C := RX7) (T := TX7) (N := 27) hx hb hts iwX7 hown hK hP 0 k_md rfl 0 (by decide) hw0 (fun _ h9 => h9) rfl dX7_weed_49 ?_
        refine lv_bipush (v := (49 : Int32)) hx hb dX7_weed_52 (by decide) ?_
        refine lv_iload_n hx hb dX7_weed_54 rfl (lv_at hl 5 rfl) ?_
        refine lv_iadd hx hb dX7_weed_55 ?_
        refine lv_iload hx hb dX7_weed_56 (lv_at hl 1 rfl) ?_
        obtain ⟨hg11, hf⟩ := gd_some hf
        refine va_iast (f := (upd s1.2.2.2.1 ((49 : Int32) + s1.2.2.1).toNatClampNeg (0 : Int32))) hx hb hK hP (mD hB.2.2.1 _) hS 1 0 k_now rfl hg11 dX7_weed_58 (fun H locs hP _ hS => ?_)
        have hP : va_P g.1 vwCl (mw g ((upd (upd s1.2.2.2.1 ((49 : Int32) + s1.2.2.1).toNatClampNeg (0 : Int32)) ((49 : Int32) + s1.2.2.1).toNatClampNeg (s1.2.2.2.1 ((49 : Int32) + s1.2.2.1).toNatClampNeg)), m_kept, m_aside, m_isKept, m_found, q9.2.1, q9.2.2, m_lives, m_treads, m_tape, m_taped, m_begins, m_ends, m_sort, m_value, m_isWrong, m_items, m_itemMany, m_seedThen, m_groundThen, m_widths, m_sizes, m_numbers, m_moved)) H := w_eq (k_set_now (upd (upd s1.2.2.2.1 ((49 : Int32) + s1.2.2.1).toNatClampNeg (0 : Int32)) ((49 : Int32) + s1.2.2.1).toNatClampNeg (s1.2.2.2.1 ((49 : Int32) + s1.2.2.1).toNatClampNeg))) hP
        refine lv_iload hx hb dX7_weed_59 (lv_at hl 0 rfl) ?_
        refine lv_iload_n hx hb dX7_weed_61 rfl (lv_at hl 4 rfl) ?_
        refine lv_icmp_le (tgt := 69) hx hb dX7_weed_62 (by decide) (fun hc12 => ?_) (fun hc12 => ?_)
        · have hf := (if_pos hc12).symm.trans hf
          refine lv_iload_n hx hb dX7_weed_69 rfl (lv_at hl 3 rfl) ?_
          refine lv_istore_n (lv' := [(1, .int s1.1), (5, .int q9.1), (4, .int (s1.2.2.2.1 ((49 : Int32) + s1.2.2.1).toNatClampNeg)), (0, .ref (gm g 0)), (2, .int s1.2.1), (3, .int s1.2.2.1)]) hx hb dX7_weed_70 rfl hl (by decide) rfl (fun ls hl => ?_)
          refine lv_iload_n hx hb dX7_weed_71 rfl (lv_at hl 4 rfl) ?_
          refine lv_iload hx hb dX7_weed_72 (lv_at hl 1 rfl) ?_
          refine va_mmax hx hb (hml.trans hl.1.symm) hown hw1 hw2 hw3 hw4 (Nat.le_of_ble_eq_true rfl) (Nat.le_of_ble_eq_true rfl) (Nat.le_of_ble_eq_true rfl) (Nat.le_of_ble_eq_true rfl) dX7_weed_74 ?_
          refine lv_istore_n (lv' := [(2, .int (if s1.2.1 < q9.1 then q9.1 else s1.2.1)), (1, .int s1.1), (5, .int q9.1), (4, .int (s1.2.2.2.1 ((49 : Int32) + s1.2.2.1).toNatClampNeg)), (0, .ref (gm g 0)), (3, .int s1.2.2.1)]) hx hb dX7_weed_77 rfl hl (by decide) rfl (fun ls hl => ?_)
          refine lv_iinc (v := (s1.2.2.1 + (1 : Int32))) (lv' := [(3, .int (s1.2.2.1 + (1 : Int32))), (2, .int (if s1.2.1 < q9.1 then q9.1 else s1.2.1)), (1, .int s1.1), (5, .int q9.1), (4, .int (s1.2.2.2.1 ((49 : Int32) + s1.2.2.1).toNatClampNeg)), (0, .ref (gm g 0))]) hx hb dX7_weed_78 hl (k := 5) rfl (congrArg (fun y => s1.2.2.1 + y) (by decide : Int32.ofInt (1) = (1 : Int32))) (by decide) rfl (fun ls hl => ?_)
          refine lv_goto (tgt := 6) hx hb dX7_weed_81 (by decide) ?_
          exact hback1 _ (Option.some.inj hf).symm H locs ls hP hS (lv_sub hl [5, 2, 1, 0] rfl)
        · have hf := (if_neg hc12).symm.trans hf
          refine lv_iload_n hx hb dX7_weed_65 rfl (lv_at hl 5 rfl) ?_
          refine lv_goto (tgt := 70) hx hb dX7_weed_66 (by decide) ?_
          refine lv_istore_n (lv' := [(1, .int s1.2.2.1), (5, .int q9.1), (4, .int (s1.2.2.2.1 ((49 : Int32) + s1.2.2.1).toNatClampNeg)), (0, .ref (gm g 0)), (2, .int s1.2.1), (3, .int s1.2.2.1)]) hx hb dX7_weed_70 rfl hl (by decide) rfl (fun ls hl => ?_)
          refine lv_iload_n hx hb dX7_weed_71 rfl (lv_at hl 4 rfl) ?_
          refine lv_iload hx hb dX7_weed_72 (lv_at hl 1 rfl) ?_
          refine va_mmax hx hb (hml.trans hl.1.symm) hown hw1 hw2 hw3 hw4 (Nat.le_of_ble_eq_true rfl) (Nat.le_of_ble_eq_true rfl) (Nat.le_of_ble_eq_true rfl) (Nat.le_of_ble_eq_true rfl) dX7_weed_74 ?_
          refine lv_istore_n (lv' := [(2, .int (if s1.2.1 < q9.1 then q9.1 else s1.2.1)), (1, .int s1.2.2.1), (5, .int q9.1), (4, .int (s1.2.2.2.1 ((49 : Int32) + s1.2.2.1).toNatClampNeg)), (0, .ref (gm g 0)), (3, .int s1.2.2.1)]) hx hb dX7_weed_77 rfl hl (by decide) rfl (fun ls hl => ?_)
          refine lv_iinc (v := (s1.2.2.1 + (1 : Int32))) (lv' := [(3, .int (s1.2.2.1 + (1 : Int32))), (2, .int (if s1.2.1 < q9.1 then q9.1 else s1.2.1)), (1, .int s1.2.2.1), (5, .int q9.1), (4, .int (s1.2.2.2.1 ((49 : Int32) + s1.2.2.1).toNatClampNeg)), (0, .ref (gm g 0))]) hx hb dX7_weed_78 hl (k := 5) rfl (congrArg (fun y => s1.2.2.1 + y) (by decide : Int32.ofInt (1) = (1 : Int32))) (by decide) rfl (fun ls hl => ?_)
          refine lv_goto (tgt := 6) hx hb dX7_weed_81 (by decide) ?_
          exact hback1 _ (Option.some.inj hf).symm H locs ls hP hS (lv_sub hl [5, 2, 1, 0] rfl)
set_option maxHeartbeats 4000000 in
set_option maxRecDepth 100000 in
theorem ct_X7_isSheet (l : Launch) (n : Nat) (a0 : Int32) (res : Int32) (hf : fX7_isSheet n a0 = some res) : Met l yX7_isSheet wsX7_isSheet ({ frames := 1, cells := 0, slots := 0, locals := 22 }) (va_Pc [.int a0] NW) (qS (some (.int res)) (narrow .boolean (.int res) = .int res)) 0 0 (fun _ => False) := by
  refine Met.ofW (cc := cX7_isSheet) (maxL := 1) (ret := (some .boolean)) (by decide) rfl ?_
  intro p e s m args below meth c s₁ B hml hv
  obtain ⟨rfl, hI⟩ := hv
  have hx := B.exec
  have hb := B.bytes
  have hr := B.returns
  have hts := atoms_spec (ws := wsX7_isSheet) B.pre
  have hown : s.vm.findClass RX7 = some m.cls := findClass_of_methodNamed B.named
  have hlocks := B.notSynchronized
  have hNW : NW s := hI
  have hl := lv_entry ([.int a0]) (n := 1) (Nat.le_of_ble_eq_true rfl)
  rw [lg_entry_eq]
  generalize (lg_sl ([.int a0]) ++ List.replicate (1 - (lg_sl ([.int a0])).length) Slot.unset).toArray = ls at hl ⊢
  have hl : lv_has ls 1 [(0, .int a0)] := hl
  unfold fX7_isSheet at hf
  refine lv_iload_n hx hb dX7_isSheet_0 rfl (lv_at hl 0 rfl) ?_
  refine lv_iconst (v := (0 : Int32)) hx hb dX7_isSheet_1 (by decide) ?_
  refine lv_iconst (v := (3 : Int32)) hx hb dX7_isSheet_2 (by decide) ?_
  obtain ⟨q1, hq1, hf⟩ := bd_some hf
  refine kr_S (st1 := [.int q1]) (va_runS (As := [.int a0, .int (0 : Int32), .int (3 : Int32)]) (rest := []) ⟨hx, hb, hml, hown, hts⟩ (ct_X7_within l n a0 (0 : Int32) (3 : Int32) q1 hq1) (va_cwS 3 hts gX7_isSheet_X7_within rfl rfl rfl hn_X7_within ⟨Nat.le_of_ble_eq_true rfl, Nat.le_of_ble_eq_true rfl⟩) ⟨bl_N, pr_N rfl hNW⟩ rfl rfl hl.1 rfl (lv_room (Nat.le_of_ble_eq_true rfl)) dX7_isSheet_3 ⟨Nat.le_refl _, Nat.le_refl _⟩) rfl (fun hn2 => ?_)
  have hres : q1 = res := (Option.some.inj hf)
  have hnr : narrow .boolean (.int q1) = .int q1 := hn2
  exact W.zret (v := q1) hx hb hr hnr (fun t ht hW => ⟨congrArg (fun z => Outcome.returned (some (Value.int z))) hres, Eq.mp (congrArg (fun z => narrow .boolean (.int z) = .int z) hres) hnr, ht⟩) t_nil dX7_isSheet_6
set_option maxHeartbeats 4000000 in
set_option maxRecDepth 100000 in
theorem ct_X7_lacks (l : Launch) (n : Nat) (g : GM) (m_now : Nat → Int32) (m_kept : Nat → Int32) (m_aside : Nat → Int32) (m_isKept : Int32) (m_found : Nat → Int32) (m_steps : Nat → Int32) (m_queue : Nat → Int32) (m_lives : Nat → Int32) (m_treads : Nat → Int32) (m_tape : Nat → Int32) (m_taped : Int32) (m_begins : Int32) (m_ends : Int32) (m_sort : Int32) (m_value : Int32) (m_isWrong : Int32) (m_items : Nat → Int32) (m_itemMany : Int32) (m_seedThen : Int32) (m_groundThen : Nat → Int32) (m_widths : Nat → Int32) (m_sizes : Nat → Int32) (m_numbers : Nat → Int32) (m_moved : Nat → Int32) (a1 : Int32) (res : Int32) (hf : fX7_lacks n a1 m_widths = some res) : Met l yX7_lacks wsX7_lacks ({ frames := 2, cells := 0, slots := 0, locals := 42 }) (va_Pc [.ref (gm g 0), .int a1] (mI g (m_now, m_kept, m_aside, m_isKept, m_found, m_steps, m_queue, m_lives, m_treads, m_tape, m_taped, m_begins, m_ends, m_sort, m_value, m_isWrong, m_items, m_itemMany, m_seedThen, m_groundThen, m_widths, m_sizes, m_numbers, m_moved))) (qS (some (.int res)) True) 0 0 (fun _ => False) := by
  refine Met.ofW (cc := cX7_lacks) (maxL := 2) (ret := (some .int)) (by decide) rfl ?_
  intro p e s m args below meth c s₁ B hml hv
  obtain ⟨rfl, hI⟩ := hv
  have hx := B.exec
  have hb := B.bytes
  have hr := B.returns
  have hts := atoms_spec (ws := wsX7_lacks) B.pre
  have hown : s.vm.findClass RX7 = some m.cls := findClass_of_methodNamed B.named
  have hlocks := B.notSynchronized
  have hP := hI.1
  have hB := hI.2
  have hK := hB.1
  have hNW := hB.2.1
  have hS : va_S (mA g) s.heap s.heap [] := va_S.rf
  have hw0 := hts (.fieldLink RX7 83 "SownPathsModel" "widths" "[I") (by decide +kernel)
  have hw1 := hts (.constant RX7 276 (-1000006)) (by decide +kernel)
  have hw2 := hts (.constant RX7 95 (-1000001)) (by decide +kernel)
  have iwX7 : ∀ w ∈ wsX70, w ∈ wsX7_lacks := fun w h => List.mem_cons_of_mem _ (List.mem_append_right _ h)
  have hl := lv_entry ([.ref (gm g 0), .int a1]) (n := 2) (Nat.le_of_ble_eq_true rfl)
  rw [lg_entry_eq]
  generalize (lg_sl ([.ref (gm g 0), .int a1]) ++ List.replicate (2 - (lg_sl ([.ref (gm g 0), .int a1])).length) Slot.unset).toArray = ls at hl ⊢
  have hl : lv_has ls 2 [(0, .ref (gm g 0)), (1, .int a1)] := hl
  unfold fX7_lacks at hf
  refine lv_iload_n hx hb dX7_lacks_0 rfl (lv_at hl 1 rfl) ?_
  obtain ⟨q1, hq1, hf⟩ := bd_some hf
  refine kr_S (st1 := [.int q1]) (va_runS (As := [.int a1]) (rest := []) ⟨hx, hb, hml, hown, hts⟩ (ct_X7_isSheet l n a1 q1 hq1) (va_cwS 1 hts gX7_lacks_X7_isSheet rfl rfl rfl hn_X7_isSheet ⟨Nat.le_of_ble_eq_true rfl, Nat.le_of_ble_eq_true rfl⟩) ⟨bl_N, pr_N rfl hNW⟩ rfl rfl hl.1 rfl (lv_room (Nat.le_of_ble_eq_true rfl)) dX7_lacks_1 ⟨Nat.le_refl _, Nat.le_refl _⟩) rfl (fun hn2 => ?_)
  refine lv_if_ne (tgt := 12) hx hb dX7_lacks_4 (by decide) (fun hc3 => ?_) (fun hc3 => ?_)
  · have hf := (if_neg hc3).symm.trans hf
    refine lv_aload_n hx hb dX7_lacks_12 rfl (lv_at hl 0 rfl) ?_
    refine va_get (D := g.1) (ci := 5) (v := .ref (gm g 15)) (C := RX7) (T := TX7) (N := 27) hx hb hts iwX7 hown hK hP 0 k_md rfl 23 (by decide) hw0 (fun _ h9 => h9) rfl dX7_lacks_13 ?_
    refine lv_iload_n hx hb dX7_lacks_16 rfl (lv_at hl 1 rfl) ?_
    obtain ⟨hg4, hf⟩ := gd_some hf
    refine va_iald (f := m_widths) hx hb hK hP 15 0 k_widths rfl hg4 dX7_lacks_17 ?_
    refine lv_if_ne (tgt := 27) hx hb dX7_lacks_18 (by decide) (fun hc5 => ?_) (fun hc5 => ?_)
    · have hf := (if_neg hc5).symm.trans hf
      refine lv_iconst (v := (0 : Int32)) hx hb dX7_lacks_27 (by decide) ?_
      have hres : (0 : Int32) = res := (Option.some.inj hf)
      exact W.iret (v := (0 : Int32)) hx hb hr (fun t ht hW => ⟨congrArg (fun z => Outcome.returned (some (Value.int z))) hres, trivial, ht⟩) t_nil dX7_lacks_28
    · have hf := (if_pos hc5).symm.trans hf
      refine lv_ldcw (v := (-1000006 : Int32)) hx hb hown hw1 dX7_lacks_21 ?_
      refine lv_goto (tgt := 28) hx hb dX7_lacks_24 (by decide) ?_
      have hres : (-1000006 : Int32) = res := (Option.some.inj hf)
      exact W.iret (v := (-1000006 : Int32)) hx hb hr (fun t ht hW => ⟨congrArg (fun z => Outcome.returned (some (Value.int z))) hres, trivial, ht⟩) t_nil dX7_lacks_28
  · have hf := (if_pos hc3).symm.trans hf
    refine lv_ldc (v := (-1000001 : Int32)) hx hb hown hw2 dX7_lacks_7 ?_
    refine lv_goto (tgt := 28) hx hb dX7_lacks_9 (by decide) ?_
    have hres : (-1000001 : Int32) = res := (Option.some.inj hf)
    exact W.iret (v := (-1000001 : Int32)) hx hb hr (fun t ht hW => ⟨congrArg (fun z => Outcome.returned (some (Value.int z))) hres, trivial, ht⟩) t_nil dX7_lacks_28
set_option maxHeartbeats 4000000 in
set_option maxRecDepth 100000 in
theorem ct_X7_wentSo (l : Launch) (n : Nat) (g : GM) (m_now : Nat → Int32) (m_kept : Nat → Int32) (m_aside : Nat → Int32) (m_isKept : Int32) (m_found : Nat → Int32) (m_steps : Nat → Int32) (m_queue : Nat → Int32) (m_lives : Nat → Int32) (m_treads : Nat → Int32) (m_tape : Nat → Int32) (m_taped : Int32) (m_begins : Int32) (m_ends : Int32) (m_sort : Int32) (m_value : Int32) (m_isWrong : Int32) (m_items : Nat → Int32) (m_itemMany : Int32) (m_seedThen : Int32) (m_groundThen : Nat → Int32) (m_widths : Nat → Int32) (m_sizes : Nat → Int32) (m_numbers : Nat → Int32) (m_moved : Nat → Int32) (a1 : Int32) (a2 : Int32) (res : Int32 × (Nat → Int32) × (Nat → Int32)) (hf : fX7_wentSo n a1 a2 m_now m_aside m_lives m_treads m_sizes m_numbers = some res) : Met l yX7_wentSo wsX7_wentSo ({ frames := 8, cells := 0, slots := 0, locals := 182 }) (va_Pc [.ref (gm g 0), .int a1, .int a2] (mI g (m_now, m_kept, m_aside, m_isKept, m_found, m_steps, m_queue, m_lives, m_treads, m_tape, m_taped, m_begins, m_ends, m_sort, m_value, m_isWrong, m_items, m_itemMany, m_seedThen, m_groundThen, m_widths, m_sizes, m_numbers, m_moved))) (qW (some (.int res.1)) (narrow .boolean (.int res.1) = .int res.1) g.1 (mw g (res.2.1, m_kept, res.2.2, m_isKept, m_found, m_steps, m_queue, m_lives, m_treads, m_tape, m_taped, m_begins, m_ends, m_sort, m_value, m_isWrong, m_items, m_itemMany, m_seedThen, m_groundThen, m_widths, m_sizes, m_numbers, m_moved)) (mA g)) 0 0 (mA g) := by
  refine Met.ofW (cc := cX7_wentSo) (maxL := 6) (ret := (some .boolean)) (by decide) rfl ?_
  intro p e s m args below meth c s₁ B hml hv
  obtain ⟨rfl, hI⟩ := hv
  have hx := B.exec
  have hb := B.bytes
  have hr := B.returns
  have hts := atoms_spec (ws := wsX7_wentSo) B.pre
  have hown : s.vm.findClass RX7 = some m.cls := findClass_of_methodNamed B.named
  have hlocks := B.notSynchronized
  have hP := hI.1
  have hB := hI.2
  have hK := hB.1
  have hNW := hB.2.1
  have hS : va_S (mA g) s.heap s.heap [] := va_S.rf
  have hw0 := hts (.fieldLink RX7 9 "SownPathsModel" "now" "[I") (by decide +kernel)
  have hw1 := hts (.fieldLink RX7 16 "SownPathsModel" "aside" "[I") (by decide +kernel)
  have hw2 := hts (.fieldLink RX7 86 "SownPathsModel" "sizes" "[I") (by decide +kernel)
  have hw3 := hts (.fieldLink RX7 89 "SownPathsModel" "numbers" "[I") (by decide +kernel)
  have iwX7 : ∀ w ∈ wsX70, w ∈ wsX7_wentSo := fun w h => List.mem_cons_of_mem _ (List.mem_append_right _ h)
  have hl := lv_entry ([.ref (gm g 0), .int a1, .int a2]) (n := 6) (Nat.le_of_ble_eq_true rfl)
  rw [lg_entry_eq]
  generalize (lg_sl ([.ref (gm g 0), .int a1, .int a2]) ++ List.replicate (6 - (lg_sl ([.ref (gm g 0), .int a1, .int a2])).length) Slot.unset).toArray = ls at hl ⊢
  have hl : lv_has ls 6 [(0, .ref (gm g 0)), (1, .int a1), (2, .int a2)] := hl
  unfold fX7_wentSo at hf
  refine lv_aload_n hx hb dX7_wentSo_0 rfl (lv_at hl 0 rfl) ?_
  refine va_get (D := g.1) (ci := 5) (v := .ref (gm g 1)) (C := RX7) (T := TX7) (N := 27) hx hb hts iwX7 hown hK hP 0 k_md rfl 0 (by decide) hw0 (fun _ h9 => h9) rfl dX7_wentSo_1 ?_
  refine lv_aload_n hx hb dX7_wentSo_4 rfl (lv_at hl 0 rfl) ?_
  refine va_get (D := g.1) (ci := 5) (v := .ref (gm g 3)) (C := RX7) (T := TX7) (N := 27) hx hb hts iwX7 hown hK hP 0 k_md rfl 2 (by decide) hw1 (fun _ h9 => h9) rfl dX7_wentSo_5 ?_
  obtain ⟨q1, hq1, hf⟩ := bd_some hf
  refine kr_W (st1 := []) (va_runS (As := [.ref (gm g 1), .ref (gm g 3)]) (rest := []) ⟨hx, hb, hml, hown, hts⟩ (ct_X7_copyRow l n g (m_now, m_kept, m_aside, m_isKept, m_found, m_steps, m_queue, m_lives, m_treads, m_tape, m_taped, m_begins, m_ends, m_sort, m_value, m_isWrong, m_items, m_itemMany, m_seedThen, m_groundThen, m_widths, m_sizes, m_numbers, m_moved) 3 117 m_aside k_aside 1 117 m_now k_now (by decide) q1 hq1) (va_cwS 2 hts gX7_wentSo_X7_copyRow rfl rfl rfl hn_X7_copyRow ⟨Nat.le_of_ble_eq_true rfl, Nat.le_of_ble_eq_true rfl⟩) ⟨bl_M, pr_M rfl hB hP hS⟩ rfl rfl hl.1 rfl (lv_room (Nat.le_of_ble_eq_true rfl)) dX7_wentSo_8 ⟨Nat.le_refl _, Nat.le_refl _⟩) hS rfl (fun hn2 H locs hP hS => ?_)
  have hP : va_P g.1 vwCl (mw g (m_now, m_kept, q1, m_isKept, m_found, m_steps, m_queue, m_lives, m_treads, m_tape, m_taped, m_begins, m_ends, m_sort, m_value, m_isWrong, m_items, m_itemMany, m_seedThen, m_groundThen, m_widths, m_sizes, m_numbers, m_moved)) H := w_eq (k_set_aside q1) hP
  refine lv_iconst (v := (1 : Int32)) hx hb dX7_wentSo_11 (by decide) ?_
  refine lv_istore_n (lv' := [(3, .int (1 : Int32)), (0, .ref (gm g 0)), (1, .int a1), (2, .int a2)]) hx hb dX7_wentSo_12 rfl hl (by decide) rfl (fun ls hl => ?_)
  refine lv_iconst (v := (0 : Int32)) hx hb dX7_wentSo_13 (by decide) ?_
  refine lv_istore (lv' := [(4, .int (0 : Int32)), (3, .int (1 : Int32)), (0, .ref (gm g 0)), (1, .int a1), (2, .int a2)]) hx hb dX7_wentSo_14 hl (by decide) rfl (fun ls hl => ?_)
  refine lp_run hf (fun s3 => ∀ (H : Heap) (locs : List Loc) (ls : Array Slot), va_P g.1 vwCl (mw g (s3.2.2, m_kept, q1, m_isKept, m_found, m_steps, m_queue, m_lives, m_treads, m_tape, m_taped, m_begins, m_ends, m_sort, m_value, m_isWrong, m_items, m_itemMany, m_seedThen, m_groundThen, m_widths, m_sizes, m_numbers, m_moved)) H → va_S (mA g) s.heap H locs → lv_has ls 6 [(0, .ref (gm g 0)), (1, .int a1), (2, .int a2), (3, .int s3.1), (4, .int s3.2.1)] → W p l e (headSpec wsX7_wentSo ({ frames := 8, cells := 0, slots := 0, locals := 182 })).room s m ([.ref (gm g 0), .int a1, .int a2] : List Value).toArray below meth c H locs 0 0 (MQ below (qW (some (.int res.1)) (narrow .boolean (.int res.1) = .int res.1) g.1 (mw g (res.2.1, m_kept, res.2.2, m_isKept, m_found, m_steps, m_queue, m_lives, m_treads, m_tape, m_taped, m_begins, m_ends, m_sort, m_value, m_isWrong, m_items, m_itemMany, m_seedThen, m_groundThen, m_widths, m_sizes, m_numbers, m_moved)) (mA g)) ([.ref (gm g 0), .int a1, .int a2] : List Value).toArray s 0 0 (mA g)) (F0 m 16 ls [])) (fun v4 => ∀ (H : Heap) (locs : List Loc) (ls : Array Slot), va_P g.1 vwCl (mw g (v4.2.2, m_kept, q1, m_isKept, m_found, m_steps, m_queue, m_lives, m_treads, m_tape, m_taped, m_begins, m_ends, m_sort, m_value, m_isWrong, m_items, m_itemMany, m_seedThen, m_groundThen, m_widths, m_sizes, m_numbers, m_moved)) H → va_S (mA g) s.heap H locs → lv_has ls 6 [(0, .ref (gm g 0)), (3, .int v4.1)] → W p l e (headSpec wsX7_wentSo ({ frames := 8, cells := 0, slots := 0, locals := 182 })).room s m ([.ref (gm g 0), .int a1, .int a2] : List Value).toArray below meth c H locs 0 0 (MQ below (qW (some (.int res.1)) (narrow .boolean (.int res.1) = .int res.1) g.1 (mw g (res.2.1, m_kept, res.2.2, m_isKept, m_found, m_steps, m_queue, m_lives, m_treads, m_tape, m_taped, m_begins, m_ends, m_sort, m_value, m_isWrong, m_items, m_itemMany, m_seedThen, m_groundThen, m_widths, m_sizes, m_numbers, m_moved)) (mA g)) ([.ref (gm g 0), .int a1, .int a2] : List Value).toArray s 0 0 (mA g)) (F0 m 81 ls [])) ?_ ?_ _ _ _ hP hS (lv_sub hl [2, 3, 4, 1, 0] rfl)
  · intro v4 hf H locs ls hP hS hl
    refine lv_aload_n hx hb dX7_wentSo_81 rfl (lv_at hl 0 rfl) ?_
    refine va_get (D := g.1) (ci := 5) (v := .ref (gm g 3)) (C := RX7) (T := TX7) (N := 27) hx hb hts iwX7 hown hK hP 0 k_md rfl 2 (by decide) hw1 (fun _ h9 => h9) rfl dX7_wentSo_82 ?_
    refine lv_aload_n hx hb dX7_wentSo_85 rfl (lv_at hl 0 rfl) ?_
    refine va_get (D := g.1) (ci := 5) (v := .ref (gm g 1)) (C := RX7) (T := TX7) (N := 27) hx hb hts iwX7 hown hK hP 0 k_md rfl 0 (by decide) hw0 (fun _ h9 => h9) rfl dX7_wentSo_86 ?_
    obtain ⟨q18, hq18, hf⟩ := bd_some hf
    refine kr_W (st1 := []) (va_runS (As := [.ref (gm g 3), .ref (gm g 1)]) (rest := []) ⟨hx, hb, hml, hown, hts⟩ (ct_X7_copyRow l n g (v4.2.2, m_kept, q1, m_isKept, m_found, m_steps, m_queue, m_lives, m_treads, m_tape, m_taped, m_begins, m_ends, m_sort, m_value, m_isWrong, m_items, m_itemMany, m_seedThen, m_groundThen, m_widths, m_sizes, m_numbers, m_moved) 1 117 v4.2.2 k_now 3 117 q1 k_aside (by decide) q18 hq18) (va_cwS 2 hts gX7_wentSo_X7_copyRow rfl rfl rfl hn_X7_copyRow ⟨Nat.le_of_ble_eq_true rfl, Nat.le_of_ble_eq_true rfl⟩) ⟨bl_M, pr_M rfl hB hP hS⟩ rfl rfl hl.1 rfl (lv_room (Nat.le_of_ble_eq_true rfl)) dX7_wentSo_89 ⟨Nat.le_refl _, Nat.le_refl _⟩) hS rfl (fun hn19 H locs hP hS => ?_)
    have hP : va_P g.1 vwCl (mw g (q18, m_kept, q1, m_isKept, m_found, m_steps, m_queue, m_lives, m_treads, m_tape, m_taped, m_begins, m_ends, m_sort, m_value, m_isWrong, m_items, m_itemMany, m_seedThen, m_groundThen, m_widths, m_sizes, m_numbers, m_moved)) H := w_eq (k_set_now q18) hP
    refine lv_iload_n hx hb dX7_wentSo_92 rfl (lv_at hl 1 rfl) ?_
    obtain ⟨hg20, hf⟩ := gd_some hf
    have hres : (v4.1, q18, q1) = res := (Option.some.inj hf)
    have hnr : narrow .boolean (.int v4.1) = .int v4.1 := (nar01 hg20)
    have hP := w_eq (congrArg (fun z => mw g (z.2.1, m_kept, z.2.2, m_isKept, m_found, m_steps, m_queue, m_lives, m_treads, m_tape, m_taped, m_begins, m_ends, m_sort, m_value, m_isWrong, m_items, m_itemMany, m_seedThen, m_groundThen, m_widths, m_sizes, m_numbers, m_moved)) hres) hP
    exact W.zret (v := v4.1) hx hb hr hnr (fun t ht hW => ⟨congrArg (fun z => Outcome.returned (some (Value.int z.1))) hres, Eq.mp (congrArg (fun z => narrow .boolean (.int z.1) = .int z.1) hres) hnr, by rw [ht]; exact hP, hS.F ht⟩) hS.2.2 dX7_wentSo_93
  · intro s3 r1 hf hback1 hexit1 H locs ls hP hS hl
    refine lv_iload hx hb dX7_wentSo_16 (lv_at hl 4 rfl) ?_
    refine lv_aload_n hx hb dX7_wentSo_18 rfl (lv_at hl 0 rfl) ?_
    refine va_get (D := g.1) (ci := 5) (v := .ref (gm g 16)) (C := RX7) (T := TX7) (N := 27) hx hb hts iwX7 hown hK hP 0 k_md rfl 24 (by decide) hw2 (fun _ h9 => h9) rfl dX7_wentSo_19 ?_
    refine lv_iload_n hx hb dX7_wentSo_22 rfl (lv_at hl 1 rfl) ?_
    obtain ⟨hg5, hf⟩ := gd_some hf
    refine va_iald (f := m_sizes) hx hb hK hP 16 0 k_sizes rfl hg5 dX7_wentSo_23 ?_
    refine lv_icmp_ge (tgt := 81) hx hb dX7_wentSo_24 (by decide) (fun hc6 => ?_) (fun hc6 => ?_)
    · have hf := (if_pos hc6).symm.trans hf
      exact hexit1 (s3.1, s3.2.1, s3.2.2) (Option.some.inj hf).symm H locs ls hP hS (lv_sub hl [0, 3] rfl)
    · have hf := (if_neg hc6).symm.trans hf
      refine lv_iload_n hx hb dX7_wentSo_27 rfl (lv_at hl 3 rfl) ?_
      refine lv_if_eq (tgt := 81) hx hb dX7_wentSo_28 (by decide) (fun hc7 => ?_) (fun hc7 => ?_)
      · have hf := (if_pos hc7).symm.trans hf
        exact hexit1 (s3.1, s3.2.1, s3.2.2) (Option.some.inj hf).symm H locs ls hP hS (lv_sub hl [0, 3] rfl)
      · have hf := (if_neg hc7).symm.trans hf
        refine lv_aload_n hx hb dX7_wentSo_31 rfl (lv_at hl 0 rfl) ?_
        refine va_get (D := g.1) (ci := 5) (v := .ref (gm g 17)) (C := RX7) (T := TX7) (N := 27) hx hb hts iwX7 hown hK hP 0 k_md rfl 25 (by decide) hw3 (fun _ h9 => h9) rfl dX7_wentSo_32 ?_
        refine lv_bipush (v := (40 : Int32)) hx hb dX7_wentSo_35 (by decide) ?_
        refine lv_iload_n hx hb dX7_wentSo_37 rfl (lv_at hl 1 rfl) ?_
        refine lv_imul hx hb dX7_wentSo_38 ?_
        refine lv_iload hx hb dX7_wentSo_39 (lv_at hl 4 rfl) ?_
        refine lv_iadd hx hb dX7_wentSo_41 ?_
        obtain ⟨hg8, hf⟩ := gd_some hf
        refine va_iald (f := m_numbers) hx hb hK hP 17 0 k_numbers rfl hg8 dX7_wentSo_42 ?_
        refine lv_istore (lv' := [(5, .int (m_numbers (((40 : Int32) * a1) + s3.2.1).toNatClampNeg)), (0, .ref (gm g 0)), (1, .int a1), (2, .int a2), (3, .int s3.1), (4, .int s3.2.1)]) hx hb dX7_wentSo_43 hl (by decide) rfl (fun ls hl => ?_)
        refine lv_iload hx hb dX7_wentSo_45 (lv_at hl 0 rfl) ?_
        refine lv_iconst (v := (-1 : Int32)) hx hb dX7_wentSo_47 (by decide) ?_
        refine lv_icmp_eq (tgt := 65) hx hb dX7_wentSo_48 (by decide) (fun hc9 => ?_) (fun hc9 => ?_)
        · have hf := (if_pos hc9).symm.trans hf
          refine lv_iconst (v := (1 : Int32)) hx hb dX7_wentSo_65 (by decide) ?_
          refine lv_goto (tgt := 70) hx hb dX7_wentSo_66 (by decide) ?_
          refine lv_istore_n (lv' := [(3, .int (1 : Int32)), (5, .int (m_numbers (((40 : Int32) * a1) + s3.2.1).toNatClampNeg)), (0, .ref (gm g 0)), (1, .int a1), (2, .int a2), (4, .int s3.2.1)]) hx hb dX7_wentSo_70 rfl hl (by decide) rfl (fun ls hl => ?_)
          refine lv_aload_n hx hb dX7_wentSo_71 rfl (lv_at hl 2 rfl) ?_
          obtain ⟨q10, hq10, hf⟩ := bd_some hf
          refine kr_W (st1 := []) (va_runV (As := []) (rest := []) ⟨hx, hb, hml, hown, hts⟩ (ct_X7_season l n g s3.2.2 m_kept q1 m_isKept m_found m_steps m_queue m_lives m_treads m_tape m_taped m_begins m_ends m_sort m_value m_isWrong m_items m_itemMany m_seedThen m_groundThen m_widths m_sizes m_numbers m_moved q10 hq10) (cwV 0 hts gX7_wentSo_X7_season rfl rfl rfl hd_X7_season ⟨Nat.le_of_ble_eq_true rfl, Nat.le_of_ble_eq_true rfl⟩) ⟨bl_M, va_recv hK hP (ci := 5) (q0 := 0) rfl k_md, pr_M rfl hB hP hS⟩ rfl rfl hl.1 rfl (lv_room (Nat.le_of_ble_eq_true rfl)) dX7_wentSo_72 ⟨Nat.le_refl _, Nat.le_refl _⟩) hS rfl (fun hn11 H locs hP hS => ?_)
          have hP : va_P g.1 vwCl (mw g (q10, m_kept, q1, m_isKept, m_found, m_steps, m_queue, m_lives, m_treads, m_tape, m_taped, m_begins, m_ends, m_sort, m_value, m_isWrong, m_items, m_itemMany, m_seedThen, m_groundThen, m_widths, m_sizes, m_numbers, m_moved)) H := hP
          refine lv_iinc (v := (s3.2.1 + (1 : Int32))) (lv' := [(4, .int (s3.2.1 + (1 : Int32))), (3, .int (1 : Int32)), (5, .int (m_numbers (((40 : Int32) * a1) + s3.2.1).toNatClampNeg)), (0, .ref (gm g 0)), (1, .int a1), (2, .int a2)]) hx hb dX7_wentSo_75 hl (k := 5) rfl (congrArg (fun y => s3.2.1 + y) (by decide : Int32.ofInt (1) = (1 : Int32))) (by decide) rfl (fun ls hl => ?_)
          refine lv_goto (tgt := 16) hx hb dX7_wentSo_78 (by decide) ?_
          exact hback1 _ (Option.some.inj hf).symm H locs ls hP hS (lv_sub hl [3, 4, 5, 1, 0] rfl)
        · have hf := (if_neg hc9).symm.trans hf
          refine lv_iload hx hb dX7_wentSo_51 (lv_at hl 0 rfl) ?_
          refine lv_aload_n hx hb dX7_wentSo_53 rfl (lv_at hl 1 rfl) ?_
          refine va_get (D := g.1) (ci := 5) (v := .ref (gm g 1)) (C := RX7) (T := TX7) (N := 27) hx hb hts iwX7 hown hK hP 0 k_md rfl 0 (by decide) hw0 (fun _ h9 => h9) rfl dX7_wentSo_54 ?_
          refine lv_bipush (v := (49 : Int32)) hx hb dX7_wentSo_57 (by decide) ?_
          refine lv_iload_n hx hb dX7_wentSo_59 rfl (lv_at hl 3 rfl) ?_
          refine lv_iadd hx hb dX7_wentSo_60 ?_
          obtain ⟨hg12, hf⟩ := gd_some hf
          refine va_iald (f := s3.2.2) hx hb hK hP 1 0 k_now rfl hg12 dX7_wentSo_61 ?_
          refine lv_icmp_ne (tgt := 69) hx hb dX7_wentSo_62 (by decide) (fun hc13 => ?_) (fun hc13 => ?_)
          · have hf := (if_neg hc13).symm.trans hf
            refine lv_iconst (v := (0 : Int32)) hx hb dX7_wentSo_69 (by decide) ?_
            refine lv_istore_n (lv' := [(3, .int (0 : Int32)), (5, .int (m_numbers (((40 : Int32) * a1) + s3.2.1).toNatClampNeg)), (0, .ref (gm g 0)), (1, .int a1), (2, .int a2), (4, .int s3.2.1)]) hx hb dX7_wentSo_70 rfl hl (by decide) rfl (fun ls hl => ?_)
            refine lv_aload_n hx hb dX7_wentSo_71 rfl (lv_at hl 2 rfl) ?_
            obtain ⟨q14, hq14, hf⟩ := bd_some hf
            refine kr_W (st1 := []) (va_runV (As := []) (rest := []) ⟨hx, hb, hml, hown, hts⟩ (ct_X7_season l n g s3.2.2 m_kept q1 m_isKept m_found m_steps m_queue m_lives m_treads m_tape m_taped m_begins m_ends m_sort m_value m_isWrong m_items m_itemMany m_seedThen m_groundThen m_widths m_sizes m_numbers m_moved q14 hq14) (cwV 0 hts gX7_wentSo_X7_season rfl rfl rfl hd_X7_season ⟨Nat.le_of_ble_eq_true rfl, Nat.le_of_ble_eq_true rfl⟩) ⟨bl_M, va_recv hK hP (ci := 5) (q0 := 0) rfl k_md, pr_M rfl hB hP hS⟩ rfl rfl hl.1 rfl (lv_room (Nat.le_of_ble_eq_true rfl)) dX7_wentSo_72 ⟨Nat.le_refl _, Nat.le_refl _⟩) hS rfl (fun hn15 H locs hP hS => ?_)
            have hP : va_P g.1 vwCl (mw g (q14, m_kept, q1, m_isKept, m_found, m_steps, m_queue, m_lives, m_treads, m_tape, m_taped, m_begins, m_ends, m_sort, m_value, m_isWrong, m_items, m_itemMany, m_seedThen, m_groundThen, m_widths, m_sizes, m_numbers, m_moved)) H := hP
            refine lv_iinc (v := (s3.2.1 + (1 : Int32))) (lv' := [(4, .int (s3.2.1 + (1 : Int32))), (3, .int (0 : Int32)), (5, .int (m_numbers (((40 : Int32) * a1) + s3.2.1).toNatClampNeg)), (0, .ref (gm g 0)), (1, .int a1), (2, .int a2)]) hx hb dX7_wentSo_75 hl (k := 5) rfl (congrArg (fun y => s3.2.1 + y) (by decide : Int32.ofInt (1) = (1 : Int32))) (by decide) rfl (fun ls hl => ?_)
            refine lv_goto (tgt := 16) hx hb dX7_wentSo_78 (by decide) ?_
            exact hback1 _ (Option.some.inj hf).symm H locs ls hP hS (lv_sub hl [3, 4, 5, 1, 0] rfl)
          · have hf := (if_pos hc13).symm.trans hf
            refine lv_iconst (v := (1 : Int32)) hx hb dX7_wentSo_65 (by decide) ?_
            refine lv_goto (tgt := 70) hx hb dX7_wentSo_66 (by decide) ?_
            refine lv_istore_n (lv' := [(3, .int (1 : Int32)), (5, .int (m_numbers (((40 : Int32) * a1) + s3.2.1).toNatClampNeg)), (0, .ref (gm g 0)), (1, .int a1), (2, .int a2), (4, .int s3.2.1)]) hx hb dX7_wentSo_70 rfl hl (by decide) rfl (fun ls hl => ?_)
            refine lv_aload_n hx hb dX7_wentSo_71 rfl (lv_at hl 2 rfl) ?_
            obtain ⟨q16, hq16, hf⟩ := bd_some hf
            refine kr_W (st1 := []) (va_runV (As := []) (rest := []) ⟨hx, hb, hml, hown, hts⟩ (ct_X7_season l n g s3.2.2 m_kept q1 m_isKept m_found m_steps m_queue m_lives m_treads m_tape m_taped m_begins m_ends m_sort m_value m_isWrong m_items m_itemMany m_seedThen m_groundThen m_widths m_sizes m_numbers m_moved q16 hq16) (cwV 0 hts gX7_wentSo_X7_season rfl rfl rfl hd_X7_season ⟨Nat.le_of_ble_eq_true rfl, Nat.le_of_ble_eq_true rfl⟩) ⟨bl_M, va_recv hK hP (ci := 5) (q0 := 0) rfl k_md, pr_M rfl hB hP hS⟩ rfl rfl hl.1 rfl (lv_room (Nat.le_of_ble_eq_true rfl)) dX7_wentSo_72 ⟨Nat.le_refl _, Nat.le_refl _⟩) hS rfl (fun hn17 H locs hP hS => ?_)
            have hP : va_P g.1 vwCl (mw g (q16, m_kept, q1, m_isKept, m_found, m_steps, m_queue, m_lives, m_treads, m_tape, m_taped, m_begins, m_ends, m_sort, m_value, m_isWrong, m_items, m_itemMany, m_seedThen, m_groundThen, m_widths, m_sizes, m_numbers, m_moved)) H := hP
            refine lv_iinc (v := (s3.2.1 + (1 : Int32))) (lv' := [(4, .int (s3.2.1 + (1 : Int32))), (3, .int (1 : Int32)), (5, .int (m_numbers (((40 : Int32) * a1) + s3.2.1).toNatClampNeg)), (0, .ref (gm g 0)), (1, .int a1), (2, .int a2)]) hx hb dX7_wentSo_75 hl (k := 5) rfl (congrArg (fun y => s3.2.1 + y) (by decide : Int32.ofInt (1) = (1 : Int32))) (by decide) rfl (fun ls hl => ?_)
            refine lv_goto (tgt := 16) hx hb dX7_wentSo_78 (by decide) ?_
            exact hback1 _ (Option.some.inj hf).symm H locs ls hP hS (lv_sub hl [3, 4, 5, 1, 0] rfl)
