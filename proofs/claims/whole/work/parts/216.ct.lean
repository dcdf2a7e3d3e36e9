/-! CONTRACTS, by program -/
set_option maxHeartbeats 4000000 in
set_option maxRecDepth 100000 in
theorem ct_X7_text (l : Launch) (n : Nat) (g : GM) (m_now : Nat → Int32) (m_kept : Nat → Int32) (m_aside : Nat → Int32) (m_isKept : Int32) (m_found : Nat → Int32) (m_steps : Nat → Int32) (m_queue : Nat → Int32) (m_lives : Nat → Int32) (m_treads : Nat → Int32) (m_tape : Nat → Int32) (m_taped : Int32) (m_begins : Int32) (m_ends : Int32) (m_sort : Int32) (m_value : Int32) (m_isWrong : Int32) (m_items : Nat → Int32) (m_itemMany : Int32) (m_seedThen : Int32) (m_groundThen : Nat → Int32) (m_widths : Nat → Int32) (m_sizes : Nat → Int32) (m_numbers : Nat → Int32) (m_moved : Nat → Int32) (res : Int32 × (Nat → Int32) × Int32 × Int32 × Int32 × Int32 × Int32 × Int32 × (Nat → Int32) × Int32 × Int32 × (Nat → Int32)) (hf : fX7_text n m_now m_tape m_taped m_begins m_ends m_sort m_value m_isWrong m_items m_itemMany m_seedThen m_groundThen = some res) : Met l yX7_text wsX7_text ({ frames := 9, cells := 0, slots := 0, locals := 234 }) (va_Pc [.ref (gm g 0)] (mI g (m_now, m_kept, m_aside, m_isKept, m_found, m_steps, m_queue, m_lives, m_treads, m_tape, m_taped, m_begins, m_ends, m_sort, m_value, m_isWrong, m_items, m_itemMany, m_seedThen, m_groundThen, m_widths, m_sizes, m_numbers, m_moved))) (qW (some (.int res.1)) True g.1 (mw g (res.2.1, m_kept, m_aside, m_isKept, m_found, m_steps, m_queue, m_lives, m_treads, m_tape, res.2.2.1, res.2.2.2.1, res.2.2.2.2.1, res.2.2.2.2.2.1, res.2.2.2.2.2.2.1, res.2.2.2.2.2.2.2.1, res.2.2.2.2.2.2.2.2.1, res.2.2.2.2.2.2.2.2.2.1, res.2.2.2.2.2.2.2.2.2.2.1, res.2.2.2.2.2.2.2.2.2.2.2, m_widths, m_sizes, m_numbers, m_moved)) (mA g)) 0 0 (mA g) := by
  refine Met.ofW (cc := cX7_text) (maxL := 3) (ret := (some .int)) (by decide) rfl ?_
  intro p e s m args below meth c s₁ B hml hv
  obtain ⟨rfl, hI⟩ := hv
  have hx := B.exec
  have hb := B.bytes
  have hr := B.returns
  have hts := atoms_spec (ws := wsX7_text) B.pre
  have hown : s.vm.findClass RX7 = some m.cls := findClass_of_methodNamed B.named
  have hlocks := B.notSynchronized
  have hP := hI.1
  have hB := hI.2
  have hK := hB.1
  have hNW := hB.2.1
  have hS : va_S (mA g) s.heap s.heap [] := va_S.rf
  have hw0 := hts (.fieldLink RX7 297 "SownPathsModel" "ends" "I") (by decide +kernel)
  have hw1 := hts (.fieldLink RX7 319 "SownPathsModel" "isWrong" "Z") (by decide +kernel)
  have hw2 := hts (.fieldLink RX7 330 "SownPathsModel" "itemMany" "I") (by decide +kernel)
  have hw3 := hts (.fieldLink RX7 9 "SownPathsModel" "now" "[I") (by decide +kernel)
  have hw4 := hts (.fieldLink RX7 337 "SownPathsModel" "seedThen" "I") (by decide +kernel)
  have hw5 := hts (.fieldLink RX7 80 "SownPathsModel" "groundThen" "[I") (by decide +kernel)
  have hw6 := hts (.fieldLink RX7 309 "SownPathsModel" "sort" "I") (by decide +kernel)
  have hw7 := hts (.fieldLink RX7 34 "SownPathsModel" "tape" "[I") (by decide +kernel)
  have hw8 := hts (.fieldLink RX7 300 "SownPathsModel" "begins" "I") (by decide +kernel)
  have hw9 := hts (.fieldLink RX7 293 "SownPathsModel" "taped" "I") (by decide +kernel)
  have iwX7 : ∀ w ∈ wsX70, w ∈ wsX7_text := fun w h => List.mem_cons_of_mem _ (List.mem_append_right _ h)
  have hl := lv_entry ([.ref (gm g 0)]) (n := 3) (Nat.le_of_ble_eq_true rfl)
  rw [lg_entry_eq]
  generalize (lg_sl ([.ref (gm g 0)]) ++ List.replicate (3 - (lg_sl ([.ref (gm g 0)])).length) Slot.unset).toArray = ls at hl ⊢
  have hl : lv_has ls 3 [(0, .ref (gm g 0))] := hl
  unfold fX7_text at hf
  refine lv_aload_n hx hb dX7_text_0 rfl (lv_at hl 0 rfl) ?_
  refine lv_iconst (v := (0 : Int32)) hx hb dX7_text_1 (by decide) ?_
  refine va_put (D := g.1) (ci := 5) (v := .int (0 : Int32)) (ty := .int) (C := RX7) (T := TX7) (N := 27) hx hb hts iwX7 tyX7 tyX7_ok nmX7 hown hK hP (mD hB.2.2.1 _) hS 0 k_md rfl 12 (by decide) hw0 (fun _ h9 => h9) rfl (tyX7_ok 12 (by decide)) rfl rfl (Nat.le_of_ble_eq_true rfl) dX7_text_2 (fun H locs hP _ hS => ?_)
  have hP : va_P g.1 vwCl (mw g (m_now, m_kept, m_aside, m_isKept, m_found, m_steps, m_queue, m_lives, m_treads, m_tape, m_taped, m_begins, (0 : Int32), m_sort, m_value, m_isWrong, m_items, m_itemMany, m_seedThen, m_groundThen, m_widths, m_sizes, m_numbers, m_moved)) H := w_eq (k_set_ends (0 : Int32)) hP
  refine lv_aload_n hx hb dX7_text_5 rfl (lv_at hl 0 rfl) ?_
  refine lv_iconst (v := (0 : Int32)) hx hb dX7_text_6 (by decide) ?_
  refine va_put (D := g.1) (ci := 5) (v := .int (0 : Int32)) (ty := .boolean) (C := RX7) (T := TX7) (N := 27) hx hb hts iwX7 tyX7 tyX7_ok nmX7 hown hK hP (mD hB.2.2.1 _) hS 0 k_md rfl 15 (by decide) hw1 (fun _ h9 => h9) rfl (tyX7_ok 15 (by decide)) rfl rfl (Nat.le_of_ble_eq_true rfl) dX7_text_7 (fun H locs hP _ hS => ?_)
  have hP : va_P g.1 vwCl (mw g (m_now, m_kept, m_aside, m_isKept, m_found, m_steps, m_queue, m_lives, m_treads, m_tape, m_taped, m_begins, (0 : Int32), m_sort, m_value, (0 : Int32), m_items, m_itemMany, m_seedThen, m_groundThen, m_widths, m_sizes, m_numbers, m_moved)) H := w_eq (k_set_isWrong (0 : Int32)) hP
  refine lv_aload_n hx hb dX7_text_10 rfl (lv_at hl 0 rfl) ?_
  refine lv_iconst (v := (0 : Int32)) hx hb dX7_text_11 (by decide) ?_
  refine va_put (D := g.1) (ci := 5) (v := .int (0 : Int32)) (ty := .int) (C := RX7) (T := TX7) (N := 27) hx hb hts iwX7 tyX7 tyX7_ok nmX7 hown hK hP (mD hB.2.2.1 _) hS 0 k_md rfl 20 (by decide) hw2 (fun _ h9 => h9) rfl (tyX7_ok 20 (by decide)) rfl rfl (Nat.le_of_ble_eq_true rfl) dX7_text_12 (fun H locs hP _ hS => ?_)
  have hP : va_P g.1 vwCl (mw g (m_now, m_kept, m_aside, m_isKept, m_found, m_steps, m_queue, m_lives, m_treads, m_tape, m_taped, m_begins, (0 : Int32), m_sort, m_value, (0 : Int32), m_items, (0 : Int32), m_seedThen, m_groundThen, m_widths, m_sizes, m_numbers, m_moved)) H := w_eq (k_set_itemMany (0 : Int32)) hP
  refine lv_aload_n hx hb dX7_text_15 rfl (lv_at hl 0 rfl) ?_
  refine lv_aload_n hx hb dX7_text_16 rfl (lv_at hl 0 rfl) ?_
  refine va_get (D := g.1) (ci := 5) (v := .ref (gm g 1)) (C := RX7) (T := TX7) (N := 27) hx hb hts iwX7 hown hK hP 0 k_md rfl 0 (by decide) hw3 (fun _ h9 => h9) rfl dX7_text_17 ?_
  refine lv_iconst (v := (1 : Int32)) hx hb dX7_text_20 (by decide) ?_
  refine va_iald (f := m_now) hx hb hK hP 1 0 k_now rfl (vi_lit (by decide)) dX7_text_21 ?_
  refine va_put (D := g.1) (ci := 5) (v := .int (m_now (1 : Int32).toNatClampNeg)) (ty := .int) (C := RX7) (T := TX7) (N := 27) hx hb hts iwX7 tyX7 tyX7_ok nmX7 hown hK hP (mD hB.2.2.1 _) hS 0 k_md rfl 21 (by decide) hw4 (fun _ h9 => h9) rfl (tyX7_ok 21 (by decide)) rfl rfl (Nat.le_of_ble_eq_true rfl) dX7_text_22 (fun H locs hP _ hS => ?_)
  have hP : va_P g.1 vwCl (mw g (m_now, m_kept, m_aside, m_isKept, m_found, m_steps, m_queue, m_lives, m_treads, m_tape, m_taped, m_begins, (0 : Int32), m_sort, m_value, (0 : Int32), m_items, (0 : Int32), (m_now (1 : Int32).toNatClampNeg), m_groundThen, m_widths, m_sizes, m_numbers, m_moved)) H := w_eq (k_set_seedThen (m_now (1 : Int32).toNatClampNeg)) hP
  refine lv_iconst (v := (0 : Int32)) hx hb dX7_text_25 (by decide) ?_
  refine lv_istore_n (lv' := [(1, .int (0 : Int32)), (0, .ref (gm g 0))]) hx hb dX7_text_26 rfl hl (by decide) rfl (fun ls hl => ?_)
  refine lp_run hf (fun s1 => ∀ (H : Heap) (locs : List Loc) (ls : Array Slot), va_P g.1 vwCl (mw g (m_now, m_kept, m_aside, m_isKept, m_found, m_steps, m_queue, m_lives, m_treads, m_tape, m_taped, m_begins, (0 : Int32), m_sort, m_value, (0 : Int32), m_items, (0 : Int32), (m_now (1 : Int32).toNatClampNeg), s1.2, m_widths, m_sizes, m_numbers, m_moved)) H → va_S (mA g) s.heap H locs → lv_has ls 3 [(0, .ref (gm g 0)), (1, .int s1.1)] → W p l e (headSpec wsX7_text ({ frames := 9, cells := 0, slots := 0, locals := 234 })).room s m ([.ref (gm g 0)] : List Value).toArray below meth c H locs 0 0 (MQ below (qW (some (.int res.1)) True g.1 (mw g (res.2.1, m_kept, m_aside, m_isKept, m_found, m_steps, m_queue, m_lives, m_treads, m_tape, res.2.2.1, res.2.2.2.1, res.2.2.2.2.1, res.2.2.2.2.2.1, res.2.2.2.2.2.2.1, res.2.2.2.2.2.2.2.1, res.2.2.2.2.2.2.2.2.1, res.2.2.2.2.2.2.2.2.2.1, res.2.2.2.2.2.2.2.2.2.2.1, res.2.2.2.2.2.2.2.2.2.2.2, m_widths, m_sizes, m_numbers, m_moved)) (mA g)) ([.ref (gm g 0)] : List Value).toArray s 0 0 (mA g)) (F0 m 27 ls [])) (fun v2 => ∀ (H : Heap) (locs : List Loc) (ls : Array Slot), va_P g.1 vwCl (mw g (m_now, m_kept, m_aside, m_isKept, m_found, m_steps, m_queue, m_lives, m_treads, m_tape, m_taped, m_begins, (0 : Int32), m_sort, m_value, (0 : Int32), m_items, (0 : Int32), (m_now (1 : Int32).toNatClampNeg), v2.2, m_widths, m_sizes, m_numbers, m_moved)) H → va_S (mA g) s.heap H locs → lv_has ls 3 [(0, .ref (gm g 0))] → W p l e (headSpec wsX7_text ({ frames := 9, cells := 0, slots := 0, locals := 234 })).room s m ([.ref (gm g 0)] : List Value).toArray below meth c H locs 0 0 (MQ below (qW (some (.int res.1)) True g.1 (mw g (res.2.1, m_kept, m_aside, m_isKept, m_found, m_steps, m_queue, m_lives, m_treads, m_tape, res.2.2.1, res.2.2.2.1, res.2.2.2.2.1, res.2.2.2.2.2.1, res.2.2.2.2.2.2.1, res.2.2.2.2.2.2.2.1, res.2.2.2.2.2.2.2.2.1, res.2.2.2.2.2.2.2.2.2.1, res.2.2.2.2.2.2.2.2.2.2.1, res.2.2.2.2.2.2.2.2.2.2.2, m_widths, m_sizes, m_numbers, m_moved)) (mA g)) ([.ref (gm g 0)] : List Value).toArray s 0 0 (mA g)) (F0 m 54 ls [])) ?_ ?_ _ _ _ hP hS (lv_sub hl [1, 0] rfl)
  · intro v2 hf H locs ls hP hS hl
    refine lv_aload_n hx hb dX7_text_54 rfl (lv_at hl 0 rfl) ?_
    obtain ⟨q6, hq6, hf⟩ := bd_some hf
    refine kr_W (st1 := []) (va_runV (As := []) (rest := []) ⟨hx, hb, hml, hown, hts⟩ (ct_X7_next l n g m_now m_kept m_aside m_isKept m_found m_steps m_queue m_lives m_treads m_tape m_taped m_begins (0 : Int32) m_sort m_value (0 : Int32) m_items (0 : Int32) (m_now (1 : Int32).toNatClampNeg) v2.2 m_widths m_sizes m_numbers m_moved q6 hq6) (cwV 0 hts gX7_text_X7_next rfl rfl rfl hd_X7_next ⟨Nat.le_of_ble_eq_true rfl, Nat.le_of_ble_eq_true rfl⟩) ⟨bl_M, va_recv hK hP (ci := 5) (q0 := 0) rfl k_md, pr_M rfl hB hP hS⟩ rfl rfl hl.1 rfl (lv_room (Nat.le_of_ble_eq_true rfl)) dX7_text_55 ⟨Nat.le_refl _, Nat.le_refl _⟩) hS rfl (fun hn7 H locs hP hS => ?_)
    have hP : va_P g.1 vwCl (mw g (m_now, m_kept, m_aside, m_isKept, m_found, m_steps, m_queue, m_lives, m_treads, m_tape, m_taped, q6.1, q6.2.1, q6.2.2.1, q6.2.2.2, (0 : Int32), m_items, (0 : Int32), (m_now (1 : Int32).toNatClampNeg), v2.2, m_widths, m_sizes, m_numbers, m_moved)) H := hP
    refine lv_aload_n hx hb dX7_text_58 rfl (lv_at hl 0 rfl) ?_
    obtain ⟨q8, hq8, hf⟩ := bd_some hf
    refine kr_W (st1 := []) (va_runV (As := []) (rest := []) ⟨hx, hb, hml, hown, hts⟩ (ct_X7_readItem l n g m_now m_kept m_aside m_isKept m_found m_steps m_queue m_lives m_treads m_tape m_taped q6.1 q6.2.1 q6.2.2.1 q6.2.2.2 (0 : Int32) m_items (0 : Int32) (m_now (1 : Int32).toNatClampNeg) v2.2 m_widths m_sizes m_numbers m_moved q8 hq8) (cwV 0 hts gX7_text_X7_readItem rfl rfl rfl hd_X7_readItem ⟨Nat.le_of_ble_eq_true rfl, Nat.le_of_ble_eq_true rfl⟩) ⟨bl_M, va_recv hK hP (ci := 5) (q0 := 0) rfl k_md, pr_M rfl hB hP hS⟩ rfl rfl hl.1 rfl (lv_room (Nat.le_of_ble_eq_true rfl)) dX7_text_59 ⟨Nat.le_refl _, Nat.le_refl _⟩) hS rfl (fun hn9 H locs hP hS => ?_)
    have hP : va_P g.1 vwCl (mw g (m_now, m_kept, m_aside, m_isKept, m_found, m_steps, m_queue, m_lives, m_treads, m_tape, m_taped, q8.1, q8.2.1, q8.2.2.1, q8.2.2.2.1, q8.2.2.2.2.1, q8.2.2.2.2.2.1, q8.2.2.2.2.2.2.1, q8.2.2.2.2.2.2.2.1, q8.2.2.2.2.2.2.2.2, m_widths, m_sizes, m_numbers, m_moved)) H := hP
    refine lp_run hf (fun s10 => ∀ (H : Heap) (locs : List Loc) (ls : Array Slot), va_P g.1 vwCl (mw g (m_now, m_kept, m_aside, m_isKept, m_found, m_steps, m_queue, m_lives, m_treads, m_tape, m_taped, s10.1, s10.2.1, s10.2.2.1, s10.2.2.2.1, s10.2.2.2.2.1, s10.2.2.2.2.2.1, s10.2.2.2.2.2.2.1, s10.2.2.2.2.2.2.2.1, s10.2.2.2.2.2.2.2.2, m_widths, m_sizes, m_numbers, m_moved)) H → va_S (mA g) s.heap H locs → lv_has ls 3 [(0, .ref (gm g 0))] → W p l e (headSpec wsX7_text ({ frames := 9, cells := 0, slots := 0, locals := 234 })).room s m ([.ref (gm g 0)] : List Value).toArray below meth c H locs 0 0 (MQ below (qW (some (.int res.1)) True g.1 (mw g (res.2.1, m_kept, m_aside, m_isKept, m_found, m_steps, m_queue, m_lives, m_treads, m_tape, res.2.2.1, res.2.2.2.1, res.2.2.2.2.1, res.2.2.2.2.2.1, res.2.2.2.2.2.2.1, res.2.2.2.2.2.2.2.1, res.2.2.2.2.2.2.2.2.1, res.2.2.2.2.2.2.2.2.2.1, res.2.2.2.2.2.2.2.2.2.2.1, res.2.2.2.2.2.2.2.2.2.2.2, m_widths, m_sizes, m_numbers, m_moved)) (mA g)) ([.ref (gm g 0)] : List Value).toArray s 0 0 (mA g)) (F0 m 62 ls [])) (fun v11 => ∀ (H : Heap) (locs : List Loc) (ls : Array Slot), va_P g.1 vwCl (mw g (m_now, m_kept, m_aside, m_isKept, m_found, m_steps, m_queue, m_lives, m_treads, m_tape, m_taped, v11.1, v11.2.1, v11.2.2.1, v11.2.2.2.1, v11.2.2.2.2.1, v11.2.2.2.2.2.1, v11.2.2.2.2.2.2.1, v11.2.2.2.2.2.2.2.1, v11.2.2.2.2.2.2.2.2, m_widths, m_sizes, m_numbers, m_moved)) H → va_S (mA g) s.heap H locs → lv_has ls 3 [(0, .ref (gm g 0))] → W p l e (headSpec wsX7_text ({ frames := 9, cells := 0, slots := 0, locals := 234 })).room s m ([.ref (gm g 0)] : List Value).toArray below meth c H locs 0 0 (MQ below (qW (some (.int res.1)) True g.1 (mw g (res.2.1, m_kept, m_aside, m_isKept, m_found, m_steps, m_queue, m_lives, m_treads, m_tape, res.2.2.1, res.2.2.2.1, res.2.2.2.2.1, res.2.2.2.2.2.1, res.2.2.2.2.2.2.1, res.2.2.2.2.2.2.2.1, res.2.2.2.2.2.2.2.2.1, res.2.2.2.2.2.2.2.2.2.1, res.2.2.2.2.2.2.2.2.2.2.1, res.2.2.2.2.2.2.2.2.2.2.2, m_widths, m_sizes, m_numbers, m_moved)) (mA g)) ([.ref (gm g 0)] : List Value).toArray s 0 0 (mA g)) (F0 m 103 ls [])) ?_ ?_ _ _ _ hP hS (lv_sub hl [0] rfl)
    · intro v11 hf H locs ls hP hS hl
      refine lv_aload_n hx hb dX7_text_103 rfl (lv_at hl 0 rfl) ?_
      refine lv_aload_n hx hb dX7_text_104 rfl (lv_at hl 0 rfl) ?_
      refine va_get (D := g.1) (ci := 5) (v := .int v11.2.2.1) (C := RX7) (T := TX7) (N := 27) hx hb hts iwX7 hown hK hP 0 k_md rfl 13 (by decide) hw6 (fun _ h9 => h9) rfl dX7_text_105 ?_
      refine lv_if_ne (tgt := 115) hx hb dX7_text_108 (by decide) (fun hc20 => ?_) (fun hc20 => ?_)
      · have hf := (if_neg hc20).symm.trans hf
        refine lv_iconst (v := (0 : Int32)) hx hb dX7_text_115 (by decide) ?_
        obtain ⟨q21, hq21, hf⟩ := bd_some hf
        refine kr_W (st1 := []) (va_runV (As := [.int (0 : Int32)]) (rest := []) ⟨hx, hb, hml, hown, hts⟩ (ct_X7_must l n g m_now m_kept m_aside m_isKept m_found m_steps m_queue m_lives m_treads m_tape m_taped v11.1 v11.2.1 v11.2.2.1 v11.2.2.2.1 v11.2.2.2.2.1 v11.2.2.2.2.2.1 v11.2.2.2.2.2.2.1 v11.2.2.2.2.2.2.2.1 v11.2.2.2.2.2.2.2.2 m_widths m_sizes m_numbers m_moved (0 : Int32) q21 hq21) (cwV 1 hts gX7_text_X7_must rfl rfl rfl hd_X7_must ⟨Nat.le_of_ble_eq_true rfl, Nat.le_of_ble_eq_true rfl⟩) ⟨bl_M, va_recv hK hP (ci := 5) (q0 := 0) rfl k_md, pr_M rfl hB hP hS⟩ rfl rfl hl.1 rfl (lv_room (Nat.le_of_ble_eq_true rfl)) dX7_text_116 ⟨Nat.le_refl _, Nat.le_refl _⟩) hS rfl (fun hn22 H locs hP hS => ?_)
        have hP : va_P g.1 vwCl (mw g (m_now, m_kept, m_aside, m_isKept, m_found, m_steps, m_queue, m_lives, m_treads, m_tape, m_taped, q21.1, q21.2.1, q21.2.2.1, q21.2.2.2.1, q21.2.2.2.2, v11.2.2.2.2.2.1, v11.2.2.2.2.2.2.1, v11.2.2.2.2.2.2.2.1, v11.2.2.2.2.2.2.2.2, m_widths, m_sizes, m_numbers, m_moved)) H := hP
        refine lv_aload_n hx hb dX7_text_119 rfl (lv_at hl 0 rfl) ?_
        refine lv_iconst (v := (0 : Int32)) hx hb dX7_text_120 (by decide) ?_
        refine va_put (D := g.1) (ci := 5) (v := .int (0 : Int32)) (ty := .int) (C := RX7) (T := TX7) (N := 27) hx hb hts iwX7 tyX7 tyX7_ok nmX7 hown hK hP (mD hB.2.2.1 _) hS 0 k_md rfl 10 (by decide) hw9 (fun _ h9 => h9) rfl (tyX7_ok 10 (by decide)) rfl rfl (Nat.le_of_ble_eq_true rfl) dX7_text_121 (fun H locs hP _ hS => ?_)
        have hP : va_P g.1 vwCl (mw g (m_now, m_kept, m_aside, m_isKept, m_found, m_steps, m_queue, m_lives, m_treads, m_tape, (0 : Int32), q21.1, q21.2.1, q21.2.2.1, q21.2.2.2.1, q21.2.2.2.2, v11.2.2.2.2.2.1, v11.2.2.2.2.2.2.1, v11.2.2.2.2.2.2.2.1, v11.2.2.2.2.2.2.2.2, m_widths, m_sizes, m_numbers, m_moved)) H := w_eq (k_set_taped (0 : Int32)) hP
        refine lv_aload_n hx hb dX7_text_124 rfl (lv_at hl 0 rfl) ?_
        refine va_get (D := g.1) (ci := 5) (v := .int q21.2.2.2.2) (C := RX7) (T := TX7) (N := 27) hx hb hts iwX7 hown hK hP 0 k_md rfl 15 (by decide) hw1 (fun _ h9 => h9) rfl dX7_text_125 ?_
        refine lv_if_eq (tgt := 138) hx hb dX7_text_128 (by decide) (fun hc23 => ?_) (fun hc23 => ?_)
        · have hf := (if_pos hc23).symm.trans hf
          refine lv_iconst (v := (0 : Int32)) hx hb dX7_text_138 (by decide) ?_
          refine lv_istore_n (lv' := [(1, .int (0 : Int32)), (0, .ref (gm g 0))]) hx hb dX7_text_139 rfl hl (by decide) rfl (fun ls hl => ?_)
          refine lv_iconst (v := (0 : Int32)) hx hb dX7_text_140 (by decide) ?_
          refine lv_istore_n (lv' := [(2, .int (0 : Int32)), (1, .int (0 : Int32)), (0, .ref (gm g 0))]) hx hb dX7_text_141 rfl hl (by decide) rfl (fun ls hl => ?_)
          refine lp_run hf (fun s24 => ∀ (H : Heap) (locs : List Loc) (ls : Array Slot), va_P g.1 vwCl (mw g (s24.2.2, m_kept, m_aside, m_isKept, m_found, m_steps, m_queue, m_lives, m_treads, m_tape, (0 : Int32), q21.1, q21.2.1, q21.2.2.1, q21.2.2.2.1, q21.2.2.2.2, v11.2.2.2.2.2.1, v11.2.2.2.2.2.2.1, v11.2.2.2.2.2.2.2.1, v11.2.2.2.2.2.2.2.2, m_widths, m_sizes, m_numbers, m_moved)) H → va_S (mA g) s.heap H locs → lv_has ls 3 [(0, .ref (gm g 0)), (1, .int s24.1), (2, .int s24.2.1)] → W p l e (headSpec wsX7_text ({ frames := 9, cells := 0, slots := 0, locals := 234 })).room s m ([.ref (gm g 0)] : List Value).toArray below meth c H locs 0 0 (MQ below (qW (some (.int res.1)) True g.1 (mw g (res.2.1, m_kept, m_aside, m_isKept, m_found, m_steps, m_queue, m_lives, m_treads, m_tape, res.2.2.1, res.2.2.2.1, res.2.2.2.2.1, res.2.2.2.2.2.1, res.2.2.2.2.2.2.1, res.2.2.2.2.2.2.2.1, res.2.2.2.2.2.2.2.2.1, res.2.2.2.2.2.2.2.2.2.1, res.2.2.2.2.2.2.2.2.2.2.1, res.2.2.2.2.2.2.2.2.2.2.2, m_widths, m_sizes, m_numbers, m_moved)) (mA g)) ([.ref (gm g 0)] : List Value).toArray s 0 0 (mA g)) (F0 m 142 ls [])) (fun v25 => ∀ (H : Heap) (locs : List Loc) (ls : Array Slot), va_P g.1 vwCl (mw g (v25.2.2, m_kept, m_aside, m_isKept, m_found, m_steps, m_queue, m_lives, m_treads, m_tape, (0 : Int32), q21.1, q21.2.1, q21.2.2.1, q21.2.2.2.1, q21.2.2.2.2, v11.2.2.2.2.2.1, v11.2.2.2.2.2.2.1, v11.2.2.2.2.2.2.2.1, v11.2.2.2.2.2.2.2.2, m_widths, m_sizes, m_numbers, m_moved)) H → va_S (mA g) s.heap H locs → lv_has ls 3 [(1, .int v25.1)] → W p l e (headSpec wsX7_text ({ frames := 9, cells := 0, slots := 0, locals := 234 })).room s m ([.ref (gm g 0)] : List Value).toArray below meth c H locs 0 0 (MQ below (qW (some (.int res.1)) True g.1 (mw g (res.2.1, m_kept, m_aside, m_isKept, m_found, m_steps, m_queue, m_lives, m_treads, m_tape, res.2.2.1, res.2.2.2.1, res.2.2.2.2.1, res.2.2.2.2.2.1, res.2.2.2.2.2.2.1, res.2.2.2.2.2.2.2.1, res.2.2.2.2.2.2.2.2.1, res.2.2.2.2.2.2.2.2.2.1, res.2.2.2.2.2.2.2.2.2.2.1, res.2.2.2.2.2.2.2.2.2.2.2, m_widths, m_sizes, m_numbers, m_moved)) (mA g)) ([.ref (gm g 0)] : List Value).toArray s 0 0 (mA g)) (F0 m 174 ls [])) ?_ ?_ _ _ _ hP hS (lv_sub hl [2, 1, 0] rfl)
          · intro v25 hf H locs ls hP hS hl
            refine lv_iload_n hx hb dX7_text_174 rfl (lv_at hl 0 rfl) ?_
            have hres : (v25.1, v25.2.2, (0 : Int32), q21.1, q21.2.1, q21.2.2.1, q21.2.2.2.1, q21.2.2.2.2, v11.2.2.2.2.2.1, v11.2.2.2.2.2.2.1, v11.2.2.2.2.2.2.2.1, v11.2.2.2.2.2.2.2.2) = res := (Option.some.inj hf)
            have hP := w_eq (congrArg (fun z => mw g (z.2.1, m_kept, m_aside, m_isKept, m_found, m_steps, m_queue, m_lives, m_treads, m_tape, z.2.2.1, z.2.2.2.1, z.2.2.2.2.1, z.2.2.2.2.2.1, z.2.2.2.2.2.2.1, z.2.2.2.2.2.2.2.1, z.2.2.2.2.2.2.2.2.1, z.2.2.2.2.2.2.2.2.2.1, z.2.2.2.2.2.2.2.2.2.2.1, z.2.2.2.2.2.2.2.2.2.2.2, m_widths, m_sizes, m_numbers, m_moved)) hres) hP
            exact W.iret (v := v25.1) hx hb hr (fun t ht hW => ⟨congrArg (fun z => Outcome.returned (some (Value.int z.1))) hres, trivial, by rw [ht]; exact hP, hS.F ht⟩) hS.2.2 dX7_text_175
          · intro s24 r1 hf hback1 hexit1 H locs ls hP hS hl
            refine lv_iload_n hx hb dX7_text_142 rfl (lv_at hl 2 rfl) ?_
            refine lv_aload_n hx hb dX7_text_143 rfl (lv_at hl 0 rfl) ?_
            refine va_get (D := g.1) (ci := 5) (v := .int v11.2.2.2.2.2.2.1) (C := RX7) (T := TX7) (N := 27) hx hb hts iwX7 hown hK hP 0 k_md rfl 20 (by decide) hw2 (fun _ h9 => h9) rfl dX7_text_144 ?_
            refine lv_icmp_ge (tgt := 174) hx hb dX7_text_147 (by decide) (fun hc26 => ?_) (fun hc26 => ?_)
            · have hf := (if_pos hc26).symm.trans hf
              exact hexit1 (s24.1, s24.2.1, s24.2.2) (Option.some.inj hf).symm H locs ls hP hS (lv_sub hl [1] rfl)
            · have hf := (if_neg hc26).symm.trans hf
              refine lv_iload_n hx hb dX7_text_150 rfl (lv_at hl 1 rfl) ?_
              refine lv_aload_n hx hb dX7_text_151 rfl (lv_at hl 0 rfl) ?_
              refine lv_iconst (v := (4 : Int32)) hx hb dX7_text_152 (by decide) ?_
              refine lv_iload_n hx hb dX7_text_153 rfl (lv_at hl 2 rfl) ?_
              refine lv_imul hx hb dX7_text_154 ?_
              obtain ⟨q27, hq27, hf⟩ := bd_some hf
              refine kr_W (st1 := [.int q27.1, .int s24.1]) (va_runV (As := [.int ((4 : Int32) * s24.2.1)]) (rest := [.int s24.1]) ⟨hx, hb, hml, hown, hts⟩ (ct_X7_isToldSo l n g s24.2.2 m_kept m_aside m_isKept m_found m_steps m_queue m_lives m_treads m_tape (0 : Int32) q21.1 q21.2.1 q21.2.2.1 q21.2.2.2.1 q21.2.2.2.2 v11.2.2.2.2.2.1 v11.2.2.2.2.2.2.1 v11.2.2.2.2.2.2.2.1 v11.2.2.2.2.2.2.2.2 m_widths m_sizes m_numbers m_moved ((4 : Int32) * s24.2.1) q27 hq27) (cwV 1 hts gX7_text_X7_isToldSo rfl rfl rfl hd_X7_isToldSo ⟨Nat.le_of_ble_eq_true rfl, Nat.le_of_ble_eq_true rfl⟩) ⟨bl_M, va_recv hK hP (ci := 5) (q0 := 0) rfl k_md, pr_M rfl hB hP hS⟩ rfl rfl hl.1 rfl (lv_room (Nat.le_of_ble_eq_true rfl)) dX7_text_155 ⟨Nat.le_refl _, Nat.le_refl _⟩) hS rfl (fun hn28 H locs hP hS => ?_)
              have hP : va_P g.1 vwCl (mw g (q27.2, m_kept, m_aside, m_isKept, m_found, m_steps, m_queue, m_lives, m_treads, m_tape, (0 : Int32), q21.1, q21.2.1, q21.2.2.1, q21.2.2.2.1, q21.2.2.2.2, v11.2.2.2.2.2.1, v11.2.2.2.2.2.2.1, v11.2.2.2.2.2.2.2.1, v11.2.2.2.2.2.2.2.2, m_widths, m_sizes, m_numbers, m_moved)) H := hP
              refine lv_if_ge (tgt := 165) hx hb dX7_text_158 (by decide) (fun hc29 => ?_) (fun hc29 => ?_)
              · have hf := (if_pos hc29).symm.trans hf
                refine lv_iconst (v := (1 : Int32)) hx hb dX7_text_165 (by decide) ?_
                refine lv_iadd hx hb dX7_text_166 ?_
                refine lv_istore_n (lv' := [(1, .int (s24.1 + (1 : Int32))), (0, .ref (gm g 0)), (2, .int s24.2.1)]) hx hb dX7_text_167 rfl hl (by decide) rfl (fun ls hl => ?_)
                refine lv_iinc (v := (s24.2.1 + (1 : Int32))) (lv' := [(2, .int (s24.2.1 + (1 : Int32))), (1, .int (s24.1 + (1 : Int32))), (0, .ref (gm g 0))]) hx hb dX7_text_168 hl (k := 2) rfl (congrArg (fun y => s24.2.1 + y) (by decide : Int32.ofInt (1) = (1 : Int32))) (by decide) rfl (fun ls hl => ?_)
                refine lv_goto (tgt := 142) hx hb dX7_text_171 (by decide) ?_
                exact hback1 _ (Option.some.inj hf).symm H locs ls hP hS (lv_sub hl [2, 1, 0] rfl)
              · have hf := (if_neg hc29).symm.trans hf
                refine lv_iconst (v := (0 : Int32)) hx hb dX7_text_161 (by decide) ?_
                refine lv_goto (tgt := 166) hx hb dX7_text_162 (by decide) ?_
                refine lv_iadd hx hb dX7_text_166 ?_
                refine lv_istore_n (lv' := [(1, .int (s24.1 + (0 : Int32))), (0, .ref (gm g 0)), (2, .int s24.2.1)]) hx hb dX7_text_167 rfl hl (by decide) rfl (fun ls hl => ?_)
                refine lv_iinc (v := (s24.2.1 + (1 : Int32))) (lv' := [(2, .int (s24.2.1 + (1 : Int32))), (1, .int (s24.1 + (0 : Int32))), (0, .ref (gm g 0))]) hx hb dX7_text_168 hl (k := 2) rfl (congrArg (fun y => s24.2.1 + y) (by decide : Int32.ofInt (1) = (1 : Int32))) (by decide) rfl (fun ls hl => ?_)
                refine lv_goto (tgt := 142) hx hb dX7_text_171 (by decide) ?_
                exact hback1 _ (Option.some.inj hf).symm H locs ls hP hS (lv_sub hl [2, 1, 0] rfl)
        · have hf := (if_neg hc23).symm.trans hf
          refine lv_iconst (v := (-1 : Int32)) hx hb dX7_text_131 (by decide) ?_
          refine lv_aload_n hx hb dX7_text_132 rfl (lv_at hl 0 rfl) ?_
          refine va_get (D := g.1) (ci := 5) (v := .int q21.1) (C := RX7) (T := TX7) (N := 27) hx hb hts iwX7 hown hK hP 0 k_md rfl 11 (by decide) hw8 (fun _ h9 => h9) rfl dX7_text_133 ?_
          refine lv_isub hx hb dX7_text_136 ?_
          have hres : (((-1 : Int32) - q21.1), m_now, (0 : Int32), q21.1, q21.2.1, q21.2.2.1, q21.2.2.2.1, q21.2.2.2.2, v11.2.2.2.2.2.1, v11.2.2.2.2.2.2.1, v11.2.2.2.2.2.2.2.1, v11.2.2.2.2.2.2.2.2) = res := (Option.some.inj hf)
          have hP := w_eq (congrArg (fun z => mw g (z.2.1, m_kept, m_aside, m_isKept, m_found, m_steps, m_queue, m_lives, m_treads, m_tape, z.2.2.1, z.2.2.2.1, z.2.2.2.2.1, z.2.2.2.2.2.1, z.2.2.2.2.2.2.1, z.2.2.2.2.2.2.2.1, z.2.2.2.2.2.2.2.2.1, z.2.2.2.2.2.2.2.2.2.1, z.2.2.2.2.2.2.2.2.2.2.1, z.2.2.2.2.2.2.2.2.2.2.2, m_widths, m_sizes, m_numbers, m_moved)) hres) hP
          exact W.iret (v := ((-1 : Int32) - q21.1)) hx hb hr (fun t ht hW => ⟨congrArg (fun z => Outcome.returned (some (Value.int z.1))) hres, trivial, by rw [ht]; exact hP, hS.F ht⟩) hS.2.2 dX7_text_137
      · have hf := (if_pos hc20).symm.trans hf
        refine lv_iconst (v := (1 : Int32)) hx hb dX7_text_111 (by decide) ?_
        refine lv_goto (tgt := 116) hx hb dX7_text_112 (by decide) ?_
        obtain ⟨q30, hq30, hf⟩ := bd_some hf
        refine kr_W (st1 := []) (va_runV (As := [.int (1 : Int32)]) (rest := []) ⟨hx, hb, hml, hown, hts⟩ (ct_X7_must l n g m_now m_kept m_aside m_isKept m_found m_steps m_queue m_lives m_treads m_tape m_taped v11.1 v11.2.1 v11.2.2.1 v11.2.2.2.1 v11.2.2.2.2.1 v11.2.2.2.2.2.1 v11.2.2.2.2.2.2.1 v11.2.2.2.2.2.2.2.1 v11.2.2.2.2.2.2.2.2 m_widths m_sizes m_numbers m_moved (1 : Int32) q30 hq30) (cwV 1 hts gX7_text_X7_must rfl rfl rfl hd_X7_must ⟨Nat.le_of_ble_eq_true rfl, Nat.le_of_ble_eq_true rfl⟩) ⟨bl_M, va_recv hK hP (ci := 5) (q0 := 0) rfl k_md, pr_M rfl hB hP hS⟩ rfl rfl hl.1 rfl (lv_room (Nat.le_of_ble_eq_true rfl)) dX7_text_116 ⟨Nat.le_refl _, Nat.le_refl _⟩) hS rfl (fun hn31 H locs hP hS => ?_)
        have hP : va_P g.1 vwCl (mw g (m_now, m_kept, m_aside, m_isKept, m_found, m_steps, m_queue, m_lives, m_treads, m_tape, m_taped, q30.1, q30.2.1, q30.2.2.1, q30.2.2.2.1, q30.2.2.2.2, v11.2.2.2.2.2.1, v11.2.2.2.2.2.2.1, v11.2.2.2.2.2.2.2.1, v11.2.2.2.2.2.2.2.2, m_widths, m_sizes, m_numbers, m_moved)) H := hP
        refine lv_aload_n hx hb dX7_text_119 rfl (lv_at hl 0 rfl) ?_
        refine lv_iconst (v := (0 : Int32)) hx hb dX7_text_120 (by decide) ?_
        refine va_put (D := g.1) (ci := 5) (v := .int (0 : Int32)) (ty := .int) (C := RX7) (T := TX7) (N := 27) hx hb hts iwX7 tyX7 tyX7_ok nmX7 hown hK hP (mD hB.2.2.1 _) hS 0 k_md rfl 10 (by decide) hw9 (fun _ h9 => h9) rfl (tyX7_ok 10 (by decide)) rfl rfl (Nat.le_of_ble_eq_true rfl) dX7_text_121 (fun H locs hP _ hS => ?_)
        have hP : va_P g.1 vwCl (mw g (m_now, m_kept, m_aside, m_isKept, m_found, m_steps, m_queue, m_lives, m_treads, m_tape, (0 : Int32), q30.1, q30.2.1, q30.2.2.1, q30.2.2.2.1, q30.2.2.2.2, v11.2.2.2.2.2.1, v11.2.2.2.2.2.2.1, v11.2.2.2.2.2.2.2.1, v11.2.2.2.2.2.2.2.2, m_widths, m_sizes, m_numbers, m_moved)) H := w_eq (k_set_taped (0 : Int32)) hP
        refine lv_aload_n hx hb dX7_text_124 rfl (lv_at hl 0 rfl) ?_
        refine va_get (D := g.1) (ci := 5) (v := .int q30.2.2.2.2) (C := RX7) (T := TX7) (N := 27) hx hb hts iwX7 hown hK hP 0 k_md rfl 15 (by decide) hw1 (fun _ h9 => h9) rfl dX7_text_125 ?_
        refine lv_if_eq (tgt := 138) hx hb dX7_text_128 (by decide) (fun hc32 => ?_) (fun hc32 => ?_)
        · have hf := (if_pos hc32).symm.trans hf
          refine lv_iconst (v := (0 : Int32)) hx hb dX7_text_138 (by decide) ?_
          refine lv_istore_n (lv' := [(1, .int (0 : Int32)), (0, .ref (gm g 0))]) hx hb dX7_text_139 rfl hl (by decide) rfl (fun ls hl => ?_)
          refine lv_iconst (v := (0 : Int32)) hx hb dX7_text_140 (by decide) ?_
          refine lv_istore_n (lv' := [(2, .int (0 : Int32)), (1, .int (0 : Int32)), (0, .ref (gm g 0))]) hx hb dX7_text_141 rfl hl (by decide) rfl (fun ls hl => ?_)
          refine lp_run hf (fun s33 => ∀ (H : Heap) (locs : List Loc) (ls : Array Slot), va_P g.1 vwCl (mw g (s33.2.2, m_kept, m_aside, m_isKept, m_found, m_steps, m_queue, m_lives, m_treads, m_tape, (0 : Int32), q30.1, q30.2.1, q30.2.2.1, q30.2.2.2.1, q30.2.2.2.2, v11.2.2.2.2.2.1, v11.2.2.2.2.2.2.1, v11.2.2.2.2.2.2.2.1, v11.2.2.2.2.2.2.2.2, m_widths, m_sizes, m_numbers, m_moved)) H → va_S (mA g) s.heap H locs → lv_has ls 3 [(0, .ref (gm g 0)), (1, .int s33.1), (2, .int s33.2.1)] → W p l e (headSpec wsX7_text ({ frames := 9, cells := 0, slots := 0, locals := 234 })).room s m ([.ref (gm g 0)] : List Value).toArray below meth c H locs 0 0 (MQ below (qW (some (.int res.1)) True g.1 (mw g (res.2.1, m_kept, m_aside, m_isKept, m_found, m_steps, m_queue, m_lives, m_treads, m_tape, res.2.2.1, res.2.2.2.1, res.2.2.2.2.1, res.2.2.2.2.2.1, res.2.2.2.2.2.2.1, res.2.2.2.2.2.2.2.1, res.2.2.2.2.2.2.2.2.1, res.2.2.2.2.2.2.2.2.2.1, res.2.2.2.2.2.2.2.2.2.2.1, res.2.2.2.2.2.2.2.2.2.2.2, m_widths, m_sizes, m_numbers, m_moved)) (mA g)) ([.ref (gm g 0)] : List Value).toArray s 0 0 (mA g)) (F0 m 142 ls [])) (fun v34 => ∀ (H : Heap) (locs : List Loc) (ls : Array Slot), va_P g.1 vwCl (mw g (v34.2.2, m_kept, m_aside, m_isKept, m_found, m_steps, m_queue, m_lives, m_treads, m_tape, (0 : Int32), q30.1, q30.2.1, q30.2.2.1, q30.2.2.2.1, q30.2.2.2.2, v11.2.2.2.2.2.1, v11.2.2.2.2.2.2.1, v11.2.2.2.2.2.2.2.1, v11.2.2.2.2.2.2.2.2, m_widths, m_sizes, m_numbers, m_moved)) H → va_S (mA g) s.heap H locs → lv_has ls 3 [(1, .int v34.1)] → W p l e (headSpec wsX7_text ({ frames := 9, cells := 0, slots := 0, locals := 234 })).room s m ([.ref (gm g 0)] : List Value).toArray below meth c H locs 0 0 (MQ below (qW (some (.int res.1)) True g.1 (mw g (res.2.1, m_kept, m_aside, m_isKept, m_found, m_steps, m_queue, m_lives, m_treads, m_tape, res.2.2.1, res.2.2.2.1, res.2.2.2.2.1, res.2.2.2.2.2.1, res.2.2.2.2.2.2.1, res.2.2.2.2.2.2.2.1, res.2.2.2.2.2.2.2.2.1, res.2.2.2.2.2.2.2.2.2.1, res.2.2.2.2.2.2.2.2.2.2.1, res.2.2.2.2.2.2.2.2.2.2.2, m_widths, m_sizes, m_numbers, m_moved)) (mA g)) ([.ref (gm g 0)] : List Value).toArray s 0 0 (mA g)) (F0 m 174 ls [])) ?_ ?_ _ _ _ hP hS (lv_sub hl [2, 1, 0] rfl)
          · intro v34 hf H locs ls hP hS hl
            refine lv_iload_n hx hb dX7_text_174 rfl (lv_at hl 0 rfl) ?_
            have hres : (v34.1, v34.2.2, (0 : Int32), q30.1, q30.2.1, q30.2.2.1, q30.2.2.2.1, q30.2.2.2.2, v11.2.2.2.2.2.1, v11.2.2.2.2.2.2.1, v11.2.2.2.2.2.2.2.1, v11.2.2.2.2.2.2.2.2) = res := (Option.some.inj hf)
            have hP := w_eq (congrArg (fun z => mw g (z.2.1, m_kept, m_aside, m_isKept, m_found, m_steps, m_queue, m_lives, m_treads, m_tape, z.2.2.1, z.2.2.2.1, z.2.2.2.2.1, z.2.2.2.2.2.1, z.2.2.2.2.2.2.1, z.2.2.2.2.2.2.2.1, z.2.2.2.2.2.2.2.2.1, z.2.2.2.2.2.2.2.2.2.1, z.2.2.2.2.2.2.2.2.2.2.1, z.2.2.2.2.2.2.2.2.2.2.2, m_widths, m_sizes, m_numbers, m_moved)) hres) hP
            exact W.iret (v := v34.1) hx hb hr (fun t ht hW => ⟨congrArg (fun z => Outcome.returned (some (Value.int z.1))) hres, trivial, by rw [ht]; exact hP, hS.F ht⟩) hS.2.2 dX7_text_175
          · intro s33 r1 hf hback1 hexit1 H locs ls hP hS hl
            refine lv_iload_n hx hb dX7_text_142 rfl (lv_at hl 2 rfl) ?_
            refine lv_aload_n hx hb dX7_text_143 rfl (lv_at hl 0 rfl) ?_
            refine va_get (D := g.1) (ci := 5) (v := .int v11.2.2.2.2.2.2.1) (C := RX7) (T := TX7) (N := 27) hx hb hts iwX7 hown hK hP 0 k_md rfl 20 (by decide) hw2 (fun _ h9 => h9) rfl dX7_text_144 ?_
            refine lv_icmp_ge (tgt := 174) hx hb dX7_text_147 (by decide) (fun hc35 => ?_) (fun hc35 => ?_)
            · have hf := (if_pos hc35).symm.trans hf
              exact hexit1 (s33.1, s33.2.1, s33.2.2) (Option.some.inj hf).symm H locs ls hP hS (lv_sub hl [1] rfl)
            · have hf := (if_neg hc35).symm.trans hf
              refine lv_iload_n hx hb dX7_text_150 rfl (lv_at hl 1 rfl) ?_
              refine lv_aload_n hx hb dX7_text_151 rfl (lv_at hl 0 rfl) ?_
              refine lv_iconst (v := (4 : Int32)) hx hb dX7_text_152 (by decide) ?_
              refine lv_iload_n hx hb dX7_text_153 rfl (lv_at hl 2 rfl) ?_
              refine lv_imul hx hb dX7_text_154 ?_
              obtain ⟨q36, hq36, hf⟩ := bd_some hf
              refine kr_W (st1 := [.int q36.1, .int s33.1]) (va_runV (As := [.int ((4 : Int32) * s33.2.1)]) (rest := [.int s33.1]) ⟨hx, hb, hml, hown, hts⟩ (ct_X7_isToldSo l n g s33.2.2 m_kept m_aside m_isKept m_found m_steps m_queue m_lives m_treads m_tape (0 : Int32) q30.1 q30.2.1 q30.2.2.1 q30.2.2.2.1 q30.2.2.2.2 v11.2.2.2.2.2.1 v11.2.2.2.2.2.2.1 v11.2.2.2.2.2.2.2.1 v11.2.2.2.2.2.2.2.2 m_widths m_sizes m_numbers m_moved ((4 : Int32) * s33.2.1) q36 hq36) (cwV 1 hts gX7_text_X7_isToldSo rfl rfl rfl hd_X7_isToldSo ⟨Nat.le_of_ble_eq_true rfl, Nat.le_of_ble_eq_true rfl⟩) ⟨bl_M, va_recv hK hP (ci := 5) (q0 := 0) rfl k_md, pr_M rfl hB hP hS⟩ rfl rfl hl.1 rfl (lv_room (Nat.le_of_ble_eq_true rfl)) dX7_text_155 ⟨Nat.le_refl _, Nat.le_refl _⟩) hS rfl (fun hn37 H locs hP hS => ?_)
              have hP : va_P g.1 vwCl (mw g (q36.2, m_kept, m_aside, m_isKept, m_found, m_steps, m_queue, m_lives, m_treads, m_tape, (0 : Int32), q30.1, q30.2.1, q30.2.2.1, q30.2.2.2.1, q30.2.2.2.2, v11.2.2.2.2.2.1, v11.2.2.2.2.2.2.1, v11.2.2.2.2.2.2.2.1, v11.2.2.2.2.2.2.2.2, m_widths, m_sizes, m_numbers, m_moved)) H := hP
              refine lv_if_ge (tgt := 165) hx hb dX7_text_158 (by decide) (fun hc38 => ?_) (fun hc38 => ?_)
              · have hf := (if_pos hc38).symm.trans hf
                refine lv_iconst (v := (1 : Int32)) hx hb dX7_text_165 (by decide) ?_
                refine lv_iadd hx hb dX7_text_166 ?_
                refine lv_istore_n (lv' := [(1, .int (s33.1 + (1 : Int32))), (0, .ref (gm g 0)), (2, .int s33.2.1)]) hx hb dX7_text_167 rfl hl (by decide) rfl (fun ls hl => ?_)
                refine lv_iinc (v := (s33.2.1 + (1 : Int32))) (lv' := [(2, .int (s33.2.1 + (1 : Int32))), (1, .int (s33.1 + (1 : Int32))), (0, .ref (gm g 0))]) hx hb dX7_text_168 hl (k := 2) rfl (congrArg (fun y => s33.2.1 + y) (by decide : Int32.ofInt (1) = (1 : Int32))) (by decide) rfl (fun ls hl => ?_)
                refine lv_goto (tgt := 142) hx hb dX7_text_171 (by decide) ?_
                exact hback1 _ (Option.some.inj hf).symm H locs ls hP hS (lv_sub hl [2, 1, 0] rfl)
              · have hf := (if_neg hc38).symm.trans hf
                refine lv_iconst (v := (0 : Int32)) hx hb dX7_text_161 (by decide) ?_
                refine lv_goto (tgt := 166) hx hb dX7_text_162 (by decide) ?_
                refine lv_iadd hx hb dX7_text_166 ?_
                refine lv_istore_n (lv' := [(1, .int (s33.1 + (0 : Int32))), (0, .ref (gm g 0)), (2, .int s33.2.1)]) hx hb dX7_text_167 rfl hl (by decide) rfl (fun ls hl => ?_)
                refine lv_iinc (v := (s33.2.1 + (1 : Int32))) (lv' := [(2, .int (s33.2.1 + (1 : Int32))), (1, .int (s33.1 + (0 : Int32))), (0, .ref (gm g 0))]) hx hb dX7_text_168 hl (k := 2) rfl (congrArg (fun y => s33.2.1 + y) (by decide : Int32.ofInt (1) = (1 : Int32))) (by decide) rfl (fun ls hl => ?_)
                refine lv_goto (tgt := 142) hx hb dX7_text_171 (by decide) ?_
                exact hback1 _ (Option.some.inj hf).symm H locs ls hP hS (lv_sub hl [2, 1, 0] rfl)
        · have hf := (if_neg hc32).symm.trans hf
          refine lv_iconst (v := (-1 : Int32)) hx hb dX7_text_131 (by decide) ?_
          refine lv_aload_n hx hb dX7_text_132 rfl (lv_at hl 0 rfl) ?_
          refine va_get (D := g.1) (ci := 5) (v := .int q30.1) (C := RX7) (T := TX7) (N := 27) hx hb hts iwX7 hown hK hP 0 k_md rfl 11 (by decide) hw8 (fun _ h9 => h9) rfl dX7_text_133 ?_
          refine lv_isub hx hb dX7_text_136 ?_
          have hres : (((-1 : Int32) - q30.1), m_now, (0 : Int32), q30.1, q30.2.1, q30.2.2.1, q30.2.2.2.1, q30.2.2.2.2, v11.2.2.2.2.2.1, v11.2.2.2.2.2.2.1, v11.2.2.2.2.2.2.2.1, v11.2.2.2.2.2.2.2.2) = res := (Option.some.inj hf)
          have hP := w_eq (congrArg (fun z => mw g (z.2.1, m_kept, m_aside, m_isKept, m_found, m_steps, m_queue, m_lives, m_treads, m_tape, z.2.2.1, z.2.2.2.1, z.2.2.2.2.1, z.2.2.2.2.2.1, z.2.2.2.2.2.2.1, z.2.2.2.2.2.2.2.1, z.2.2.2.2.2.2.2.2.1, z.2.2.2.2.2.2.2.2.2.1, z.2.2.2.2.2.2.2.2.2.2.1, z.2.2.2.2.2.2.2.2.2.2.2, m_widths, m_sizes, m_numbers, m_moved)) hres) hP
          exact W.iret (v := ((-1 : Int32) - q30.1)) hx hb hr (fun t ht hW => ⟨congrArg (fun z => Outcome.returned (some (Value.int z.1))) hres, trivial, by rw [ht]; exact hP, hS.F ht⟩) hS.2.2 dX7_text_137
    · intro s10 r1 hf hback1 hexit1 H locs ls hP hS hl
      refine lv_aload_n hx hb dX7_text_62 rfl (lv_at hl 0 rfl) ?_
      refine va_get (D := g.1) (ci := 5) (v := .int s10.2.2.2.2.1) (C := RX7) (T := TX7) (N := 27) hx hb hts iwX7 hown hK hP 0 k_md rfl 15 (by decide) hw1 (fun _ h9 => h9) rfl dX7_text_63 ?_
      refine lv_if_ne (tgt := 103) hx hb dX7_text_66 (by decide) (fun hc12 => ?_) (fun hc12 => ?_)
      · have hf := (if_neg hc12).symm.trans hf
        exact hexit1 (s10.1, s10.2.1, s10.2.2.1, s10.2.2.2.1, s10.2.2.2.2.1, s10.2.2.2.2.2.1, s10.2.2.2.2.2.2.1, s10.2.2.2.2.2.2.2.1, s10.2.2.2.2.2.2.2.2) (Option.some.inj hf).symm H locs ls hP hS (lv_sub hl [0] rfl)
      · have hf := (if_pos hc12).symm.trans hf
        refine lv_aload_n hx hb dX7_text_69 rfl (lv_at hl 0 rfl) ?_
        refine va_get (D := g.1) (ci := 5) (v := .int s10.2.2.1) (C := RX7) (T := TX7) (N := 27) hx hb hts iwX7 hown hK hP 0 k_md rfl 13 (by decide) hw6 (fun _ h9 => h9) rfl dX7_text_70 ?_
        refine lv_iconst (v := (3 : Int32)) hx hb dX7_text_73 (by decide) ?_
        refine lv_icmp_ne (tgt := 103) hx hb dX7_text_74 (by decide) (fun hc13 => ?_) (fun hc13 => ?_)
        · have hf := (if_neg hc13).symm.trans hf
          exact hexit1 (s10.1, s10.2.1, s10.2.2.1, s10.2.2.2.1, s10.2.2.2.2.1, s10.2.2.2.2.2.1, s10.2.2.2.2.2.2.1, s10.2.2.2.2.2.2.2.1, s10.2.2.2.2.2.2.2.2) (Option.some.inj hf).symm H locs ls hP hS (lv_sub hl [0] rfl)
        · have hf := (if_pos hc13).symm.trans hf
          refine lv_aload_n hx hb dX7_text_77 rfl (lv_at hl 0 rfl) ?_
          refine va_get (D := g.1) (ci := 5) (v := .ref (gm g 9)) (C := RX7) (T := TX7) (N := 27) hx hb hts iwX7 hown hK hP 0 k_md rfl 9 (by decide) hw7 (fun _ h9 => h9) rfl dX7_text_78 ?_
          refine lv_aload_n hx hb dX7_text_81 rfl (lv_at hl 0 rfl) ?_
          refine va_get (D := g.1) (ci := 5) (v := .int s10.1) (C := RX7) (T := TX7) (N := 27) hx hb hts iwX7 hown hK hP 0 k_md rfl 11 (by decide) hw8 (fun _ h9 => h9) rfl dX7_text_82 ?_
          obtain ⟨hg14, hf⟩ := gd_some hf
          refine va_iald (f := m_tape) hx hb hK hP 9 0 k_tape rfl hg14 dX7_text_85 ?_
          refine lv_bipush (v := (59 : Int32)) hx hb dX7_text_86 (by decide) ?_
          refine lv_icmp_ne (tgt := 103) hx hb dX7_text_88 (by decide) (fun hc15 => ?_) (fun hc15 => ?_)
          · have hf := (if_neg hc15).symm.trans hf
            exact hexit1 (s10.1, s10.2.1, s10.2.2.1, s10.2.2.2.1, s10.2.2.2.2.1, s10.2.2.2.2.2.1, s10.2.2.2.2.2.2.1, s10.2.2.2.2.2.2.2.1, s10.2.2.2.2.2.2.2.2) (Option.some.inj hf).symm H locs ls hP hS (lv_sub hl [0] rfl)
          · have hf := (if_pos hc15).symm.trans hf
            refine lv_aload_n hx hb dX7_text_91 rfl (lv_at hl 0 rfl) ?_
            refine lv_iconst (v := (1 : Int32)) hx hb dX7_text_92 (by decide) ?_
            obtain ⟨q16, hq16, hf⟩ := bd_some hf
            refine kr_W (st1 := []) (va_runV (As := [.int (1 : Int32)]) (rest := []) ⟨hx, hb, hml, hown, hts⟩ (ct_X7_must l n g m_now m_kept m_aside m_isKept m_found m_steps m_queue m_lives m_treads m_tape m_taped s10.1 s10.2.1 s10.2.2.1 s10.2.2.2.1 s10.2.2.2.2.1 s10.2.2.2.2.2.1 s10.2.2.2.2.2.2.1 s10.2.2.2.2.2.2.2.1 s10.2.2.2.2.2.2.2.2 m_widths m_sizes m_numbers m_moved (1 : Int32) q16 hq16) (cwV 1 hts gX7_text_X7_must rfl rfl rfl hd_X7_must ⟨Nat.le_of_ble_eq_true rfl, Nat.le_of_ble_eq_true rfl⟩) ⟨bl_M, va_recv hK hP (ci := 5) (q0 := 0) rfl k_md, pr_M rfl hB hP hS⟩ rfl rfl hl.1 rfl (lv_room (Nat.le_of_ble_eq_true rfl)) dX7_text_93 ⟨Nat.le_refl _, Nat.le_refl _⟩) hS rfl (fun hn17 H locs hP hS => ?_)
            have hP : va_P g.1 vwCl (mw g (m_now, m_kept, m_aside, m_isKept, m_found, m_steps, m_queue, m_lives, m_treads, m_tape, m_taped, q16.1, q16.2.1, q16.2.2.1, q16.2.2.2.1, q16.2.2.2.2, s10.2.2.2.2.2.1, s10.2.2.2.2.2.2.1, s10.2.2.2.2.2.2.2.1, s10.2.2.2.2.2.2.2.2, m_widths, m_sizes, m_numbers, m_moved)) H := hP
            refine lv_aload_n hx hb dX7_text_96 rfl (lv_at hl 0 rfl) ?_
            obtain ⟨q18, hq18, hf⟩ := bd_some hf
            refine kr_W (st1 := []) (va_runV (As := []) (rest := []) ⟨hx, hb, hml, hown, hts⟩ (ct_X7_readItem l n g m_now m_kept m_aside m_isKept m_found m_steps m_queue m_lives m_treads m_tape m_taped q16.1 q16.2.1 q16.2.2.1 q16.2.2.2.1 q16.2.2.2.2 s10.2.2.2.2.2.1 s10.2.2.2.2.2.2.1 s10.2.2.2.2.2.2.2.1 s10.2.2.2.2.2.2.2.2 m_widths m_sizes m_numbers m_moved q18 hq18) (cwV 0 hts gX7_text_X7_readItem rfl rfl rfl hd_X7_readItem ⟨Nat.le_of_ble_eq_true rfl, Nat.le_of_ble_eq_true rfl⟩) ⟨bl_M, va_recv hK hP (ci := 5) (q0 := 0) rfl k_md, pr_M rfl hB hP hS⟩ rfl rfl hl.1 rfl (lv_room (Nat.le_of_ble_eq_true rfl)) dX7_text_97 ⟨Nat.le_refl _, Nat.le_refl _⟩) hS rfl (fun hn19 H locs hP hS => ?_)
            have hP : va_P g.1 vwCl (mw g (m_now, m_kept, m_aside, m_isKept, m_found, m_steps, m_queue, m_lives, m_treads, m_tape, m_taped, q18.1, q18.2.1, q18.2.2.1, q18.2.2.2.1, q18.2.2.2.2.1, q18.2.2.2.2.2.1, q18.2.2.2.2.2.2.1, q18.2.2.2.2.2.2.2.1, q18.2.2.2.2.2.2.2.2, m_widths, m_sizes, m_numbers, m_moved)) H := hP
            refine lv_goto (tgt := 62) hx hb dX7_text_100 (by decide) ?_
            exact hback1 _ (Option.some.inj hf).symm H locs ls hP hS (lv_sub hl [0] rfl)
  · intro s1 r1 hf hback1 hexit1 H locs ls hP hS hl
    refine lv_iload_n hx hb dX7_text_27 rfl (lv_at hl 1 rfl) ?_
    refine lv_bipush (v := (36 : Int32)) hx hb dX7_text_28 (by decide) ?_
    refine lv_icmp_ge (tgt := 54) hx hb dX7_text_30 (by decide) (fun hc3 => ?_) (fun hc3 => ?_)
    · have hf := (if_pos hc3).symm.trans hf
      exact hexit1 (s1.1, s1.2) (Option.some.inj hf).symm H locs ls hP hS (lv_sub hl [0] rfl)
    · have hf := (if_neg hc3).symm.trans hf
      refine lv_aload_n hx hb dX7_text_33 rfl (lv_at hl 0 rfl) ?_
      refine va_get (D := g.1) (ci := 5) (v := .ref (gm g 14)) (C := RX7) (T := TX7) (N := 27) hx hb hts iwX7 hown hK hP 0 k_md rfl 22 (by decide) hw5 (fun _ h9 => h9) rfl dX7_text_34 ?_
      refine lv_iload_n hx hb dX7_text_37 rfl (lv_at hl 1 rfl) ?_
      refine lv_aload_n hx hb dX7_text_38 rfl (lv_at hl 0 rfl) ?_
      refine va_get (D := g.1) (ci := 5) (v := .ref (gm g 1)) (C := RX7) (T := TX7) (N := 27) hx hb hts iwX7 hown hK hP 0 k_md rfl 0 (by decide) hw3 (fun _ h9 => h9) rfl dX7_text_39 ?_
      refine lv_bipush (v := (13 : Int32)) hx hb dX7_text_42 (by decide) ?_
      refine lv_iload_n hx hb dX7_text_44 rfl (lv_at hl 1 rfl) ?_
      refine lv_iadd hx hb dX7_text_45 ?_
      obtain ⟨hg4, hf⟩ := gd_some hf
      refine va_iald (f := m_now) hx hb hK hP 1 0 k_now rfl hg4 dX7_text_46 ?_
      obtain ⟨hg5, hf⟩ := gd_some hf
      refine va_iast (f := s1.2) hx hb hK hP (mD hB.2.2.1 _) hS 14 0 k_groundThen rfl hg5 dX7_text_47 (fun H locs hP _ hS => ?_)
      have hP : va_P g.1 vwCl (mw g (m_now, m_kept, m_aside, m_isKept, m_found, m_steps, m_queue, m_lives, m_treads, m_tape, m_taped, m_begins, (0 : Int32), m_sort, m_value, (0 : Int32), m_items, (0 : Int32), (m_now (1 : Int32).toNatClampNeg), (upd s1.2 s1.1.toNatClampNeg (m_now ((13 : Int32) + s1.1).toNatClampNeg)), m_widths, m_sizes, m_numbers, m_moved)) H := w_eq (k_set_groundThen (upd s1.2 s1.1.toNatClampNeg (m_now ((13 : Int32) + s1.1).toNatClampNeg))) hP
      refine lv_iinc (v := (s1.1 + (1 : Int32))) (lv' := [(1, .int (s1.1 + (1 : Int32))), (0, .ref (gm g 0))]) hx hb dX7_text_48 hl (k := 1) rfl (congrArg (fun y => s1.1 + y) (by decide : Int32.ofInt (1) = (1 : Int32))) (by decide) rfl (fun ls hl => ?_)
      refine lv_goto (tgt := 27) hx hb dX7_text_51 (by decide) ?_
      exact hback1 _ (Option.some.inj hf).symm H locs ls hP hS (lv_sub hl [1, 0] rfl)
set_option maxHeartbeats 4000000 in
set_option maxRecDepth 100000 in
theorem ct_X7_isSpot (l : Launch) (n : Nat) (a0 : Int32) (res : Int32) (hf : fX7_isSpot n a0 = some res) : Met l yX7_isSpot wsX7_isSpot ({ frames := 1, cells := 0, slots := 0, locals := 22 }) (va_Pc [.int a0] NW) (qS (some (.int res)) (narrow .boolean (.int res) = .int res)) 0 0 (fun _ => False) := by
  refine Met.ofW (cc := cX7_isSpot) (maxL := 1) (ret := (some .boolean)) (by decide) rfl ?_
  intro p e s m args below meth c s₁ B hml hv
  obtain ⟨rfl, hI⟩ := hv
  have hx := B.exec
  have hb := B.bytes
  have hr := B.returns
  have hts := atoms_spec (ws := wsX7_isSpot) B.pre
  have hown : s.vm.findClass RX7 = some m.cls := findClass_of_methodNamed B.named
  have hlocks := B.notSynchronized
  have hNW : NW s := hI
  have hl := lv_entry ([.int a0]) (n := 1) (Nat.le_of_ble_eq_true rfl)
  rw [lg_entry_eq]
  generalize (lg_sl ([.int a0]) ++ List.replicate (1 - (lg_sl ([.int a0])).length) Slot.unset).toArray = ls at hl ⊢
  have hl : lv_has ls 1 [(0, .int a0)] := hl
  unfold fX7_isSpot at hf
  refine lv_iload_n hx hb dX7_isSpot_0 rfl (lv_at hl 0 rfl) ?_
  refine lv_iconst (v := (0 : Int32)) hx hb dX7_isSpot_1 (by decide) ?_
  refine lv_bipush (v := (9 : Int32)) hx hb dX7_isSpot_2 (by decide) ?_
  obtain ⟨q1, hq1, hf⟩ := bd_some hf
  refine kr_S (st1 := [.int q1]) (va_runS (As := [.int a0, .int (0 : Int32), .int (9 : Int32)]) (rest := []) ⟨hx, hb, hml, hown, hts⟩ (ct_X7_within l n a0 (0 : Int32) (9 : Int32) q1 hq1) (va_cwS 3 hts gX7_isSpot_X7_within rfl rfl rfl hn_X7_within ⟨Nat.le_of_ble_eq_true rfl, Nat.le_of_ble_eq_true rfl⟩) ⟨bl_N, pr_N rfl hNW⟩ rfl rfl hl.1 rfl (lv_room (Nat.le_of_ble_eq_true rfl)) dX7_isSpot_4 ⟨Nat.le_refl _, Nat.le_refl _⟩) rfl (fun hn2 => ?_)
  have hres : q1 = res := (Option.some.inj hf)
  have hnr : narrow .boolean (.int q1) = .int q1 := hn2
  exact W.zret (v := q1) hx hb hr hnr (fun t ht hW => ⟨congrArg (fun z => Outcome.returned (some (Value.int z))) hres, Eq.mp (congrArg (fun z => narrow .boolean (.int z) = .int z) hres) hnr, ht⟩) t_nil dX7_isSpot_7
set_option maxHeartbeats 4000000 in
set_option maxRecDepth 100000 in
theorem ct_X7_hold (l : Launch) (n : Nat) (g : GM) (m_now : Nat → Int32) (m_kept : Nat → Int32) (m_aside : Nat → Int32) (m_isKept : Int32) (m_found : Nat → Int32) (m_steps : Nat → Int32) (m_queue : Nat → Int32) (m_lives : Nat → Int32) (m_treads : Nat → Int32) (m_tape : Nat → Int32) (m_taped : Int32) (m_begins : Int32) (m_ends : Int32) (m_sort : Int32) (m_value : Int32) (m_isWrong : Int32) (m_items : Nat → Int32) (m_itemMany : Int32) (m_seedThen : Int32) (m_groundThen : Nat → Int32) (m_widths : Nat → Int32) (m_sizes : Nat → Int32) (m_numbers : Nat → Int32) (m_moved : Nat → Int32) (a1 : Int32) (a2 : Int32) (res : Int32 × (Nat → Int32) × (Nat → Int32)) (hf : fX7_hold n a1 a2 m_now m_found = some res) : Met l yX7_hold wsX7_hold ({ frames := 2, cells := 0, slots := 0, locals := 43 }) (va_Pc [.ref (gm g 0), .int a1, .int a2] (mI g (m_now, m_kept, m_aside, m_isKept, m_found, m_steps, m_queue, m_lives, m_treads, m_tape, m_taped, m_begins, m_ends, m_sort, m_value, m_isWrong, m_items, m_itemMany, m_seedThen, m_groundThen, m_widths, m_sizes, m_numbers, m_moved))) (qW (some (.int res.1)) True g.1 (mw g (res.2.1, m_kept, m_aside, m_isKept, res.2.2, m_steps, m_queue, m_lives, m_treads, m_tape, m_taped, m_begins, m_ends, m_sort, m_value, m_isWrong, m_items, m_itemMany, m_seedThen, m_groundThen, m_widths, m_sizes, m_numbers, m_moved)) (mA g)) 0 0 (mA g) := by
  refine Met.ofW (cc := cX7_hold) (maxL := 3) (ret := (some .int)) (by decide) rfl ?_
  intro p e s m args below meth c s₁ B hml hv
  obtain ⟨rfl, hI⟩ := hv
  have hx := B.exec
  have hb := B.bytes
  have hr := B.returns
  have hts := atoms_spec (ws := wsX7_hold) B.pre
  have hown : s.vm.findClass RX7 = some m.cls := findClass_of_methodNamed B.named
  have hlocks := B.notSynchronized
  have hP := hI.1
  have hB := hI.2
  have hK := hB.1
  have hNW := hB.2.1
  have hS : va_S (mA g) s.heap s.heap [] := va_S.rf
  have hw0 := hts (.constant RX7 95 (-1000001)) (by decide +kernel)
  have hw1 := hts (.fieldLink RX7 9 "SownPathsModel" "now" "[I") (by decide +kernel)
  have iwX7 : ∀ w ∈ wsX70, w ∈ wsX7_hold := fun w h => List.mem_cons_of_mem _ (List.mem_append_right _ h)
  have hl := lv_entry ([.ref (gm g 0), .int a1, .int a2]) (n := 3) (Nat.le_of_ble_eq_true rfl)
  rw [lg_entry_eq]
  generalize (lg_sl ([.ref (gm g 0), .int a1, .int a2]) ++ List.replicate (3 - (lg_sl ([.ref (gm g 0), .int a1, .int a2])).length) Slot.unset).toArray = ls at hl ⊢
  have hl : lv_has ls 3 [(0, .ref (gm g 0)), (1, .int a1), (2, .int a2)] := hl
  unfold fX7_hold at hf
  refine lv_iload_n hx hb dX7_hold_0 rfl (lv_at hl 1 rfl) ?_
  obtain ⟨q1, hq1, hf⟩ := bd_some hf
  refine kr_S (st1 := [.int q1]) (va_runS (As := [.int a1]) (rest := []) ⟨hx, hb, hml, hown, hts⟩ (ct_X7_isSpot l n a1 q1 hq1) (va_cwS 1 hts gX7_hold_X7_isSpot rfl rfl rfl hn_X7_isSpot ⟨Nat.le_of_ble_eq_true rfl, Nat.le_of_ble_eq_true rfl⟩) ⟨bl_N, pr_N rfl hNW⟩ rfl rfl hl.1 rfl (lv_room (Nat.le_of_ble_eq_true rfl)) dX7_hold_1 ⟨Nat.le_refl _, Nat.le_refl _⟩) rfl (fun hn2 => ?_)
  refine lv_if_eq (tgt := 20) hx hb dX7_hold_4 (by decide) (fun hc3 => ?_) (fun hc3 => ?_)
  · have hf := (if_pos hc3).symm.trans hf
    refine lv_aload_n hx hb dX7_hold_20 rfl (lv_at hl 0 rfl) ?_
    refine lv_ldc (v := (-1000001 : Int32)) hx hb hown hw0 dX7_hold_21 ?_
    obtain ⟨q4, hq4, hf⟩ := bd_some hf
    refine kr_W (st1 := [.int q4.1]) (va_runV (As := [.int (-1000001 : Int32)]) (rest := []) ⟨hx, hb, hml, hown, hts⟩ (ct_X7_finding l n g m_now m_kept m_aside m_isKept m_found m_steps m_queue m_lives m_treads m_tape m_taped m_begins m_ends m_sort m_value m_isWrong m_items m_itemMany m_seedThen m_groundThen m_widths m_sizes m_numbers m_moved (-1000001 : Int32) q4 hq4) (cwV 1 hts gX7_hold_X7_finding rfl rfl rfl hd_X7_finding ⟨Nat.le_of_ble_eq_true rfl, Nat.le_of_ble_eq_true rfl⟩) ⟨bl_M, va_recv hK hP (ci := 5) (q0 := 0) rfl k_md, pr_M rfl hB hP hS⟩ rfl rfl hl.1 rfl (lv_room (Nat.le_of_ble_eq_true rfl)) dX7_hold_23 ⟨Nat.le_refl _, Nat.le_refl _⟩) hS rfl (fun hn5 H locs hP hS => ?_)
    have hP : va_P g.1 vwCl (mw g (m_now, m_kept, m_aside, m_isKept, q4.2, m_steps, m_queue, m_lives, m_treads, m_tape, m_taped, m_begins, m_ends, m_sort, m_value, m_isWrong, m_items, m_itemMany, m_seedThen, m_groundThen, m_widths, m_sizes, m_numbers, m_moved)) H := hP
    have hres : (q4.1, m_now, q4.2) = res := (Option.some.inj hf)
    have hP := w_eq (congrArg (fun z => mw g (z.2.1, m_kept, m_aside, m_isKept, z.2.2, m_steps, m_queue, m_lives, m_treads, m_tape, m_taped, m_begins, m_ends, m_sort, m_value, m_isWrong, m_items, m_itemMany, m_seedThen, m_groundThen, m_widths, m_sizes, m_numbers, m_moved)) hres) hP
    exact W.iret (v := q4.1) hx hb hr (fun t ht hW => ⟨congrArg (fun z => Outcome.returned (some (Value.int z.1))) hres, trivial, by rw [ht]; exact hP, hS.F ht⟩) hS.2.2 dX7_hold_26
  · have hf := (if_neg hc3).symm.trans hf
    refine lv_iload_n hx hb dX7_hold_7 rfl (lv_at hl 2 rfl) ?_
    refine lv_iconst (v := (-1 : Int32)) hx hb dX7_hold_8 (by decide) ?_
    refine lv_icmp_eq (tgt := 27) hx hb dX7_hold_9 (by decide) (fun hc6 => ?_) (fun hc6 => ?_)
    · have hf := (if_pos hc6).symm.trans hf
      refine lv_aload_n hx hb dX7_hold_27 rfl (lv_at hl 0 rfl) ?_
      refine va_get (D := g.1) (ci := 5) (v := .ref (gm g 1)) (C := RX7) (T := TX7) (N := 27) hx hb hts iwX7 hown hK hP 0 k_md rfl 0 (by decide) hw1 (fun _ h9 => h9) rfl dX7_hold_28 ?_
      refine lv_iconst (v := (3 : Int32)) hx hb dX7_hold_31 (by decide) ?_
      refine lv_iload_n hx hb dX7_hold_32 rfl (lv_at hl 1 rfl) ?_
      refine lv_iadd hx hb dX7_hold_33 ?_
      refine lv_iload_n hx hb dX7_hold_34 rfl (lv_at hl 2 rfl) ?_
      obtain ⟨hg7, hf⟩ := gd_some hf
      refine va_iast (f := m_now) hx hb hK hP (mD hB.2.2.1 _) hS 1 0 k_now rfl hg7 dX7_hold_35 (fun H locs hP _ hS => ?_)
      have hP : va_P g.1 vwCl (mw g ((upd m_now ((3 : Int32) + a1).toNatClampNeg a2), m_kept, m_aside, m_isKept, m_found, m_steps, m_queue, m_lives, m_treads, m_tape, m_taped, m_begins, m_ends, m_sort, m_value, m_isWrong, m_items, m_itemMany, m_seedThen, m_groundThen, m_widths, m_sizes, m_numbers, m_moved)) H := w_eq (k_set_now (upd m_now ((3 : Int32) + a1).toNatClampNeg a2)) hP
      refine lv_iconst (v := (1 : Int32)) hx hb dX7_hold_36 (by decide) ?_
      have hres : ((1 : Int32), (upd m_now ((3 : Int32) + a1).toNatClampNeg a2), m_found) = res := (Option.some.inj hf)
      have hP := w_eq (congrArg (fun z => mw g (z.2.1, m_kept, m_aside, m_isKept, z.2.2, m_steps, m_queue, m_lives, m_treads, m_tape, m_taped, m_begins, m_ends, m_sort, m_value, m_isWrong, m_items, m_itemMany, m_seedThen, m_groundThen, m_widths, m_sizes, m_numbers, m_moved)) hres) hP
      exact W.iret (v := (1 : Int32)) hx hb hr (fun t ht hW => ⟨congrArg (fun z => Outcome.returned (some (Value.int z.1))) hres, trivial, by rw [ht]; exact hP, hS.F ht⟩) hS.2.2 dX7_hold_37
    · have hf := (if_neg hc6).symm.trans hf
      refine lv_aload_n hx hb dX7_hold_12 rfl (lv_at hl 0 rfl) ?_
      refine lv_iload_n hx hb dX7_hold_13 rfl (lv_at hl 2 rfl) ?_
      obtain ⟨q8, hq8, hf⟩ := bd_some hf
      refine kr_S (st1 := [.int q8]) (va_runV (As := [.int a2]) (rest := []) ⟨hx, hb, hml, hown, hts⟩ (ct_X7_isSeed l n g m_now m_kept m_aside m_isKept m_found m_steps m_queue m_lives m_treads m_tape m_taped m_begins m_ends m_sort m_value m_isWrong m_items m_itemMany m_seedThen m_groundThen m_widths m_sizes m_numbers m_moved a2 q8 hq8) (cwV 1 hts gX7_hold_X7_isSeed rfl rfl rfl hd_X7_isSeed ⟨Nat.le_of_ble_eq_true rfl, Nat.le_of_ble_eq_true rfl⟩) ⟨bl_M, va_recv hK hP (ci := 5) (q0 := 0) rfl k_md, pr_M rfl hB hP hS⟩ rfl rfl hl.1 rfl (lv_room (Nat.le_of_ble_eq_true rfl)) dX7_hold_14 ⟨Nat.le_refl _, Nat.le_refl _⟩) rfl (fun hn9 => ?_)
      refine lv_if_ne (tgt := 27) hx hb dX7_hold_17 (by decide) (fun hc10 => ?_) (fun hc10 => ?_)
      · have hf := (if_neg hc10).symm.trans hf
        refine lv_aload_n hx hb dX7_hold_27 rfl (lv_at hl 0 rfl) ?_
        refine va_get (D := g.1) (ci := 5) (v := .ref (gm g 1)) (C := RX7) (T := TX7) (N := 27) hx hb hts iwX7 hown hK hP 0 k_md rfl 0 (by decide) hw1 (fun _ h9 => h9) rfl dX7_hold_28 ?_
        refine lv_iconst (v := (3 : Int32)) hx hb dX7_hold_31 (by decide) ?_
        refine lv_iload_n hx hb dX7_hold_32 rfl (lv_at hl 1 rfl) ?_
        refine lv_iadd hx hb dX7_hold_33 ?_
        refine lv_iload_n hx hb dX7_hold_34 rfl (lv_at hl 2 rfl) ?_
        obtain ⟨hg11, hf⟩ := gd_some hf
        refine va_iast (f := m_now) hx hb hK hP (mD hB.2.2.1 _) hS 1 0 k_now rfl hg11 dX7_hold_35 (fun H locs hP _ hS => ?_)
        have hP : va_P g.1 vwCl (mw g ((upd m_now ((3 : Int32) + a1).toNatClampNeg a2), m_kept, m_aside, m_isKept, m_found, m_steps, m_queue, m_lives, m_treads, m_tape, m_taped, m_begins, m_ends, m_sort, m_value, m_isWrong, m_items, m_itemMany, m_seedThen, m_groundThen, m_widths, m_sizes, m_numbers, m_moved)) H := w_eq (k_set_now (upd m_now ((3 : Int32) + a1).toNatClampNeg a2)) hP
        refine lv_iconst (v := (1 : Int32)) hx hb dX7_hold_36 (by decide) ?_
        have hres : ((1 : Int32), (upd m_now ((3 : Int32) + a1).toNatClampNeg a2), m_found) = res := (Option.some.inj hf)
        have hP := w_eq (congrArg (fun z => mw g (z.2.1, m_kept, m_aside, m_isKept, z.2.2, m_steps, m_queue, m_lives, m_treads, m_tape, m_taped, m_begins, m_ends, m_sort, m_value, m_isWrong, m_items, m_itemMany, m_seedThen, m_groundThen, m_widths, m_sizes, m_numbers, m_moved)) hres) hP
        exact W.iret (v := (1 : Int32)) hx hb hr (fun t ht hW => ⟨congrArg (fun z => Outcome.returned (some (Value.int z.1))) hres, trivial, by rw [ht]; exact hP, hS.F ht⟩) hS.2.2 dX7_hold_37
      · have hf := (if_pos hc10).symm.trans hf
        refine lv_aload_n hx hb dX7_hold_20 rfl (lv_at hl 0 rfl) ?_
        refine lv_ldc (v := (-1000001 : Int32)) hx hb hown hw0 dX7_hold_21 ?_
        obtain ⟨q12, hq12, hf⟩ := bd_some hf
        refine kr_W (st1 := [.int q12.1]) (va_runV (As := [.int (-1000001 : Int32)]) (rest := []) ⟨hx, hb, hml, hown, hts⟩ (ct_X7_finding l n g m_now m_kept m_aside m_isKept m_found m_steps m_queue m_lives m_treads m_tape m_taped m_begins m_ends m_sort m_value m_isWrong m_items m_itemMany m_seedThen m_groundThen m_widths m_sizes m_numbers m_moved (-1000001 : Int32) q12 hq12) (cwV 1 hts gX7_hold_X7_finding rfl rfl rfl hd_X7_finding ⟨Nat.le_of_ble_eq_true rfl, Nat.le_of_ble_eq_true rfl⟩) ⟨bl_M, va_recv hK hP (ci := 5) (q0 := 0) rfl k_md, pr_M rfl hB hP hS⟩ rfl rfl hl.1 rfl (lv_room (Nat.le_of_ble_eq_true rfl)) dX7_hold_23 ⟨Nat.le_refl _, Nat.le_refl _⟩) hS rfl (fun hn13 H locs hP hS => ?_)
        have hP : va_P g.1 vwCl (mw g (m_now, m_kept, m_aside, m_isKept, q12.2, m_steps, m_queue, m_lives, m_treads, m_tape, m_taped, m_begins, m_ends, m_sort, m_value, m_isWrong, m_items, m_itemMany, m_seedThen, m_groundThen, m_widths, m_sizes, m_numbers, m_moved)) H := hP
        have hres : (q12.1, m_now, q12.2) = res := (Option.some.inj hf)
        have hP := w_eq (congrArg (fun z => mw g (z.2.1, m_kept, m_aside, m_isKept, z.2.2, m_steps, m_queue, m_lives, m_treads, m_tape, m_taped, m_begins, m_ends, m_sort, m_value, m_isWrong, m_items, m_itemMany, m_seedThen, m_groundThen, m_widths, m_sizes, m_numbers, m_moved)) hres) hP
        exact W.iret (v := q12.1) hx hb hr (fun t ht hW => ⟨congrArg (fun z => Outcome.returned (some (Value.int z.1))) hres, trivial, by rw [ht]; exact hP, hS.F ht⟩) hS.2.2 dX7_hold_26
set_option maxHeartbeats 4000000 in
set_option maxRecDepth 100000 in
theorem ct_X7_above (l : Launch) (n : Nat) (a0 : Int32) (res : Int32) (hf : fX7_above n a0 = some res) : Met l yX7_above wsX7_above ({ frames := 0, cells := 0, slots := 0, locals := 0 }) (va_Pc [.int a0] NW) (qS (some (.int res)) True) 0 0 (fun _ => False) := by
  refine Met.ofW (cc := cX7_above) (maxL := 1) (ret := (some .int)) (by decide) rfl ?_
  intro p e s m args below meth c s₁ B hml hv
  obtain ⟨rfl, hI⟩ := hv
  have hx := B.exec
  have hb := B.bytes
  have hr := B.returns
  have hts := atoms_spec (ws := wsX7_above) B.pre
  have hown : s.vm.findClass RX7 = some m.cls := findClass_of_methodNamed B.named
  have hlocks := B.notSynchronized
  have hNW : NW s := hI
  have hl := lv_entry ([.int a0]) (n := 1) (Nat.le_of_ble_eq_true rfl)
  rw [lg_entry_eq]
  generalize (lg_sl ([.int a0]) ++ List.replicate (1 - (lg_sl ([.int a0])).length) Slot.unset).toArray = ls at hl ⊢
  have hl : lv_has ls 1 [(0, .int a0)] := hl
  unfold fX7_above at hf
  refine lv_iload_n hx hb dX7_above_0 rfl (lv_at hl 0 rfl) ?_
  refine lv_if_ne (tgt := 8) hx hb dX7_above_1 (by decide) (fun hc1 => ?_) (fun hc1 => ?_)
  · have hf := (if_neg hc1).symm.trans hf
    refine lv_iload_n hx hb dX7_above_8 rfl (lv_at hl 0 rfl) ?_
    refine lv_iconst (v := (3 : Int32)) hx hb dX7_above_9 (by decide) ?_
    refine lv_icmp_ne (tgt := 17) hx hb dX7_above_10 (by decide) (fun hc2 => ?_) (fun hc2 => ?_)
    · have hf := (if_neg hc2).symm.trans hf
      refine lv_iload_n hx hb dX7_above_17 rfl (lv_at hl 0 rfl) ?_
      refine lv_iconst (v := (4 : Int32)) hx hb dX7_above_18 (by decide) ?_
      refine lv_icmp_ne (tgt := 26) hx hb dX7_above_19 (by decide) (fun hc3 => ?_) (fun hc3 => ?_)
      · have hf := (if_neg hc3).symm.trans hf
        refine lv_iload_n hx hb dX7_above_26 rfl (lv_at hl 0 rfl) ?_
        refine lv_bipush (v := (6 : Int32)) hx hb dX7_above_27 (by decide) ?_
        refine lv_icmp_ne (tgt := 36) hx hb dX7_above_29 (by decide) (fun hc4 => ?_) (fun hc4 => ?_)
        · have hf := (if_neg hc4).symm.trans hf
          refine lv_iconst (v := (0 : Int32)) hx hb dX7_above_36 (by decide) ?_
          have hres : (0 : Int32) = res := (Option.some.inj hf)
          exact W.iret (v := (0 : Int32)) hx hb hr (fun t ht hW => ⟨congrArg (fun z => Outcome.returned (some (Value.int z))) hres, trivial, ht⟩) t_nil dX7_above_37
        · have hf := (if_pos hc4).symm.trans hf
          refine lv_iconst (v := (1 : Int32)) hx hb dX7_above_32 (by decide) ?_
          refine lv_goto (tgt := 37) hx hb dX7_above_33 (by decide) ?_
          have hres : (1 : Int32) = res := (Option.some.inj hf)
          exact W.iret (v := (1 : Int32)) hx hb hr (fun t ht hW => ⟨congrArg (fun z => Outcome.returned (some (Value.int z))) hres, trivial, ht⟩) t_nil dX7_above_37
      · have hf := (if_pos hc3).symm.trans hf
        refine lv_iconst (v := (3 : Int32)) hx hb dX7_above_22 (by decide) ?_
        refine lv_goto (tgt := 37) hx hb dX7_above_23 (by decide) ?_
        have hres : (3 : Int32) = res := (Option.some.inj hf)
        exact W.iret (v := (3 : Int32)) hx hb hr (fun t ht hW => ⟨congrArg (fun z => Outcome.returned (some (Value.int z))) hres, trivial, ht⟩) t_nil dX7_above_37
    · have hf := (if_pos hc2).symm.trans hf
      refine lv_iconst (v := (2 : Int32)) hx hb dX7_above_13 (by decide) ?_
      refine lv_goto (tgt := 37) hx hb dX7_above_14 (by decide) ?_
      have hres : (2 : Int32) = res := (Option.some.inj hf)
      exact W.iret (v := (2 : Int32)) hx hb hr (fun t ht hW => ⟨congrArg (fun z => Outcome.returned (some (Value.int z))) hres, trivial, ht⟩) t_nil dX7_above_37
  · have hf := (if_pos hc1).symm.trans hf
    refine lv_iconst (v := (-1 : Int32)) hx hb dX7_above_4 (by decide) ?_
    refine lv_goto (tgt := 37) hx hb dX7_above_5 (by decide) ?_
    have hres : (-1 : Int32) = res := (Option.some.inj hf)
    exact W.iret (v := (-1 : Int32)) hx hb hr (fun t ht hW => ⟨congrArg (fun z => Outcome.returned (some (Value.int z))) hres, trivial, ht⟩) t_nil dX7_above_37
set_option maxHeartbeats 4000000 in
set_option maxRecDepth 100000 in
theorem ct_X7_isUnder (l : Launch) (n : Nat) (a0 : Int32) (a1 : Int32) (res : Int32) (hf : fX7_isUnder n a0 a1 = some res) : Met l yX7_isUnder wsX7_isUnder ({ frames := 1, cells := 0, slots := 0, locals := 20 }) (va_Pc [.int a0, .int a1] NW) (qS (some (.int res)) (narrow .boolean (.int res) = .int res)) 0 0 (fun _ => False) := by
  refine Met.ofW (cc := cX7_isUnder) (maxL := 3) (ret := (some .boolean)) (by decide) rfl ?_
  intro p e s m args below meth c s₁ B hml hv
  obtain ⟨rfl, hI⟩ := hv
  have hx := B.exec
  have hb := B.bytes
  have hr := B.returns
  have hts := atoms_spec (ws := wsX7_isUnder) B.pre
  have hown : s.vm.findClass RX7 = some m.cls := findClass_of_methodNamed B.named
  have hlocks := B.notSynchronized
  have hNW : NW s := hI
  have hl := lv_entry ([.int a0, .int a1]) (n := 3) (Nat.le_of_ble_eq_true rfl)
  rw [lg_entry_eq]
  generalize (lg_sl ([.int a0, .int a1]) ++ List.replicate (3 - (lg_sl ([.int a0, .int a1])).length) Slot.unset).toArray = ls at hl ⊢
  have hl : lv_has ls 3 [(0, .int a0), (1, .int a1)] := hl
  unfold fX7_isUnder at hf
  refine lv_iload_n hx hb dX7_isUnder_0 rfl (lv_at hl 0 rfl) ?_
  refine lv_istore_n (lv' := [(2, .int a0), (0, .int a0), (1, .int a1)]) hx hb dX7_isUnder_1 rfl hl (by decide) rfl (fun ls hl => ?_)
  refine lp_run hf (fun s1 => ∀ (ls : Array Slot), lv_has ls 3 [(1, .int a1), (2, .int s1)] → W p l e (headSpec wsX7_isUnder ({ frames := 1, cells := 0, slots := 0, locals := 20 })).room s m ([.int a0, .int a1] : List Value).toArray below meth c s.heap [] 0 0 (MQ below (qS (some (.int res)) (narrow .boolean (.int res) = .int res)) ([.int a0, .int a1] : List Value).toArray s 0 0 (fun _ => False)) (F0 m 2 ls [])) (fun v2 => ∀ (ls : Array Slot), lv_has ls 3 [(2, .int v2)] → W p l e (headSpec wsX7_isUnder ({ frames := 1, cells := 0, slots := 0, locals := 20 })).room s m ([.int a0, .int a1] : List Value).toArray below meth c s.heap [] 0 0 (MQ below (qS (some (.int res)) (narrow .boolean (.int res) = .int res)) ([.int a0, .int a1] : List Value).toArray s 0 0 (fun _ => False)) (F0 m 19 ls [])) ?_ ?_ _ (lv_sub hl [2, 0] rfl)
  · intro v2 hf ls hl
    refine lv_iload_n hx hb dX7_isUnder_19 rfl (lv_at hl 0 rfl) ?_
    refine lv_if_lt (tgt := 27) hx hb dX7_isUnder_20 (by decide) (fun hc7 => ?_) (fun hc7 => ?_)
    · have hf := (if_pos hc7).symm.trans hf
      refine lv_iconst (v := (0 : Int32)) hx hb dX7_isUnder_27 (by decide) ?_
      have hres : (0 : Int32) = res := (Option.some.inj hf)
      have hnr : narrow .boolean (.int (0 : Int32)) = .int (0 : Int32) := rfl
      exact W.zret (v := (0 : Int32)) hx hb hr hnr (fun t ht hW => ⟨congrArg (fun z => Outcome.returned (some (Value.int z))) hres, Eq.mp (congrArg (fun z => narrow .boolean (.int z) = .int z) hres) hnr, ht⟩) t_nil dX7_isUnder_28
    · have hf := (if_neg hc7).symm.trans hf
      refine lv_iconst (v := (1 : Int32)) hx hb dX7_isUnder_23 (by decide) ?_
      refine lv_goto (tgt := 28) hx hb dX7_isUnder_24 (by decide) ?_
      have hres : (1 : Int32) = res := (Option.some.inj hf)
      have hnr : narrow .boolean (.int (1 : Int32)) = .int (1 : Int32) := rfl
      exact W.zret (v := (1 : Int32)) hx hb hr hnr (fun t ht hW => ⟨congrArg (fun z => Outcome.returned (some (Value.int z))) hres, Eq.mp (congrArg (fun z => narrow .boolean (.int z) = .int z) hres) hnr, ht⟩) t_nil dX7_isUnder_28
  · intro s1 r1 hf hback1 hexit1 ls hl
    refine lv_iload_n hx hb dX7_isUnder_2 rfl (lv_at hl 1 rfl) ?_
    refine lv_if_lt (tgt := 19) hx hb dX7_isUnder_3 (by decide) (fun hc3 => ?_) (fun hc3 => ?_)
    · have hf := (if_pos hc3).symm.trans hf
      exact hexit1 s1 (Option.some.inj hf).symm ls (lv_sub hl [1] rfl)
    · have hf := (if_neg hc3).symm.trans hf
      refine lv_iload_n hx hb dX7_isUnder_6 rfl (lv_at hl 1 rfl) ?_
      refine lv_iload_n hx hb dX7_isUnder_7 rfl (lv_at hl 0 rfl) ?_
      refine lv_icmp_eq (tgt := 19) hx hb dX7_isUnder_8 (by decide) (fun hc4 => ?_) (fun hc4 => ?_)
      · have hf := (if_pos hc4).symm.trans hf
        exact hexit1 s1 (Option.some.inj hf).symm ls (lv_sub hl [1] rfl)
      · have hf := (if_neg hc4).symm.trans hf
        refine lv_iload_n hx hb dX7_isUnder_11 rfl (lv_at hl 1 rfl) ?_
        obtain ⟨q5, hq5, hf⟩ := bd_some hf
        refine kr_S (st1 := [.int q5]) (va_runS (As := [.int s1]) (rest := []) ⟨hx, hb, hml, hown, hts⟩ (ct_X7_above l n s1 q5 hq5) (va_cwS 1 hts gX7_isUnder_X7_above rfl rfl rfl hn_X7_above ⟨Nat.le_of_ble_eq_true rfl, Nat.le_of_ble_eq_true rfl⟩) ⟨bl_N, pr_N rfl hNW⟩ rfl rfl hl.1 rfl (lv_room (Nat.le_of_ble_eq_true rfl)) dX7_isUnder_12 ⟨Nat.le_refl _, Nat.le_refl _⟩) rfl (fun hn6 => ?_)
        refine lv_istore_n (lv' := [(2, .int q5), (1, .int a1)]) hx hb dX7_isUnder_15 rfl hl (by decide) rfl (fun ls hl => ?_)
        refine lv_goto (tgt := 2) hx hb dX7_isUnder_16 (by decide) ?_
        exact hback1 _ (Option.some.inj hf).symm ls (lv_sub hl [1, 0] rfl)
set_option maxHeartbeats 4000000 in
set_option maxRecDepth 100000 in
theorem ct_X7_as (l : Launch) (n : Nat) (g : GM) (m_now : Nat → Int32) (m_kept : Nat → Int32) (m_aside : Nat → Int32) (m_isKept : Int32) (m_found : Nat → Int32) (m_steps : Nat → Int32) (m_queue : Nat → Int32) (m_lives : Nat → Int32) (m_treads : Nat → Int32) (m_tape : Nat → Int32) (m_taped : Int32) (m_begins : Int32) (m_ends : Int32) (m_sort : Int32) (m_value : Int32) (m_isWrong : Int32) (m_items : Nat → Int32) (m_itemMany : Int32) (m_seedThen : Int32) (m_groundThen : Nat → Int32) (m_widths : Nat → Int32) (m_sizes : Nat → Int32) (m_numbers : Nat → Int32) (m_moved : Nat → Int32) (a1 : Int32) (a2 : Int32) (res : Int32 × (Nat → Int32)) (hf : fX7_as n a1 a2 m_now m_found = some res) : Met l yX7_as wsX7_as ({ frames := 2, cells := 0, slots := 0, locals := 43 }) (va_Pc [.ref (gm g 0), .int a1, .int a2] (mI g (m_now, m_kept, m_aside, m_isKept, m_found, m_steps, m_queue, m_lives, m_treads, m_tape, m_taped, m_begins, m_ends, m_sort, m_value, m_isWrong, m_items, m_itemMany, m_seedThen, m_groundThen, m_widths, m_sizes, m_numbers, m_moved))) (qW (some (.int res.1)) True g.1 (mw g (m_now, m_kept, m_aside, m_isKept, res.2, m_steps, m_queue, m_lives, m_treads, m_tape, m_taped, m_begins, m_ends, m_sort, m_value, m_isWrong, m_items, m_itemMany, m_seedThen, m_groundThen, m_widths, m_sizes, m_numbers, m_moved)) (mA g)) 0 0 (mA g) := by
  refine Met.ofW (cc := cX7_as) (maxL := 4) (ret := (some .int)) (by decide) rfl ?_
  intro p e s m args below meth c s₁ B hml hv
  obtain ⟨rfl, hI⟩ := hv
  have hx := B.exec
  have hb := B.bytes
  have hr := B.returns
  have hts := atoms_spec (ws := wsX7_as) B.pre
  have hown : s.vm.findClass RX7 = some m.cls := findClass_of_methodNamed B.named
  have hlocks := B.notSynchronized
  have hP := hI.1
  have hB := hI.2
  have hK := hB.1
  have hNW := hB.2.1
  have hS : va_S (mA g) s.heap s.heap [] := va_S.rf
  have hw0 := hts (.constant RX7 95 (-1000001)) (by decide +kernel)
  have hw1 := hts (.fieldLink RX7 9 "SownPathsModel" "now" "[I") (by decide +kernel)
  have hw2 := hts (.constant RX7 373 (-1000003)) (by decide +kernel)
  have hw3 := hts (.constant RX7 276 (-1000006)) (by decide +kernel)
  have iwX7 : ∀ w ∈ wsX70, w ∈ wsX7_as := fun w h => List.mem_cons_of_mem _ (List.mem_append_right _ h)
  have hl := lv_entry ([.ref (gm g 0), .int a1, .int a2]) (n := 4) (Nat.le_of_ble_eq_true rfl)
  rw [lg_entry_eq]
  generalize (lg_sl ([.ref (gm g 0), .int a1, .int a2]) ++ List.replicate (4 - (lg_sl ([.ref (gm g 0), .int a1, .int a2])).length) Slot.unset).toArray = ls at hl ⊢
  have hl : lv_has ls 4 [(0, .ref (gm g 0)), (1, .int a1), (2, .int a2)] := hl
  unfold fX7_as at hf
  refine lv_iload_n hx hb dX7_as_0 rfl (lv_at hl 1 rfl) ?_
  obtain ⟨q1, hq1, hf⟩ := bd_some hf
  refine kr_S (st1 := [.int q1]) (va_runS (As := [.int a1]) (rest := []) ⟨hx, hb, hml, hown, hts⟩ (ct_X7_isSpot l n a1 q1 hq1) (va_cwS 1 hts gX7_as_X7_isSpot rfl rfl rfl hn_X7_isSpot ⟨Nat.le_of_ble_eq_true rfl, Nat.le_of_ble_eq_true rfl⟩) ⟨bl_N, pr_N rfl hNW⟩ rfl rfl hl.1 rfl (lv_room (Nat.le_of_ble_eq_true rfl)) dX7_as_1 ⟨Nat.le_refl _, Nat.le_refl _⟩) rfl (fun hn2 => ?_)
  refine lv_if_eq (tgt := 14) hx hb dX7_as_4 (by decide) (fun hc3 => ?_) (fun hc3 => ?_)
  · have hf := (if_pos hc3).symm.trans hf
    refine lv_aload_n hx hb dX7_as_14 rfl (lv_at hl 0 rfl) ?_
    refine lv_ldc (v := (-1000001 : Int32)) hx hb hown hw0 dX7_as_15 ?_
    obtain ⟨q4, hq4, hf⟩ := bd_some hf
    refine kr_W (st1 := [.int q4.1]) (va_runV (As := [.int (-1000001 : Int32)]) (rest := []) ⟨hx, hb, hml, hown, hts⟩ (ct_X7_finding l n g m_now m_kept m_aside m_isKept m_found m_steps m_queue m_lives m_treads m_tape m_taped m_begins m_ends m_sort m_value m_isWrong m_items m_itemMany m_seedThen m_groundThen m_widths m_sizes m_numbers m_moved (-1000001 : Int32) q4 hq4) (cwV 1 hts gX7_as_X7_finding rfl rfl rfl hd_X7_finding ⟨Nat.le_of_ble_eq_true rfl, Nat.le_of_ble_eq_true rfl⟩) ⟨bl_M, va_recv hK hP (ci := 5) (q0 := 0) rfl k_md, pr_M rfl hB hP hS⟩ rfl rfl hl.1 rfl (lv_room (Nat.le_of_ble_eq_true rfl)) dX7_as_17 ⟨Nat.le_refl _, Nat.le_refl _⟩) hS rfl (fun hn5 H locs hP hS => ?_)
    have hP : va_P g.1 vwCl (mw g (m_now, m_kept, m_aside, m_isKept, q4.2, m_steps, m_queue, m_lives, m_treads, m_tape, m_taped, m_begins, m_ends, m_sort, m_value, m_isWrong, m_items, m_itemMany, m_seedThen, m_groundThen, m_widths, m_sizes, m_numbers, m_moved)) H := hP
    have hres : (q4.1, q4.2) = res := (Option.some.inj hf)
    have hP := w_eq (congrArg (fun z => mw g (m_now, m_kept, m_aside, m_isKept, z.2, m_steps, m_queue, m_lives, m_treads, m_tape, m_taped, m_begins, m_ends, m_sort, m_value, m_isWrong, m_items, m_itemMany, m_seedThen, m_groundThen, m_widths, m_sizes, m_numbers, m_moved)) hres) hP
    exact W.iret (v := q4.1) hx hb hr (fun t ht hW => ⟨congrArg (fun z => Outcome.returned (some (Value.int z.1))) hres, trivial, by rw [ht]; exact hP, hS.F ht⟩) hS.2.2 dX7_as_20
  · have hf := (if_neg hc3).symm.trans hf
    refine lv_iload_n hx hb dX7_as_7 rfl (lv_at hl 2 rfl) ?_
    obtain ⟨q6, hq6, hf⟩ := bd_some hf
    refine kr_S (st1 := [.int q6]) (va_runS (As := [.int a2]) (rest := []) ⟨hx, hb, hml, hown, hts⟩ (ct_X7_isKind l n a2 q6 hq6) (va_cwS 1 hts gX7_as_X7_isKind rfl rfl rfl hn_X7_isKind ⟨Nat.le_of_ble_eq_true rfl, Nat.le_of_ble_eq_true rfl⟩) ⟨bl_N, pr_N rfl hNW⟩ rfl rfl hl.1 rfl (lv_room (Nat.le_of_ble_eq_true rfl)) dX7_as_8 ⟨Nat.le_refl _, Nat.le_refl _⟩) rfl (fun hn7 => ?_)
    refine lv_if_ne (tgt := 21) hx hb dX7_as_11 (by decide) (fun hc8 => ?_) (fun hc8 => ?_)
    · have hf := (if_neg hc8).symm.trans hf
      refine lv_aload_n hx hb dX7_as_21 rfl (lv_at hl 0 rfl) ?_
      refine va_get (D := g.1) (ci := 5) (v := .ref (gm g 1)) (C := RX7) (T := TX7) (N := 27) hx hb hts iwX7 hown hK hP 0 k_md rfl 0 (by decide) hw1 (fun _ h9 => h9) rfl dX7_as_22 ?_
      refine lv_iconst (v := (3 : Int32)) hx hb dX7_as_25 (by decide) ?_
      refine lv_iload_n hx hb dX7_as_26 rfl (lv_at hl 1 rfl) ?_
      refine lv_iadd hx hb dX7_as_27 ?_
      obtain ⟨hg9, hf⟩ := gd_some hf
      refine va_iald (f := m_now) hx hb hK hP 1 0 k_now rfl hg9 dX7_as_28 ?_
      refine lv_istore_n (lv' := [(3, .int (m_now ((3 : Int32) + a1).toNatClampNeg)), (0, .ref (gm g 0)), (1, .int a1), (2, .int a2)]) hx hb dX7_as_29 rfl hl (by decide) rfl (fun ls hl => ?_)
      refine lv_iload_n hx hb dX7_as_30 rfl (lv_at hl 0 rfl) ?_
      refine lv_if_ge (tgt := 42) hx hb dX7_as_31 (by decide) (fun hc10 => ?_) (fun hc10 => ?_)
      · have hf := (if_pos hc10).symm.trans hf
        refine lv_aload_n hx hb dX7_as_42 rfl (lv_at hl 1 rfl) ?_
        refine lv_iload_n hx hb dX7_as_43 rfl (lv_at hl 0 rfl) ?_
        refine lv_iconst (v := (0 : Int32)) hx hb dX7_as_44 (by decide) ?_
        obtain ⟨q11, hq11, hf⟩ := bd_some hf
        refine kr_S (st1 := [.int q11]) (va_runV (As := [.int (m_now ((3 : Int32) + a1).toNatClampNeg), .int (0 : Int32)]) (rest := []) ⟨hx, hb, hml, hown, hts⟩ (ct_X7_seedIs l n g m_now m_kept m_aside m_isKept m_found m_steps m_queue m_lives m_treads m_tape m_taped m_begins m_ends m_sort m_value m_isWrong m_items m_itemMany m_seedThen m_groundThen m_widths m_sizes m_numbers m_moved (m_now ((3 : Int32) + a1).toNatClampNeg) (0 : Int32) q11 hq11) (cwV 2 hts gX7_as_X7_seedIs rfl rfl rfl hd_X7_seedIs ⟨Nat.le_of_ble_eq_true rfl, Nat.le_of_ble_eq_true rfl⟩) ⟨bl_M, va_recv hK hP (ci := 5) (q0 := 0) rfl k_md, pr_M rfl hB hP hS⟩ rfl rfl hl.1 rfl (lv_room (Nat.le_of_ble_eq_true rfl)) dX7_as_45 ⟨Nat.le_refl _, Nat.le_refl _⟩) rfl (fun hn12 => ?_)
        refine lv_iload_n hx hb dX7_as_48 rfl (lv_at hl 3 rfl) ?_
        obtain ⟨q13, hq13, hf⟩ := bd_some hf
        refine kr_S (st1 := [.int q13]) (va_runS (As := [.int q11, .int a2]) (rest := []) ⟨hx, hb, hml, hown, hts⟩ (ct_X7_isUnder l n q11 a2 q13 hq13) (va_cwS 2 hts gX7_as_X7_isUnder rfl rfl rfl hn_X7_isUnder ⟨Nat.le_of_ble_eq_true rfl, Nat.le_of_ble_eq_true rfl⟩) ⟨bl_N, pr_N rfl hNW⟩ rfl rfl hl.1 rfl (lv_room (Nat.le_of_ble_eq_true rfl)) dX7_as_49 ⟨Nat.le_refl _, Nat.le_refl _⟩) rfl (fun hn14 => ?_)
        refine lv_if_eq (tgt := 59) hx hb dX7_as_52 (by decide) (fun hc15 => ?_) (fun hc15 => ?_)
        · have hf := (if_pos hc15).symm.trans hf
          refine lv_aload_n hx hb dX7_as_59 rfl (lv_at hl 1 rfl) ?_
          refine lv_ldcw (v := (-1000003 : Int32)) hx hb hown hw2 dX7_as_60 ?_
          obtain ⟨q16, hq16, hf⟩ := bd_some hf
          refine kr_W (st1 := [.int q16.1]) (va_runV (As := [.int (-1000003 : Int32)]) (rest := []) ⟨hx, hb, hml, hown, hts⟩ (ct_X7_finding l n g m_now m_kept m_aside m_isKept m_found m_steps m_queue m_lives m_treads m_tape m_taped m_begins m_ends m_sort m_value m_isWrong m_items m_itemMany m_seedThen m_groundThen m_widths m_sizes m_numbers m_moved (-1000003 : Int32) q16 hq16) (cwV 1 hts gX7_as_X7_finding rfl rfl rfl hd_X7_finding ⟨Nat.le_of_ble_eq_true rfl, Nat.le_of_ble_eq_true rfl⟩) ⟨bl_M, va_recv hK hP (ci := 5) (q0 := 0) rfl k_md, pr_M rfl hB hP hS⟩ rfl rfl hl.1 rfl (lv_room (Nat.le_of_ble_eq_true rfl)) dX7_as_63 ⟨Nat.le_refl _, Nat.le_refl _⟩) hS rfl (fun hn17 H locs hP hS => ?_)
          have hP : va_P g.1 vwCl (mw g (m_now, m_kept, m_aside, m_isKept, q16.2, m_steps, m_queue, m_lives, m_treads, m_tape, m_taped, m_begins, m_ends, m_sort, m_value, m_isWrong, m_items, m_itemMany, m_seedThen, m_groundThen, m_widths, m_sizes, m_numbers, m_moved)) H := hP
          have hres : (q16.1, q16.2) = res := (Option.some.inj hf)
          have hP := w_eq (congrArg (fun z => mw g (m_now, m_kept, m_aside, m_isKept, z.2, m_steps, m_queue, m_lives, m_treads, m_tape, m_taped, m_begins, m_ends, m_sort, m_value, m_isWrong, m_items, m_itemMany, m_seedThen, m_groundThen, m_widths, m_sizes, m_numbers, m_moved)) hres) hP
          exact W.iret (v := q16.1) hx hb hr (fun t ht hW => ⟨congrArg (fun z => Outcome.returned (some (Value.int z.1))) hres, trivial, by rw [ht]; exact hP, hS.F ht⟩) hS.2.2 dX7_as_66
        · have hf := (if_neg hc15).symm.trans hf
          refine lv_iload_n hx hb dX7_as_55 rfl (lv_at hl 0 rfl) ?_
          refine lv_goto (tgt := 66) hx hb dX7_as_56 (by decide) ?_
          have hres : ((m_now ((3 : Int32) + a1).toNatClampNeg), m_found) = res := (Option.some.inj hf)
          have hP := w_eq (congrArg (fun z => mw g (m_now, m_kept, m_aside, m_isKept, z.2, m_steps, m_queue, m_lives, m_treads, m_tape, m_taped, m_begins, m_ends, m_sort, m_value, m_isWrong, m_items, m_itemMany, m_seedThen, m_groundThen, m_widths, m_sizes, m_numbers, m_moved)) hres) hP
          exact W.iret (v := (m_now ((3 : Int32) + a1).toNatClampNeg)) hx hb hr (fun t ht hW => ⟨congrArg (fun z => Outcome.returned (some (Value.int z.1))) hres, trivial, by rw [ht]; exact hP, hS.F ht⟩) hS.2.2 dX7_as_66
      · have hf := (if_neg hc10).symm.trans hf
        refine lv_aload_n hx hb dX7_as_34 rfl (lv_at hl 1 rfl) ?_
        refine lv_ldcw (v := (-1000006 : Int32)) hx hb hown hw3 dX7_as_35 ?_
        obtain ⟨q18, hq18, hf⟩ := bd_some hf
        refine kr_W (st1 := [.int q18.1]) (va_runV (As := [.int (-1000006 : Int32)]) (rest := []) ⟨hx, hb, hml, hown, hts⟩ (ct_X7_finding l n g m_now m_kept m_aside m_isKept m_found m_steps m_queue m_lives m_treads m_tape m_taped m_begins m_ends m_sort m_value m_isWrong m_items m_itemMany m_seedThen m_groundThen m_widths m_sizes m_numbers m_moved (-1000006 : Int32) q18 hq18) (cwV 1 hts gX7_as_X7_finding rfl rfl rfl hd_X7_finding ⟨Nat.le_of_ble_eq_true rfl, Nat.le_of_ble_eq_true rfl⟩) ⟨bl_M, va_recv hK hP (ci := 5) (q0 := 0) rfl k_md, pr_M rfl hB hP hS⟩ rfl rfl hl.1 rfl (lv_room (Nat.le_of_ble_eq_true rfl)) dX7_as_38 ⟨Nat.le_refl _, Nat.le_refl _⟩) hS rfl (fun hn19 H locs hP hS => ?_)
        have hP : va_P g.1 vwCl (mw g (m_now, m_kept, m_aside, m_isKept, q18.2, m_steps, m_queue, m_lives, m_treads, m_tape, m_taped, m_begins, m_ends, m_sort, m_value, m_isWrong, m_items, m_itemMany, m_seedThen, m_groundThen, m_widths, m_sizes, m_numbers, m_moved)) H := hP
        have hres : (q18.1, q18.2) = res := (Option.some.inj hf)
        have hP := w_eq (congrArg (fun z => mw g (m_now, m_kept, m_aside, m_isKept, z.2, m_steps, m_queue, m_lives, m_treads, m_tape, m_taped, m_begins, m_ends, m_sort, m_value, m_isWrong, m_items, m_itemMany, m_seedThen, m_groundThen, m_widths, m_sizes, m_numbers, m_moved)) hres) hP
        exact W.iret (v := q18.1) hx hb hr (fun t ht hW => ⟨congrArg (fun z => Outcome.returned (some (Value.int z.1))) hres, trivial, by rw [ht]; exact hP, hS.F ht⟩) hS.2.2 dX7_as_41
    · have hf := (if_pos hc8).symm.trans hf
      refine lv_aload_n hx hb dX7_as_14 rfl (lv_at hl 0 rfl) ?_
      refine lv_ldc (v := (-1000001 : Int32)) hx hb hown hw0 dX7_as_15 ?_
      obtain ⟨q20, hq20, hf⟩ := bd_some hf
      refine kr_W (st1 := [.int q20.1]) (va_runV (As := [.int (-1000001 : Int32)]) (rest := []) ⟨hx, hb, hml, hown, hts⟩ (ct_X7_finding l n g m_now m_kept m_aside m_isKept m_found m_steps m_queue m_lives m_treads m_tape m_taped m_begins m_ends m_sort m_value m_isWrong m_items m_itemMany m_seedThen m_groundThen m_widths m_sizes m_numbers m_moved (-1000001 : Int32) q20 hq20) (cwV 1 hts gX7_as_X7_finding rfl rfl rfl hd_X7_finding ⟨Nat.le_of_ble_eq_true rfl, Nat.le_of_ble_eq_true rfl⟩) ⟨bl_M, va_recv hK hP (ci := 5) (q0 := 0) rfl k_md, pr_M rfl hB hP hS⟩ rfl rfl hl.1 rfl (lv_room (Nat.le_of_ble_eq_true rfl)) dX7_as_17 ⟨Nat.le_refl _, Nat.le_refl _⟩) hS rfl (fun hn21 H locs hP hS => ?_)
      have hP : va_P g.1 vwCl (mw g (m_now, m_kept, m_aside, m_isKept, q20.2, m_steps, m_queue, m_lives, m_treads, m_tape, m_taped, m_begins, m_ends, m_sort, m_value, m_isWrong, m_items, m_itemMany, m_seedThen, m_groundThen, m_widths, m_sizes, m_numbers, m_moved)) H := hP
      have hres : (q20.1, q20.2) = res := (Option.some.inj hf)
      have hP := w_eq (congrArg (fun z => mw g (m_now, m_kept, m_aside, m_isKept, z.2, m_steps, m_queue, m_lives, m_treads, m_tape, m_taped, m_begins, m_ends, m_sort, m_value, m_isWrong, m_items, m_itemMany, m_seedThen, m_groundThen, m_widths, m_sizes, m_numbers, m_moved)) hres) hP
      exact W.iret (v := q20.1) hx hb hr (fun t ht hW => ⟨congrArg (fun z => Outcome.returned (some (Value.int z.1))) hres, trivial, by rw [ht]; exact hP, hS.F ht⟩) hS.2.2 dX7_as_20
set_option maxHeartbeats 4000000 in
set_option maxRecDepth 100000 in
theorem ct_X7_cutTo (l : Launch) (n : Nat) (a0 : Int32) (a1 : Int32) (res : Int32) (hf : fX7_cutTo n a0 a1 = some res) : Met l yX7_cutTo wsX7_cutTo ({ frames := 0, cells := 0, slots := 0, locals := 0 }) (va_Pc [.int a0, .int a1] NW) (qS (some (.int res)) True) 0 0 (fun _ => False) := by
  refine Met.ofW (cc := cX7_cutTo) (maxL := 2) (ret := (some .int)) (by decide) rfl ?_
  intro p e s m args below meth c s₁ B hml hv
  obtain ⟨rfl, hI⟩ := hv
  have hx := B.exec
  have hb := B.bytes
  have hr := B.returns
  have hts := atoms_spec (ws := wsX7_cutTo) B.pre
  have hown : s.vm.findClass RX7 = some m.cls := findClass_of_methodNamed B.named
  have hlocks := B.notSynchronized
  have hNW : NW s := hI
  have hl := lv_entry ([.int a0, .int a1]) (n := 2) (Nat.le_of_ble_eq_true rfl)
  rw [lg_entry_eq]
  generalize (lg_sl ([.int a0, .int a1]) ++ List.replicate (2 - (lg_sl ([.int a0, .int a1])).length) Slot.unset).toArray = ls at hl ⊢
  have hl : lv_has ls 2 [(0, .int a0), (1, .int a1)] := hl
  unfold fX7_cutTo at hf
  refine lv_iload_n hx hb dX7_cutTo_0 rfl (lv_at hl 1 rfl) ?_
  refine lv_bipush (v := (8 : Int32)) hx hb dX7_cutTo_1 (by decide) ?_
  refine lv_icmp_ne (tgt := 11) hx hb dX7_cutTo_3 (by decide) (fun hc1 => ?_) (fun hc1 => ?_)
  · have hf := (if_neg hc1).symm.trans hf
    refine lv_iload_n hx hb dX7_cutTo_11 rfl (lv_at hl 1 rfl) ?_
    refine lv_bipush (v := (16 : Int32)) hx hb dX7_cutTo_12 (by decide) ?_
    refine lv_icmp_ne (tgt := 22) hx hb dX7_cutTo_14 (by decide) (fun hc2 => ?_) (fun hc2 => ?_)
    · have hf := (if_neg hc2).symm.trans hf
      refine lv_iload_n hx hb dX7_cutTo_22 rfl (lv_at hl 0 rfl) ?_
      have hres : a0 = res := (Option.some.inj hf)
      exact W.iret (v := a0) hx hb hr (fun t ht hW => ⟨congrArg (fun z => Outcome.returned (some (Value.int z))) hres, trivial, ht⟩) t_nil dX7_cutTo_23
    · have hf := (if_pos hc2).symm.trans hf
      refine lv_iload_n hx hb dX7_cutTo_17 rfl (lv_at hl 0 rfl) ?_
      refine lv_i2s (v := a0.toInt16.toInt32) hx hb dX7_cutTo_18 rfl ?_
      refine lv_goto (tgt := 23) hx hb dX7_cutTo_19 (by decide) ?_
      have hres : a0.toInt16.toInt32 = res := (Option.some.inj hf)
      exact W.iret (v := a0.toInt16.toInt32) hx hb hr (fun t ht hW => ⟨congrArg (fun z => Outcome.returned (some (Value.int z))) hres, trivial, ht⟩) t_nil dX7_cutTo_23
  · have hf := (if_pos hc1).symm.trans hf
    refine lv_iload_n hx hb dX7_cutTo_6 rfl (lv_at hl 0 rfl) ?_
    refine lv_i2b (v := a0.toInt8.toInt32) hx hb dX7_cutTo_7 rfl ?_
    refine lv_goto (tgt := 23) hx hb dX7_cutTo_8 (by decide) ?_
    have hres : a0.toInt8.toInt32 = res := (Option.some.inj hf)
    exact W.iret (v := a0.toInt8.toInt32) hx hb hr (fun t ht hW => ⟨congrArg (fun z => Outcome.returned (some (Value.int z))) hres, trivial, ht⟩) t_nil dX7_cutTo_23
set_option maxHeartbeats 4000000 in
set_option maxRecDepth 100000 in
theorem ct_X7_sheet (l : Launch) (n : Nat) (g : GM) (m_now : Nat → Int32) (m_kept : Nat → Int32) (m_aside : Nat → Int32) (m_isKept : Int32) (m_found : Nat → Int32) (m_steps : Nat → Int32) (m_queue : Nat → Int32) (m_lives : Nat → Int32) (m_treads : Nat → Int32) (m_tape : Nat → Int32) (m_taped : Int32) (m_begins : Int32) (m_ends : Int32) (m_sort : Int32) (m_value : Int32) (m_isWrong : Int32) (m_items : Nat → Int32) (m_itemMany : Int32) (m_seedThen : Int32) (m_groundThen : Nat → Int32) (m_widths : Nat → Int32) (m_sizes : Nat → Int32) (m_numbers : Nat → Int32) (m_moved : Nat → Int32) (a1 : Int32) (a2 : Int32) (a3 : Int32) (res : Int32 × (Nat → Int32) × (Nat → Int32) × (Nat → Int32) × (Nat → Int32)) (hf : fX7_sheet n a1 a2 a3 m_found m_widths m_sizes m_numbers = some res) : Met l yX7_sheet wsX7_sheet ({ frames := 2, cells := 0, slots := 0, locals := 42 }) (va_Pc [.ref (gm g 0), .int a1, .int a2, .int a3] (mI g (m_now, m_kept, m_aside, m_isKept, m_found, m_steps, m_queue, m_lives, m_treads, m_tape, m_taped, m_begins, m_ends, m_sort, m_value, m_isWrong, m_items, m_itemMany, m_seedThen, m_groundThen, m_widths, m_sizes, m_numbers, m_moved))) (qW (some (.int res.1)) True g.1 (mw g (m_now, m_kept, m_aside, m_isKept, res.2.1, m_steps, m_queue, m_lives, m_treads, m_tape, m_taped, m_begins, m_ends, m_sort, m_value, m_isWrong, m_items, m_itemMany, m_seedThen, m_groundThen, res.2.2.1, res.2.2.2.1, res.2.2.2.2, m_moved)) (mA g)) 0 0 (mA g) := by
  refine Met.ofW (cc := cX7_sheet) (maxL := 5) (ret := (some .int)) (by decide) rfl ?_
  intro p e s m args below meth c s₁ B hml hv
  obtain ⟨rfl, hI⟩ := hv
  have hx := B.exec
  have hb := B.bytes
  have hr := B.returns
  have hts := atoms_spec (ws := wsX7_sheet) B.pre
  have hown : s.vm.findClass RX7 = some m.cls := findClass_of_methodNamed B.named
  have hlocks := B.notSynchronized
  have hP := hI.1
  have hB := hI.2
  have hK := hB.1
  have hNW := hB.2.1
  have hS : va_S (mA g) s.heap s.heap [] := va_S.rf
  have hw0 := hts (.constant RX7 95 (-1000001)) (by decide +kernel)
  have hw1 := hts (.fieldLink RX7 83 "SownPathsModel" "widths" "[I") (by decide +kernel)
  have hw2 := hts (.fieldLink RX7 86 "SownPathsModel" "sizes" "[I") (by decide +kernel)
  have hw3 := hts (.fieldLink RX7 89 "SownPathsModel" "numbers" "[I") (by decide +kernel)
  have hw4 := hts (.constant RX7 374 (-1000007)) (by decide +kernel)
  have iwX7 : ∀ w ∈ wsX70, w ∈ wsX7_sheet := fun w h => List.mem_cons_of_mem _ (List.mem_append_right _ h)
  have hl := lv_entry ([.ref (gm g 0), .int a1, .int a2, .int a3]) (n := 5) (Nat.le_of_ble_eq_true rfl)
  rw [lg_entry_eq]
  generalize (lg_sl ([.ref (gm g 0), .int a1, .int a2, .int a3]) ++ List.replicate (5 - (lg_sl ([.ref (gm g 0), .int a1, .int a2, .int a3])).length) Slot.unset).toArray = ls at hl ⊢
  have hl : lv_has ls 5 [(0, .ref (gm g 0)), (1, .int a1), (2, .int a2), (3, .int a3)] := hl
  unfold fX7_sheet at hf
  refine lv_iload_n hx hb dX7_sheet_0 rfl (lv_at hl 1 rfl) ?_
  obtain ⟨q1, hq1, hf⟩ := bd_some hf
  refine kr_S (st1 := [.int q1]) (va_runS (As := [.int a1]) (rest := []) ⟨hx, hb, hml, hown, hts⟩ (ct_X7_isSheet l n a1 q1 hq1) (va_cwS 1 hts gX7_sheet_X7_isSheet rfl rfl rfl hn_X7_isSheet ⟨Nat.le_of_ble_eq_true rfl, Nat.le_of_ble_eq_true rfl⟩) ⟨bl_N, pr_N rfl hNW⟩ rfl rfl hl.1 rfl (lv_room (Nat.le_of_ble_eq_true rfl)) dX7_sheet_1 ⟨Nat.le_refl _, Nat.le_refl _⟩) rfl (fun hn2 => ?_)
  refine lv_if_eq (tgt := 29) hx hb dX7_sheet_4 (by decide) (fun hc3 => ?_) (fun hc3 => ?_)
  · have hf := (if_pos hc3).symm.trans hf
    refine lv_aload_n hx hb dX7_sheet_29 rfl (lv_at hl 0 rfl) ?_
    refine lv_ldc (v := (-1000001 : Int32)) hx hb hown hw0 dX7_sheet_30 ?_
    obtain ⟨q4, hq4, hf⟩ := bd_some hf
    refine kr_W (st1 := [.int q4.1]) (va_runV (As := [.int (-1000001 : Int32)]) (rest := []) ⟨hx, hb, hml, hown, hts⟩ (ct_X7_finding l n g m_now m_kept m_aside m_isKept m_found m_steps m_queue m_lives m_treads m_tape m_taped m_begins m_ends m_sort m_value m_isWrong m_items m_itemMany m_seedThen m_groundThen m_widths m_sizes m_numbers m_moved (-1000001 : Int32) q4 hq4) (cwV 1 hts gX7_sheet_X7_finding rfl rfl rfl hd_X7_finding ⟨Nat.le_of_ble_eq_true rfl, Nat.le_of_ble_eq_true rfl⟩) ⟨bl_M, va_recv hK hP (ci := 5) (q0 := 0) rfl k_md, pr_M rfl hB hP hS⟩ rfl rfl hl.1 rfl (lv_room (Nat.le_of_ble_eq_true rfl)) dX7_sheet_32 ⟨Nat.le_refl _, Nat.le_refl _⟩) hS rfl (fun hn5 H locs hP hS => ?_)
    have hP : va_P g.1 vwCl (mw g (m_now, m_kept, m_aside, m_isKept, q4.2, m_steps, m_queue, m_lives, m_treads, m_tape, m_taped, m_begins, m_ends, m_sort, m_value, m_isWrong, m_items, m_itemMany, m_seedThen, m_groundThen, m_widths, m_sizes, m_numbers, m_moved)) H := hP
    have hres : (q4.1, q4.2, m_widths, m_sizes, m_numbers) = res := (Option.some.inj hf)
    have hP := w_eq (congrArg (fun z => mw g (m_now, m_kept, m_aside, m_isKept, z.2.1, m_steps, m_queue, m_lives, m_treads, m_tape, m_taped, m_begins, m_ends, m_sort, m_value, m_isWrong, m_items, m_itemMany, m_seedThen, m_groundThen, z.2.2.1, z.2.2.2.1, z.2.2.2.2, m_moved)) hres) hP
    exact W.iret (v := q4.1) hx hb hr (fun t ht hW => ⟨congrArg (fun z => Outcome.returned (some (Value.int z.1))) hres, trivial, by rw [ht]; exact hP, hS.F ht⟩) hS.2.2 dX7_sheet_35
  · have hf := (if_neg hc3).symm.trans hf
    refine lv_iload_n hx hb dX7_sheet_7 rfl (lv_at hl 2 rfl) ?_
    refine lv_if_eq (tgt := 36) hx hb dX7_sheet_8 (by decide) (fun hc6 => ?_) (fun hc6 => ?_)
    · have hf := (if_pos hc6).symm.trans hf
      refine lv_iload_n hx hb dX7_sheet_36 rfl (lv_at hl 3 rfl) ?_
      refine lv_if_ge (tgt := 48) hx hb dX7_sheet_37 (by decide) (fun hc7 => ?_) (fun hc7 => ?_)
      · have hf := (if_pos hc7).symm.trans hf
        refine lv_iload_n hx hb dX7_sheet_48 rfl (lv_at hl 3 rfl) ?_
        refine lv_bipush (v := (40 : Int32)) hx hb dX7_sheet_49 (by decide) ?_
        refine lv_icmp_le (tgt := 61) hx hb dX7_sheet_51 (by decide) (fun hc8 => ?_) (fun hc8 => ?_)
        · have hf := (if_pos hc8).symm.trans hf
          refine lv_aload_n hx hb dX7_sheet_61 rfl (lv_at hl 0 rfl) ?_
          refine va_get (D := g.1) (ci := 5) (v := .ref (gm g 15)) (C := RX7) (T := TX7) (N := 27) hx hb hts iwX7 hown hK hP 0 k_md rfl 23 (by decide) hw1 (fun _ h9 => h9) rfl dX7_sheet_62 ?_
          refine lv_iload_n hx hb dX7_sheet_65 rfl (lv_at hl 1 rfl) ?_
          refine lv_iload_n hx hb dX7_sheet_66 rfl (lv_at hl 2 rfl) ?_
          obtain ⟨hg9, hf⟩ := gd_some hf
          refine va_iast (f := m_widths) hx hb hK hP (mD hB.2.2.1 _) hS 15 0 k_widths rfl hg9 dX7_sheet_67 (fun H locs hP _ hS => ?_)
          have hP : va_P g.1 vwCl (mw g (m_now, m_kept, m_aside, m_isKept, m_found, m_steps, m_queue, m_lives, m_treads, m_tape, m_taped, m_begins, m_ends, m_sort, m_value, m_isWrong, m_items, m_itemMany, m_seedThen, m_groundThen, (upd m_widths a1.toNatClampNeg a2), m_sizes, m_numbers, m_moved)) H := w_eq (k_set_widths (upd m_widths a1.toNatClampNeg a2)) hP
          refine lv_aload_n hx hb dX7_sheet_68 rfl (lv_at hl 0 rfl) ?_
          refine va_get (D := g.1) (ci := 5) (v := .ref (gm g 16)) (C := RX7) (T := TX7) (N := 27) hx hb hts iwX7 hown hK hP 0 k_md rfl 24 (by decide) hw2 (fun _ h9 => h9) rfl dX7_sheet_69 ?_
          refine lv_iload_n hx hb dX7_sheet_72 rfl (lv_at hl 1 rfl) ?_
          refine lv_iload_n hx hb dX7_sheet_73 rfl (lv_at hl 2 rfl) ?_
          refine lv_if_ne (tgt := 81) hx hb dX7_sheet_74 (by decide) (fun hc10 => ?_) (fun hc10 => ?_)
          · have hf := (if_neg hc10).symm.trans hf
            refine lv_iload_n hx hb dX7_sheet_81 rfl (lv_at hl 3 rfl) ?_
            obtain ⟨hg11, hf⟩ := gd_some hf
            refine va_iast (f := m_sizes) hx hb hK hP (mD hB.2.2.1 _) hS 16 0 k_sizes rfl hg11 dX7_sheet_82 (fun H locs hP _ hS => ?_)
            have hP : va_P g.1 vwCl (mw g (m_now, m_kept, m_aside, m_isKept, m_found, m_steps, m_queue, m_lives, m_treads, m_tape, m_taped, m_begins, m_ends, m_sort, m_value, m_isWrong, m_items, m_itemMany, m_seedThen, m_groundThen, (upd m_widths a1.toNatClampNeg a2), (upd m_sizes a1.toNatClampNeg a3), m_numbers, m_moved)) H := w_eq (k_set_sizes (upd m_sizes a1.toNatClampNeg a3)) hP
            refine lv_iconst (v := (0 : Int32)) hx hb dX7_sheet_83 (by decide) ?_
            refine lv_istore (lv' := [(4, .int (0 : Int32)), (0, .ref (gm g 0)), (1, .int a1), (2, .int a2), (3, .int a3)]) hx hb dX7_sheet_84 hl (by decide) rfl (fun ls hl => ?_)
            refine lp_run hf (fun s12 => ∀ (H : Heap) (locs : List Loc) (ls : Array Slot), va_P g.1 vwCl (mw g (m_now, m_kept, m_aside, m_isKept, m_found, m_steps, m_queue, m_lives, m_treads, m_tape, m_taped, m_begins, m_ends, m_sort, m_value, m_isWrong, m_items, m_itemMany, m_seedThen, m_groundThen, (upd m_widths a1.toNatClampNeg a2), (upd m_sizes a1.toNatClampNeg a3), s12.2, m_moved)) H → va_S (mA g) s.heap H locs → lv_has ls 5 [(0, .ref (gm g 0)), (1, .int a1), (4, .int s12.1)] → W p l e (headSpec wsX7_sheet ({ frames := 2, cells := 0, slots := 0, locals := 42 })).room s m ([.ref (gm g 0), .int a1, .int a2, .int a3] : List Value).toArray below meth c H locs 0 0 (MQ below (qW (some (.int res.1)) True g.1 (mw g (m_now, m_kept, m_aside, m_isKept, res.2.1, m_steps, m_queue, m_lives, m_treads, m_tape, m_taped, m_begins, m_ends, m_sort, m_value, m_isWrong, m_items, m_itemMany, m_seedThen, m_groundThen, res.2.2.1, res.2.2.2.1, res.2.2.2.2, m_moved)) (mA g)) ([.ref (gm g 0), .int a1, .int a2, .int a3] : List Value).toArray s 0 0 (mA g)) (F0 m 86 ls [])) (fun v13 => ∀ (H : Heap) (locs : List Loc) (ls : Array Slot), va_P g.1 vwCl (mw g (m_now, m_kept, m_aside, m_isKept, m_found, m_steps, m_queue, m_lives, m_treads, m_tape, m_taped, m_begins, m_ends, m_sort, m_value, m_isWrong, m_items, m_itemMany, m_seedThen, m_groundThen, (upd m_widths a1.toNatClampNeg a2), (upd m_sizes a1.toNatClampNeg a3), v13.2, m_moved)) H → va_S (mA g) s.heap H locs → lv_has ls 5 [(0, .ref (gm g 0)), (1, .int a1)] → W p l e (headSpec wsX7_sheet ({ frames := 2, cells := 0, slots := 0, locals := 42 })).room s m ([.ref (gm g 0), .int a1, .int a2, .int a3] : List Value).toArray below meth c H locs 0 0 (MQ below (qW (some (.int res.1)) True g.1 (mw g (m_now, m_kept, m_aside, m_isKept, res.2.1, m_steps, m_queue, m_lives, m_treads, m_tape, m_taped, m_begins, m_ends, m_sort, m_value, m_isWrong, m_items, m_itemMany, m_seedThen, m_groundThen, res.2.2.1, res.2.2.2.1, res.2.2.2.2, m_moved)) (mA g)) ([.ref (gm g 0), .int a1, .int a2, .int a3] : List Value).toArray s 0 0 (mA g)) (F0 m 112 ls [])) ?_ ?_ _ _ _ hP hS (lv_sub hl [1, 2, 0] rfl)
            · intro v13 hf H locs ls hP hS hl
              refine lv_aload_n hx hb dX7_sheet_112 rfl (lv_at hl 0 rfl) ?_
              refine va_get (D := g.1) (ci := 5) (v := .ref (gm g 16)) (C := RX7) (T := TX7) (N := 27) hx hb hts iwX7 hown hK hP 0 k_md rfl 24 (by decide) hw2 (fun _ h9 => h9) rfl dX7_sheet_113 ?_
              refine lv_iload_n hx hb dX7_sheet_116 rfl (lv_at hl 1 rfl) ?_
              obtain ⟨hg16, hf⟩ := gd_some hf
              refine va_iald (f := (upd m_sizes a1.toNatClampNeg a3)) hx hb hK hP 16 0 k_sizes rfl hg16 dX7_sheet_117 ?_
              have hres : (((upd m_sizes a1.toNatClampNeg a3) a1.toNatClampNeg), m_found, (upd m_widths a1.toNatClampNeg a2), (upd m_sizes a1.toNatClampNeg a3), v13.2) = res := (Option.some.inj hf)
              have hP := w_eq (congrArg (fun z => mw g (m_now, m_kept, m_aside, m_isKept, z.2.1, m_steps, m_queue, m_lives, m_treads, m_tape, m_taped, m_begins, m_ends, m_sort, m_value, m_isWrong, m_items, m_itemMany, m_seedThen, m_groundThen, z.2.2.1, z.2.2.2.1, z.2.2.2.2, m_moved)) hres) hP
              exact W.iret (v := ((upd m_sizes a1.toNatClampNeg a3) a1.toNatClampNeg)) hx hb hr (fun t ht hW => ⟨congrArg (fun z => Outcome.returned (some (Value.int z.1))) hres, trivial, by rw [ht]; exact hP, hS.F ht⟩) hS.2.2 dX7_sheet_118
            · intro s12 r1 hf hback1 hexit1 H locs ls hP hS hl
              refine lv_iload hx hb dX7_sheet_86 (lv_at hl 2 rfl) ?_
              refine lv_bipush (v := (40 : Int32)) hx hb dX7_sheet_88 (by decide) ?_
              refine lv_icmp_ge (tgt := 112) hx hb dX7_sheet_90 (by decide) (fun hc14 => ?_) (fun hc14 => ?_)
              · have hf := (if_pos hc14).symm.trans hf
                exact hexit1 (s12.1, s12.2) (Option.some.inj hf).symm H locs ls hP hS (lv_sub hl [0, 1] rfl)
              · have hf := (if_neg hc14).symm.trans hf
                refine lv_aload_n hx hb dX7_sheet_93 rfl (lv_at hl 0 rfl) ?_
                refine va_get (D := g.1) (ci := 5) (v := .ref (gm g 17)) (C := RX7) (T := TX7) (N := 27) hx hb hts iwX7 hown hK hP 0 k_md rfl 25 (by decide) hw3 (fun _ h9 => h9) rfl dX7_sheet_94 ?_
                refine lv_bipush (v := (40 : Int32)) hx hb dX7_sheet_97 (by decide) ?_
                refine lv_iload_n hx hb dX7_sheet_99 rfl (lv_at hl 1 rfl) ?_
                refine lv_imul hx hb dX7_sheet_100 ?_
                refine lv_iload hx hb dX7_sheet_101 (lv_at hl 2 rfl) ?_
                refine lv_iadd hx hb dX7_sheet_103 ?_
                refine lv_iconst (v := (0 : Int32)) hx hb dX7_sheet_104 (by decide) ?_
                obtain ⟨hg15, hf⟩ := gd_some hf
                refine va_iast (f := s12.2) hx hb hK hP (mD hB.2.2.1 _) hS 17 0 k_numbers rfl hg15 dX7_sheet_105 (fun H locs hP _ hS => ?_)
                have hP : va_P g.1 vwCl (mw g (m_now, m_kept, m_aside, m_isKept, m_found, m_steps, m_queue, m_lives, m_treads, m_tape, m_taped, m_begins, m_ends, m_sort, m_value, m_isWrong, m_items, m_itemMany, m_seedThen, m_groundThen, (upd m_widths a1.toNatClampNeg a2), (upd m_sizes a1.toNatClampNeg a3), (upd s12.2 (((40 : Int32) * a1) + s12.1).toNatClampNeg (0 : Int32)), m_moved)) H := w_eq (k_set_numbers (upd s12.2 (((40 : Int32) * a1) + s12.1).toNatClampNeg (0 : Int32))) hP
                refine lv_iinc (v := (s12.1 + (1 : Int32))) (lv' := [(4, .int (s12.1 + (1 : Int32))), (0, .ref (gm g 0)), (1, .int a1)]) hx hb dX7_sheet_106 hl (k := 2) rfl (congrArg (fun y => s12.1 + y) (by decide : Int32.ofInt (1) = (1 : Int32))) (by decide) rfl (fun ls hl => ?_)
                refine lv_goto (tgt := 86) hx hb dX7_sheet_109 (by decide) ?_
                exact hback1 _ (Option.some.inj hf).symm H locs ls hP hS (lv_sub hl [1, 2, 0] rfl)
          · have hf := (if_pos hc10).symm.trans hf
            refine lv_iconst (v := (0 : Int32)) hx hb dX7_sheet_77 (by decide) ?_
            refine lv_goto (tgt := 82) hx hb dX7_sheet_78 (by decide) ?_
            obtain ⟨hg17, hf⟩ := gd_some hf
            refine va_iast (f := m_sizes) hx hb hK hP (mD hB.2.2.1 _) hS 16 0 k_sizes rfl hg17 dX7_sheet_82 (fun H locs hP _ hS => ?_)
            have hP : va_P g.1 vwCl (mw g (m_now, m_kept, m_aside, m_isKept, m_found, m_steps, m_queue, m_lives, m_treads, m_tape, m_taped, m_begins, m_ends, m_sort, m_value, m_isWrong, m_items, m_itemMany, m_seedThen, m_groundThen, (upd m_widths a1.toNatClampNeg a2), (upd m_sizes a1.toNatClampNeg (0 : Int32)), m_numbers, m_moved)) H := w_eq (k_set_sizes (upd m_sizes a1.toNatClampNeg (0 : Int32))) hP
            refine lv_iconst (v := (0 : Int32)) hx hb dX7_sheet_83 (by decide) ?_
            refine lv_istore (lv' := [(4, .int (0 : Int32)), (0, .ref (gm g 0)), (1, .int a1), (2, .int a2), (3, .int a3)]) hx hb dX7_sheet_84 hl (by decide) rfl (fun ls hl => ?_)
            refine lp_run hf (fun s18 => ∀ (H : Heap) (locs : List Loc) (ls : Array Slot), va_P g.1 vwCl (mw g (m_now, m_kept, m_aside, m_isKept, m_found, m_steps, m_queue, m_lives, m_treads, m_tape, m_taped, m_begins, m_ends, m_sort, m_value, m_isWrong, m_items, m_itemMany, m_seedThen, m_groundThen, (upd m_widths a1.toNatClampNeg a2), (upd m_sizes a1.toNatClampNeg (0 : Int32)), s18.2, m_moved)) H → va_S (mA g) s.heap H locs → lv_has ls 5 [(0, .ref (gm g 0)), (1, .int a1), (4, .int s18.1)] → W p l e (headSpec wsX7_sheet ({ frames := 2, cells := 0, slots := 0, locals := 42 })).room s m ([.ref (gm g 0), .int a1, .int a2, .int a3] : List Value).toArray below meth c H locs 0 0 (MQ below (qW (some (.int res.1)) True g.1 (mw g (m_now, m_kept, m_aside, m_isKept, res.2.1, m_steps, m_queue, m_lives, m_treads, m_tape, m_taped, m_begins, m_ends, m_sort, m_value, m_isWrong, m_items, m_itemMany, m_seedThen, m_groundThen, res.2.2.1, res.2.2.2.1, res.2.2.2.2, m_moved)) (mA g)) ([.ref (gm g 0), .int a1, .int a2, .int a3] : List Value).toArray s 0 0 (mA g)) (F0 m 86 ls [])) (fun v19 => ∀ (H : Heap) (locs : List Loc) (ls : Array Slot), va_P g.1 vwCl (mw g (m_now, m_kept, m_aside, m_isKept, m_found, m_steps, m_queue, m_lives, m_treads, m_tape, m_taped, m_begins, m_ends, m_sort, m_value, m_isWrong, m_items, m_itemMany, m_seedThen, m_groundThen, (upd m_widths a1.toNatClampNeg a2), (upd m_sizes a1.toNatClampNeg (0 : Int32)), v19.2, m_moved)) H → va_S (mA g) s.heap H locs → lv_has ls 5 [(0, .ref (gm g 0)), (1, .int a1)] → W p l e (headSpec wsX7_sheet ({ frames := 2, cells := 0, slots := 0, locals := 42 })).room s m ([.ref (gm g 0), .int a1, .int a2, .int a3] : List Value).toArray below meth c H locs 0 0 (MQ below (qW (some (.int res.1)) True g.1 (mw g (m_now, m_kept, m_aside, m_isKept, res.2.1, m_steps, m_queue, m_lives, m_treads, m_tape, m_taped, m_begins, m_ends, m_sort, m_value, m_isWrong, m_items, m_itemMany, m_seedThen, m_groundThen, res.2.2.1, res.2.2.2.1, res.2.2.2.2, m_moved)) (mA g)) ([.ref (gm g 0), .int a1, .int a2, .int a3] : List Value).toArray s 0 0 (mA g)) (F0 m 112 ls [])) ?_ ?_ _ _ _ hP hS (lv_sub hl [1, 2, 0] rfl)
            · intro v19 hf H locs ls hP hS hl
              refine lv_aload_n hx hb dX7_sheet_112 rfl (lv_at hl 0 rfl) ?_
              refine va_get (D := g.1) (ci := 5) (v := .ref (gm g 16)) (C := RX7) (T := TX7) (N := 27) hx hb hts iwX7 hown hK hP 0 k_md rfl 24 (by decide) hw2 (fun _ h9 => h9) rfl dX7_sheet_113 ?_
              refine lv_iload_n hx hb dX7_sheet_116 rfl (lv_at hl 1 rfl) ?_
              obtain ⟨hg22, hf⟩ := gd_some hf
              refine va_iald (f := (upd m_sizes a1.toNatClampNeg (0 : Int32))) hx hb hK hP 16 0 k_sizes rfl hg22 dX7_sheet_117 ?_
              have hres : (((upd m_sizes a1.toNatClampNeg (0 : Int32)) a1.toNatClampNeg), m_found, (upd m_widths a1.toNatClampNeg a2), (upd m_sizes a1.toNatClampNeg (0 : Int32)), v19.2) = res := (Option.some.inj hf)
              have hP := w_eq (congrArg (fun z => mw g (m_now, m_kept, m_aside, m_isKept, z.2.1, m_steps, m_queue, m_lives, m_treads, m_tape, m_taped, m_begins, m_ends, m_sort, m_value, m_isWrong, m_items, m_itemMany, m_seedThen, m_groundThen, z.2.2.1, z.2.2.2.1, z.2.2.2.2, m_moved)) hres) hP
              exact W.iret (v := ((upd m_sizes a1.toNatClampNeg (0 : Int32)) a1.toNatClampNeg)) hx hb hr (fun t ht hW => ⟨congrArg (fun z => Outcome.returned (some (Value.int z.1))) hres, trivial, by rw [ht]; exact hP, hS.F ht⟩) hS.2.2 dX7_sheet_118
            · intro s18 r1 hf hback1 hexit1 H locs ls hP hS hl
              refine lv_iload hx hb dX7_sheet_86 (lv_at hl 2 rfl) ?_
              refine lv_bipush (v := (40 : Int32)) hx hb dX7_sheet_88 (by decide) ?_
              refine lv_icmp_ge (tgt := 112) hx hb dX7_sheet_90 (by decide) (fun hc20 => ?_) (fun hc20 => ?_)
              · have hf := (if_pos hc20).symm.trans hf
                exact hexit1 (s18.1, s18.2) (Option.some.inj hf).symm H locs ls hP hS (lv_sub hl [0, 1] rfl)
              · have hf := (if_neg hc20).symm.trans hf
                refine lv_aload_n hx hb dX7_sheet_93 rfl (lv_at hl 0 rfl) ?_
                refine va_get (D := g.1) (ci := 5) (v := .ref (gm g 17)) (C := RX7) (T := TX7) (N := 27) hx hb hts iwX7 hown hK hP 0 k_md rfl 25 (by decide) hw3 (fun _ h9 => h9) rfl dX7_sheet_94 ?_
                refine lv_bipush (v := (40 : Int32)) hx hb dX7_sheet_97 (by decide) ?_
                refine lv_iload_n hx hb dX7_sheet_99 rfl (lv_at hl 1 rfl) ?_
                refine lv_imul hx hb dX7_sheet_100 ?_
                refine lv_iload hx hb dX7_sheet_101 (lv_at hl 2 rfl) ?_
                refine lv_iadd hx hb dX7_sheet_103 ?_
                refine lv_iconst (v := (0 : Int32)) hx hb dX7_sheet_104 (by decide) ?_
                obtain ⟨hg21, hf⟩ := gd_some hf
                refine va_iast (f := s18.2) hx hb hK hP (mD hB.2.2.1 _) hS 17 0 k_numbers rfl hg21 dX7_sheet_105 (fun H locs hP _ hS => ?_)
                have hP : va_P g.1 vwCl (mw g (m_now, m_kept, m_aside, m_isKept, m_found, m_steps, m_queue, m_lives, m_treads, m_tape, m_taped, m_begins, m_ends, m_sort, m_value, m_isWrong, m_items, m_itemMany, m_seedThen, m_groundThen, (upd m_widths a1.toNatClampNeg a2), (upd m_sizes a1.toNatClampNeg (0 : Int32)), (upd s18.2 (((40 : Int32) * a1) + s18.1).toNatClampNeg (0 : Int32)), m_moved)) H := w_eq (k_set_numbers (upd s18.2 (((40 : Int32) * a1) + s18.1).toNatClampNeg (0 : Int32))) hP
                refine lv_iinc (v := (s18.1 + (1 : Int32))) (lv' := [(4, .int (s18.1 + (1 : Int32))), (0, .ref (gm g 0)), (1, .int a1)]) hx hb dX7_sheet_106 hl (k := 2) rfl (congrArg (fun y => s18.1 + y) (by decide : Int32.ofInt (1) = (1 : Int32))) (by decide) rfl (fun ls hl => ?_)
                refine lv_goto (tgt := 86) hx hb dX7_sheet_109 (by decide) ?_
                exact hback1 _ (Option.some.inj hf).symm H locs ls hP hS (lv_sub hl [1, 2, 0] rfl)
        · have hf := (if_neg hc8).symm.trans hf
          refine lv_aload_n hx hb dX7_sheet_54 rfl (lv_at hl 0 rfl) ?_
          refine lv_ldc (v := (-1000001 : Int32)) hx hb hown hw0 dX7_sheet_55 ?_
          obtain ⟨q23, hq23, hf⟩ := bd_some hf
          refine kr_W (st1 := [.int q23.1]) (va_runV (As := [.int (-1000001 : Int32)]) (rest := []) ⟨hx, hb, hml, hown, hts⟩ (ct_X7_finding l n g m_now m_kept m_aside m_isKept m_found m_steps m_queue m_lives m_treads m_tape m_taped m_begins m_ends m_sort m_value m_isWrong m_items m_itemMany m_seedThen m_groundThen m_widths m_sizes m_numbers m_moved (-1000001 : Int32) q23 hq23) (cwV 1 hts gX7_sheet_X7_finding rfl rfl rfl hd_X7_finding ⟨Nat.le_of_ble_eq_true rfl, Nat.le_of_ble_eq_true rfl⟩) ⟨bl_M, va_recv hK hP (ci := 5) (q0 := 0) rfl k_md, pr_M rfl hB hP hS⟩ rfl rfl hl.1 rfl (lv_room (Nat.le_of_ble_eq_true rfl)) dX7_sheet_57 ⟨Nat.le_refl _, Nat.le_refl _⟩) hS rfl (fun hn24 H locs hP hS => ?_)
          have hP : va_P g.1 vwCl (mw g (m_now, m_kept, m_aside, m_isKept, q23.2, m_steps, m_queue, m_lives, m_treads, m_tape, m_taped, m_begins, m_ends, m_sort, m_value, m_isWrong, m_items, m_itemMany, m_seedThen, m_groundThen, m_widths, m_sizes, m_numbers, m_moved)) H := hP
          have hres : (q23.1, q23.2, m_widths, m_sizes, m_numbers) = res := (Option.some.inj hf)
          have hP := w_eq (congrArg (fun z => mw g (m_now, m_kept, m_aside, m_isKept, z.2.1, m_steps, m_queue, m_lives, m_treads, m_tape, m_taped, m_begins, m_ends, m_sort, m_value, m_isWrong, m_items, m_itemMany, m_seedThen, m_groundThen, z.2.2.1, z.2.2.2.1, z.2.2.2.2, m_moved)) hres) hP
          exact W.iret (v := q23.1) hx hb hr (fun t ht hW => ⟨congrArg (fun z => Outcome.returned (some (Value.int z.1))) hres, trivial, by rw [ht]; exact hP, hS.F ht⟩) hS.2.2 dX7_sheet_60
      · have hf := (if_neg hc7).symm.trans hf
        refine lv_aload_n hx hb dX7_sheet_40 rfl (lv_at hl 0 rfl) ?_
        refine lv_ldcw (v := (-1000007 : Int32)) hx hb hown hw4 dX7_sheet_41 ?_
        obtain ⟨q25, hq25, hf⟩ := bd_some hf
        refine kr_W (st1 := [.int q25.1]) (va_runV (As := [.int (-1000007 : Int32)]) (rest := []) ⟨hx, hb, hml, hown, hts⟩ (ct_X7_finding l n g m_now m_kept m_aside m_isKept m_found m_steps m_queue m_lives m_treads m_tape m_taped m_begins m_ends m_sort m_value m_isWrong m_items m_itemMany m_seedThen m_groundThen m_widths m_sizes m_numbers m_moved (-1000007 : Int32) q25 hq25) (cwV 1 hts gX7_sheet_X7_finding rfl rfl rfl hd_X7_finding ⟨Nat.le_of_ble_eq_true rfl, Nat.le_of_ble_eq_true rfl⟩) ⟨bl_M, va_recv hK hP (ci := 5) (q0 := 0) rfl k_md, pr_M rfl hB hP hS⟩ rfl rfl hl.1 rfl (lv_room (Nat.le_of_ble_eq_true rfl)) dX7_sheet_44 ⟨Nat.le_refl _, Nat.le_refl _⟩) hS rfl (fun hn26 H locs hP hS => ?_)
        have hP : va_P g.1 vwCl (mw g (m_now, m_kept, m_aside, m_isKept, q25.2, m_steps, m_queue, m_lives, m_treads, m_tape, m_taped, m_begins, m_ends, m_sort, m_value, m_isWrong, m_items, m_itemMany, m_seedThen, m_groundThen, m_widths, m_sizes, m_numbers, m_moved)) H := hP
        have hres : (q25.1, q25.2, m_widths, m_sizes, m_numbers) = res := (Option.some.inj hf)
        have hP := w_eq (congrArg (fun z => mw g (m_now, m_kept, m_aside, m_isKept, z.2.1, m_steps, m_queue, m_lives, m_treads, m_tape, m_taped, m_begins, m_ends, m_sort, m_value, m_isWrong, m_items, m_itemMany, m_seedThen, m_groundThen, z.2.2.1, z.2.2.2.1, z.2.2.2.2, m_moved)) hres) hP
        exact W.iret (v := q25.1) hx hb hr (fun t ht hW => ⟨congrArg (fun z => Outcome.returned (some (Value.int z.1))) hres, trivial, by rw [ht]; exact hP, hS.F ht⟩) hS.2.2 dX7_sheet_47
    · have hf := (if_neg hc6).symm.trans hf
      refine lv_iload_n hx hb dX7_sheet_11 rfl (lv_at hl 2 rfl) ?_
      refine lv_bipush (v := (8 : Int32)) hx hb dX7_sheet_12 (by decide) ?_
      refine lv_icmp_eq (tgt := 36) hx hb dX7_sheet_14 (by decide) (fun hc27 => ?_) (fun hc27 => ?_)
      · have hf := (if_pos hc27).symm.trans hf
        refine lv_iload_n hx hb dX7_sheet_36 rfl (lv_at hl 3 rfl) ?_
        refine lv_if_ge (tgt := 48) hx hb dX7_sheet_37 (by decide) (fun hc28 => ?_) (fun hc28 => ?_)
        · have hf := (if_pos hc28).symm.trans hf
          refine lv_iload_n hx hb dX7_sheet_48 rfl (lv_at hl 3 rfl) ?_
          refine lv_bipush (v := (40 : Int32)) hx hb dX7_sheet_49 (by decide) ?_
          refine lv_icmp_le (tgt := 61) hx hb dX7_sheet_51 (by decide) (fun hc29 => ?_) (fun hc29 => ?_)
          · have hf := (if_pos hc29).symm.trans hf
            refine lv_aload_n hx hb dX7_sheet_61 rfl (lv_at hl 0 rfl) ?_
            refine va_get (D := g.1) (ci := 5) (v := .ref (gm g 15)) (C := RX7) (T := TX7) (N := 27) hx hb hts iwX7 hown hK hP 0 k_md rfl 23 (by decide) hw1 (fun _ h9 => h9) rfl dX7_sheet_62 ?_
            refine lv_iload_n hx hb dX7_sheet_65 rfl (lv_at hl 1 rfl) ?_
            refine lv_iload_n hx hb dX7_sheet_66 rfl (lv_at hl 2 rfl) ?_
            obtain ⟨hg30, hf⟩ := gd_some hf
            refine va_iast (f := m_widths) hx hb hK hP (mD hB.2.2.1 _) hS 15 0 k_widths rfl hg30 dX7_sheet_67 (fun H locs hP _ hS => ?_)
            have hP : va_P g.1 vwCl (mw g (m_now, m_kept, m_aside, m_isKept, m_found, m_steps, m_queue, m_lives, m_treads, m_tape, m_taped, m_begins, m_ends, m_sort, m_value, m_isWrong, m_items, m_itemMany, m_seedThen, m_groundThen, (upd m_widths a1.toNatClampNeg a2), m_sizes, m_numbers, m_moved)) H := w_eq (k_set_widths (upd m_widths a1.toNatClampNeg a2)) hP
            refine lv_aload_n hx hb dX7_sheet_68 rfl (lv_at hl 0 rfl) ?_
            refine va_get (D := g.1) (ci := 5) (v := .ref (gm g 16)) (C := RX7) (T := TX7) (N := 27) hx hb hts iwX7 hown hK hP 0 k_md rfl 24 (by decide) hw2 (fun _ h9 => h9) rfl dX7_sheet_69 ?_
            refine lv_iload_n hx hb dX7_sheet_72 rfl (lv_at hl 1 rfl) ?_
            refine lv_iload_n hx hb dX7_sheet_73 rfl (lv_at hl 2 rfl) ?_
            refine lv_if_ne (tgt := 81) hx hb dX7_sheet_74 (by decide) (fun hc31 => ?_) (fun hc31 => ?_)
            · have hf := (if_neg hc31).symm.trans hf
              refine lv_iload_n hx hb dX7_sheet_81 rfl (lv_at hl 3 rfl) ?_
              obtain ⟨hg32, hf⟩ := gd_some hf
              refine va_iast (f := m_sizes) hx hb hK hP (mD hB.2.2.1 _) hS 16 0 k_sizes rfl hg32 dX7_sheet_82 (fun H locs hP _ hS => ?_)
              have hP : va_P g.1 vwCl (mw g (m_now, m_kept, m_aside, m_isKept, m_found, m_steps, m_queue, m_lives, m_treads, m_tape, m_taped, m_begins, m_ends, m_sort, m_value, m_isWrong, m_items, m_itemMany, m_seedThen, m_groundThen, (upd m_widths a1.toNatClampNeg a2), (upd m_sizes a1.toNatClampNeg a3), m_numbers, m_moved)) H := w_eq (k_set_sizes (upd m_sizes a1.toNatClampNeg a3)) hP
              refine lv_iconst (v := (0 : Int32)) hx hb dX7_sheet_83 (by decide) ?_
              refine lv_istore (lv' := [(4, .int (0 : Int32)), (0, .ref (gm g 0)), (1, .int a1), (2, .int a2), (3, .int a3)]) hx hb dX7_sheet_84 hl (by decide) rfl (fun ls hl => ?_)
              refine lp_run hf (fun s33 => ∀ (H : Heap) (locs : List Loc) (ls : Array Slot), va_P g.1 vwCl (mw g (m_now, m_kept, m_aside, m_isKept, m_found, m_steps, m_queue, m_lives, m_treads, m_tape, m_taped, m_begins, m_ends, m_sort, m_value, m_isWrong, m_items, m_itemMany, m_seedThen, m_groundThen, (upd m_widths a1.toNatClampNeg a2), (upd m_sizes a1.toNatClampNeg a3), s33.2, m_moved)) H → va_S (mA g) s.heap H locs → lv_has ls 5 [(0, .ref (gm g 0)), (1, .int a1), (4, .int s33.1)] → W p l e (headSpec wsX7_sheet ({ frames := 2, cells := 0, slots := 0, locals := 42 })).room s m ([.ref (gm g 0), .int a1, .int a2, .int a3] : List Value).toArray below meth c H locs 0 0 (MQ below (qW (some (.int res.1)) True g.1 (mw g (m_now, m_kept, m_aside, m_isKept, res.2.1, m_steps, m_queue, m_lives, m_treads, m_tape, m_taped, m_begins, m_ends, m_sort, m_value, m_isWrong, m_items, m_itemMany, m_seedThen, m_groundThen, res.2.2.1, res.2.2.2.1, res.2.2.2.2, m_moved)) (mA g)) ([.ref (gm g 0), .int a1, .int a2, .int a3] : List Value).toArray s 0 0 (mA g)) (F0 m 86 ls [])) (fun v34 => ∀ (H : Heap) (locs : List Loc) (ls : Array Slot), va_P g.1 vwCl (mw g (m_now, m_kept, m_aside, m_isKept, m_found, m_steps, m_queue, m_lives, m_treads, m_tape, m_taped, m_begins, m_ends, m_sort, m_value, m_isWrong, m_items, m_itemMany, m_seedThen, m_groundThen, (upd m_widths a1.toNatClampNeg a2), (upd m_sizes a1.toNatClampNeg a3), v34.2, m_moved)) H → va_S (mA g) s.heap H locs → lv_has ls 5 [(0, .ref (gm g 0)), (1, .int a1)] → W p l e (headSpec wsX7_sheet ({ frames := 2, cells := 0, slots := 0, locals := 42 })).room s m ([.ref (gm g 0), .int a1, .int a2, .int a3] : List Value).toArray below meth c H locs 0 0 (MQ below (qW (some (.int res.1)) True g.1 (mw g (m_now, m_kept, m_aside, m_isKept, res.2.1, m_steps, m_queue, m_lives, m_treads, m_tape, m_taped, m_begins, m_ends, m_sort, m_value, m_isWrong, m_items, m_itemMany, m_seedThen, m_groundThen, res.2.2.1, res.2.2.2.1, res.2.2.2.2, m_moved)) (mA g)) ([.ref (gm g 0), .int a1, .int a2, .int a3] : List Value).toArray s 0 0 (mA g)) (F0 m 112 ls [])) ?_ ?_ _ _ _ hP hS (lv_sub hl [1, 2, 0] rfl)
              · intro v34 hf H locs ls hP hS hl
                refine lv_aload_n hx hb dX7_sheet_112 rfl (lv_at hl 0 rfl) ?_
                refine va_get (D := g.1) (ci := 5) (v := .ref (gm g 16)) (C := RX7) (T := TX7) (N := 27) hx hb hts iwX7 hown hK hP 0 k_md rfl 24 (by decide) hw2 (fun _ h9 => h9) rfl dX7_sheet_113 ?_
                refine lv_iload_n hx hb dX7_sheet_116 rfl (lv_at hl 1 rfl) ?_
                obtain ⟨hg37, hf⟩ := gd_some hf
                refine va_iald (f := (upd m_sizes a1.toNatClampNeg a3)) hx hb hK hP 16 0 k_sizes rfl hg37 dX7_sheet_117 ?_
                have hres : (((upd m_sizes a1.toNatClampNeg a3) a1.toNatClampNeg), m_found, (upd m_widths a1.toNatClampNeg a2), (upd m_sizes a1.toNatClampNeg a3), v34.2) = res := (Option.some.inj hf)
                have hP := w_eq (congrArg (fun z => mw g (m_now, m_kept, m_aside, m_isKept, z.2.1, m_steps, m_queue, m_lives, m_treads, m_tape, m_taped, m_begins, m_ends, m_sort, m_value, m_isWrong, m_items, m_itemMany, m_seedThen, m_groundThen, z.2.2.1, z.2.2.2.1, z.2.2.2.2, m_moved)) hres) hP
                exact W.iret (v := ((upd m_sizes a1.toNatClampNeg a3) a1.toNatClampNeg)) hx hb hr (fun t ht hW => ⟨congrArg (fun z => Outcome.returned (some (Value.int z.1))) hres, trivial, by rw [ht]; exact hP, hS.F ht⟩) hS.2.2 dX7_sheet_118
              · intro s33 r1 hf hback1 hexit1 H locs ls hP hS hl
                refine lv_iload hx hb dX7_sheet_86 (lv_at hl 2 rfl) ?_
                refine lv_bipush (v := (40 : Int32)) hx hb dX7_sheet_88 (by decide) ?_
                refine lv_icmp_ge (tgt := 112) hx hb dX7_sheet_90 (by decide) (fun hc35 => ?_) (fun hc35 => ?_)
                · have hf := (if_pos hc35).symm.trans hf
                  exact hexit1 (s33.1, s33.2) (Option.some.inj hf).symm H locs ls hP hS (lv_sub hl [0, 1] rfl)
                · have hf := (if_neg hc35).symm.trans hf
                  refine lv_aload_n hx hb dX7_sheet_93 rfl (lv_at hl 0 rfl) ?_
                  refine va_get (D := g.1) (ci := 5) (v := .ref (gm g 17)) (C := RX7) (T := TX7) (N := 27) hx hb hts iwX7 hown hK hP 0 k_md rfl 25 (by decide) hw3 (fun _ h9 => h9) rfl dX7_sheet_94 ?_
                  refine lv_bipush (v := (40 : Int32)) hx hb dX7_sheet_97 (by decide) ?_
                  refine lv_iload_n hx hb dX7_sheet_99 rfl (lv_at hl 1 rfl) ?_
                  refine lv_imul hx hb dX7_sheet_100 ?_
                  refine lv_iload hx hb dX7_sheet_101 (lv_at hl 2 rfl) ?_
                  refine lv_iadd hx hb dX7_sheet_103 ?_
                  refine lv_iconst (v := (0 : Int32)) hx hb dX7_sheet_104 (by decide) ?_
                  obtain ⟨hg36, hf⟩ := gd_some hf
                  refine va_iast (f := s33.2) hx hb hK hP (mD hB.2.2.1 _) hS 17 0 k_numbers rfl hg36 dX7_sheet_105 (fun H locs hP _ hS => ?_)
                  have hP : va_P g.1 vwCl (mw g (m_now, m_kept, m_aside, m_isKept, m_found, m_steps, m_queue, m_lives, m_treads, m_tape, m_taped, m_begins, m_ends, m_sort, m_value, m_isWrong, m_items, m_itemMany, m_seedThen, m_groundThen, (upd m_widths a1.toNatClampNeg a2), (upd m_sizes a1.toNatClampNeg a3), (upd s33.2 (((40 : Int32) * a1) + s33.1).toNatClampNeg (0 : Int32)), m_moved)) H := w_eq (k_set_numbers (upd s33.2 (((40 : Int32) * a1) + s33.1).toNatClampNeg (0 : Int32))) hP
                  refine lv_iinc (v := (s33.1 + (1 : Int32))) (lv' := [(4, .int (s33.1 + (1 : Int32))), (0, .ref (gm g 0)), (1, .int a1)]) hx hb dX7_sheet_106 hl (k := 2) rfl (congrArg (fun y => s33.1 + y) (by decide : Int32.ofInt (1) = (1 : Int32))) (by decide) rfl (fun ls hl => ?_)
                  refine lv_goto (tgt := 86) hx hb dX7_sheet_109 (by decide) ?_
                  exact hback1 _ (Option.some.inj hf).symm H locs ls hP hS (lv_sub hl [1, 2, 0] rfl)
            · have hf := (if_pos hc31).symm.trans hf
              refine lv_iconst (v := (0 : Int32)) hx hb dX7_sheet_77 (by decide) ?_
              refine lv_goto (tgt := 82) hx hb dX7_sheet_78 (by decide) ?_
              obtain ⟨hg38, hf⟩ := gd_some hf
              refine va_iast (f := m_sizes) hx hb hK hP (mD hB.2.2.1 _) hS 16 0 k_sizes rfl hg38 dX7_sheet_82 (fun H locs hP _ hS => ?_)
              have hP : va_P g.1 vwCl (mw g (m_now, m_kept, m_aside, m_isKept, m_found, m_steps, m_queue, m_lives, m_treads, m_tape, m_taped, m_begins, m_ends, m_sort, m_value, m_isWrong, m_items, m_itemMany, m_seedThen, m_groundThen, (upd m_widths a1.toNatClampNeg a2), (upd m_sizes a1.toNatClampNeg (0 : Int32)), m_numbers, m_moved)) H := w_eq (k_set_sizes (upd m_sizes a1.toNatClampNeg (0 : Int32))) hP
              refine lv_iconst (v := (0 : Int32)) hx hb dX7_sheet_83 (by decide) ?_
              refine lv_istore (lv' := [(4, .int (0 : Int32)), (0, .ref (gm g 0)), (1, .int a1), (2, .int a2), (3, .int a3)]) hx hb dX7_sheet_84 hl (by decide) rfl (fun ls hl => ?_)
              refine lp_run hf (fun s39 => ∀ (H : Heap) (locs : List Loc) (ls : Array Slot), va_P g.1 vwCl (mw g (m_now, m_kept, m_aside, m_isKept, m_found, m_steps, m_queue, m_lives, m_treads, m_tape, m_taped, m_begins, m_ends, m_sort, m_value, m_isWrong, m_items, m_itemMany, m_seedThen, m_groundThen, (upd m_widths a1.toNatClampNeg a2), (upd m_sizes a1.toNatClampNeg (0 : Int32)), s39.2, m_moved)) H → va_S (mA g) s.heap H locs → lv_has ls 5 [(0, .ref (gm g 0)), (1, .int a1), (4, .int s39.1)] → W p l e (headSpec wsX7_sheet ({ frames := 2, cells := 0, slots := 0, locals := 42 })).room s m ([.ref (gm g 0), .int a1, .int a2, .int a3] : List Value).toArray below meth c H locs 0 0 (MQ below (qW (some (.int res.1)) True g.1 (mw g (m_now, m_kept, m_aside, m_isKept, res.2.1, m_steps, m_queue, m_lives, m_treads, m_tape, m_taped, m_begins, m_ends, m_sort, m_value, m_isWrong, m_items, m_itemMany, m_seedThen, m_groundThen, res.2.2.1, res.2.2.2.1, res.2.2.2.2, m_moved)) (mA g)) ([.ref (gm g 0), .int a1, .int a2, .int a3] : List Value).toArray s 0 0 (mA g)) (F0 m 86 ls [])) (fun v40 => ∀ (H : Heap) (locs : List Loc) (ls : Array Slot), va_P g.1 vwCl (mw g (m_now, m_kept, m_aside, m_isKept, m_found, m_steps, m_queue, m_lives, m_treads, m_tape, m_taped, m_begins, m_ends, m_sort, m_value, m_isWrong, m_items, m_itemMany, m_seedThen, m_groundThen, (upd m_widths a1.toNatClampNeg a2), (upd m_sizes a1.toNatClampNeg (0 : Int32)), v40.2, m_moved)) H → va_S (mA g) s.heap H locs → lv_has ls 5 [(0, .ref (gm g 0)), (1, .int a1)] → W p l e (headSpec wsX7_sheet ({ frames := 2, cells := 0, slots := 0, locals := 42 })).room s m ([.ref (gm g 0), .int a1, .int a2, .int a3] : List Value).toArray below meth c H locs 0 0 (MQ below (qW (some (.int res.1)) True g.1 (mw g (m_now, m_kept, m_aside, m_isKept, res.2.1, m_steps, m_queue, m_lives, m_treads, m_tape, m_taped, m_begins, m_ends, m_sort, m_value, m_isWrong, m_items, m_itemMany, m_seedThen, m_groundThen, res.2.2.1, res.2.2.2.1, res.2.2.2.2, m_moved)) (mA g)) ([.ref (gm g 0), .int a1, .int a2, .int a3] : List Value).toArray s 0 0 (mA g)) (F0 m 112 ls [])) ?_ ?_ _ _ _ hP hS (lv_sub hl [1, 2, 0] rfl)
              · intro v40 hf H locs ls hP hS hl
                refine lv_aload_n hx hb dX7_sheet_112 rfl (lv_at hl 0 rfl) ?_
                refine va_get (D := g.1) (ci := 5) (v := .ref (gm g 16)) (C := RX7) (T := TX7) (N := 27) hx hb hts iwX7 hown hK hP 0 k_md rfl 24 (by decide) hw2 (fun _ h9 => h9) rfl dX7_sheet_113 ?_
                refine lv_iload_n hx hb dX7_sheet_116 rfl (lv_at hl 1 rfl) ?_
                obtain ⟨hg43, hf⟩ := gd_some hf
                refine va_iald (f := (upd m_sizes a1.toNatClampNeg (0 : Int32))) hx hb hK hP 16 0 k_sizes rfl hg43 dX7_sheet_117 ?_
                have hres : (((upd m_sizes a1.toNatClampNeg (0 : Int32)) a1.toNatClampNeg), m_found, (upd m_widths a1.toNatClampNeg a2), (upd m_sizes a1.toNatClampNeg (0 : Int32)), v40.2) = res := (Option.some.inj hf)
                have hP := w_eq (congrArg (fun z => mw g (m_now, m_kept, m_aside, m_isKept, z.2.1, m_steps, m_queue, m_lives, m_treads, m_tape, m_taped, m_begins, m_ends, m_sort, m_value, m_isWrong, m_items, m_itemMany, m_seedThen, m_groundThen, z.2.2.1, z.2.2.2.1, z.2.2.2.2, m_moved)) hres) hP
                exact W.iret (v := ((upd m_sizes a1.toNatClampNeg (0 : Int32)) a1.toNatClampNeg)) hx hb hr (fun t ht hW => ⟨congrArg (fun z => Outcome.returned (some (Value.int z.1))) hres, trivial, by rw [ht]; exact hP, hS.F ht⟩) hS.2.2 dX7_sheet_118
              · intro s39 r1 hf hback1 hexit1 H locs ls hP hS hl
                refine lv_iload hx hb dX7_sheet_86 (lv_at hl 2 rfl) ?_
                refine lv_bipush (v := (40 : Int32)) hx hb dX7_sheet_88 (by decide) ?_
                refine lv_icmp_ge (tgt := 112) hx hb dX7_sheet_90 (by decide) (fun hc41 => ?_) (fun hc41 => ?_)
                · have hf := (if_pos hc41).symm.trans hf
                  exact hexit1 (s39.1, s39.2) (Option.some.inj hf).symm H locs ls hP hS (lv_sub hl [0, 1] rfl)
                · have hf := (if_neg hc41).symm.trans hf
                  refine lv_aload_n hx hb dX7_sheet_93 rfl (lv_at hl 0 rfl) ?_
                  refine va_get (D := g.1) (ci := 5) (v := .ref (gm g 17)) (C := RX7) (T := TX7) (N := 27) hx hb hts iwX7 hown hK hP 0 k_md rfl 25 (by decide) hw3 (fun _ h9 => h9) rfl dX7_sheet_94 ?_
                  refine lv_bipush (v := (40 : Int32)) hx hb dX7_sheet_97 (by decide) ?_
                  refine lv_iload_n hx hb dX7_sheet_99 rfl (lv_at hl 1 rfl) ?_
                  refine lv_imul hx hb dX7_sheet_100 ?_
                  refine lv_iload hx hb dX7_sheet_101 (lv_at hl 2 rfl) ?_
                  refine lv_iadd hx hb dX7_sheet_103 ?_
                  refine lv_iconst (v := (0 : Int32)) hx hb dX7_sheet_104 (by decide) ?_
                  obtain ⟨hg42, hf⟩ := gd_some hf
                  refine va_iast (f := s39.2) hx hb hK hP (mD hB.2.2.1 _) hS 17 0 k_numbers rfl hg42 dX7_sheet_105 (fun H locs hP _ hS => ?_)
                  have hP : va_P g.1 vwCl (mw g (m_now, m_kept, m_aside, m_isKept, m_found, m_steps, m_queue, m_lives, m_treads, m_tape, m_taped, m_begins, m_ends, m_sort, m_value, m_isWrong, m_items, m_itemMany, m_seedThen, m_groundThen, (upd m_widths a1.toNatClampNeg a2), (upd m_sizes a1.toNatClampNeg (0 : Int32)), (upd s39.2 (((40 : Int32) * a1) + s39.1).toNatClampNeg (0 : Int32)), m_moved)) H := w_eq (k_set_numbers (upd s39.2 (((40 : Int32) * a1) + s39.1).toNatClampNeg (0 : Int32))) hP
                  refine lv_iinc (v := (s39.1 + (1 : Int32))) (lv' := [(4, .int (s39.1 + (1 : Int32))), (0, .ref (gm g 0)), (1, .int a1)]) hx hb dX7_sheet_106 hl (k := 2) rfl (congrArg (fun y => s39.1 + y) (by decide : Int32.ofInt (1) = (1 : Int32))) (by decide) rfl (fun ls hl => ?_)
                  refine lv_goto (tgt := 86) hx hb dX7_sheet_109 (by decide) ?_
                  exact hback1 _ (Option.some.inj hf).symm H locs ls hP hS (lv_sub hl [1, 2, 0] rfl)
          · have hf := (if_neg hc29).symm.trans hf
            refine lv_aload_n hx hb dX7_sheet_54 rfl (lv_at hl 0 rfl) ?_
            refine lv_ldc (v := (-1000001 : Int32)) hx hb hown hw0 dX7_sheet_55 ?_
            obtain ⟨q44, hq44, hf⟩ := bd_some hf
            refine kr_W (st1 := [.int q44.1]) (va_runV (As := [.int (-1000001 : Int32)]) (rest := []) ⟨hx, hb, hml, hown, hts⟩ (ct_X7_finding l n g m_now m_kept m_aside m_isKept m_found m_steps m_queue m_lives m_treads m_tape m_taped m_begins m_ends m_sort m_value m_isWrong m_items m_itemMany m_seedThen m_groundThen m_widths m_sizes m_numbers m_moved (-1000001 : Int32) q44 hq44) (cwV 1 hts gX7_sheet_X7_finding rfl rfl rfl hd_X7_finding ⟨Nat.le_of_ble_eq_true rfl, Nat.le_of_ble_eq_true rfl⟩) ⟨bl_M, va_recv hK hP (ci := 5) (q0 := 0) rfl k_md, pr_M rfl hB hP hS⟩ rfl rfl hl.1 rfl (lv_room (Nat.le_of_ble_eq_true rfl)) dX7_sheet_57 ⟨Nat.le_refl _, Nat.le_refl _⟩) hS rfl (fun hn45 H locs hP hS => ?_)
            have hP : va_P g.1 vwCl (mw g (m_now, m_kept, m_aside, m_isKept, q44.2, m_steps, m_queue, m_lives, m_treads, m_tape, m_taped, m_begins, m_ends, m_sort, m_value, m_isWrong, m_items, m_itemMany, m_seedThen, m_groundThen, m_widths, m_sizes, m_numbers, m_moved)) H := hP
            have hres : (q44.1, q44.2, m_widths, m_sizes, m_numbers) = res := (Option.some.inj hf)
            have hP := w_eq (congrArg (fun z => mw g (m_now, m_kept, m_aside, m_isKept, z.2.1, m_steps, m_queue, m_lives, m_treads, m_tape, m_taped, m_begins, m_ends, m_sort, m_value, m_isWrong, m_items, m_itemMany, m_seedThen, m_groundThen, z.2.2.1, z.2.2.2.1, z.2.2.2.2, m_moved)) hres) hP
            exact W.iret (v := q44.1) hx hb hr (fun t ht hW => ⟨congrArg (fun z => Outcome.returned (some (Value.int z.1))) hres, trivial, by rw [ht]; exact hP, hS.F ht⟩) hS.2.2 dX7_sheet_60
        · have hf := (if_neg hc28).symm.trans hf
          refine lv_aload_n hx hb dX7_sheet_40 rfl (lv_at hl 0 rfl) ?_
          refine lv_ldcw (v := (-1000007 : Int32)) hx hb hown hw4 dX7_sheet_41 ?_
          obtain ⟨q46, hq46, hf⟩ := bd_some hf
          refine kr_W (st1 := [.int q46.1]) (va_runV (As := [.int (-1000007 : Int32)]) (rest := []) ⟨hx, hb, hml, hown, hts⟩ (ct_X7_finding l n g m_now m_kept m_aside m_isKept m_found m_steps m_queue m_lives m_treads m_tape m_taped m_begins m_ends m_sort m_value m_isWrong m_items m_itemMany m_seedThen m_groundThen m_widths m_sizes m_numbers m_moved (-1000007 : Int32) q46 hq46) (cwV 1 hts gX7_sheet_X7_finding rfl rfl rfl hd_X7_finding ⟨Nat.le_of_ble_eq_true rfl, Nat.le_of_ble_eq_true rfl⟩) ⟨bl_M, va_recv hK hP (ci := 5) (q0 := 0) rfl k_md, pr_M rfl hB hP hS⟩ rfl rfl hl.1 rfl (lv_room (Nat.le_of_ble_eq_true rfl)) dX7_sheet_44 ⟨Nat.le_refl _, Nat.le_refl _⟩) hS rfl (fun hn47 H locs hP hS => ?_)
          have hP : va_P g.1 vwCl (mw g (m_now, m_kept, m_aside, m_isKept, q46.2, m_steps, m_queue, m_lives, m_treads, m_tape, m_taped, m_begins, m_ends, m_sort, m_value, m_isWrong, m_items, m_itemMany, m_seedThen, m_groundThen, m_widths, m_sizes, m_numbers, m_moved)) H := hP
          have hres : (q46.1, q46.2, m_widths, m_sizes, m_numbers) = res := (Option.some.inj hf)
          have hP := w_eq (congrArg (fun z => mw g (m_now, m_kept, m_aside, m_isKept, z.2.1, m_steps, m_queue, m_lives, m_treads, m_tape, m_taped, m_begins, m_ends, m_sort, m_value, m_isWrong, m_items, m_itemMany, m_seedThen, m_groundThen, z.2.2.1, z.2.2.2.1, z.2.2.2.2, m_moved)) hres) hP
          exact W.iret (v := q46.1) hx hb hr (fun t ht hW => ⟨congrArg (fun z => Outcome.returned (some (Value.int z.1))) hres, trivial, by rw [ht]; exact hP, hS.F ht⟩) hS.2.2 dX7_sheet_47
      · have hf := (if_neg hc27).symm.trans hf
        refine lv_iload_n hx hb dX7_sheet_17 rfl (lv_at hl 2 rfl) ?_
        refine lv_bipush (v := (16 : Int32)) hx hb dX7_sheet_18 (by decide) ?_
        refine lv_icmp_eq (tgt := 36) hx hb dX7_sheet_20 (by decide) (fun hc48 => ?_) (fun hc48 => ?_)
        · have hf := (if_pos hc48).symm.trans hf
          refine lv_iload_n hx hb dX7_sheet_36 rfl (lv_at hl 3 rfl) ?_
          refine lv_if_ge (tgt := 48) hx hb dX7_sheet_37 (by decide) (fun hc49 => ?_) (fun hc49 => ?_)
          · have hf := (if_pos hc49).symm.trans hf
            refine lv_iload_n hx hb dX7_sheet_48 rfl (lv_at hl 3 rfl) ?_
            refine lv_bipush (v := (40 : Int32)) hx hb dX7_sheet_49 (by decide) ?_
            refine lv_icmp_le (tgt := 61) hx hb dX7_sheet_51 (by decide) (fun hc50 => ?_) (fun hc50 => ?_)
            · have hf := (if_pos hc50).symm.trans hf
              refine lv_aload_n hx hb dX7_sheet_61 rfl (lv_at hl 0 rfl) ?_
              refine va_get (D := g.1) (ci := 5) (v := .ref (gm g 15)) (C := RX7) (T := TX7) (N := 27) hx hb hts iwX7 hown hK hP 0 k_md rfl 23 (by decide) hw1 (fun _ h9 => h9) rfl dX7_sheet_62 ?_
              refine lv_iload_n hx hb dX7_sheet_65 rfl (lv_at hl 1 rfl) ?_
              refine lv_iload_n hx hb dX7_sheet_66 rfl (lv_at hl 2 rfl) ?_
              obtain ⟨hg51, hf⟩ := gd_some hf
              refine va_iast (f := m_widths) hx hb hK hP (mD hB.2.2.1 _) hS 15 0 k_widths rfl hg51 dX7_sheet_67 (fun H locs hP _ hS => ?_)
              have hP : va_P g.1 vwCl (mw g (m_now, m_kept, m_aside, m_isKept, m_found, m_steps, m_queue, m_lives, m_treads, m_tape, m_taped, m_begins, m_ends, m_sort, m_value, m_isWrong, m_items, m_itemMany, m_seedThen, m_groundThen, (upd m_widths a1.toNatClampNeg a2), m_sizes, m_numbers, m_moved)) H := w_eq (k_set_widths (upd m_widths a1.toNatClampNeg a2)) hP
              refine lv_aload_n hx hb dX7_sheet_68 rfl (lv_at hl 0 rfl) ?_
              refine va_get (D := g.1) (ci := 5) (v := .ref (gm g 16)) (C := RX7) (T := TX7) (N := 27) hx hb hts iwX7 hown hK hP 0 k_md rfl 24 (by decide) hw2 (fun _ h9 => h9) rfl dX7_sheet_69 ?_
              refine lv_iload_n hx hb dX7_sheet_72 rfl (lv_at hl 1 rfl) ?_
              refine lv_iload_n hx hb dX7_sheet_73 rfl (lv_at hl 2 rfl) ?_
              refine lv_if_ne (tgt := 81) hx hb dX7_sheet_74 (by decide) (fun hc52 => ?_) (fun hc52 => ?_)
              · have hf := (if_neg hc52).symm.trans hf
                refine lv_iload_n hx hb dX7_sheet_81 rfl (lv_at hl 3 rfl) ?_
                obtain ⟨hg53, hf⟩ := gd_some hf
                refine va_iast (f := m_sizes) hx hb hK hP (mD hB.2.2.1 _) hS 16 0 k_sizes rfl hg53 dX7_sheet_82 (fun H locs hP _ hS => ?_)
                have hP : va_P g.1 vwCl (mw g (m_now, m_kept, m_aside, m_isKept, m_found, m_steps, m_queue, m_lives, m_treads, m_tape, m_taped, m_begins, m_ends, m_sort, m_value, m_isWrong, m_items, m_itemMany, m_seedThen, m_groundThen, (upd m_widths a1.toNatClampNeg a2), (upd m_sizes a1.toNatClampNeg a3), m_numbers, m_moved)) H := w_eq (k_set_sizes (upd m_sizes a1.toNatClampNeg a3)) hP
                refine lv_iconst (v := (0 : Int32)) hx hb dX7_sheet_83 (by decide) ?_
                refine lv_istore (lv' := [(4, .int (0 : Int32)), (0, .ref (gm g 0)), (1, .int a1), (2, .int a2), (3, .int a3)]) hx hb dX7_sheet_84 hl (by decide) rfl (fun ls hl => ?_)
                refine lp_run hf (fun s54 => ∀ (H : Heap) (locs : List Loc) (ls : Array Slot), va_P g.1 vwCl (mw g (m_now, m_kept, m_aside, m_isKept, m_found, m_steps, m_queue, m_lives, m_treads, m_tape, m_taped, m_begins, m_ends, m_sort, m_value, m_isWrong, m_items, m_itemMany, m_seedThen, m_groundThen, (upd m_widths a1.toNatClampNeg a2), (upd m_sizes a1.toNatClampNeg a3), s54.2, m_moved)) H → va_S (mA g) s.heap H locs → lv_has ls 5 [(0, .ref (gm g 0)), (1, .int a1), (4, .int s54.1)] → W p l e (headSpec wsX7_sheet ({ frames := 2, cells := 0, slots := 0, locals := 42 })).room s m ([.ref (gm g 0), .int a1, .int a2, .int a3] : List Value).toArray below meth c H locs 0 0 (MQ below (qW (some (.int res.1)) True g.1 (mw g (m_now, m_kept, m_aside, m_isKept, res.2.1, m_steps, m_queue, m_lives, m_treads, m_tape, m_taped, m_begins, m_ends, m_sort, m_value, m_isWrong, m_items, m_itemMany, m_seedThen, m_groundThen, res.2.2.1, res.2.2.2.1, res.2.2.2.2, m_moved)) (mA g)) ([.ref (gm g 0), .int a1, .int a2, .int a3] : List Value).toArray s 0 0 (mA g)) (F0 m 86 ls [])) (fun v55 => ∀ (H : Heap) (locs : List Loc) (ls : Array Slot), va_P g.1 vwCl (mw g (m_now, m_kept, m_aside, m_isKept, m_found, m_steps, m_queue, m_lives, m_treads, m_tape, m_taped, m_begins, m_ends, m_sort, m_value, m_isWrong, m_items, m_itemMany, m_seedThen, m_groundThen, (upd m_widths a1.toNatClampNeg a2), (upd m_sizes a1.toNatClampNeg a3), v55.2, m_moved)) H → va_S (mA g) s.heap H locs → lv_has ls 5 [(0, .ref (gm g 0)), (1, .int a1)] → W p l e (headSpec wsX7_sheet ({ frames := 2, cells := 0, slots := 0, locals := 42 })).room s m ([.ref (gm g 0), .int a1, .int a2, .int a3] : List Value).toArray below meth c H locs 0 0 (MQ below (qW (some (.int res.1)) True g.1 (mw g (m_now, m_kept, m_aside, m_isKept, res.2.1, m_steps, m_queue, m_lives, m_treads, m_tape, m_taped, m_begins, m_ends, m_sort, m_value, m_isWrong, m_items, m_itemMany, m_seedThen, m_groundThen, res.2.2.1, res.2.2.2.1, res.2.2.2.2, m_moved)) (mA g)) ([.ref (gm g 0), .int a1, .int a2, .int a3] : List Value).toArray s 0 0 (mA g)) (F0 m 112 ls [])) ?_ ?_ _ _ _ hP hS (lv_sub hl [1, 2, 0] rfl)
                · intro v55 hf H locs ls hP hS hl
                  refine lv_aload_n hx hb dX7_sheet_112 rfl (lv_at hl 0 rfl) ?_
                  refine va_get (D := g.1) (ci := 5) (v := .ref (gm g 16)) (C := RX7) (T := TX7) (N := 27) hx hb hts iwX7 hown hK hP 0 k_md rfl 24 (by decide) hw2 (fun _ h9 => h9) rfl dX7_sheet_113 ?_
                  refine lv_iload_n hx hb dX7_sheet_116 rfl (lv_at hl 1 rfl) ?_
                  obtain ⟨hg58, hf⟩ := gd_some hf
                  refine va_iald (f := (upd m_sizes a1.toNatClampNeg a3)) hx hb hK hP 16 0 k_sizes rfl hg58 dX7_sheet_117 ?_
                  have hres : (((upd m_sizes a1.toNatClampNeg a3) a1.toNatClampNeg), m_found, (upd m_widths a1.toNatClampNeg a2), (upd m_sizes a1.toNatClampNeg a3), v55.2) = res := (Option.some.inj hf)
                  have hP := w_eq (congrArg (fun z => mw g (m_now, m_kept, m_aside, m_isKept, z.2.1, m_steps, m_queue, m_lives, m_treads, m_tape, m_taped, m_begins, m_ends, m_sort, m_value, m_isWrong, m_items, m_itemMany, m_seedThen, m_groundThen, z.2.2.1, z.2.2.2.1, z.2.2.2.2, m_moved)) hres) hP
                  exact W.iret (v := ((upd m_sizes a1.toNatClampNeg a3) a1.toNatClampNeg)) hx hb hr (fun t ht hW => ⟨congrArg (fun z => Outcome.returned (some (Value.int z.1))) hres, trivial, by rw [ht]; exact hP, hS.F ht⟩) hS.2.2 dX7_sheet_118
                · intro s54 r1 hf hback1 hexit1 H locs ls hP hS hl
                  refine lv_iload hx hb dX7_sheet_86 (lv_at hl 2 rfl) ?_
                  refine lv_bipush (v := (40 : Int32)) hx hb dX7_sheet_88 (by decide) ?_
                  refine lv_icmp_ge (tgt := 112) hx hb dX7_sheet_90 (by decide) (fun hc56 => ?_) (fun hc56 => ?_)
                  · have hf := (if_pos hc56).symm.trans hf
                    exact hexit1 (s54.1, s54.2) (Option.some.inj hf).symm H locs ls hP hS (lv_sub hl [0, 1] rfl)
                  · have hf := (if_neg hc56).symm.trans hf
                    refine lv_aload_n hx hb dX7_sheet_93 rfl (lv_at hl 0 rfl) ?_
                    refine va_get (D := g.1) (ci := 5) (v := .ref (gm g 17)) (C := RX7) (T := TX7) (N := 27) hx hb hts iwX7 hown hK hP 0 k_md rfl 25 (by decide) hw3 (fun _ h9 => h9) rfl dX7_sheet_94 ?_
                    refine lv_bipush (v := (40 : Int32)) hx hb dX7_sheet_97 (by decide) ?_
                    refine lv_iload_n hx hb dX7_sheet_99 rfl (lv_at hl 1 rfl) ?_
                    refine lv_imul hx hb dX7_sheet_100 ?_
                    refine lv_iload hx hb dX7_sheet_101 (lv_at hl 2 rfl) ?_
                    refine lv_iadd hx hb dX7_sheet_103 ?_
                    refine lv_iconst (v := (0 : Int32)) hx hb dX7_sheet_104 (by decide) ?_
                    obtain ⟨hg57, hf⟩ := gd_some hf
                    refine va_iast (f := s54.2) hx hb hK hP (mD hB.2.2.1 _) hS 17 0 k_numbers rfl hg57 dX7_sheet_105 (fun H locs hP _ hS => ?_)
                    have hP : va_P g.1 vwCl (mw g (m_now, m_kept, m_aside, m_isKept, m_found, m_steps, m_queue, m_lives, m_treads, m_tape, m_taped, m_begins, m_ends, m_sort, m_value, m_isWrong, m_items, m_itemMany, m_seedThen, m_groundThen, (upd m_widths a1.toNatClampNeg a2), (upd m_sizes a1.toNatClampNeg a3), (upd s54.2 (((40 : Int32) * a1) + s54.1).toNatClampNeg (0 : Int32)), m_moved)) H := w_eq (k_set_numbers (upd s54.2 (((40 : Int32) * a1) + s54.1).toNatClampNeg (0 : Int32))) hP
                    refine lv_iinc (v := (s54.1 + (1 : Int32))) (lv' := [(4, .int (s54.1 + (1 : Int32))), (0, .ref (gm g 0)), (1, .int a1)]) hx hb dX7_sheet_106 hl (k := 2) rfl (congrArg (fun y => s54.1 + y) (by decide : Int32.ofInt (1) = (1 : Int32))) (by decide) rfl (fun ls hl => ?_)
                    refine lv_goto (tgt := 86) hx hb dX7_sheet_109 (by decide) ?_
                    exact hback1 _ (Option.some.inj hf).symm H locs ls hP hS (lv_sub hl [1, 2, 0] rfl)
              · have hf := (if_pos hc52).symm.trans hf
                refine lv_iconst (v := (0 : Int32)) hx hb dX7_sheet_77 (by decide) ?_
                refine lv_goto (tgt := 82) hx hb dX7_sheet_78 (by decide) ?_
                obtain ⟨hg59, hf⟩ := gd_some hf
                refine va_iast (f := m_sizes) hx hb hK hP (mD hB.2.2.1 _) hS 16 0 k_sizes rfl hg59 dX7_sheet_82 (fun H locs hP _ hS => ?_)
                have hP : va_P g.1 vwCl (mw g (m_now, m_kept, m_aside, m_isKept, m_found, m_steps, m_queue, m_lives, m_treads, m_tape, m_taped, m_begins, m_ends, m_sort, m_value, m_isWrong, m_items, m_itemMany, m_seedThen, m_groundThen, (upd m_widths a1.toNatClampNeg a2), (upd m_sizes a1.toNatClampNeg (0 : Int32)), m_numbers, m_moved)) H := w_eq (k_set_sizes (upd m_sizes a1.toNatClampNeg (0 : Int32))) hP
                refine lv_iconst (v := (0 : Int32)) hx hb dX7_sheet_83 (by decide) ?_
                refine lv_istore (lv' := [(4, .int (0 : Int32)), (0, .ref (gm g 0)), (1, .int a1), (2, .int a2), (3, .int a3)]) hx hb dX7_sheet_84 hl (by decide) rfl (fun ls hl => ?_)
                refine lp_run hf (fun s60 => ∀ (H : Heap) (locs : List Loc) (ls : Array Slot), va_P g.1 vwCl (mw g (m_now, m_kept, m_aside, m_isKept, m_found, m_steps, m_queue, m_lives, m_treads, m_tape, m_taped, m_begins, m_ends, m_sort, m_value, m_isWrong, m_items, m_itemMany, m_seedThen, m_groundThen, (upd m_widths a1.toNatClampNeg a2), (upd m_sizes a1.toNatClampNeg (0 : Int32)), s60.2, m_moved)) H → va_S (mA g) s.heap H locs → lv_has ls 5 [(0, .ref (gm g 0)), (1, .int a1), (4, .int s60.1)] → W p l e (headSpec wsX7_sheet ({ frames := 2, cells := 0, slots := 0, locals := 42 })).room s m ([.ref (gm g 0), .int a1, .int a2, .int a3] : List Value).toArray below meth c H locs 0 0 (MQ below (qW (some (.int res.1)) True g.1 (mw g (m_now, m_kept, m_aside, m_isKept, res.2.1, m_steps, m_queue, m_lives, m_treads, m_tape, m_taped, m_begins, m_ends, m_sort, m_value, m_isWrong, m_items, m_itemMany, m_seedThen, m_groundThen, res.2.2.1, res.2.2.2.1, res.2.2.2.2, m_moved)) (mA g)) ([.ref (gm g 0), .int a1, .int a2, .int a3] : List Value).toArray s 0 0 (mA g)) (F0 m 86 ls [])) (fun v61 => ∀ (H : Heap) (locs : List Loc) (ls : Array Slot), va_P g.1 vwCl (mw g (m_now, m_kept, m_aside, m_isKept, m_found, m_steps, m_queue, m_lives, m_treads, m_tape, m_taped, m_begins, m_ends, m_sort, m_value, m_isWrong, m_items, m_itemMany, m_seedThen, m_groundThen, (upd m_widths a1.toNatClampNeg a2), (upd m_sizes a1.toNatClampNeg (0 : Int32)), v61.2, m_moved)) H → va_S (mA g) s.heap H locs → lv_has ls 5 [(0, .ref (gm g 0)), (1, .int a1)] → W p l e (headSpec wsX7_sheet ({ frames := 2, cells := 0, slots := 0, locals := 42 })).room s m ([.ref (gm g 0), .int a1, .int a2, .int a3] : List Value).toArray below meth c H locs 0 0 (MQ below (qW (some (.int res.1)) True g.1 (mw g (m_now, m_kept, m_aside, m_isKept, res.2.1, m_steps, m_queue, m_lives, m_treads, m_tape, m_taped, m_begins, m_ends, m_sort, m_value, m_isWrong, m_items, m_itemMany, m_seedThen, m_groundThen, res.2.2.1, res.2.2.2.1, res.2.2.2.2, m_moved)) (mA g)) ([.ref (gm g 0), .int a1, .int a2, .int a3] : List Value).toArray s 0 0 (mA g)) (F0 m 112 ls [])) ?_ ?_ _ _ _ hP hS (lv_sub hl [1, 2, 0] rfl)
                · intro v61 hf H locs ls hP hS hl
                  refine lv_aload_n hx hb dX7_sheet_112 rfl (lv_at hl 0 rfl) ?_
                  refine va_get (D := g.1) (ci := 5) (v := .ref (gm g 16)) (C := RX7) (T := TX7) (N := 27) hx hb hts iwX7 hown hK hP 0 k_md rfl 24 (by decide) hw2 (fun _ h9 => h9) rfl dX7_sheet_113 ?_
                  refine lv_iload_n hx hb dX7_sheet_116 rfl (lv_at hl 1 rfl) ?_
                  obtain ⟨hg64, hf⟩ := gd_some hf
                  refine va_iald (f := (upd m_sizes a1.toNatClampNeg (0 : Int32))) hx hb hK hP 16 0 k_sizes rfl hg64 dX7_sheet_117 ?_
                  have hres : (((upd m_sizes a1.toNatClampNeg (0 : Int32)) a1.toNatClampNeg), m_found, (upd m_widths a1.toNatClampNeg a2), (upd m_sizes a1.toNatClampNeg (0 : Int32)), v61.2) = res := (Option.some.inj hf)
                  have hP := w_eq (congrArg (fun z => mw g (m_now, m_kept, m_aside, m_isKept, z.2.1, m_steps, m_queue, m_lives, m_treads, m_tape, m_taped, m_begins, m_ends, m_sort, m_value, m_isWrong, m_items, m_itemMany, m_seedThen, m_groundThen, z.2.2.1, z.2.2.2.1, z.2.2.2.2, m_moved)) hres) hP
                  exact W.iret (v := ((upd m_sizes a1.toNatClampNeg (0 : Int32)) a1.toNatClampNeg)) hx hb hr (fun t ht hW => ⟨congrArg (fun z => Outcome.returned (some (Value.int z.1))) hres, trivial, by rw [ht]; exact hP, hS.F ht⟩) hS.2.2 dX7_sheet_118
                · intro s60 r1 hf hback1 hexit1 H locs ls hP hS hl
                  refine lv_iload hx hb dX7_sheet_86 (lv_at hl 2 rfl) ?_
                  refine lv_bipush (v := (40 : Int32)) hx hb dX7_sheet_88 (by decide) ?_
                  refine lv_icmp_ge (tgt := 112) hx hb dX7_sheet_90 (by decide) (fun hc62 => ?_) (fun hc62 => ?_)
                  · have hf := (if_pos hc62).symm.trans hf
                    exact hexit1 (s60.1, s60.2) (Option.some.inj hf).symm H locs ls hP hS (lv_sub hl [0, 1] rfl)
                  · have hf := (if_neg hc62).symm.trans hf
                    refine lv_aload_n hx hb dX7_sheet_93 rfl (lv_at hl 0 rfl) ?_
                    refine va_get (D := g.1) (ci := 5) (v := .ref (gm g 17)) (C := RX7) (T := TX7) (N := 27) hx hb hts iwX7 hown hK hP 0 k_md rfl 25 (by decide) hw3 (fun _ h9 => h9) rfl dX7_sheet_94 ?_
                    refine lv_bipush (v := (40 : Int32)) hx hb dX7_sheet_97 (by decide) ?_
                    refine lv_iload_n hx hb dX7_sheet_99 rfl (lv_at hl 1 rfl) ?_
                    refine lv_imul hx hb dX7_sheet_100 ?_
                    refine lv_iload hx hb dX7_sheet_101 (lv_at hl 2 rfl) ?_
                    refine lv_iadd hx hb dX7_sheet_103 ?_
                    refine lv_iconst (v := (0 : Int32)) hx hb dX7_sheet_104 (by decide) ?_
                    obtain ⟨hg63, hf⟩ := gd_some hf
                    refine va_iast (f := s60.2) hx hb hK hP (mD hB.2.2.1 _) hS 17 0 k_numbers rfl hg63 dX7_sheet_105 (fun H locs hP _ hS => ?_)
                    have hP : va_P g.1 vwCl (mw g (m_now, m_kept, m_aside, m_isKept, m_found, m_steps, m_queue, m_lives, m_treads, m_tape, m_taped, m_begins, m_ends, m_sort, m_value, m_isWrong, m_items, m_itemMany, m_seedThen, m_groundThen, (upd m_widths a1.toNatClampNeg a2), (upd m_sizes a1.toNatClampNeg (0 : Int32)), (upd s60.2 (((40 : Int32) * a1) + s60.1).toNatClampNeg (0 : Int32)), m_moved)) H := w_eq (k_set_numbers (upd s60.2 (((40 : Int32) * a1) + s60.1).toNatClampNeg (0 : Int32))) hP
                    refine lv_iinc (v := (s60.1 + (1 : Int32))) (lv' := [(4, .int (s60.1 + (1 : Int32))), (0, .ref (gm g 0)), (1, .int a1)]) hx hb dX7_sheet_106 hl (k := 2) rfl (congrArg (fun y => s60.1 + y) (by decide : Int32.ofInt (1) = (1 : Int32))) (by decide) rfl (fun ls hl => ?_)
                    refine lv_goto (tgt := 86) hx hb dX7_sheet_109 (by decide) ?_
                    exact hback1 _ (Option.some.inj hf).symm H locs ls hP hS (lv_sub hl [1, 2, 0] rfl)
            · have hf := (if_neg hc50).symm.trans hf
              refine lv_aload_n hx hb dX7_sheet_54 rfl (lv_at hl 0 rfl) ?_
              refine lv_ldc (v := (-1000001 : Int32)) hx hb hown hw0 dX7_sheet_55 ?_
              obtain ⟨q65, hq65, hf⟩ := bd_some hf
              refine kr_W (st1 := [.int q65.1]) (va_runV (As := [.int (-1000001 : Int32)]) (rest := []) ⟨hx, hb, hml, hown, hts⟩ (ct_X7_finding l n g m_now m_kept m_aside m_isKept m_found m_steps m_queue m_lives m_treads m_tape m_taped m_begins m_ends m_sort m_value m_isWrong m_items m_itemMany m_seedThen m_groundThen m_widths m_sizes m_numbers m_moved (-1000001 : Int32) q65 hq65) (cwV 1 hts gX7_sheet_X7_finding rfl rfl rfl hd_X7_finding ⟨Nat.le_of_ble_eq_true rfl, Nat.le_of_ble_eq_true rfl⟩) ⟨bl_M, va_recv hK hP (ci := 5) (q0 := 0) rfl k_md, pr_M rfl hB hP hS⟩ rfl rfl hl.1 rfl (lv_room (Nat.le_of_ble_eq_true rfl)) dX7_sheet_57 ⟨Nat.le_refl _, Nat.le_refl _⟩) hS rfl (fun hn66 H locs hP hS => ?_)
              have hP : va_P g.1 vwCl (mw g (m_now, m_kept, m_aside, m_isKept, q65.2, m_steps, m_queue, m_lives, m_treads, m_tape, m_taped, m_begins, m_ends, m_sort, m_value, m_isWrong, m_items, m_itemMany, m_seedThen, m_groundThen, m_widths, m_sizes, m_numbers, m_moved)) H := hP
              have hres : (q65.1, q65.2, m_widths, m_sizes, m_numbers) = res := (Option.some.inj hf)
              have hP := w_eq (congrArg (fun z => mw g (m_now, m_kept, m_aside, m_isKept, z.2.1, m_steps, m_queue, m_lives, m_treads, m_tape, m_taped, m_begins, m_ends, m_sort, m_value, m_isWrong, m_items, m_itemMany, m_seedThen, m_groundThen, z.2.2.1, z.2.2.2.1, z.2.2.2.2, m_moved)) hres) hP
              exact W.iret (v := q65.1) hx hb hr (fun t ht hW => ⟨congrArg (fun z => Outcome.returned (some (Value.int z.1))) hres, trivial, by rw [ht]; exact hP, hS.F ht⟩) hS.2.2 dX7_sheet_60
          · have hf := (if_neg hc49).symm.trans hf
            refine lv_aload_n hx hb dX7_sheet_40 rfl (lv_at hl 0 rfl) ?_
            refine lv_ldcw (v := (-1000007 : Int32)) hx hb hown hw4 dX7_sheet_41 ?_
            obtain ⟨q67, hq67, hf⟩ := bd_some hf
            refine kr_W (st1 := [.int q67.1]) (va_runV (As := [.int (-1000007 : Int32)]) (rest := []) ⟨hx, hb, hml, hown, hts⟩ (ct_X7_finding l n g m_now m_kept m_aside m_isKept m_found m_steps m_queue m_lives m_treads m_tape m_taped m_begins m_ends m_sort m_value m_isWrong m_items m_itemMany m_seedThen m_groundThen m_widths m_sizes m_numbers m_moved (-1000007 : Int32) q67 hq67) (cwV 1 hts gX7_sheet_X7_finding rfl rfl rfl hd_X7_finding ⟨Nat.le_of_ble_eq_true rfl, Nat.le_of_ble_eq_true rfl⟩) ⟨bl_M, va_recv hK hP (ci := 5) (q0 := 0) rfl k_md, pr_M rfl hB hP hS⟩ rfl rfl hl.1 rfl (lv_room (Nat.le_of_ble_eq_true rfl)) dX7_sheet_44 ⟨Nat.le_refl _, Nat.le_refl _⟩) hS rfl (fun hn68 H locs hP hS => ?_)
            have hP : va_P g.1 vwCl (mw g (m_now, m_kept, m_aside, m_isKept, q67.2, m_steps, m_queue, m_lives, m_treads, m_tape, m_taped, m_begins, m_ends, m_sort, m_value, m_isWrong, m_items, m_itemMany, m_seedThen, m_groundThen, m_widths, m_sizes, m_numbers, m_moved)) H := hP
            have hres : (q67.1, q67.2, m_widths, m_sizes, m_numbers) = res := (Option.some.inj hf)
            have hP := w_eq (congrArg (fun z => mw g (m_now, m_kept, m_aside, m_isKept, z.2.1, m_steps, m_queue, m_lives, m_treads, m_tape, m_taped, m_begins, m_ends, m_sort, m_value, m_isWrong, m_items, m_itemMany, m_seedThen, m_groundThen, z.2.2.1, z.2.2.2.1, z.2.2.2.2, m_moved)) hres) hP
            exact W.iret (v := q67.1) hx hb hr (fun t ht hW => ⟨congrArg (fun z => Outcome.returned (some (Value.int z.1))) hres, trivial, by rw [ht]; exact hP, hS.F ht⟩) hS.2.2 dX7_sheet_47
        · have hf := (if_neg hc48).symm.trans hf
          refine lv_iload_n hx hb dX7_sheet_23 rfl (lv_at hl 2 rfl) ?_
          refine lv_bipush (v := (32 : Int32)) hx hb dX7_sheet_24 (by decide) ?_
          refine lv_icmp_eq (tgt := 36) hx hb dX7_sheet_26 (by decide) (fun hc69 => ?_) (fun hc69 => ?_)
          · have hf := (if_pos hc69).symm.trans hf
            refine lv_iload_n hx hb dX7_sheet_36 rfl (lv_at hl 3 rfl) ?_
            refine lv_if_ge (tgt := 48) hx hb dX7_sheet_37 (by decide) (fun hc70 => ?_) (fun hc70 => ?_)
            · have hf := (if_pos hc70).symm.trans hf
              refine lv_iload_n hx hb dX7_sheet_48 rfl (lv_at hl 3 rfl) ?_
              refine lv_bipush (v := (40 : Int32)) hx hb dX7_sheet_49 (by decide) ?_
              refine lv_icmp_le (tgt := 61) hx hb dX7_sheet_51 (by decide) (fun hc71 => ?_) (fun hc71 => ?_)
              · have hf := (if_pos hc71).symm.trans hf
                refine lv_aload_n hx hb dX7_sheet_61 rfl (lv_at hl 0 rfl) ?_
                refine va_get (D := g.1) (ci := 5) (v := .ref (gm g 15)) (C := RX7) (T := TX7) (N := 27) hx hb hts iwX7 hown hK hP 0 k_md rfl 23 (by decide) hw1 (fun _ h9 => h9) rfl dX7_sheet_62 ?_
                refine lv_iload_n hx hb dX7_sheet_65 rfl (lv_at hl 1 rfl) ?_
                refine lv_iload_n hx hb dX7_sheet_66 rfl (lv_at hl 2 rfl) ?_
                obtain ⟨hg72, hf⟩ := gd_some hf
                refine va_iast (f := m_widths) hx hb hK hP (mD hB.2.2.1 _) hS 15 0 k_widths rfl hg72 dX7_sheet_67 (fun H locs hP _ hS => ?_)
                have hP : va_P g.1 vwCl (mw g (m_now, m_kept, m_aside, m_isKept, m_found, m_steps, m_queue, m_lives, m_treads, m_tape, m_taped, m_begins, m_ends, m_sort, m_value, m_isWrong, m_items, m_itemMany, m_seedThen, m_groundThen, (upd m_widths a1.toNatClampNeg a2), m_sizes, m_numbers, m_moved)) H := w_eq (k_set_widths (upd m_widths a1.toNatClampNeg a2)) hP
                refine lv_aload_n hx hb dX7_sheet_68 rfl (lv_at hl 0 rfl) ?_
                refine va_get (D := g.1) (ci := 5) (v := .ref (gm g 16)) (C := RX7) (T := TX7) (N := 27) hx hb hts iwX7 hown hK hP 0 k_md rfl 24 (by decide) hw2 (fun _ h9 => h9) rfl dX7_sheet_69 ?_
                refine lv_iload_n hx hb dX7_sheet_72 rfl (lv_at hl 1 rfl) ?_
                refine lv_iload_n hx hb dX7_sheet_73 rfl (lv_at hl 2 rfl) ?_
                refine lv_if_ne (tgt := 81) hx hb dX7_sheet_74 (by decide) (fun hc73 => ?_) (fun hc73 => ?_)
                · have hf := (if_neg hc73).symm.trans hf
                  refine lv_iload_n hx hb dX7_sheet_81 rfl (lv_at hl 3 rfl) ?_
                  obtain ⟨hg74, hf⟩ := gd_some hf
                  refine va_iast (f := m_sizes) hx hb hK hP (mD hB.2.2.1 _) hS 16 0 k_sizes rfl hg74 dX7_sheet_82 (fun H locs hP _ hS => ?_)
                  have hP : va_P g.1 vwCl (mw g (m_now, m_kept, m_aside, m_isKept, m_found, m_steps, m_queue, m_lives, m_treads, m_tape, m_taped, m_begins, m_ends, m_sort, m_value, m_isWrong, m_items, m_itemMany, m_seedThen, m_groundThen, (upd m_widths a1.toNatClampNeg a2), (upd m_sizes a1.toNatClampNeg a3), m_numbers, m_moved)) H := w_eq (k_set_sizes (upd m_sizes a1.toNatClampNeg a3)) hP
                  refine lv_iconst (v := (0 : Int32)) hx hb dX7_sheet_83 (by decide) ?_
                  refine lv_istore (lv' := [(4, .int (0 : Int32)), (0, .ref (gm g 0)), (1, .int a1), (2, .int a2), (3, .int a3)]) hx hb dX7_sheet_84 hl (by decide) rfl (fun ls hl => ?_)
                  refine lp_run hf (fun s75 => ∀ (H : Heap) (locs : List Loc) (ls : Array Slot), va_P g.1 vwCl (mw g (m_now, m_kept, m_aside, m_isKept, m_found, m_steps, m_queue, m_lives, m_treads, m_tape, m_taped, m_begins, m_ends, m_sort, m_value, m_isWrong, m_items, m_itemMany, m_seedThen, m_groundThen, (upd m_widths a1.toNatClampNeg a2), (upd m_sizes a1.toNatClampNeg a3), s75.2, m_moved)) H → va_S (mA g) s.heap H locs → lv_has ls 5 [(0, .ref (gm g 0)), (1, .int a1), (4, .int s75.1)] → W p l e (headSpec wsX7_sheet ({ frames := 2, cells := 0, slots := 0, locals := 42 })).room s m ([.ref (gm g 0), .int a1, .int a2, .int a3] : List Value).toArray below meth c H locs 0 0 (MQ below (qW (some (.int res.1)) True g.1 (mw g (m_now, m_kept, m_aside, m_isKept, res.2.1, m_steps, m_queue, m_lives, m_treads, m_tape, m_taped, m_begins, m_ends, m_sort, m_value, m_isWrong, m_items, m_itemMany, m_seedThen, m_groundThen, res.2.2.1, res.2.2.2.1, res.2.2.2.2, m_moved)) (mA g)) ([.ref (gm g 0), .int a1, .int a2, .int a3] : List Value).toArray s 0 0 (mA g)) (F0 m 86 ls [])) (fun v76 => ∀ (H : Heap) (locs : List Loc) (ls : Array Slot), va_P g.1 vwCl (mw g (m_now, m_kept, m_aside, m_isKept, m_found, m_steps, m_queue, m_lives, m_treads, m_tape, m_taped, m_begins, m_ends, m_sort, m_value, m_isWrong, m_items, m_itemMany, m_seedThen, m_groundThen, (upd m_widths a1.toNatClampNeg a2), (upd m_sizes a1.toNatClampNeg a3), v76.2, m_moved)) H → va_S (mA g) s.heap H locs → lv_has ls 5 [(0, .ref (gm g 0)), (1, .int a1)] → W p l e (headSpec wsX7_sheet ({ frames := 2, cells := 0, slots := 0, locals := 42 })).room s m ([.ref (gm g 0), .int a1, .int a2, .int a3] : List Value).toArray below meth c H locs 0 0 (MQ below (qW (some (.int res.1)) True g.1 (mw g (m_now, m_kept, m_aside, m_isKept, res.2.1, m_steps, m_queue, m_lives, m_treads, m_tape, m_taped, m_begins, m_ends, m_sort, m_value, m_isWrong, m_items, m_itemMany, m_seedThen, m_groundThen, res.2.2.1, res.2.2.2.1, res.2.2.2.2, m_moved)) (mA g)) ([.ref (gm g 0), .int a1, .int a2, .int a3] : List Value).toArray s 0 0 (mA g)) (F0 m 112 ls [])) ?_ ?_ _ _ _ hP hS (lv_sub hl [1, 2, 0] rfl)
                  · intro v76 hf H locs ls hP hS hl
                    refine lv_aload_n hx hb dX7_sheet_112 rfl (lv_at hl 0 rfl) ?_
                    refine va_get (D := g.1) (ci := 5) (v := .ref (gm g 16)) (C := RX7) (T := TX7) (N := 27) hx hb hts iwX7 hown hK hP 0 k_md rfl 24 (by decide) hw2 (fun _ h9 => h9) rfl dX7_sheet_113 ?_
                    refine lv_iload_n hx hb dX7_sheet_116 rfl (lv_at hl 1 rfl) ?_
                    obtain ⟨hg79, hf⟩ := gd_some hf
                    refine va_iald (f := (upd m_sizes a1.toNatClampNeg a3)) hx hb hK hP 16 0 k_sizes rfl hg79 dX7_sheet_117 ?_
                    have hres : (((upd m_sizes a1.toNatClampNeg a3) a1.toNatClampNeg), m_found, (upd m_widths a1.toNatClampNeg a2), (upd m_sizes a1.toNatClampNeg a3), v76.2) = res := (Option.some.inj hf)
                    have hP := w_eq (congrArg (fun z => mw g (m_now, m_kept, m_aside, m_isKept, z.2.1, m_steps, m_queue, m_lives, m_treads, m_tape, m_taped, m_begins, m_ends, m_sort, m_value, m_isWrong, m_items, m_itemMany, m_seedThen, m_groundThen, z.2.2.1, z.2.2.2.1, z.2.2.2.2, m_moved)) hres) hP
                    exact W.iret (v := ((upd m_sizes a1.toNatClampNeg a3) a1.toNatClampNeg)) hx hb hr (fun t ht hW => ⟨congrArg (fun z => Outcome.returned (some (Value.int z.1))) hres, trivial, by rw [ht]; exact hP, hS.F ht⟩) hS.2.2 dX7_sheet_118
                  · intro s75 r1 hf hback1 hexit1 H locs ls hP hS hl
                    refine lv_iload hx hb dX7_sheet_86 (lv_at hl 2 rfl) ?_
                    refine lv_bipush (v := (40 : Int32)) hx hb dX7_sheet_88 (by decide) ?_
                    refine lv_icmp_ge (tgt := 112) hx hb dX7_sheet_90 (by decide) (fun hc77 => ?_) (fun hc77 => ?_)
                    · have hf := (if_pos hc77).symm.trans hf
                      exact hexit1 (s75.1, s75.2) (Option.some.inj hf).symm H locs ls hP hS (lv_sub hl [0, 1] rfl)
                    · have hf := (if_neg hc77).symm.trans hf
                      refine lv_aload_n hx hb dX7_sheet_93 rfl (lv_at hl 0 rfl) ?_
                      refine va_get (D := g.1) (ci := 5) (v := .ref (gm g 17)) (C := RX7) (T := TX7) (N := 27) hx hb hts iwX7 hown hK hP 0 k_md rfl 25 (by decide) hw3 (fun _ h9 => h9) rfl dX7_sheet_94 ?_
                      refine lv_bipush (v := (40 : Int32)) hx hb dX7_sheet_97 (by decide) ?_
                      refine lv_iload_n hx hb dX7_sheet_99 rfl (lv_at hl 1 rfl) ?_
                      refine lv_imul hx hb dX7_sheet_100 ?_
                      refine lv_iload hx hb dX7_sheet_101 (lv_at hl 2 rfl) ?_
                      refine lv_iadd hx hb dX7_sheet_103 ?_
                      refine lv_iconst (v := (0 : Int32)) hx hb dX7_sheet_104 (by decide) ?_
                      obtain ⟨hg78, hf⟩ := gd_some hf
                      refine va_iast (f := s75.2) hx hb hK hP (mD hB.2.2.1 _) hS 17 0 k_numbers rfl hg78 dX7_sheet_105 (fun H locs hP _ hS => ?_)
                      have hP : va_P g.1 vwCl (mw g (m_now, m_kept, m_aside, m_isKept, m_found, m_steps, m_queue, m_lives, m_treads, m_tape, m_taped, m_begins, m_ends, m_sort, m_value, m_isWrong, m_items, m_itemMany, m_seedThen, m_groundThen, (upd m_widths a1.toNatClampNeg a2), (upd m_sizes a1.toNatClampNeg a3), (upd s75.2 (((40 : Int32) * a1) + s75.1).toNatClampNeg (0 : Int32)), m_moved)) H := w_eq (k_set_numbers (upd s75.2 (((40 : Int32) * a1) + s75.1).toNatClampNeg (0 : Int32))) hP
                      refine lv_iinc (v := (s75.1 + (1 : Int32))) (lv' := [(4, .int (s75.1 + (1 : Int32))), (0, .ref (gm g 0)), (1, .int a1)]) hx hb dX7_sheet_106 hl (k := 2) rfl (congrArg (fun y => s75.1 + y) (by decide : Int32.ofInt (1) = (1 : Int32))) (by decide) rfl (fun ls hl => ?_)
                      refine lv_goto (tgt := 86) hx hb dX7_sheet_109 (by decide) ?_
                      exact hback1 _ (Option.some.inj hf).symm H locs ls hP hS (lv_sub hl [1, 2, 0] rfl)
                · have hf := (if_pos hc73).symm.trans hf
                  refine lv_iconst (v := (0 : Int32)) hx hb dX7_sheet_77 (by decide) ?_
                  refine lv_goto (tgt := 82) hx hb dX7_sheet_78 (by decide) ?_
                  obtain ⟨hg80, hf⟩ := gd_some hf
                  refine va_iast (f := m_sizes) hx hb hK hP (mD hB.2.2.1 _) hS 16 0 k_sizes rfl hg80 dX7_sheet_82 (fun H locs hP _ hS => ?_)
                  have hP : va_P g.1 vwCl (mw g (m_now, m_kept, m_aside, m_isKept, m_found, m_steps, m_queue, m_lives, m_treads, m_tape, m_taped, m_begins, m_ends, m_sort, m_value, m_isWrong, m_items, m_itemMany, m_seedThen, m_groundThen, (upd m_widths a1.toNatClampNeg a2), (upd m_sizes a1.toNatClampNeg (0 : Int32)), m_numbers, m_moved)) H := w_eq (k_set_sizes (upd m_sizes a1.toNatClampNeg (0 : Int32))) hP
                  refine lv_iconst (v := (0 : Int32)) hx hb dX7_sheet_83 (by decide) ?_
                  refine lv_istore (lv' := [(4, .int (0 : Int32)), (0, .ref (gm g 0)), (1, .int a1), (2, .int a2), (3, .int a3)]) hx hb dX7_sheet_84 hl (by decide) rfl (fun ls hl => ?_)
                  refine lp_run hf (fun s81 => ∀ (H : Heap) (locs : List Loc) (ls : Array Slot), va_P g.1 vwCl (mw g (m_now, m_kept, m_aside, m_isKept, m_found, m_steps, m_queue, m_lives, m_treads, m_tape, m_taped, m_begins, m_ends, m_sort, m_value, m_isWrong, m_items, m_itemMany, m_seedThen, m_groundThen, (upd m_widths a1.toNatClampNeg a2), (upd m_sizes a1.toNatClampNeg (0 : Int32)), s81.2, m_moved)) H → va_S (mA g) s.heap H locs → lv_has ls 5 [(0, .ref (gm g 0)), (1, .int a1), (4, .int s81.1)] → W p l e (headSpec wsX7_sheet ({ frames := 2, cells := 0, slots := 0, locals := 42 })).room s m ([.ref (gm g 0), .int a1, .int a2, .int a3] : List Value).toArray below meth c H locs 0 0 (MQ below (qW (some (.int res.1)) True g.1 (mw g (m_now, m_kept, m_aside, m_isKept, res.2.1, m_steps, m_queue, m_lives, m_treads, m_tape, m_taped, m_begins, m_ends, m_sort, m_value, m_isWrong, m_items, m_itemMany, m_seedThen, m_groundThen, res.2.2.1, res.2.2.2.1, res.2.2.2.2, m_moved)) (mA g)) ([.ref (gm g 0), .int a1, .int a2, .int a3] : List Value).toArray s 0 0 (mA g)) (F0 m 86 ls [])) (fun v82 => ∀ (H : Heap) (locs : List Loc) (ls : Array Slot), va_P g.1 vwCl (mw g (m_now, m_kept, m_aside, m_isKept, m_found, m_steps, m_queue, m_lives, m_treads, m_tape, m_taped, m_begins, m_ends, m_sort, m_value, m_isWrong, m_items, m_itemMany, m_seedThen, m_groundThen, (upd m_widths a1.toNatClampNeg a2), (upd m_sizes a1.toNatClampNeg (0 : Int32)), v82.2, m_moved)) H → va_S (mA g) s.heap H locs → lv_has ls 5 [(0, .ref (gm g 0)), (1, .int a1)] → W p l e (headSpec wsX7_sheet ({ frames := 2, cells := 0, slots := 0, locals := 42 })).room s m ([.ref (gm g 0), .int a1, .int a2, .int a3] : List Value).toArray below meth c H locs 0 0 (MQ below (qW (some (.int res.1)) True g.1 (mw g (m_now, m_kept, m_aside, m_isKept, res.2.1, m_steps, m_queue, m_lives, m_treads, m_tape, m_taped, m_begins, m_ends, m_sort, m_value, m_isWrong, m_items, m_itemMany, m_seedThen, m_groundThen, res.2.2.1, res.2.2.2.1, res.2.2.2.2, m_moved)) (mA g)) ([.ref (gm g 0), .int a1, .int a2, .int a3] : List Value).toArray s 0 0 (mA g)) (F0 m 112 ls [])) ?_ ?_ _ _ _ hP hS (lv_sub hl [1, 2, 0] rfl)
                  · intro v82 hf H locs ls hP hS hl
                    refine lv_aload_n hx hb dX7_sheet_112 rfl (lv_at hl 0 rfl) ?_
                    refine va_get (D := g.1) (ci := 5) (v := .ref (gm g 16)) (C := RX7) (T := TX7) (N := 27) hx hb hts iwX7 hown hK hP 0 k_md rfl 24 (by decide) hw2 (fun _ h9 => h9) rfl dX7_sheet_113 ?_
                    refine lv_iload_n hx hb dX7_sheet_116 rfl (lv_at hl 1 rfl) ?_
                    obtain ⟨hg85, hf⟩ := gd_some hf
                    refine va_iald (f := (upd m_sizes a1.toNatClampNeg (0 : Int32))) hx hb hK hP 16 0 k_sizes rfl hg85 dX7_sheet_117 ?_
                    have hres : (((upd m_sizes a1.toNatClampNeg (0 : Int32)) a1.toNatClampNeg), m_found, (upd m_widths a1.toNatClampNeg a2), (upd m_sizes a1.toNatClampNeg (0 : Int32)), v82.2) = res := (Option.some.inj hf)
                    have hP := w_eq (congrArg (fun z => mw g (m_now, m_kept, m_aside, m_isKept, z.2.1, m_steps, m_queue, m_lives, m_treads, m_tape, m_taped, m_begins, m_ends, m_sort, m_value, m_isWrong, m_items, m_itemMany, m_seedThen, m_groundThen, z.2.2.1, z.2.2.2.1, z.2.2.2.2, m_moved)) hres) hP
                    exact W.iret (v := ((upd m_sizes a1.toNatClampNeg (0 : Int32)) a1.toNatClampNeg)) hx hb hr (fun t ht hW => ⟨congrArg (fun z => Outcome.returned (some (Value.int z.1))) hres, trivial, by rw [ht]; exact hP, hS.F ht⟩) hS.2.2 dX7_sheet_118
                  · intro s81 r1 hf hback1 hexit1 H locs ls hP hS hl
                    refine lv_iload hx hb dX7_sheet_86 (lv_at hl 2 rfl) ?_
                    refine lv_bipush (v := (40 : Int32)) hx hb dX7_sheet_88 (by decide) ?_
                    refine lv_icmp_ge (tgt := 112) hx hb dX7_sheet_90 (by decide) (fun hc83 => ?_) (fun hc83 => ?_)
                    · have hf := (if_pos hc83).symm.trans hf
                      exact hexit1 (s81.1, s81.2) (Option.some.inj hf).symm H locs ls hP hS (lv_sub hl [0, 1] rfl)
                    · have hf := (if_neg hc83).symm.trans hf
                      refine lv_aload_n hx hb dX7_sheet_93 rfl (lv_at hl 0 rfl) ?_
                      refine va_get (D := g.1) (ci := 5) (v := .ref (gm g 17)) (C := RX7) (T := TX7) (N := 27) hx hb hts iwX7 hown hK hP 0 k_md rfl 25 (by decide) hw3 (fun _ h9 => h9) rfl dX7_sheet_94 ?_
                      refine lv_bipush (v := (40 : Int32)) hx hb dX7_sheet_97 (by decide) ?_
                      refine lv_iload_n hx hb dX7_sheet_99 rfl (lv_at hl 1 rfl) ?_
                      refine lv_imul hx hb dX7_sheet_100 ?_
                      refine lv_iload hx hb dX7_sheet_101 (lv_at hl 2 rfl) ?_
                      refine lv_iadd hx hb dX7_sheet_103 ?_
                      refine lv_iconst (v := (0 : Int32)) hx hb dX7_sheet_104 (by decide) ?_
                      obtain ⟨hg84, hf⟩ := gd_some hf
                      refine va_iast (f := s81.2) hx hb hK hP (mD hB.2.2.1 _) hS 17 0 k_numbers rfl hg84 dX7_sheet_105 (fun H locs hP _ hS => ?_)
                      have hP : va_P g.1 vwCl (mw g (m_now, m_kept, m_aside, m_isKept, m_found, m_steps, m_queue, m_lives, m_treads, m_tape, m_taped, m_begins, m_ends, m_sort, m_value, m_isWrong, m_items, m_itemMany, m_seedThen, m_groundThen, (upd m_widths a1.toNatClampNeg a2), (upd m_sizes a1.toNatClampNeg (0 : Int32)), (upd s81.2 (((40 : Int32) * a1) + s81.1).toNatClampNeg (0 : Int32)), m_moved)) H := w_eq (k_set_numbers (upd s81.2 (((40 : Int32) * a1) + s81.1).toNatClampNeg (0 : Int32))) hP
                      refine lv_iinc (v := (s81.1 + (1 : Int32))) (lv' := [(4, .int (s81.1 + (1 : Int32))), (0, .ref (gm g 0)), (1, .int a1)]) hx hb dX7_sheet_106 hl (k := 2) rfl (congrArg (fun y => s81.1 + y) (by decide : Int32.ofInt (1) = (1 : Int32))) (by decide) rfl (fun ls hl => ?_)
                      refine lv_goto (tgt := 86) hx hb dX7_sheet_109 (by decide) ?_
                      exact hback1 _ (Option.some.inj hf).symm H locs ls hP hS (lv_sub hl [1, 2, 0] rfl)
              · have hf := (if_neg hc71).symm.trans hf
                refine lv_aload_n hx hb dX7_sheet_54 rfl (lv_at hl 0 rfl) ?_
                refine lv_ldc (v := (-1000001 : Int32)) hx hb hown hw0 dX7_sheet_55 ?_
                obtain ⟨q86, hq86, hf⟩ := bd_some hf
                refine kr_W (st1 := [.int q86.1]) (va_runV (As := [.int (-1000001 : Int32)]) (rest := []) ⟨hx, hb, hml, hown, hts⟩ (ct_X7_finding l n g m_now m_kept m_aside m_isKept m_found m_steps m_queue m_lives m_treads m_tape m_taped m_begins m_ends m_sort m_value m_isWrong m_items m_itemMany m_seedThen m_groundThen m_widths m_sizes m_numbers m_moved (-1000001 : Int32) q86 hq86) (cwV 1 hts gX7_sheet_X7_finding rfl rfl rfl hd_X7_finding ⟨Nat.le_of_ble_eq_true rfl, Nat.le_of_ble_eq_true rfl⟩) ⟨bl_M, va_recv hK hP (ci := 5) (q0 := 0) rfl k_md, pr_M rfl hB hP hS⟩ rfl rfl hl.1 rfl (lv_room (Nat.le_of_ble_eq_true rfl)) dX7_sheet_57 ⟨Nat.le_refl _, Nat.le_refl _⟩) hS rfl (fun hn87 H locs hP hS => ?_)
                have hP : va_P g.1 vwCl (mw g (m_now, m_kept, m_aside, m_isKept, q86.2, m_steps, m_queue, m_lives, m_treads, m_tape, m_taped, m_begins, m_ends, m_sort, m_value, m_isWrong, m_items, m_itemMany, m_seedThen, m_groundThen, m_widths, m_sizes, m_numbers, m_moved)) H := hP
                have hres : (q86.1, q86.2, m_widths, m_sizes, m_numbers) = res := (Option.some.inj hf)
                have hP := w_eq (congrArg (fun z => mw g (m_now, m_kept, m_aside, m_isKept, z.2.1, m_steps, m_queue, m_lives, m_treads, m_tape, m_taped, m_begins, m_ends, m_sort, m_value, m_isWrong, m_items, m_itemMany, m_seedThen, m_groundThen, z.2.2.1, z.2.2.2.1, z.2.2.2.2, m_moved)) hres) hP
                exact W.iret (v := q86.1) hx hb hr (fun t ht hW => ⟨congrArg (fun z => Outcome.returned (some (Value.int z.1))) hres, trivial, by rw [ht]; exact hP, hS.F ht⟩) hS.2.2 dX7_sheet_60
            · have hf := (if_neg hc70).symm.trans hf
              refine lv_aload_n hx hb dX7_sheet_40 rfl (lv_at hl 0 rfl) ?_
              refine lv_ldcw (v := (-1000007 : Int32)) hx hb hown hw4 dX7_sheet_41 ?_
              obtain ⟨q88, hq88, hf⟩ := bd_some hf
              refine kr_W (st1 := [.int q88.1]) (va_runV (As := [.int (-1000007 : Int32)]) (rest := []) ⟨hx, hb, hml, hown, hts⟩ (ct_X7_finding l n g m_now m_kept m_aside m_isKept m_found m_steps m_queue m_lives m_treads m_tape m_taped m_begins m_ends m_sort m_value m_isWrong m_items m_itemMany m_seedThen m_groundThen m_widths m_sizes m_numbers m_moved (-1000007 : Int32) q88 hq88) (cwV 1 hts gX7_sheet_X7_finding rfl rfl rfl hd_X7_finding ⟨Nat.le_of_ble_eq_true rfl, Nat.le_of_ble_eq_true rfl⟩) ⟨bl_M, va_recv hK hP (ci := 5) (q0 := 0) rfl k_md, pr_M rfl hB hP hS⟩ rfl rfl hl.1 rfl (lv_room (Nat.le_of_ble_eq_true rfl)) dX7_sheet_44 ⟨Nat.le_refl _, Nat.le_refl _⟩) hS rfl (fun hn89 H locs hP hS => ?_)
              have hP : va_P g.1 vwCl (mw g (m_now, m_kept, m_aside, m_isKept, q88.2, m_steps, m_queue, m_lives, m_treads, m_tape, m_taped, m_begins, m_ends, m_sort, m_value, m_isWrong, m_items, m_itemMany, m_seedThen, m_groundThen, m_widths, m_sizes, m_numbers, m_moved)) H := hP
              have hres : (q88.1, q88.2, m_widths, m_sizes, m_numbers) = res := (Option.some.inj hf)
              have hP := w_eq (congrArg (fun z => mw g (m_now, m_kept, m_aside, m_isKept, z.2.1, m_steps, m_queue, m_lives, m_treads, m_tape, m_taped, m_begins, m_ends, m_sort, m_value, m_isWrong, m_items, m_itemMany, m_seedThen, m_groundThen, z.2.2.1, z.2.2.2.1, z.2.2.2.2, m_moved)) hres) hP
              exact W.iret (v := q88.1) hx hb hr (fun t ht hW => ⟨congrArg (fun z => Outcome.returned (some (Value.int z.1))) hres, trivial, by rw [ht]; exact hP, hS.F ht⟩) hS.2.2 dX7_sheet_47
          · have hf := (if_neg hc69).symm.trans hf
            refine lv_aload_n hx hb dX7_sheet_29 rfl (lv_at hl 0 rfl) ?_
            refine lv_ldc (v := (-1000001 : Int32)) hx hb hown hw0 dX7_sheet_30 ?_
            obtain ⟨q90, hq90, hf⟩ := bd_some hf
            refine kr_W (st1 := [.int q90.1]) (va_runV (As := [.int (-1000001 : Int32)]) (rest := []) ⟨hx, hb, hml, hown, hts⟩ (ct_X7_finding l n g m_now m_kept m_aside m_isKept m_found m_steps m_queue m_lives m_treads m_tape m_taped m_begins m_ends m_sort m_value m_isWrong m_items m_itemMany m_seedThen m_groundThen m_widths m_sizes m_numbers m_moved (-1000001 : Int32) q90 hq90) (cwV 1 hts gX7_sheet_X7_finding rfl rfl rfl hd_X7_finding ⟨Nat.le_of_ble_eq_true rfl, Nat.le_of_ble_eq_true rfl⟩) ⟨bl_M, va_recv hK hP (ci := 5) (q0 := 0) rfl k_md, pr_M rfl hB hP hS⟩ rfl rfl hl.1 rfl (lv_room (Nat.le_of_ble_eq_true rfl)) dX7_sheet_32 ⟨Nat.le_refl _, Nat.le_refl _⟩) hS rfl (fun hn91 H locs hP hS => ?_)
            have hP : va_P g.1 vwCl (mw g (m_now, m_kept, m_aside, m_isKept, q90.2, m_steps, m_queue, m_lives, m_treads, m_tape, m_taped, m_begins, m_ends, m_sort, m_value, m_isWrong, m_items, m_itemMany, m_seedThen, m_groundThen, m_widths, m_sizes, m_numbers, m_moved)) H := hP
            have hres : (q90.1, q90.2, m_widths, m_sizes, m_numbers) = res := (Option.some.inj hf)
            have hP := w_eq (congrArg (fun z => mw g (m_now, m_kept, m_aside, m_isKept, z.2.1, m_steps, m_queue, m_lives, m_treads, m_tape, m_taped, m_begins, m_ends, m_sort, m_value, m_isWrong, m_items, m_itemMany, m_seedThen, m_groundThen, z.2.2.1, z.2.2.2.1, z.2.2.2.2, m_moved)) hres) hP
            exact W.iret (v := q90.1) hx hb hr (fun t ht hW => ⟨congrArg (fun z => Outcome.returned (some (Value.int z.1))) hres, trivial, by rw [ht]; exact hP, hS.F ht⟩) hS.2.2 dX7_sheet_35
