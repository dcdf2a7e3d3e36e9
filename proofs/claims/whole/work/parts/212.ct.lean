/-! CONTRACTS, by program -/
set_option maxHeartbeats 4000000 in
set_option maxRecDepth 100000 in
theorem ct_X7_bridgesOf (l : Launch) (n : Nat) (g : GM) (m_now : Nat → Int32) (m_kept : Nat → Int32) (m_aside : Nat → Int32) (m_isKept : Int32) (m_found : Nat → Int32) (m_steps : Nat → Int32) (m_queue : Nat → Int32) (m_lives : Nat → Int32) (m_treads : Nat → Int32) (m_tape : Nat → Int32) (m_taped : Int32) (m_begins : Int32) (m_ends : Int32) (m_sort : Int32) (m_value : Int32) (m_isWrong : Int32) (m_items : Nat → Int32) (m_itemMany : Int32) (m_seedThen : Int32) (m_groundThen : Nat → Int32) (m_widths : Nat → Int32) (m_sizes : Nat → Int32) (m_numbers : Nat → Int32) (m_moved : Nat → Int32) (a1 : Int32) (a2 : Int32) (res : Int64 × (Nat → Int32) × (Nat → Int32) × (Nat → Int32)) (hf : fX7_bridgesOf n a1 a2 m_now m_steps m_queue = some res) : Met l yX7_bridgesOf wsX7_bridgesOf ({ frames := 3, cells := 0, slots := 0, locals := 68 }) (va_Pc [.ref (gm g 0), .int a1, .int a2] (mI g (m_now, m_kept, m_aside, m_isKept, m_found, m_steps, m_queue, m_lives, m_treads, m_tape, m_taped, m_begins, m_ends, m_sort, m_value, m_isWrong, m_items, m_itemMany, m_seedThen, m_groundThen, m_widths, m_sizes, m_numbers, m_moved))) (qW (some (.long res.1)) True g.1 (mw g (res.2.1, m_kept, m_aside, m_isKept, m_found, res.2.2.1, res.2.2.2, m_lives, m_treads, m_tape, m_taped, m_begins, m_ends, m_sort, m_value, m_isWrong, m_items, m_itemMany, m_seedThen, m_groundThen, m_widths, m_sizes, m_numbers, m_moved)) (mA g)) 0 0 (mA g) := by
  refine Met.ofW (cc := cX7_bridgesOf) (maxL := 7) (ret := (some .long)) (by decide) rfl ?_
  intro p e s m args below meth c s₁ B hml hv
  obtain ⟨rfl, hI⟩ := hv
  have hx := B.exec
  have hb := B.bytes
  have hr := B.returns
  have hts := atoms_spec (ws := wsX7_bridgesOf) B.pre
  have hown : s.vm.findClass RX7 = some m.cls := findClass_of_methodNamed B.named
  have hlocks := B.notSynchronized
  have hP := hI.1
  have hB := hI.2
  have hK := hB.1
  have hNW := hB.2.1
  have hS : va_S (mA g) s.heap s.heap [] := va_S.rf
  have hw0 := hts (.fieldLink RX7 9 "SownPathsModel" "now" "[I") (by decide +kernel)
  have iwX7 : ∀ w ∈ wsX70, w ∈ wsX7_bridgesOf := fun w h => List.mem_cons_of_mem _ (List.mem_append_right _ h)
  have hl := lv_entry ([.ref (gm g 0), .int a1, .int a2]) (n := 7) (Nat.le_of_ble_eq_true rfl)
  rw [lg_entry_eq]
  generalize (lg_sl ([.ref (gm g 0), .int a1, .int a2]) ++ List.replicate (7 - (lg_sl ([.ref (gm g 0), .int a1, .int a2])).length) Slot.unset).toArray = ls at hl ⊢
  have hl : lv_has ls 7 [(0, .ref (gm g 0)), (1, .int a1), (2, .int a2)] := hl
  unfold fX7_bridgesOf at hf
  refine lv_lconst (v := (0 : Int64)) hx hb dX7_bridgesOf_0 (by decide) ?_
  refine lv_lstore_n (lv' := [(3, .long (0 : Int64)), (0, .ref (gm g 0)), (1, .int a1), (2, .int a2)]) hx hb dX7_bridgesOf_1 rfl hl (by decide) rfl (fun ls hl => ?_)
  refine lv_aload_n hx hb dX7_bridgesOf_2 rfl (lv_at hl 1 rfl) ?_
  refine lv_iload_n hx hb dX7_bridgesOf_3 rfl (lv_at hl 2 rfl) ?_
  refine lv_iload_n hx hb dX7_bridgesOf_4 rfl (lv_at hl 3 rfl) ?_
  obtain ⟨q1, hq1, hf⟩ := bd_some hf
  refine kr_W (st1 := [.int q1.1]) (va_runV (As := [.int a1, .int a2]) (rest := []) ⟨hx, hb, hml, hown, hts⟩ (ct_X7_areJoined l n g m_now m_kept m_aside m_isKept m_found m_steps m_queue m_lives m_treads m_tape m_taped m_begins m_ends m_sort m_value m_isWrong m_items m_itemMany m_seedThen m_groundThen m_widths m_sizes m_numbers m_moved a1 a2 q1 hq1) (cwV 2 hts gX7_bridgesOf_X7_areJoined rfl rfl rfl hd_X7_areJoined ⟨Nat.le_of_ble_eq_true rfl, Nat.le_of_ble_eq_true rfl⟩) ⟨bl_M, va_recv hK hP (ci := 5) (q0 := 0) rfl k_md, pr_M rfl hB hP hS⟩ rfl rfl hl.1 rfl (lv_room (Nat.le_of_ble_eq_true rfl)) dX7_bridgesOf_5 ⟨Nat.le_refl _, Nat.le_refl _⟩) hS rfl (fun hn2 H locs hP hS => ?_)
  have hP : va_P g.1 vwCl (mw g (m_now, m_kept, m_aside, m_isKept, m_found, q1.2.1, q1.2.2, m_lives, m_treads, m_tape, m_taped, m_begins, m_ends, m_sort, m_value, m_isWrong, m_items, m_itemMany, m_seedThen, m_groundThen, m_widths, m_sizes, m_numbers, m_moved)) H := hP
  refine lv_if_eq (tgt := 99) hx hb dX7_bridgesOf_8 (by decide) (fun hc3 => ?_) (fun hc3 => ?_)
  · have hf := (if_pos hc3).symm.trans hf
    refine lv_lload_n hx hb dX7_bridgesOf_99 rfl (lv_at hl 0 rfl) ?_
    have hres : ((0 : Int64), m_now, q1.2.1, q1.2.2) = res := (Option.some.inj hf)
    have hP := w_eq (congrArg (fun z => mw g (z.2.1, m_kept, m_aside, m_isKept, m_found, z.2.2.1, z.2.2.2, m_lives, m_treads, m_tape, m_taped, m_begins, m_ends, m_sort, m_value, m_isWrong, m_items, m_itemMany, m_seedThen, m_groundThen, m_widths, m_sizes, m_numbers, m_moved)) hres) hP
    exact W.lret (v := (0 : Int64)) hx hb hr (fun t ht hW => ⟨congrArg (fun z => Outcome.returned (some (Value.long z.1))) hres, trivial, by rw [ht]; exact hP, hS.F ht⟩) hS.2.2 dX7_bridgesOf_100
  · have hf := (if_neg hc3).symm.trans hf
    refine lv_iconst (v := (0 : Int32)) hx hb dX7_bridgesOf_11 (by decide) ?_
    refine lv_istore (lv' := [(5, .int (0 : Int32)), (3, .long (0 : Int64)), (0, .ref (gm g 0)), (1, .int a1), (2, .int a2)]) hx hb dX7_bridgesOf_12 hl (by decide) rfl (fun ls hl => ?_)
    refine lp_run hf (fun s4 => ∀ (H : Heap) (locs : List Loc) (ls : Array Slot), va_P g.1 vwCl (mw g (s4.2.2.1, m_kept, m_aside, m_isKept, m_found, s4.2.2.2.1, s4.2.2.2.2, m_lives, m_treads, m_tape, m_taped, m_begins, m_ends, m_sort, m_value, m_isWrong, m_items, m_itemMany, m_seedThen, m_groundThen, m_widths, m_sizes, m_numbers, m_moved)) H → va_S (mA g) s.heap H locs → lv_has ls 7 [(0, .ref (gm g 0)), (1, .int a1), (2, .int a2), (3, .long s4.1), (5, .int s4.2.1)] → W p l e (headSpec wsX7_bridgesOf ({ frames := 3, cells := 0, slots := 0, locals := 68 })).room s m ([.ref (gm g 0), .int a1, .int a2] : List Value).toArray below meth c H locs 0 0 (MQ below (qW (some (.long res.1)) True g.1 (mw g (res.2.1, m_kept, m_aside, m_isKept, m_found, res.2.2.1, res.2.2.2, m_lives, m_treads, m_tape, m_taped, m_begins, m_ends, m_sort, m_value, m_isWrong, m_items, m_itemMany, m_seedThen, m_groundThen, m_widths, m_sizes, m_numbers, m_moved)) (mA g)) ([.ref (gm g 0), .int a1, .int a2] : List Value).toArray s 0 0 (mA g)) (F0 m 14 ls [])) (fun v5 => ∀ (H : Heap) (locs : List Loc) (ls : Array Slot), va_P g.1 vwCl (mw g (v5.2.2.1, m_kept, m_aside, m_isKept, m_found, v5.2.2.2.1, v5.2.2.2.2, m_lives, m_treads, m_tape, m_taped, m_begins, m_ends, m_sort, m_value, m_isWrong, m_items, m_itemMany, m_seedThen, m_groundThen, m_widths, m_sizes, m_numbers, m_moved)) H → va_S (mA g) s.heap H locs → lv_has ls 7 [(3, .long v5.1)] → W p l e (headSpec wsX7_bridgesOf ({ frames := 3, cells := 0, slots := 0, locals := 68 })).room s m ([.ref (gm g 0), .int a1, .int a2] : List Value).toArray below meth c H locs 0 0 (MQ below (qW (some (.long res.1)) True g.1 (mw g (res.2.1, m_kept, m_aside, m_isKept, m_found, res.2.2.1, res.2.2.2, m_lives, m_treads, m_tape, m_taped, m_begins, m_ends, m_sort, m_value, m_isWrong, m_items, m_itemMany, m_seedThen, m_groundThen, m_widths, m_sizes, m_numbers, m_moved)) (mA g)) ([.ref (gm g 0), .int a1, .int a2] : List Value).toArray s 0 0 (mA g)) (F0 m 99 ls [])) ?_ ?_ _ _ _ hP hS (lv_sub hl [2, 3, 4, 1, 0] rfl)
    · intro v5 hf H locs ls hP hS hl
      refine lv_lload_n hx hb dX7_bridgesOf_99 rfl (lv_at hl 0 rfl) ?_
      have hres : (v5.1, v5.2.2.1, v5.2.2.2.1, v5.2.2.2.2) = res := (Option.some.inj hf)
      have hP := w_eq (congrArg (fun z => mw g (z.2.1, m_kept, m_aside, m_isKept, m_found, z.2.2.1, z.2.2.2, m_lives, m_treads, m_tape, m_taped, m_begins, m_ends, m_sort, m_value, m_isWrong, m_items, m_itemMany, m_seedThen, m_groundThen, m_widths, m_sizes, m_numbers, m_moved)) hres) hP
      exact W.lret (v := v5.1) hx hb hr (fun t ht hW => ⟨congrArg (fun z => Outcome.returned (some (Value.long z.1))) hres, trivial, by rw [ht]; exact hP, hS.F ht⟩) hS.2.2 dX7_bridgesOf_100
    · intro s4 r1 hf hback1 hexit1 H locs ls hP hS hl
      refine lv_iload hx hb dX7_bridgesOf_14 (lv_at hl 4 rfl) ?_
      refine lv_bipush (v := (36 : Int32)) hx hb dX7_bridgesOf_16 (by decide) ?_
      refine lv_icmp_ge (tgt := 99) hx hb dX7_bridgesOf_18 (by decide) (fun hc6 => ?_) (fun hc6 => ?_)
      · have hf := (if_pos hc6).symm.trans hf
        exact hexit1 (s4.1, s4.2.1, s4.2.2.1, s4.2.2.2.1, s4.2.2.2.2) (Option.some.inj hf).symm H locs ls hP hS (lv_sub hl [3] rfl)
      · have hf := (if_neg hc6).symm.trans hf
        refine lv_aload_n hx hb dX7_bridgesOf_21 rfl (lv_at hl 0 rfl) ?_
        refine va_get (D := g.1) (ci := 5) (v := .ref (gm g 1)) (C := RX7) (T := TX7) (N := 27) hx hb hts iwX7 hown hK hP 0 k_md rfl 0 (by decide) hw0 (fun _ h9 => h9) rfl dX7_bridgesOf_22 ?_
        refine lv_bipush (v := (49 : Int32)) hx hb dX7_bridgesOf_25 (by decide) ?_
        refine lv_iload hx hb dX7_bridgesOf_27 (lv_at hl 4 rfl) ?_
        refine lv_iadd hx hb dX7_bridgesOf_29 ?_
        obtain ⟨hg7, hf⟩ := gd_some hf
        refine va_iald (f := s4.2.2.1) hx hb hK hP 1 0 k_now rfl hg7 dX7_bridgesOf_30 ?_
        refine lv_istore (lv' := [(6, .int (s4.2.2.1 ((49 : Int32) + s4.2.1).toNatClampNeg)), (0, .ref (gm g 0)), (1, .int a1), (2, .int a2), (3, .long s4.1), (5, .int s4.2.1)]) hx hb dX7_bridgesOf_31 hl (by decide) rfl (fun ls hl => ?_)
        refine lv_aload_n hx hb dX7_bridgesOf_33 rfl (lv_at hl 1 rfl) ?_
        refine va_get (D := g.1) (ci := 5) (v := .ref (gm g 1)) (C := RX7) (T := TX7) (N := 27) hx hb hts iwX7 hown hK hP 0 k_md rfl 0 (by decide) hw0 (fun _ h9 => h9) rfl dX7_bridgesOf_34 ?_
        refine lv_bipush (v := (49 : Int32)) hx hb dX7_bridgesOf_37 (by decide) ?_
        refine lv_iload hx hb dX7_bridgesOf_39 (lv_at hl 5 rfl) ?_
        refine lv_iadd hx hb dX7_bridgesOf_41 ?_
        refine lv_iload hx hb dX7_bridgesOf_42 (lv_at hl 5 rfl) ?_
        refine lv_iload_n hx hb dX7_bridgesOf_44 rfl (lv_at hl 2 rfl) ?_
        refine lv_icmp_eq (tgt := 54) hx hb dX7_bridgesOf_45 (by decide) (fun hc8 => ?_) (fun hc8 => ?_)
        · have hf := (if_pos hc8).symm.trans hf
          refine lv_iload hx hb dX7_bridgesOf_54 (lv_at hl 0 rfl) ?_
          refine lv_goto (tgt := 60) hx hb dX7_bridgesOf_56 (by decide) ?_
          obtain ⟨hg9, hf⟩ := gd_some hf
          refine va_iast (f := s4.2.2.1) hx hb hK hP (mD hB.2.2.1 _) hS 1 0 k_now rfl hg9 dX7_bridgesOf_60 (fun H locs hP _ hS => ?_)
          have hP : va_P g.1 vwCl (mw g ((upd s4.2.2.1 ((49 : Int32) + s4.2.1).toNatClampNeg (s4.2.2.1 ((49 : Int32) + s4.2.1).toNatClampNeg)), m_kept, m_aside, m_isKept, m_found, s4.2.2.2.1, s4.2.2.2.2, m_lives, m_treads, m_tape, m_taped, m_begins, m_ends, m_sort, m_value, m_isWrong, m_items, m_itemMany, m_seedThen, m_groundThen, m_widths, m_sizes, m_numbers, m_moved)) H := w_eq (k_set_now (upd s4.2.2.1 ((49 : Int32) + s4.2.1).toNatClampNeg (s4.2.2.1 ((49 : Int32) + s4.2.1).toNatClampNeg))) hP
          refine lv_lload_n hx hb dX7_bridgesOf_61 rfl (lv_at hl 4 rfl) ?_
          refine lv_aload_n hx hb dX7_bridgesOf_62 rfl (lv_at hl 1 rfl) ?_
          refine lv_iload_n hx hb dX7_bridgesOf_63 rfl (lv_at hl 2 rfl) ?_
          refine lv_iload_n hx hb dX7_bridgesOf_64 rfl (lv_at hl 3 rfl) ?_
          obtain ⟨q10, hq10, hf⟩ := bd_some hf
          refine kr_W (st1 := [.int q10.1, .long s4.1]) (va_runV (As := [.int a1, .int a2]) (rest := [.long s4.1]) ⟨hx, hb, hml, hown, hts⟩ (ct_X7_areJoined l n g (upd s4.2.2.1 ((49 : Int32) + s4.2.1).toNatClampNeg (s4.2.2.1 ((49 : Int32) + s4.2.1).toNatClampNeg)) m_kept m_aside m_isKept m_found s4.2.2.2.1 s4.2.2.2.2 m_lives m_treads m_tape m_taped m_begins m_ends m_sort m_value m_isWrong m_items m_itemMany m_seedThen m_groundThen m_widths m_sizes m_numbers m_moved a1 a2 q10 hq10) (cwV 2 hts gX7_bridgesOf_X7_areJoined rfl rfl rfl hd_X7_areJoined ⟨Nat.le_of_ble_eq_true rfl, Nat.le_of_ble_eq_true rfl⟩) ⟨bl_M, va_recv hK hP (ci := 5) (q0 := 0) rfl k_md, pr_M rfl hB hP hS⟩ rfl rfl hl.1 rfl (lv_room (Nat.le_of_ble_eq_true rfl)) dX7_bridgesOf_65 ⟨Nat.le_refl _, Nat.le_refl _⟩) hS rfl (fun hn11 H locs hP hS => ?_)
          have hP : va_P g.1 vwCl (mw g ((upd s4.2.2.1 ((49 : Int32) + s4.2.1).toNatClampNeg (s4.2.2.1 ((49 : Int32) + s4.2.1).toNatClampNeg)), m_kept, m_aside, m_isKept, m_found, q10.2.1, q10.2.2, m_lives, m_treads, m_tape, m_taped, m_begins, m_ends, m_sort, m_value, m_isWrong, m_items, m_itemMany, m_seedThen, m_groundThen, m_widths, m_sizes, m_numbers, m_moved)) H := hP
          refine lv_if_eq (tgt := 75) hx hb dX7_bridgesOf_68 (by decide) (fun hc12 => ?_) (fun hc12 => ?_)
          · have hf := (if_pos hc12).symm.trans hf
            refine lv_lconst (v := (1 : Int64)) hx hb dX7_bridgesOf_75 (by decide) ?_
            refine lv_iload hx hb dX7_bridgesOf_76 (lv_at hl 5 rfl) ?_
            refine lv_lshl (v := ((1 : Int64) <<< (s4.2.1.toInt64 &&& 63))) hx hb dX7_bridgesOf_78 rfl ?_
            refine lv_lor hx hb dX7_bridgesOf_79 ?_
            refine lv_lstore_n (lv' := [(3, .long (s4.1 ||| ((1 : Int64) <<< (s4.2.1.toInt64 &&& 63)))), (6, .int (s4.2.2.1 ((49 : Int32) + s4.2.1).toNatClampNeg)), (0, .ref (gm g 0)), (1, .int a1), (2, .int a2), (5, .int s4.2.1)]) hx hb dX7_bridgesOf_80 rfl hl (by decide) rfl (fun ls hl => ?_)
            refine lv_aload_n hx hb dX7_bridgesOf_81 rfl (lv_at hl 2 rfl) ?_
            refine va_get (D := g.1) (ci := 5) (v := .ref (gm g 1)) (C := RX7) (T := TX7) (N := 27) hx hb hts iwX7 hown hK hP 0 k_md rfl 0 (by decide) hw0 (fun _ h9 => h9) rfl dX7_bridgesOf_82 ?_
            refine lv_bipush (v := (49 : Int32)) hx hb dX7_bridgesOf_85 (by decide) ?_
            refine lv_iload hx hb dX7_bridgesOf_87 (lv_at hl 5 rfl) ?_
            refine lv_iadd hx hb dX7_bridgesOf_89 ?_
            refine lv_iload hx hb dX7_bridgesOf_90 (lv_at hl 1 rfl) ?_
            obtain ⟨hg13, hf⟩ := gd_some hf
            refine va_iast (f := (upd s4.2.2.1 ((49 : Int32) + s4.2.1).toNatClampNeg (s4.2.2.1 ((49 : Int32) + s4.2.1).toNatClampNeg))) hx hb hK hP (mD hB.2.2.1 _) hS 1 0 k_now rfl hg13 dX7_bridgesOf_92 (fun H locs hP _ hS => ?_)
            have hP : va_P g.1 vwCl (mw g ((upd (upd s4.2.2.1 ((49 : Int32) + s4.2.1).toNatClampNeg (s4.2.2.1 ((49 : Int32) + s4.2.1).toNatClampNeg)) ((49 : Int32) + s4.2.1).toNatClampNeg (s4.2.2.1 ((49 : Int32) + s4.2.1).toNatClampNeg)), m_kept, m_aside, m_isKept, m_found, q10.2.1, q10.2.2, m_lives, m_treads, m_tape, m_taped, m_begins, m_ends, m_sort, m_value, m_isWrong, m_items, m_itemMany, m_seedThen, m_groundThen, m_widths, m_sizes, m_numbers, m_moved)) H := w_eq (k_set_now (upd (upd s4.2.2.1 ((49 : Int32) + s4.2.1).toNatClampNeg (s4.2.2.1 ((49 : Int32) + s4.2.1).toNatClampNeg)) ((49 : Int32) + s4.2.1).toNatClampNeg (s4.2.2.1 ((49 : Int32) + s4.2.1).toNatClampNeg))) hP
            refine lv_iinc (v := (s4.2.1 + (1 : Int32))) (lv' := [(5, .int (s4.2.1 + (1 : Int32))), (3, .long (s4.1 ||| ((1 : Int64) <<< (s4.2.1.toInt64 &&& 63)))), (6, .int (s4.2.2.1 ((49 : Int32) + s4.2.1).toNatClampNeg)), (0, .ref (gm g 0)), (1, .int a1), (2, .int a2)]) hx hb dX7_bridgesOf_93 hl (k := 5) rfl (congrArg (fun y => s4.2.1 + y) (by decide : Int32.ofInt (1) = (1 : Int32))) (by decide) rfl (fun ls hl => ?_)
            refine lv_goto (tgt := 14) hx hb dX7_bridgesOf_96 (by decide) ?_
            exact hback1 _ (Option.some.inj hf).symm H locs ls hP hS (lv_sub hl [3, 4, 5, 1, 0] rfl)
          · have hf := (if_neg hc12).symm.trans hf
            refine lv_lconst (v := (0 : Int64)) hx hb dX7_bridgesOf_71 (by decide) ?_
            refine lv_goto (tgt := 79) hx hb dX7_bridgesOf_72 (by decide) ?_
            refine lv_lor hx hb dX7_bridgesOf_79 ?_
            refine lv_lstore_n (lv' := [(3, .long (s4.1 ||| (0 : Int64))), (6, .int (s4.2.2.1 ((49 : Int32) + s4.2.1).toNatClampNeg)), (0, .ref (gm g 0)), (1, .int a1), (2, .int a2), (5, .int s4.2.1)]) hx hb dX7_bridgesOf_80 rfl hl (by decide) rfl (fun ls hl => ?_)
            refine lv_aload_n hx hb dX7_bridgesOf_81 rfl (lv_at hl 2 rfl) ?_
            refine va_get (D := g.1) (ci := 5) (v := .ref (gm g 1)) (C := RX7) (T := TX7) (N := 27) hx hb hts iwX7 hown hK hP 0 k_md rfl 0 (by decide) hw0 (fun _ h9 => h9) rfl dX7_bridgesOf_82 ?_
            refine lv_bipush (v := (49 : Int32)) hx hb dX7_bridgesOf_85 (by decide) ?_
            refine lv_iload hx hb dX7_bridgesOf_87 (lv_at hl 5 rfl) ?_
            refine lv_iadd hx hb dX7_bridgesOf_89 ?_
            refine lv_iload hx hb dX7_bridgesOf_90 (lv_at hl 1 rfl) ?_
            obtain ⟨hg14, hf⟩ := gd_some hf
            refine va_iast (f := (upd s4.2.2.1 ((49 : Int32) + s4.2.1).toNatClampNeg (s4.2.2.1 ((49 : Int32) + s4.2.1).toNatClampNeg))) hx hb hK hP (mD hB.2.2.1 _) hS 1 0 k_now rfl hg14 dX7_bridgesOf_92 (fun H locs hP _ hS => ?_)
            have hP : va_P g.1 vwCl (mw g ((upd (upd s4.2.2.1 ((49 : Int32) + s4.2.1).toNatClampNeg (s4.2.2.1 ((49 : Int32) + s4.2.1).toNatClampNeg)) ((49 : Int32) + s4.2.1).toNatClampNeg (s4.2.2.1 ((49 : Int32) + s4.2.1).toNatClampNeg)), m_kept, m_aside, m_isKept, m_found, q10.2.1, q10.2.2, m_lives, m_treads, m_tape, m_taped, m_begins, m_ends, m_sort, m_value, m_isWrong, m_items, m_itemMany, m_seedThen, m_groundThen, m_widths, m_sizes, m_numbers, m_moved)) H := w_eq (k_set_now (upd (upd s4.2.2.1 ((49 : Int32) + s4.2.1).toNatClampNeg (s4.2.2.1 ((49 : Int32) + s4.2.1).toNatClampNeg)) ((49 : Int32) + s4.2.1).toNatClampNeg (s4.2.2.1 ((49 : Int32) + s4.2.1).toNatClampNeg))) hP
            refine lv_iinc (v := (s4.2.1 + (1 : Int32))) (lv' := [(5, .int (s4.2.1 + (1 : Int32))), (3, .long (s4.1 ||| (0 : Int64))), (6, .int (s4.2.2.1 ((49 : Int32) + s4.2.1).toNatClampNeg)), (0, .ref (gm g 0)), (1, .int a1), (2, .int a2)]) hx hb dX7_bridgesOf_93 hl (k := 5) rfl (congrArg (fun y => s4.2.1 + y) (by decide : Int32.ofInt (1) = (1 : Int32))) (by decide) rfl (fun ls hl => ?_)
            refine lv_goto (tgt := 14) hx hb dX7_bridgesOf_96 (by decide) ?_
            exact hback1 _ (Option.some.inj hf).symm H locs ls hP hS (lv_sub hl [3, 4, 5, 1, 0] rfl)
        · have hf := (if_neg hc8).symm.trans hf
          refine lv_iload hx hb dX7_bridgesOf_48 (lv_at hl 5 rfl) ?_
          refine lv_iload_n hx hb dX7_bridgesOf_50 rfl (lv_at hl 3 rfl) ?_
          refine lv_icmp_ne (tgt := 59) hx hb dX7_bridgesOf_51 (by decide) (fun hc15 => ?_) (fun hc15 => ?_)
          · have hf := (if_neg hc15).symm.trans hf
            refine lv_iconst (v := (0 : Int32)) hx hb dX7_bridgesOf_59 (by decide) ?_
            obtain ⟨hg16, hf⟩ := gd_some hf
            refine va_iast (f := s4.2.2.1) hx hb hK hP (mD hB.2.2.1 _) hS 1 0 k_now rfl hg16 dX7_bridgesOf_60 (fun H locs hP _ hS => ?_)
            have hP : va_P g.1 vwCl (mw g ((upd s4.2.2.1 ((49 : Int32) + s4.2.1).toNatClampNeg (0 : Int32)), m_kept, m_aside, m_isKept, m_found, s4.2.2.2.1, s4.2.2.2.2, m_lives, m_treads, m_tape, m_taped, m_begins, m_ends, m_sort, m_value, m_isWrong, m_items, m_itemMany, m_seedThen, m_groundThen, m_widths, m_sizes, m_numbers, m_moved)) H := w_eq (k_set_now (upd s4.2.2.1 ((49 : Int32) + s4.2.1).toNatClampNeg (0 : Int32))) hP
            refine lv_lload_n hx hb dX7_bridgesOf_61 rfl (lv_at hl 4 rfl) ?_
            refine lv_aload_n hx hb dX7_bridgesOf_62 rfl (lv_at hl 1 rfl) ?_
            refine lv_iload_n hx hb dX7_bridgesOf_63 rfl (lv_at hl 2 rfl) ?_
            refine lv_iload_n hx hb dX7_bridgesOf_64 rfl (lv_at hl 3 rfl) ?_
            obtain ⟨q17, hq17, hf⟩ := bd_some hf
            refine kr_W (st1 := [.int q17.1, .long s4.1]) (va_runV (As := [.int a1, .int a2]) (rest := [.long s4.1]) ⟨hx, hb, hml, hown, hts⟩ (ct_X7_areJoined l n g (upd s4.2.2.1 ((49 : Int32) + s4.2.1).toNatClampNeg (0 : Int32)) m_kept m_aside m_isKept m_found s4.2.2.2.1 s4.2.2.2.2 m_lives m_treads m_tape m_taped m_begins m_ends m_sort m_value m_isWrong m_items m_itemMany m_seedThen m_groundThen m_widths m_sizes m_numbers m_moved a1 a2 q17 hq17) (cwV 2 hts gX7_bridgesOf_X7_areJoined rfl rfl rfl hd_X7_areJoined ⟨Nat.le_of_ble_eq_true rfl, Nat.le_of_ble_eq_true rfl⟩) ⟨bl_M, va_recv hK hP (ci := 5) (q0 := 0) rfl k_md, pr_M rfl hB hP hS⟩ rfl rfl hl.1 rfl (lv_room (Nat.le_of_ble_eq_true rfl)) dX7_bridgesOf_65 ⟨Nat.le_refl _, Nat.le_refl _⟩) hS rfl (fun hn18 H locs hP hS => ?_)
            have hP : va_P g.1 vwCl (mw g ((upd s4.2.2.1 ((49 : Int32) + s4.2.1).toNatClampNeg (0 : Int32)), m_kept, m_aside, m_isKept, m_found, q17.2.1, q17.2.2, m_lives, m_treads, m_tape, m_taped, m_begins, m_ends, m_sort, m_value, m_isWrong, m_items, m_itemMany, m_seedThen, m_groundThen, m_widths, m_sizes, m_numbers, m_moved)) H := hP
            refine lv_if_eq (tgt := 75) hx hb dX7_bridgesOf_68 (by decide) (fun hc19 => ?_) (fun hc19 => ?_)
            · have hf := (if_pos hc19).symm.trans hf
              refine lv_lconst (v := (1 : Int64)) hx hb dX7_bridgesOf_75 (by decide) ?_
              refine lv_iload hx hb dX7_bridgesOf_76 (lv_at hl 5 rfl) ?_
              refine lv_lshl (v := ((1 : Int64) <<< (s4.2.1.toInt64 &&& 63))) hx hb dX7_bridgesOf_78 rfl ?_
              refine lv_lor hx hb dX7_bridgesOf_79 ?_
              refine lv_lstore_n (lv' := [(3, .long (s4.1 ||| ((1 : Int64) <<< (s4.2.1.toInt64 &&& 63)))), (6, .int (s4.2.2.1 ((49 : Int32) + s4.2.1).toNatClampNeg)), (0, .ref (gm g 0)), (1, .int a1), (2, .int a2), (5, .int s4.2.1)]) hx hb dX7_bridgesOf_80 rfl hl (by decide) rfl (fun ls hl => ?_)
              refine lv_aload_n hx hb dX7_bridgesOf_81 rfl (lv_at hl 2 rfl) ?_
              refine va_get (D := g.1) (ci := 5) (v := .ref (gm g 1)) (C := RX7) (T := TX7) (N := 27) hx hb hts iwX7 hown hK hP 0 k_md rfl 0 (by decide) hw0 (fun _ h9 => h9) rfl dX7_bridgesOf_82 ?_
              refine lv_bipush (v := (49 : Int32)) hx hb dX7_bridgesOf_85 (by decide) ?_
              refine lv_iload hx hb dX7_bridgesOf_87 (lv_at hl 5 rfl) ?_
              refine lv_iadd hx hb dX7_bridgesOf_89 ?_
              refine lv_iload hx hb dX7_bridgesOf_90 (lv_at hl 1 rfl) ?_
              obtain ⟨hg20, hf⟩ := gd_some hf
              refine va_iast (f := (upd s4.2.2.1 ((49 : Int32) + s4.2.1).toNatClampNeg (0 : Int32))) hx hb hK hP (mD hB.2.2.1 _) hS 1 0 k_now rfl hg20 dX7_bridgesOf_92 (fun H locs hP _ hS => ?_)
              have hP : va_P g.1 vwCl (mw g ((upd (upd s4.2.2.1 ((49 : Int32) + s4.2.1).toNatClampNeg (0 : Int32)) ((49 : Int32) + s4.2.1).toNatClampNeg (s4.2.2.1 ((49 : Int32) + s4.2.1).toNatClampNeg)), m_kept, m_aside, m_isKept, m_found, q17.2.1, q17.2.2, m_lives, m_treads, m_tape, m_taped, m_begins, m_ends, m_sort, m_value, m_isWrong, m_items, m_itemMany, m_seedThen, m_groundThen, m_widths, m_sizes, m_numbers, m_moved)) H := w_eq (k_set_now (upd (upd s4.2.2.1 ((49 : Int32) + s4.2.1).toNatClampNeg (0 : Int32)) ((49 : Int32) + s4.2.1).toNatClampNeg (s4.2.2.1 ((49 : Int32) + s4.2.1).toNatClampNeg))) hP
              refine lv_iinc (v := (s4.2.1 + (1 : Int32))) (lv' := [(5, .int (s4.2.1 + (1 : Int32))), (3, .long (s4.1 ||| ((1 : Int64) <<< (s4.2.1.toInt64 &&& 63)))), (6, .int (s4.2.2.1 ((49 : Int32) + s4.2.1).toNatClampNeg)), (0, .ref (gm g 0)), (1, .int a1), (2, .int a2)]) hx hb dX7_bridgesOf_93 hl (k := 5) rfl (congrArg (fun y => s4.2.1 + y) (by decide : Int32.ofInt (1) = (1 : Int32))) (by decide) rfl (fun ls hl => ?_)
              refine lv_goto (tgt := 14) hx hb dX7_bridgesOf_96 (by decide) ?_
              exact hback1 _ (Option.some.inj hf).symm H locs ls hP hS (lv_sub hl [3, 4, 5, 1, 0] rfl)
            · have hf := (if_neg hc19).symm.trans hf
              refine lv_lconst (v := (0 : Int64)) hx hb dX7_bridgesOf_71 (by decide) ?_
              refine lv_goto (tgt := 79) hx hb dX7_bridgesOf_72 (by decide) ?_
              refine lv_lor hx hb dX7_bridgesOf_79 ?_
              refine lv_lstore_n (lv' := [(3, .long (s4.1 ||| (0 : Int64))), (6, .int (s4.2.2.1 ((49 : Int32) + s4.2.1).toNatClampNeg)), (0, .ref (gm g 0)), (1, .int a1), (2, .int a2), (5, .int s4.2.1)]) hx hb dX7_bridgesOf_80 rfl hl (by decide) rfl (fun ls hl => ?_)
              refine lv_aload_n hx hb dX7_bridgesOf_81 rfl (lv_at hl 2 rfl) ?_
              refine va_get (D := g.1) (ci := 5) (v := .ref (gm g 1)) (C := RX7) (T := TX7) (N := 27) hx hb hts iwX7 hown hK hP 0 k_md rfl 0 (by decide) hw0 (fun _ h9 => h9) rfl dX7_bridgesOf_82 ?_
              refine lv_bipush (v := (49 : Int32)) hx hb dX7_bridgesOf_85 (by decide) ?_
              refine lv_iload hx hb dX7_bridgesOf_87 (lv_at hl 5 rfl) ?_
              refine lv_iadd hx hb dX7_bridgesOf_89 ?_
              refine lv_iload hx hb dX7_bridgesOf_90 (lv_at hl 1 rfl) ?_
              obtain ⟨hg21, hf⟩ := gd_some hf
              refine va_iast (f := (upd s4.2.2.1 ((49 : Int32) + s4.2.1).toNatClampNeg (0 : Int32))) hx hb hK hP (mD hB.2.2.1 _) hS 1 0 k_now rfl hg21 dX7_bridgesOf_92 (fun H locs hP _ hS => ?_)
              have hP : va_P g.1 vwCl (mw g ((upd (upd s4.2.2.1 ((49 : Int32) + s4.2.1).toNatClampNeg (0 : Int32)) ((49 : Int32) + s4.2.1).toNatClampNeg (s4.2.2.1 ((49 : Int32) + s4.2.1).toNatClampNeg)), m_kept, m_aside, m_isKept, m_found, q17.2.1, q17.2.2, m_lives, m_treads, m_tape, m_taped, m_begins, m_ends, m_sort, m_value, m_isWrong, m_items, m_itemMany, m_seedThen, m_groundThen, m_widths, m_sizes, m_numbers, m_moved)) H := w_eq (k_set_now (upd (upd s4.2.2.1 ((49 : Int32) + s4.2.1).toNatClampNeg (0 : Int32)) ((49 : Int32) + s4.2.1).toNatClampNeg (s4.2.2.1 ((49 : Int32) + s4.2.1).toNatClampNeg))) hP
              refine lv_iinc (v := (s4.2.1 + (1 : Int32))) (lv' := [(5, .int (s4.2.1 + (1 : Int32))), (3, .long (s4.1 ||| (0 : Int64))), (6, .int (s4.2.2.1 ((49 : Int32) + s4.2.1).toNatClampNeg)), (0, .ref (gm g 0)), (1, .int a1), (2, .int a2)]) hx hb dX7_bridgesOf_93 hl (k := 5) rfl (congrArg (fun y => s4.2.1 + y) (by decide : Int32.ofInt (1) = (1 : Int32))) (by decide) rfl (fun ls hl => ?_)
              refine lv_goto (tgt := 14) hx hb dX7_bridgesOf_96 (by decide) ?_
              exact hback1 _ (Option.some.inj hf).symm H locs ls hP hS (lv_sub hl [3, 4, 5, 1, 0] rfl)
          · have hf := (if_pos hc15).symm.trans hf
            refine lv_iload hx hb dX7_bridgesOf_54 (lv_at hl 0 rfl) ?_
            refine lv_goto (tgt := 60) hx hb dX7_bridgesOf_56 (by decide) ?_
            obtain ⟨hg22, hf⟩ := gd_some hf
            refine va_iast (f := s4.2.2.1) hx hb hK hP (mD hB.2.2.1 _) hS 1 0 k_now rfl hg22 dX7_bridgesOf_60 (fun H locs hP _ hS => ?_)
            have hP : va_P g.1 vwCl (mw g ((upd s4.2.2.1 ((49 : Int32) + s4.2.1).toNatClampNeg (s4.2.2.1 ((49 : Int32) + s4.2.1).toNatClampNeg)), m_kept, m_aside, m_isKept, m_found, s4.2.2.2.1, s4.2.2.2.2, m_lives, m_treads, m_tape, m_taped, m_begins, m_ends, m_sort, m_value, m_isWrong, m_items, m_itemMany, m_seedThen, m_groundThen, m_widths, m_sizes, m_numbers, m_moved)) H := w_eq (k_set_now (upd s4.2.2.1 ((49 : Int32) + s4.2.1).toNatClampNeg (s4.2.2.1 ((49 : Int32) + s4.2.1).toNatClampNeg))) hP
            refine lv_lload_n hx hb dX7_bridgesOf_61 rfl (lv_at hl 4 rfl) ?_
            refine lv_aload_n hx hb dX7_bridgesOf_62 rfl (lv_at hl 1 rfl) ?_
            refine lv_iload_n hx hb dX7_bridgesOf_63 rfl (lv_at hl 2 rfl) ?_
            refine lv_iload_n hx hb dX7_bridgesOf_64 rfl (lv_at hl 3 rfl) ?_
            obtain ⟨q23, hq23, hf⟩ := bd_some hf
            refine kr_W (st1 := [.int q23.1, .long s4.1]) (va_runV (As := [.int a1, .int a2]) (rest := [.long s4.1]) ⟨hx, hb, hml, hown, hts⟩ (ct_X7_areJoined l n g (upd s4.2.2.1 ((49 : Int32) + s4.2.1).toNatClampNeg (s4.2.2.1 ((49 : Int32) + s4.2.1).toNatClampNeg)) m_kept m_aside m_isKept m_found s4.2.2.2.1 s4.2.2.2.2 m_lives m_treads m_tape m_taped m_begins m_ends m_sort m_value m_isWrong m_items m_itemMany m_seedThen m_groundThen m_widths m_sizes m_numbers m_moved a1 a2 q23 hq23) (cwV 2 hts gX7_bridgesOf_X7_areJoined rfl rfl rfl hd_X7_areJoined ⟨Nat.le_of_ble_eq_true rfl, Nat.le_of_ble_eq_true rfl⟩) ⟨bl_M, va_recv hK hP (ci := 5) (q0 := 0) rfl k_md, pr_M rfl hB hP hS⟩ rfl rfl hl.1 rfl (lv_room (Nat.le_of_ble_eq_true rfl)) dX7_bridgesOf_65 ⟨Nat.le_refl _, Nat.le_refl _⟩) hS rfl (fun hn24 H locs hP hS => ?_)
            have hP : va_P g.1 vwCl (mw g ((upd s4.2.2.1 ((49 : Int32) + s4.2.1).toNatClampNeg (s4.2.2.1 ((49 : Int32) + s4.2.1).toNatClampNeg)), m_kept, m_aside, m_isKept, m_found, q23.2.1, q23.2.2, m_lives, m_treads, m_tape, m_taped, m_begins, m_ends, m_sort, m_value, m_isWrong, m_items, m_itemMany, m_seedThen, m_groundThen, m_widths, m_sizes, m_numbers, m_moved)) H := hP
            refine lv_if_eq (tgt := 75) hx hb dX7_bridgesOf_68 (by decide) (fun hc25 => ?_) (fun hc25 => ?_)
            · have hf := (if_pos hc25).symm.trans hf
              refine lv_lconst (v := (1 : Int64)) hx hb dX7_bridgesOf_75 (by decide) ?_
              refine lv_iload hx hb dX7_bridgesOf_76 (lv_at hl 5 rfl) ?_
              refine lv_lshl (v := ((1 : Int64) <<< (s4.2.1.toInt64 &&& 63))) hx hb dX7_bridgesOf_78 rfl ?_
              refine lv_lor hx hb dX7_bridgesOf_79 ?_
              refine lv_lstore_n (lv' := [(3, .long (s4.1 ||| ((1 : Int64) <<< (s4.2.1.toInt64 &&& 63)))), (6, .int (s4.2.2.1 ((49 : Int32) + s4.2.1).toNatClampNeg)), (0, .ref (gm g 0)), (1, .int a1), (2, .int a2), (5, .int s4.2.1)]) hx hb dX7_bridgesOf_80 rfl hl (by decide) rfl (fun ls hl => ?_)
              refine lv_aload_n hx hb dX7_bridgesOf_81 rfl (lv_at hl 2 rfl) ?_
              refine va_get (D := g.1) (ci := 5) (v := .ref (gm g 1)) (C := RX7) (T := TX7) (N := 27) hx hb hts iwX7 hown hK hP 0 k_md rfl 0 (by decide) hw0 (fun _ h9 => h9) rfl dX7_bridgesOf_82 ?_
              refine lv_bipush (v := (49 : Int32)) hx hb dX7_bridgesOf_85 (by decide) ?_
              refine lv_iload hx hb dX7_bridgesOf_87 (lv_at hl 5 rfl) ?_
              refine lv_iadd hx hb dX7_bridgesOf_89 ?_
              refine lv_iload hx hb dX7_bridgesOf_90 (lv_at hl 1 rfl) ?_
              obtain ⟨hg26, hf⟩ := gd_some hf
              refine va_iast (f := (upd s4.2.2.1 ((49 : Int32) + s4.2.1).toNatClampNeg (s4.2.2.1 ((49 : Int32) + s4.2.1).toNatClampNeg))) hx hb hK hP (mD hB.2.2.1 _) hS 1 0 k_now rfl hg26 dX7_bridgesOf_92 (fun H locs hP _ hS => ?_)
              have hP : va_P g.1 vwCl (mw g ((upd (upd s4.2.2.1 ((49 : Int32) + s4.2.1).toNatClampNeg (s4.2.2.1 ((49 : Int32) + s4.2.1).toNatClampNeg)) ((49 : Int32) + s4.2.1).toNatClampNeg (s4.2.2.1 ((49 : Int32) + s4.2.1).toNatClampNeg)), m_kept, m_aside, m_isKept, m_found, q23.2.1, q23.2.2, m_lives, m_treads, m_tape, m_taped, m_begins, m_ends, m_sort, m_value, m_isWrong, m_items, m_itemMany, m_seedThen, m_groundThen, m_widths, m_sizes, m_numbers, m_moved)) H := w_eq (k_set_now (upd (upd s4.2.2.1 ((49 : Int32) + s4.2.1).toNatClampNeg (s4.2.2.1 ((49 : Int32) + s4.2.1).toNatClampNeg)) ((49 : Int32) + s4.2.1).toNatClampNeg (s4.2.2.1 ((49 : Int32) + s4.2.1).toNatClampNeg))) hP
              refine lv_iinc (v := (s4.2.1 + (1 : Int32))) (lv' := [(5, .int (s4.2.1 + (1 : Int32))), (3, .long (s4.1 ||| ((1 : Int64) <<< (s4.2.1.toInt64 &&& 63)))), (6, .int (s4.2.2.1 ((49 : Int32) + s4.2.1).toNatClampNeg)), (0, .ref (gm g 0)), (1, .int a1), (2, .int a2)]) hx hb dX7_bridgesOf_93 hl (k := 5) rfl (congrArg (fun y => s4.2.1 + y) (by decide : Int32.ofInt (1) = (1 : Int32))) (by decide) rfl (fun ls hl => ?_)
              refine lv_goto (tgt := 14) hx hb dX7_bridgesOf_96 (by decide) ?_
              exact hback1 _ (Option.some.inj hf).symm H locs ls hP hS (lv_sub hl [3, 4, 5, 1, 0] rfl)
            · have hf := (if_neg hc25).symm.trans hf
              refine lv_lconst (v := (0 : Int64)) hx hb dX7_bridgesOf_71 (by decide) ?_
              refine lv_goto (tgt := 79) hx hb dX7_bridgesOf_72 (by decide) ?_
              refine lv_lor hx hb dX7_bridgesOf_79 ?_
              refine lv_lstore_n (lv' := [(3, .long (s4.1 ||| (0 : Int64))), (6, .int (s4.2.2.1 ((49 : Int32) + s4.2.1).toNatClampNeg)), (0, .ref (gm g 0)), (1, .int a1), (2, .int a2), (5, .int s4.2.1)]) hx hb dX7_bridgesOf_80 rfl hl (by decide) rfl (fun ls hl => ?_)
              refine lv_aload_n hx hb dX7_bridgesOf_81 rfl (lv_at hl 2 rfl) ?_
              refine va_get (D := g.1) (ci := 5) (v := .ref (gm g 1)) (C := RX7) (T := TX7) (N := 27) hx hb hts iwX7 hown hK hP 0 k_md rfl 0 (by decide) hw0 (fun _ h9 => h9) rfl dX7_bridgesOf_82 ?_
              refine lv_bipush (v := (49 : Int32)) hx hb dX7_bridgesOf_85 (by decide) ?_
              refine lv_iload hx hb dX7_bridgesOf_87 (lv_at hl 5 rfl) ?_
              refine lv_iadd hx hb dX7_bridgesOf_89 ?_
              refine lv_iload hx hb dX7_bridgesOf_90 (lv_at hl 1 rfl) ?_
              obtain ⟨hg27, hf⟩ := gd_some hf
              refine va_iast (f := (upd s4.2.2.1 ((49 : Int32) + s4.2.1).toNatClampNeg (s4.2.2.1 ((49 : Int32) + s4.2.1).toNatClampNeg))) hx hb hK hP (mD hB.2.2.1 _) hS 1 0 k_now rfl hg27 dX7_bridgesOf_92 (fun H locs hP _ hS => ?_)
              have hP : va_P g.1 vwCl (mw g ((upd (upd s4.2.2.1 ((49 : Int32) + s4.2.1).toNatClampNeg (s4.2.2.1 ((49 : Int32) + s4.2.1).toNatClampNeg)) ((49 : Int32) + s4.2.1).toNatClampNeg (s4.2.2.1 ((49 : Int32) + s4.2.1).toNatClampNeg)), m_kept, m_aside, m_isKept, m_found, q23.2.1, q23.2.2, m_lives, m_treads, m_tape, m_taped, m_begins, m_ends, m_sort, m_value, m_isWrong, m_items, m_itemMany, m_seedThen, m_groundThen, m_widths, m_sizes, m_numbers, m_moved)) H := w_eq (k_set_now (upd (upd s4.2.2.1 ((49 : Int32) + s4.2.1).toNatClampNeg (s4.2.2.1 ((49 : Int32) + s4.2.1).toNatClampNeg)) ((49 : Int32) + s4.2.1).toNatClampNeg (s4.2.2.1 ((49 : Int32) + s4.2.1).toNatClampNeg))) hP
              refine lv_iinc (v := (s4.2.1 + (1 : Int32))) (lv' := [(5, .int (s4.2.1 + (1 : Int32))), (3, .long (s4.1 ||| (0 : Int64))), (6, .int (s4.2.2.1 ((49 : Int32) + s4.2.1).toNatClampNeg)), (0, .ref (gm g 0)), (1, .int a1), (2, .int a2)]) hx hb dX7_bridgesOf_93 hl (k := 5) rfl (congrArg (fun y => s4.2.1 + y) (by decide : Int32.ofInt (1) = (1 : Int32))) (by decide) rfl (fun ls hl => ?_)
              refine lv_goto (tgt := 14) hx hb dX7_bridgesOf_96 (by decide) ?_
              exact hback1 _ (Option.some.inj hf).symm H locs ls hP hS (lv_sub hl [3, 4, 5, 1, 0] rfl)
set_option maxHeartbeats 4000000 in
set_option maxRecDepth 100000 in
theorem ct_X7_parts (l : Launch) (n : Nat) (g : GM) (m_now : Nat → Int32) (m_kept : Nat → Int32) (m_aside : Nat → Int32) (m_isKept : Int32) (m_found : Nat → Int32) (m_steps : Nat → Int32) (m_queue : Nat → Int32) (m_lives : Nat → Int32) (m_treads : Nat → Int32) (m_tape : Nat → Int32) (m_taped : Int32) (m_begins : Int32) (m_ends : Int32) (m_sort : Int32) (m_value : Int32) (m_isWrong : Int32) (m_items : Nat → Int32) (m_itemMany : Int32) (m_seedThen : Int32) (m_groundThen : Nat → Int32) (m_widths : Nat → Int32) (m_sizes : Nat → Int32) (m_numbers : Nat → Int32) (m_moved : Nat → Int32) (a1 : Int32) (a2 : Int32) (res : Int32 × (Nat → Int32) × (Nat → Int32) × (Nat → Int32) × (Nat → Int32)) (hf : fX7_parts n a1 a2 m_now m_found m_steps m_queue = some res) : Met l yX7_parts wsX7_parts ({ frames := 4, cells := 0, slots := 0, locals := 94 }) (va_Pc [.ref (gm g 0), .int a1, .int a2] (mI g (m_now, m_kept, m_aside, m_isKept, m_found, m_steps, m_queue, m_lives, m_treads, m_tape, m_taped, m_begins, m_ends, m_sort, m_value, m_isWrong, m_items, m_itemMany, m_seedThen, m_groundThen, m_widths, m_sizes, m_numbers, m_moved))) (qW (some (.int res.1)) True g.1 (mw g (res.2.1, m_kept, m_aside, m_isKept, res.2.2.1, res.2.2.2.1, res.2.2.2.2, m_lives, m_treads, m_tape, m_taped, m_begins, m_ends, m_sort, m_value, m_isWrong, m_items, m_itemMany, m_seedThen, m_groundThen, m_widths, m_sizes, m_numbers, m_moved)) (mA g)) 0 0 (mA g) := by
  refine Met.ofW (cc := cX7_parts) (maxL := 6) (ret := (some .int)) (by decide) rfl ?_
  intro p e s m args below meth c s₁ B hml hv
  obtain ⟨rfl, hI⟩ := hv
  have hx := B.exec
  have hb := B.bytes
  have hr := B.returns
  have hts := atoms_spec (ws := wsX7_parts) B.pre
  have hown : s.vm.findClass RX7 = some m.cls := findClass_of_methodNamed B.named
  have hlocks := B.notSynchronized
  have hP := hI.1
  have hB := hI.2
  have hK := hB.1
  have hNW := hB.2.1
  have hS : va_S (mA g) s.heap s.heap [] := va_S.rf
  have hw0 := hts (.constant RX7 100 (-1000004)) (by decide +kernel)
  have hw1 := hts (.constant RX7 95 (-1000001)) (by decide +kernel)
  have hl := lv_entry ([.ref (gm g 0), .int a1, .int a2]) (n := 6) (Nat.le_of_ble_eq_true rfl)
  rw [lg_entry_eq]
  generalize (lg_sl ([.ref (gm g 0), .int a1, .int a2]) ++ List.replicate (6 - (lg_sl ([.ref (gm g 0), .int a1, .int a2])).length) Slot.unset).toArray = ls at hl ⊢
  have hl : lv_has ls 6 [(0, .ref (gm g 0)), (1, .int a1), (2, .int a2)] := hl
  unfold fX7_parts at hf
  refine lv_iload_n hx hb dX7_parts_0 rfl (lv_at hl 1 rfl) ?_
  refine lv_iload_n hx hb dX7_parts_1 rfl (lv_at hl 2 rfl) ?_
  obtain ⟨q1, hq1, hf⟩ := bd_some hf
  refine kr_S (st1 := [.int q1]) (va_runS (As := [.int a1, .int a2]) (rest := []) ⟨hx, hb, hml, hown, hts⟩ (ct_X7_areCells l n a1 a2 q1 hq1) (va_cwS 2 hts gX7_parts_X7_areCells rfl rfl rfl hn_X7_areCells ⟨Nat.le_of_ble_eq_true rfl, Nat.le_of_ble_eq_true rfl⟩) ⟨bl_N, pr_N rfl hNW⟩ rfl rfl hl.1 rfl (lv_room (Nat.le_of_ble_eq_true rfl)) dX7_parts_2 ⟨Nat.le_refl _, Nat.le_refl _⟩) rfl (fun hn2 => ?_)
  refine lv_if_ne (tgt := 15) hx hb dX7_parts_5 (by decide) (fun hc3 => ?_) (fun hc3 => ?_)
  · have hf := (if_neg hc3).symm.trans hf
    refine lv_aload_n hx hb dX7_parts_15 rfl (lv_at hl 0 rfl) ?_
    refine lv_iload_n hx hb dX7_parts_16 rfl (lv_at hl 1 rfl) ?_
    refine lv_iload_n hx hb dX7_parts_17 rfl (lv_at hl 2 rfl) ?_
    obtain ⟨q4, hq4, hf⟩ := bd_some hf
    refine kr_W (st1 := [.long q4.1]) (va_runV (As := [.int a1, .int a2]) (rest := []) ⟨hx, hb, hml, hown, hts⟩ (ct_X7_bridgesOf l n g m_now m_kept m_aside m_isKept m_found m_steps m_queue m_lives m_treads m_tape m_taped m_begins m_ends m_sort m_value m_isWrong m_items m_itemMany m_seedThen m_groundThen m_widths m_sizes m_numbers m_moved a1 a2 q4 hq4) (cwV 2 hts gX7_parts_X7_bridgesOf rfl rfl rfl hd_X7_bridgesOf ⟨Nat.le_of_ble_eq_true rfl, Nat.le_of_ble_eq_true rfl⟩) ⟨bl_M, va_recv hK hP (ci := 5) (q0 := 0) rfl k_md, pr_M rfl hB hP hS⟩ rfl rfl hl.1 rfl (lv_room (Nat.le_of_ble_eq_true rfl)) dX7_parts_18 ⟨Nat.le_refl _, Nat.le_refl _⟩) hS rfl (fun hn5 H locs hP hS => ?_)
    have hP : va_P g.1 vwCl (mw g (q4.2.1, m_kept, m_aside, m_isKept, m_found, q4.2.2.1, q4.2.2.2, m_lives, m_treads, m_tape, m_taped, m_begins, m_ends, m_sort, m_value, m_isWrong, m_items, m_itemMany, m_seedThen, m_groundThen, m_widths, m_sizes, m_numbers, m_moved)) H := hP
    refine lv_lstore_n (lv' := [(3, .long q4.1), (0, .ref (gm g 0)), (1, .int a1), (2, .int a2)]) hx hb dX7_parts_21 rfl hl (by decide) rfl (fun ls hl => ?_)
    refine lv_iconst (v := (0 : Int32)) hx hb dX7_parts_22 (by decide) ?_
    refine lv_istore (lv' := [(5, .int (0 : Int32)), (3, .long q4.1), (0, .ref (gm g 0)), (1, .int a1), (2, .int a2)]) hx hb dX7_parts_23 hl (by decide) rfl (fun ls hl => ?_)
    refine lp_run hf (fun s6 => ∀ (H : Heap) (locs : List Loc) (ls : Array Slot), va_P g.1 vwCl (mw g (q4.2.1, m_kept, m_aside, m_isKept, m_found, q4.2.2.1, q4.2.2.2, m_lives, m_treads, m_tape, m_taped, m_begins, m_ends, m_sort, m_value, m_isWrong, m_items, m_itemMany, m_seedThen, m_groundThen, m_widths, m_sizes, m_numbers, m_moved)) H → va_S (mA g) s.heap H locs → lv_has ls 6 [(0, .ref (gm g 0)), (3, .long q4.1), (5, .int s6)] → W p l e (headSpec wsX7_parts ({ frames := 4, cells := 0, slots := 0, locals := 94 })).room s m ([.ref (gm g 0), .int a1, .int a2] : List Value).toArray below meth c H locs 0 0 (MQ below (qW (some (.int res.1)) True g.1 (mw g (res.2.1, m_kept, m_aside, m_isKept, res.2.2.1, res.2.2.2.1, res.2.2.2.2, m_lives, m_treads, m_tape, m_taped, m_begins, m_ends, m_sort, m_value, m_isWrong, m_items, m_itemMany, m_seedThen, m_groundThen, m_widths, m_sizes, m_numbers, m_moved)) (mA g)) ([.ref (gm g 0), .int a1, .int a2] : List Value).toArray s 0 0 (mA g)) (F0 m 25 ls [])) (fun v7 => ∀ (H : Heap) (locs : List Loc) (ls : Array Slot), va_P g.1 vwCl (mw g (q4.2.1, m_kept, m_aside, m_isKept, m_found, q4.2.2.1, q4.2.2.2, m_lives, m_treads, m_tape, m_taped, m_begins, m_ends, m_sort, m_value, m_isWrong, m_items, m_itemMany, m_seedThen, m_groundThen, m_widths, m_sizes, m_numbers, m_moved)) H → va_S (mA g) s.heap H locs → lv_has ls 6 [(0, .ref (gm g 0)), (5, .int v7)] → W p l e (headSpec wsX7_parts ({ frames := 4, cells := 0, slots := 0, locals := 94 })).room s m ([.ref (gm g 0), .int a1, .int a2] : List Value).toArray below meth c H locs 0 0 (MQ below (qW (some (.int res.1)) True g.1 (mw g (res.2.1, m_kept, m_aside, m_isKept, res.2.2.1, res.2.2.2.1, res.2.2.2.2, m_lives, m_treads, m_tape, m_taped, m_begins, m_ends, m_sort, m_value, m_isWrong, m_items, m_itemMany, m_seedThen, m_groundThen, m_widths, m_sizes, m_numbers, m_moved)) (mA g)) ([.ref (gm g 0), .int a1, .int a2] : List Value).toArray s 0 0 (mA g)) (F0 m 49 ls [])) ?_ ?_ _ _ _ hP hS (lv_sub hl [2, 1, 0] rfl)
    · intro v7 hf H locs ls hP hS hl
      refine lv_iload hx hb dX7_parts_49 (lv_at hl 1 rfl) ?_
      refine lv_bipush (v := (36 : Int32)) hx hb dX7_parts_51 (by decide) ?_
      refine lv_icmp_ge (tgt := 61) hx hb dX7_parts_53 (by decide) (fun hc10 => ?_) (fun hc10 => ?_)
      · have hf := (if_pos hc10).symm.trans hf
        refine lv_aload_n hx hb dX7_parts_61 rfl (lv_at hl 0 rfl) ?_
        refine lv_ldc (v := (-1000004 : Int32)) hx hb hown hw0 dX7_parts_62 ?_
        obtain ⟨q11, hq11, hf⟩ := bd_some hf
        refine kr_W (st1 := [.int q11.1]) (va_runV (As := [.int (-1000004 : Int32)]) (rest := []) ⟨hx, hb, hml, hown, hts⟩ (ct_X7_finding l n g q4.2.1 m_kept m_aside m_isKept m_found q4.2.2.1 q4.2.2.2 m_lives m_treads m_tape m_taped m_begins m_ends m_sort m_value m_isWrong m_items m_itemMany m_seedThen m_groundThen m_widths m_sizes m_numbers m_moved (-1000004 : Int32) q11 hq11) (cwV 1 hts gX7_parts_X7_finding rfl rfl rfl hd_X7_finding ⟨Nat.le_of_ble_eq_true rfl, Nat.le_of_ble_eq_true rfl⟩) ⟨bl_M, va_recv hK hP (ci := 5) (q0 := 0) rfl k_md, pr_M rfl hB hP hS⟩ rfl rfl hl.1 rfl (lv_room (Nat.le_of_ble_eq_true rfl)) dX7_parts_64 ⟨Nat.le_refl _, Nat.le_refl _⟩) hS rfl (fun hn12 H locs hP hS => ?_)
        have hP : va_P g.1 vwCl (mw g (q4.2.1, m_kept, m_aside, m_isKept, q11.2, q4.2.2.1, q4.2.2.2, m_lives, m_treads, m_tape, m_taped, m_begins, m_ends, m_sort, m_value, m_isWrong, m_items, m_itemMany, m_seedThen, m_groundThen, m_widths, m_sizes, m_numbers, m_moved)) H := hP
        have hres : (q11.1, q4.2.1, q11.2, q4.2.2.1, q4.2.2.2) = res := (Option.some.inj hf)
        have hP := w_eq (congrArg (fun z => mw g (z.2.1, m_kept, m_aside, m_isKept, z.2.2.1, z.2.2.2.1, z.2.2.2.2, m_lives, m_treads, m_tape, m_taped, m_begins, m_ends, m_sort, m_value, m_isWrong, m_items, m_itemMany, m_seedThen, m_groundThen, m_widths, m_sizes, m_numbers, m_moved)) hres) hP
        exact W.iret (v := q11.1) hx hb hr (fun t ht hW => ⟨congrArg (fun z => Outcome.returned (some (Value.int z.1))) hres, trivial, by rw [ht]; exact hP, hS.F ht⟩) hS.2.2 dX7_parts_67
      · have hf := (if_neg hc10).symm.trans hf
        refine lv_iload hx hb dX7_parts_56 (lv_at hl 1 rfl) ?_
        refine lv_goto (tgt := 67) hx hb dX7_parts_58 (by decide) ?_
        have hres : (v7, q4.2.1, m_found, q4.2.2.1, q4.2.2.2) = res := (Option.some.inj hf)
        have hP := w_eq (congrArg (fun z => mw g (z.2.1, m_kept, m_aside, m_isKept, z.2.2.1, z.2.2.2.1, z.2.2.2.2, m_lives, m_treads, m_tape, m_taped, m_begins, m_ends, m_sort, m_value, m_isWrong, m_items, m_itemMany, m_seedThen, m_groundThen, m_widths, m_sizes, m_numbers, m_moved)) hres) hP
        exact W.iret (v := v7) hx hb hr (fun t ht hW => ⟨congrArg (fun z => Outcome.returned (some (Value.int z.1))) hres, trivial, by rw [ht]; exact hP, hS.F ht⟩) hS.2.2 dX7_parts_67
    · intro s6 r1 hf hback1 hexit1 H locs ls hP hS hl
      refine lv_iload hx hb dX7_parts_25 (lv_at hl 2 rfl) ?_
      refine lv_bipush (v := (36 : Int32)) hx hb dX7_parts_27 (by decide) ?_
      refine lv_icmp_ge (tgt := 49) hx hb dX7_parts_29 (by decide) (fun hc8 => ?_) (fun hc8 => ?_)
      · have hf := (if_pos hc8).symm.trans hf
        exact hexit1 s6 (Option.some.inj hf).symm H locs ls hP hS (lv_sub hl [0, 2] rfl)
      · have hf := (if_neg hc8).symm.trans hf
        refine lv_lload_n hx hb dX7_parts_32 rfl (lv_at hl 1 rfl) ?_
        refine lv_iload hx hb dX7_parts_33 (lv_at hl 2 rfl) ?_
        refine lv_lshr (v := (q4.1 >>> (s6.toInt64 &&& 63))) hx hb dX7_parts_35 rfl ?_
        refine lv_lconst (v := (1 : Int64)) hx hb dX7_parts_36 (by decide) ?_
        refine lv_land hx hb dX7_parts_37 ?_
        refine lv_lconst (v := (0 : Int64)) hx hb dX7_parts_38 (by decide) ?_
        refine W.lcmp hx hb dX7_parts_39 ?_
        refine lv_if_ne (tgt := 49) hx hb dX7_parts_40 (by decide) (fun hc9 => ?_) (fun hc9 => ?_)
        · have hc9 : ¬ (((q4.1 >>> (s6.toInt64 &&& 63)) &&& (1 : Int64)) = (0 : Int64)) := fun h => hc9 ((lg_cmp_eq ((q4.1 >>> (s6.toInt64 &&& 63)) &&& (1 : Int64)) (0 : Int64)).mpr h)
          have hf := (if_neg hc9).symm.trans hf
          exact hexit1 s6 (Option.some.inj hf).symm H locs ls hP hS (lv_sub hl [0, 2] rfl)
        · have hc9 := (lg_cmp_eq ((q4.1 >>> (s6.toInt64 &&& 63)) &&& (1 : Int64)) (0 : Int64)).mp hc9
          have hf := (if_pos hc9).symm.trans hf
          refine lv_iinc (v := (s6 + (1 : Int32))) (lv' := [(5, .int (s6 + (1 : Int32))), (0, .ref (gm g 0)), (3, .long q4.1)]) hx hb dX7_parts_43 hl (k := 2) rfl (congrArg (fun y => s6 + y) (by decide : Int32.ofInt (1) = (1 : Int32))) (by decide) rfl (fun ls hl => ?_)
          refine lv_goto (tgt := 25) hx hb dX7_parts_46 (by decide) ?_
          exact hback1 _ (Option.some.inj hf).symm H locs ls hP hS (lv_sub hl [1, 2, 0] rfl)
  · have hf := (if_pos hc3).symm.trans hf
    refine lv_aload_n hx hb dX7_parts_8 rfl (lv_at hl 0 rfl) ?_
    refine lv_ldc (v := (-1000001 : Int32)) hx hb hown hw1 dX7_parts_9 ?_
    obtain ⟨q13, hq13, hf⟩ := bd_some hf
    refine kr_W (st1 := [.int q13.1]) (va_runV (As := [.int (-1000001 : Int32)]) (rest := []) ⟨hx, hb, hml, hown, hts⟩ (ct_X7_finding l n g m_now m_kept m_aside m_isKept m_found m_steps m_queue m_lives m_treads m_tape m_taped m_begins m_ends m_sort m_value m_isWrong m_items m_itemMany m_seedThen m_groundThen m_widths m_sizes m_numbers m_moved (-1000001 : Int32) q13 hq13) (cwV 1 hts gX7_parts_X7_finding rfl rfl rfl hd_X7_finding ⟨Nat.le_of_ble_eq_true rfl, Nat.le_of_ble_eq_true rfl⟩) ⟨bl_M, va_recv hK hP (ci := 5) (q0 := 0) rfl k_md, pr_M rfl hB hP hS⟩ rfl rfl hl.1 rfl (lv_room (Nat.le_of_ble_eq_true rfl)) dX7_parts_11 ⟨Nat.le_refl _, Nat.le_refl _⟩) hS rfl (fun hn14 H locs hP hS => ?_)
    have hP : va_P g.1 vwCl (mw g (m_now, m_kept, m_aside, m_isKept, q13.2, m_steps, m_queue, m_lives, m_treads, m_tape, m_taped, m_begins, m_ends, m_sort, m_value, m_isWrong, m_items, m_itemMany, m_seedThen, m_groundThen, m_widths, m_sizes, m_numbers, m_moved)) H := hP
    have hres : (q13.1, m_now, q13.2, m_steps, m_queue) = res := (Option.some.inj hf)
    have hP := w_eq (congrArg (fun z => mw g (z.2.1, m_kept, m_aside, m_isKept, z.2.2.1, z.2.2.2.1, z.2.2.2.2, m_lives, m_treads, m_tape, m_taped, m_begins, m_ends, m_sort, m_value, m_isWrong, m_items, m_itemMany, m_seedThen, m_groundThen, m_widths, m_sizes, m_numbers, m_moved)) hres) hP
    exact W.iret (v := q13.1) hx hb hr (fun t ht hW => ⟨congrArg (fun z => Outcome.returned (some (Value.int z.1))) hres, trivial, by rw [ht]; exact hP, hS.F ht⟩) hS.2.2 dX7_parts_14
set_option maxHeartbeats 4000000 in
set_option maxRecDepth 100000 in
theorem ct_X7_bridges (l : Launch) (n : Nat) (g : GM) (m_now : Nat → Int32) (m_kept : Nat → Int32) (m_aside : Nat → Int32) (m_isKept : Int32) (m_found : Nat → Int32) (m_steps : Nat → Int32) (m_queue : Nat → Int32) (m_lives : Nat → Int32) (m_treads : Nat → Int32) (m_tape : Nat → Int32) (m_taped : Int32) (m_begins : Int32) (m_ends : Int32) (m_sort : Int32) (m_value : Int32) (m_isWrong : Int32) (m_items : Nat → Int32) (m_itemMany : Int32) (m_seedThen : Int32) (m_groundThen : Nat → Int32) (m_widths : Nat → Int32) (m_sizes : Nat → Int32) (m_numbers : Nat → Int32) (m_moved : Nat → Int32) (a1 : Int32) (a2 : Int32) (res : Int32 × (Nat → Int32) × (Nat → Int32) × (Nat → Int32) × (Nat → Int32)) (hf : fX7_bridges n a1 a2 m_now m_found m_steps m_queue = some res) : Met l yX7_bridges wsX7_bridges ({ frames := 4, cells := 0, slots := 0, locals := 94 }) (va_Pc [.ref (gm g 0), .int a1, .int a2] (mI g (m_now, m_kept, m_aside, m_isKept, m_found, m_steps, m_queue, m_lives, m_treads, m_tape, m_taped, m_begins, m_ends, m_sort, m_value, m_isWrong, m_items, m_itemMany, m_seedThen, m_groundThen, m_widths, m_sizes, m_numbers, m_moved))) (qW (some (.int res.1)) True g.1 (mw g (res.2.1, m_kept, m_aside, m_isKept, res.2.2.1, res.2.2.2.1, res.2.2.2.2, m_lives, m_treads, m_tape, m_taped, m_begins, m_ends, m_sort, m_value, m_isWrong, m_items, m_itemMany, m_seedThen, m_groundThen, m_widths, m_sizes, m_numbers, m_moved)) (mA g)) 0 0 (mA g) := by
  refine Met.ofW (cc := cX7_bridges) (maxL := 6) (ret := (some .int)) (by decide) rfl ?_
  intro p e s m args below meth c s₁ B hml hv
  obtain ⟨rfl, hI⟩ := hv
  have hx := B.exec
  have hb := B.bytes
  have hr := B.returns
  have hts := atoms_spec (ws := wsX7_bridges) B.pre
  have hown : s.vm.findClass RX7 = some m.cls := findClass_of_methodNamed B.named
  have hlocks := B.notSynchronized
  have hP := hI.1
  have hB := hI.2
  have hK := hB.1
  have hNW := hB.2.1
  have hS : va_S (mA g) s.heap s.heap [] := va_S.rf
  have hw0 := hts (.constant RX7 95 (-1000001)) (by decide +kernel)
  have hl := lv_entry ([.ref (gm g 0), .int a1, .int a2]) (n := 6) (Nat.le_of_ble_eq_true rfl)
  rw [lg_entry_eq]
  generalize (lg_sl ([.ref (gm g 0), .int a1, .int a2]) ++ List.replicate (6 - (lg_sl ([.ref (gm g 0), .int a1, .int a2])).length) Slot.unset).toArray = ls at hl ⊢
  have hl : lv_has ls 6 [(0, .ref (gm g 0)), (1, .int a1), (2, .int a2)] := hl
  unfold fX7_bridges at hf
  refine lv_iload_n hx hb dX7_bridges_0 rfl (lv_at hl 1 rfl) ?_
  refine lv_iload_n hx hb dX7_bridges_1 rfl (lv_at hl 2 rfl) ?_
  obtain ⟨q1, hq1, hf⟩ := bd_some hf
  refine kr_S (st1 := [.int q1]) (va_runS (As := [.int a1, .int a2]) (rest := []) ⟨hx, hb, hml, hown, hts⟩ (ct_X7_areCells l n a1 a2 q1 hq1) (va_cwS 2 hts gX7_bridges_X7_areCells rfl rfl rfl hn_X7_areCells ⟨Nat.le_of_ble_eq_true rfl, Nat.le_of_ble_eq_true rfl⟩) ⟨bl_N, pr_N rfl hNW⟩ rfl rfl hl.1 rfl (lv_room (Nat.le_of_ble_eq_true rfl)) dX7_bridges_2 ⟨Nat.le_refl _, Nat.le_refl _⟩) rfl (fun hn2 => ?_)
  refine lv_if_ne (tgt := 15) hx hb dX7_bridges_5 (by decide) (fun hc3 => ?_) (fun hc3 => ?_)
  · have hf := (if_neg hc3).symm.trans hf
    refine lv_iconst (v := (0 : Int32)) hx hb dX7_bridges_15 (by decide) ?_
    refine lv_istore_n (lv' := [(3, .int (0 : Int32)), (0, .ref (gm g 0)), (1, .int a1), (2, .int a2)]) hx hb dX7_bridges_16 rfl hl (by decide) rfl (fun ls hl => ?_)
    refine lv_aload_n hx hb dX7_bridges_17 rfl (lv_at hl 1 rfl) ?_
    refine lv_iload_n hx hb dX7_bridges_18 rfl (lv_at hl 2 rfl) ?_
    refine lv_iload_n hx hb dX7_bridges_19 rfl (lv_at hl 3 rfl) ?_
    obtain ⟨q4, hq4, hf⟩ := bd_some hf
    refine kr_W (st1 := [.long q4.1]) (va_runV (As := [.int a1, .int a2]) (rest := []) ⟨hx, hb, hml, hown, hts⟩ (ct_X7_bridgesOf l n g m_now m_kept m_aside m_isKept m_found m_steps m_queue m_lives m_treads m_tape m_taped m_begins m_ends m_sort m_value m_isWrong m_items m_itemMany m_seedThen m_groundThen m_widths m_sizes m_numbers m_moved a1 a2 q4 hq4) (cwV 2 hts gX7_bridges_X7_bridgesOf rfl rfl rfl hd_X7_bridgesOf ⟨Nat.le_of_ble_eq_true rfl, Nat.le_of_ble_eq_true rfl⟩) ⟨bl_M, va_recv hK hP (ci := 5) (q0 := 0) rfl k_md, pr_M rfl hB hP hS⟩ rfl rfl hl.1 rfl (lv_room (Nat.le_of_ble_eq_true rfl)) dX7_bridges_20 ⟨Nat.le_refl _, Nat.le_refl _⟩) hS rfl (fun hn5 H locs hP hS => ?_)
    have hP : va_P g.1 vwCl (mw g (q4.2.1, m_kept, m_aside, m_isKept, m_found, q4.2.2.1, q4.2.2.2, m_lives, m_treads, m_tape, m_taped, m_begins, m_ends, m_sort, m_value, m_isWrong, m_items, m_itemMany, m_seedThen, m_groundThen, m_widths, m_sizes, m_numbers, m_moved)) H := hP
    refine lv_lstore (lv' := [(4, .long q4.1), (3, .int (0 : Int32)), (0, .ref (gm g 0)), (1, .int a1), (2, .int a2)]) hx hb dX7_bridges_23 hl (by decide) rfl (fun ls hl => ?_)
    refine lp_run hf (fun s6 => ∀ (H : Heap) (locs : List Loc) (ls : Array Slot), va_P g.1 vwCl (mw g (q4.2.1, m_kept, m_aside, m_isKept, m_found, q4.2.2.1, q4.2.2.2, m_lives, m_treads, m_tape, m_taped, m_begins, m_ends, m_sort, m_value, m_isWrong, m_items, m_itemMany, m_seedThen, m_groundThen, m_widths, m_sizes, m_numbers, m_moved)) H → va_S (mA g) s.heap H locs → lv_has ls 6 [(3, .int s6.1), (4, .long s6.2)] → W p l e (headSpec wsX7_bridges ({ frames := 4, cells := 0, slots := 0, locals := 94 })).room s m ([.ref (gm g 0), .int a1, .int a2] : List Value).toArray below meth c H locs 0 0 (MQ below (qW (some (.int res.1)) True g.1 (mw g (res.2.1, m_kept, m_aside, m_isKept, res.2.2.1, res.2.2.2.1, res.2.2.2.2, m_lives, m_treads, m_tape, m_taped, m_begins, m_ends, m_sort, m_value, m_isWrong, m_items, m_itemMany, m_seedThen, m_groundThen, m_widths, m_sizes, m_numbers, m_moved)) (mA g)) ([.ref (gm g 0), .int a1, .int a2] : List Value).toArray s 0 0 (mA g)) (F0 m 25 ls [])) (fun v7 => ∀ (H : Heap) (locs : List Loc) (ls : Array Slot), va_P g.1 vwCl (mw g (q4.2.1, m_kept, m_aside, m_isKept, m_found, q4.2.2.1, q4.2.2.2, m_lives, m_treads, m_tape, m_taped, m_begins, m_ends, m_sort, m_value, m_isWrong, m_items, m_itemMany, m_seedThen, m_groundThen, m_widths, m_sizes, m_numbers, m_moved)) H → va_S (mA g) s.heap H locs → lv_has ls 6 [(3, .int v7.1)] → W p l e (headSpec wsX7_bridges ({ frames := 4, cells := 0, slots := 0, locals := 94 })).room s m ([.ref (gm g 0), .int a1, .int a2] : List Value).toArray below meth c H locs 0 0 (MQ below (qW (some (.int res.1)) True g.1 (mw g (res.2.1, m_kept, m_aside, m_isKept, res.2.2.1, res.2.2.2.1, res.2.2.2.2, m_lives, m_treads, m_tape, m_taped, m_begins, m_ends, m_sort, m_value, m_isWrong, m_items, m_itemMany, m_seedThen, m_groundThen, m_widths, m_sizes, m_numbers, m_moved)) (mA g)) ([.ref (gm g 0), .int a1, .int a2] : List Value).toArray s 0 0 (mA g)) (F0 m 47 ls [])) ?_ ?_ _ _ _ hP hS (lv_sub hl [1, 0] rfl)
    · intro v7 hf H locs ls hP hS hl
      refine lv_iload_n hx hb dX7_bridges_47 rfl (lv_at hl 0 rfl) ?_
      have hres : (v7.1, q4.2.1, m_found, q4.2.2.1, q4.2.2.2) = res := (Option.some.inj hf)
      have hP := w_eq (congrArg (fun z => mw g (z.2.1, m_kept, m_aside, m_isKept, z.2.2.1, z.2.2.2.1, z.2.2.2.2, m_lives, m_treads, m_tape, m_taped, m_begins, m_ends, m_sort, m_value, m_isWrong, m_items, m_itemMany, m_seedThen, m_groundThen, m_widths, m_sizes, m_numbers, m_moved)) hres) hP
      exact W.iret (v := v7.1) hx hb hr (fun t ht hW => ⟨congrArg (fun z => Outcome.returned (some (Value.int z.1))) hres, trivial, by rw [ht]; exact hP, hS.F ht⟩) hS.2.2 dX7_bridges_48
    · intro s6 r1 hf hback1 hexit1 H locs ls hP hS hl
      refine lv_lload hx hb dX7_bridges_25 (lv_at hl 1 rfl) ?_
      refine lv_lconst (v := (0 : Int64)) hx hb dX7_bridges_27 (by decide) ?_
      refine W.lcmp hx hb dX7_bridges_28 ?_
      refine lv_if_eq (tgt := 47) hx hb dX7_bridges_29 (by decide) (fun hc8 => ?_) (fun hc8 => ?_)
      · have hc8 := (lg_cmp_eq s6.2 (0 : Int64)).mp hc8
        have hf := (if_pos hc8).symm.trans hf
        exact hexit1 (s6.1, s6.2) (Option.some.inj hf).symm H locs ls hP hS (lv_sub hl [0] rfl)
      · have hc8 : ¬ (s6.2 = (0 : Int64)) := fun h => hc8 ((lg_cmp_eq s6.2 (0 : Int64)).mpr h)
        have hf := (if_neg hc8).symm.trans hf
        refine lv_iinc (v := (s6.1 + (1 : Int32))) (lv' := [(3, .int (s6.1 + (1 : Int32))), (4, .long s6.2)]) hx hb dX7_bridges_32 hl (k := 0) rfl (congrArg (fun y => s6.1 + y) (by decide : Int32.ofInt (1) = (1 : Int32))) (by decide) rfl (fun ls hl => ?_)
        refine lv_lload hx hb dX7_bridges_35 (lv_at hl 1 rfl) ?_
        refine lv_lload hx hb dX7_bridges_37 (lv_at hl 1 rfl) ?_
        refine lv_lconst (v := (1 : Int64)) hx hb dX7_bridges_39 (by decide) ?_
        refine lv_lsub hx hb dX7_bridges_40 ?_
        refine lv_land hx hb dX7_bridges_41 ?_
        refine lv_lstore (lv' := [(4, .long (s6.2 &&& (s6.2 - (1 : Int64)))), (3, .int (s6.1 + (1 : Int32)))]) hx hb dX7_bridges_42 hl (by decide) rfl (fun ls hl => ?_)
        refine lv_goto (tgt := 25) hx hb dX7_bridges_44 (by decide) ?_
        exact hback1 _ (Option.some.inj hf).symm H locs ls hP hS (lv_sub hl [1, 0] rfl)
  · have hf := (if_pos hc3).symm.trans hf
    refine lv_aload_n hx hb dX7_bridges_8 rfl (lv_at hl 0 rfl) ?_
    refine lv_ldc (v := (-1000001 : Int32)) hx hb hown hw0 dX7_bridges_9 ?_
    obtain ⟨q9, hq9, hf⟩ := bd_some hf
    refine kr_W (st1 := [.int q9.1]) (va_runV (As := [.int (-1000001 : Int32)]) (rest := []) ⟨hx, hb, hml, hown, hts⟩ (ct_X7_finding l n g m_now m_kept m_aside m_isKept m_found m_steps m_queue m_lives m_treads m_tape m_taped m_begins m_ends m_sort m_value m_isWrong m_items m_itemMany m_seedThen m_groundThen m_widths m_sizes m_numbers m_moved (-1000001 : Int32) q9 hq9) (cwV 1 hts gX7_bridges_X7_finding rfl rfl rfl hd_X7_finding ⟨Nat.le_of_ble_eq_true rfl, Nat.le_of_ble_eq_true rfl⟩) ⟨bl_M, va_recv hK hP (ci := 5) (q0 := 0) rfl k_md, pr_M rfl hB hP hS⟩ rfl rfl hl.1 rfl (lv_room (Nat.le_of_ble_eq_true rfl)) dX7_bridges_11 ⟨Nat.le_refl _, Nat.le_refl _⟩) hS rfl (fun hn10 H locs hP hS => ?_)
    have hP : va_P g.1 vwCl (mw g (m_now, m_kept, m_aside, m_isKept, q9.2, m_steps, m_queue, m_lives, m_treads, m_tape, m_taped, m_begins, m_ends, m_sort, m_value, m_isWrong, m_items, m_itemMany, m_seedThen, m_groundThen, m_widths, m_sizes, m_numbers, m_moved)) H := hP
    have hres : (q9.1, m_now, q9.2, m_steps, m_queue) = res := (Option.some.inj hf)
    have hP := w_eq (congrArg (fun z => mw g (z.2.1, m_kept, m_aside, m_isKept, z.2.2.1, z.2.2.2.1, z.2.2.2.2, m_lives, m_treads, m_tape, m_taped, m_begins, m_ends, m_sort, m_value, m_isWrong, m_items, m_itemMany, m_seedThen, m_groundThen, m_widths, m_sizes, m_numbers, m_moved)) hres) hP
    exact W.iret (v := q9.1) hx hb hr (fun t ht hW => ⟨congrArg (fun z => Outcome.returned (some (Value.int z.1))) hres, trivial, by rw [ht]; exact hP, hS.F ht⟩) hS.2.2 dX7_bridges_14
set_option maxHeartbeats 4000000 in
set_option maxRecDepth 100000 in
theorem ct_X7_lessens (l : Launch) (n : Nat) (g : GM) (m_now : Nat → Int32) (m_kept : Nat → Int32) (m_aside : Nat → Int32) (m_isKept : Int32) (m_found : Nat → Int32) (m_steps : Nat → Int32) (m_queue : Nat → Int32) (m_lives : Nat → Int32) (m_treads : Nat → Int32) (m_tape : Nat → Int32) (m_taped : Int32) (m_begins : Int32) (m_ends : Int32) (m_sort : Int32) (m_value : Int32) (m_isWrong : Int32) (m_items : Nat → Int32) (m_itemMany : Int32) (m_seedThen : Int32) (m_groundThen : Nat → Int32) (m_widths : Nat → Int32) (m_sizes : Nat → Int32) (m_numbers : Nat → Int32) (m_moved : Nat → Int32) (a1 : Int32) (res : Int32 × (Nat → Int32)) (hf : fX7_lessens n a1 m_now m_steps = some res) : Met l yX7_lessens wsX7_lessens ({ frames := 1, cells := 0, slots := 0, locals := 21 }) (va_Pc [.ref (gm g 0), .int a1] (mI g (m_now, m_kept, m_aside, m_isKept, m_found, m_steps, m_queue, m_lives, m_treads, m_tape, m_taped, m_begins, m_ends, m_sort, m_value, m_isWrong, m_items, m_itemMany, m_seedThen, m_groundThen, m_widths, m_sizes, m_numbers, m_moved))) (qW (some (.int res.1)) (narrow .boolean (.int res.1) = .int res.1) g.1 (mw g (m_now, m_kept, m_aside, m_isKept, m_found, res.2, m_queue, m_lives, m_treads, m_tape, m_taped, m_begins, m_ends, m_sort, m_value, m_isWrong, m_items, m_itemMany, m_seedThen, m_groundThen, m_widths, m_sizes, m_numbers, m_moved)) (mA g)) 0 0 (mA g) := by
  refine Met.ofW (cc := cX7_lessens) (maxL := 6) (ret := (some .boolean)) (by decide) rfl ?_
  intro p e s m args below meth c s₁ B hml hv
  obtain ⟨rfl, hI⟩ := hv
  have hx := B.exec
  have hb := B.bytes
  have hr := B.returns
  have hts := atoms_spec (ws := wsX7_lessens) B.pre
  have hown : s.vm.findClass RX7 = some m.cls := findClass_of_methodNamed B.named
  have hlocks := B.notSynchronized
  have hP := hI.1
  have hB := hI.2
  have hK := hB.1
  have hNW := hB.2.1
  have hS : va_S (mA g) s.heap s.heap [] := va_S.rf
  have hw0 := hts (.fieldLink RX7 22 "SownPathsModel" "steps" "[I") (by decide +kernel)
  have iwX7 : ∀ w ∈ wsX70, w ∈ wsX7_lessens := fun w h => List.mem_cons_of_mem _ (List.mem_append_right _ h)
  have hl := lv_entry ([.ref (gm g 0), .int a1]) (n := 6) (Nat.le_of_ble_eq_true rfl)
  rw [lg_entry_eq]
  generalize (lg_sl ([.ref (gm g 0), .int a1]) ++ List.replicate (6 - (lg_sl ([.ref (gm g 0), .int a1])).length) Slot.unset).toArray = ls at hl ⊢
  have hl : lv_has ls 6 [(0, .ref (gm g 0)), (1, .int a1)] := hl
  unfold fX7_lessens at hf
  refine lv_iconst (v := (0 : Int32)) hx hb dX7_lessens_0 (by decide) ?_
  refine lv_istore_n (lv' := [(2, .int (0 : Int32)), (0, .ref (gm g 0)), (1, .int a1)]) hx hb dX7_lessens_1 rfl hl (by decide) rfl (fun ls hl => ?_)
  refine lv_iconst (v := (0 : Int32)) hx hb dX7_lessens_2 (by decide) ?_
  refine lv_istore_n (lv' := [(3, .int (0 : Int32)), (2, .int (0 : Int32)), (0, .ref (gm g 0)), (1, .int a1)]) hx hb dX7_lessens_3 rfl hl (by decide) rfl (fun ls hl => ?_)
  refine lp_run hf (fun s1 => ∀ (H : Heap) (locs : List Loc) (ls : Array Slot), va_P g.1 vwCl (mw g (m_now, m_kept, m_aside, m_isKept, m_found, s1.2.2, m_queue, m_lives, m_treads, m_tape, m_taped, m_begins, m_ends, m_sort, m_value, m_isWrong, m_items, m_itemMany, m_seedThen, m_groundThen, m_widths, m_sizes, m_numbers, m_moved)) H → va_S (mA g) s.heap H locs → lv_has ls 6 [(0, .ref (gm g 0)), (1, .int a1), (2, .int s1.1), (3, .int s1.2.1)] → W p l e (headSpec wsX7_lessens ({ frames := 1, cells := 0, slots := 0, locals := 21 })).room s m ([.ref (gm g 0), .int a1] : List Value).toArray below meth c H locs 0 0 (MQ below (qW (some (.int res.1)) (narrow .boolean (.int res.1) = .int res.1) g.1 (mw g (m_now, m_kept, m_aside, m_isKept, m_found, res.2, m_queue, m_lives, m_treads, m_tape, m_taped, m_begins, m_ends, m_sort, m_value, m_isWrong, m_items, m_itemMany, m_seedThen, m_groundThen, m_widths, m_sizes, m_numbers, m_moved)) (mA g)) ([.ref (gm g 0), .int a1] : List Value).toArray s 0 0 (mA g)) (F0 m 4 ls [])) (fun v2 => ∀ (H : Heap) (locs : List Loc) (ls : Array Slot), va_P g.1 vwCl (mw g (m_now, m_kept, m_aside, m_isKept, m_found, v2.2.2, m_queue, m_lives, m_treads, m_tape, m_taped, m_begins, m_ends, m_sort, m_value, m_isWrong, m_items, m_itemMany, m_seedThen, m_groundThen, m_widths, m_sizes, m_numbers, m_moved)) H → va_S (mA g) s.heap H locs → lv_has ls 6 [(2, .int v2.1)] → W p l e (headSpec wsX7_lessens ({ frames := 1, cells := 0, slots := 0, locals := 21 })).room s m ([.ref (gm g 0), .int a1] : List Value).toArray below meth c H locs 0 0 (MQ below (qW (some (.int res.1)) (narrow .boolean (.int res.1) = .int res.1) g.1 (mw g (m_now, m_kept, m_aside, m_isKept, m_found, res.2, m_queue, m_lives, m_treads, m_tape, m_taped, m_begins, m_ends, m_sort, m_value, m_isWrong, m_items, m_itemMany, m_seedThen, m_groundThen, m_widths, m_sizes, m_numbers, m_moved)) (mA g)) ([.ref (gm g 0), .int a1] : List Value).toArray s 0 0 (mA g)) (F0 m 92 ls [])) ?_ ?_ _ _ _ hP hS (lv_sub hl [2, 3, 1, 0] rfl)
  · intro v2 hf H locs ls hP hS hl
    refine lv_iload_n hx hb dX7_lessens_92 rfl (lv_at hl 0 rfl) ?_
    obtain ⟨hg32, hf⟩ := gd_some hf
    have hres : (v2.1, v2.2.2) = res := (Option.some.inj hf)
    have hnr : narrow .boolean (.int v2.1) = .int v2.1 := (nar01 hg32)
    have hP := w_eq (congrArg (fun z => mw g (m_now, m_kept, m_aside, m_isKept, m_found, z.2, m_queue, m_lives, m_treads, m_tape, m_taped, m_begins, m_ends, m_sort, m_value, m_isWrong, m_items, m_itemMany, m_seedThen, m_groundThen, m_widths, m_sizes, m_numbers, m_moved)) hres) hP
    exact W.zret (v := v2.1) hx hb hr hnr (fun t ht hW => ⟨congrArg (fun z => Outcome.returned (some (Value.int z.1))) hres, Eq.mp (congrArg (fun z => narrow .boolean (.int z.1) = .int z.1) hres) hnr, by rw [ht]; exact hP, hS.F ht⟩) hS.2.2 dX7_lessens_93
  · intro s1 r1 hf hback1 hexit1 H locs ls hP hS hl
    refine lv_iload_n hx hb dX7_lessens_4 rfl (lv_at hl 3 rfl) ?_
    refine lv_iconst (v := (4 : Int32)) hx hb dX7_lessens_5 (by decide) ?_
    refine lv_icmp_ge (tgt := 92) hx hb dX7_lessens_6 (by decide) (fun hc3 => ?_) (fun hc3 => ?_)
    · have hf := (if_pos hc3).symm.trans hf
      exact hexit1 (s1.1, s1.2.1, s1.2.2) (Option.some.inj hf).symm H locs ls hP hS (lv_sub hl [2] rfl)
    · have hf := (if_neg hc3).symm.trans hf
      refine lv_iload_n hx hb dX7_lessens_9 rfl (lv_at hl 1 rfl) ?_
      refine lv_iload_n hx hb dX7_lessens_10 rfl (lv_at hl 3 rfl) ?_
      obtain ⟨q4, hq4, hf⟩ := bd_some hf
      refine kr_S (st1 := [.int q4]) (va_runS (As := [.int a1, .int s1.2.1]) (rest := []) ⟨hx, hb, hml, hown, hts⟩ (ct_X7_beside l n a1 s1.2.1 q4 hq4) (va_cwS 2 hts gX7_lessens_X7_beside rfl rfl rfl hn_X7_beside ⟨Nat.le_of_ble_eq_true rfl, Nat.le_of_ble_eq_true rfl⟩) ⟨bl_N, pr_N rfl hNW⟩ rfl rfl hl.1 rfl (lv_room (Nat.le_of_ble_eq_true rfl)) dX7_lessens_11 ⟨Nat.le_refl _, Nat.le_refl _⟩) rfl (fun hn5 => ?_)
      refine lv_istore (lv' := [(4, .int q4), (0, .ref (gm g 0)), (1, .int a1), (2, .int s1.1), (3, .int s1.2.1)]) hx hb dX7_lessens_14 hl (by decide) rfl (fun ls hl => ?_)
      refine lv_iload hx hb dX7_lessens_16 (lv_at hl 0 rfl) ?_
      refine lv_if_ge (tgt := 26) hx hb dX7_lessens_18 (by decide) (fun hc6 => ?_) (fun hc6 => ?_)
      · have hf := (if_pos hc6).symm.trans hf
        refine lv_aload_n hx hb dX7_lessens_26 rfl (lv_at hl 1 rfl) ?_
        refine va_get (D := g.1) (ci := 5) (v := .ref (gm g 5)) (C := RX7) (T := TX7) (N := 27) hx hb hts iwX7 hown hK hP 0 k_md rfl 5 (by decide) hw0 (fun _ h9 => h9) rfl dX7_lessens_27 ?_
        refine lv_iload_n hx hb dX7_lessens_30 rfl (lv_at hl 2 rfl) ?_
        obtain ⟨hg7, hf⟩ := gd_some hf
        refine va_iald (f := s1.2.2) hx hb hK hP 5 0 k_steps rfl hg7 dX7_lessens_31 ?_
        refine lv_aload_n hx hb dX7_lessens_32 rfl (lv_at hl 1 rfl) ?_
        refine lv_iload hx hb dX7_lessens_33 (lv_at hl 0 rfl) ?_
        obtain ⟨q8, hq8, hf⟩ := bd_some hf
        refine kr_S (st1 := [.int q8, .int (s1.2.2 a1.toNatClampNeg)]) (va_runV (As := [.int q4]) (rest := [.int (s1.2.2 a1.toNatClampNeg)]) ⟨hx, hb, hml, hown, hts⟩ (ct_X7_hasPath l n g m_now m_kept m_aside m_isKept m_found s1.2.2 m_queue m_lives m_treads m_tape m_taped m_begins m_ends m_sort m_value m_isWrong m_items m_itemMany m_seedThen m_groundThen m_widths m_sizes m_numbers m_moved q4 q8 hq8) (cwV 1 hts gX7_lessens_X7_hasPath rfl rfl rfl hd_X7_hasPath ⟨Nat.le_of_ble_eq_true rfl, Nat.le_of_ble_eq_true rfl⟩) ⟨bl_M, va_recv hK hP (ci := 5) (q0 := 0) rfl k_md, pr_M rfl hB hP hS⟩ rfl rfl hl.1 rfl (lv_room (Nat.le_of_ble_eq_true rfl)) dX7_lessens_35 ⟨Nat.le_refl _, Nat.le_refl _⟩) rfl (fun hn9 => ?_)
        refine lv_if_eq (tgt := 45) hx hb dX7_lessens_38 (by decide) (fun hc10 => ?_) (fun hc10 => ?_)
        · have hf := (if_pos hc10).symm.trans hf
          refine lv_iconst (v := (1 : Int32)) hx hb dX7_lessens_45 (by decide) ?_
          refine lv_iadd hx hb dX7_lessens_46 ?_
          refine lv_istore (lv' := [(5, .int ((s1.2.2 a1.toNatClampNeg) + (1 : Int32))), (4, .int q4), (0, .ref (gm g 0)), (1, .int a1), (2, .int s1.1), (3, .int s1.2.1)]) hx hb dX7_lessens_47 hl (by decide) rfl (fun ls hl => ?_)
          refine lv_iload hx hb dX7_lessens_49 (lv_at hl 1 rfl) ?_
          refine lv_if_lt (tgt := 86) hx hb dX7_lessens_51 (by decide) (fun hc11 => ?_) (fun hc11 => ?_)
          · have hf := (if_pos hc11).symm.trans hf
            refine lv_iinc (v := (s1.2.1 + (1 : Int32))) (lv' := [(3, .int (s1.2.1 + (1 : Int32))), (5, .int ((s1.2.2 a1.toNatClampNeg) + (1 : Int32))), (4, .int q4), (0, .ref (gm g 0)), (1, .int a1), (2, .int s1.1)]) hx hb dX7_lessens_86 hl (k := 5) rfl (congrArg (fun y => s1.2.1 + y) (by decide : Int32.ofInt (1) = (1 : Int32))) (by decide) rfl (fun ls hl => ?_)
            refine lv_goto (tgt := 4) hx hb dX7_lessens_89 (by decide) ?_
            exact hback1 _ (Option.some.inj hf).symm H locs ls hP hS (lv_sub hl [3, 4, 5, 0] rfl)
          · have hf := (if_neg hc11).symm.trans hf
            refine lv_aload_n hx hb dX7_lessens_54 rfl (lv_at hl 2 rfl) ?_
            refine lv_iload hx hb dX7_lessens_55 (lv_at hl 1 rfl) ?_
            obtain ⟨q12, hq12, hf⟩ := bd_some hf
            refine kr_S (st1 := [.int q12]) (va_runV (As := [.int q4]) (rest := []) ⟨hx, hb, hml, hown, hts⟩ (ct_X7_isGrass l n g m_now m_kept m_aside m_isKept m_found s1.2.2 m_queue m_lives m_treads m_tape m_taped m_begins m_ends m_sort m_value m_isWrong m_items m_itemMany m_seedThen m_groundThen m_widths m_sizes m_numbers m_moved q4 q12 hq12) (cwV 1 hts gX7_lessens_X7_isGrass rfl rfl rfl hd_X7_isGrass ⟨Nat.le_of_ble_eq_true rfl, Nat.le_of_ble_eq_true rfl⟩) ⟨bl_M, va_recv hK hP (ci := 5) (q0 := 0) rfl k_md, pr_M rfl hB hP hS⟩ rfl rfl hl.1 rfl (lv_room (Nat.le_of_ble_eq_true rfl)) dX7_lessens_57 ⟨Nat.le_refl _, Nat.le_refl _⟩) rfl (fun hn13 => ?_)
            refine lv_if_eq (tgt := 86) hx hb dX7_lessens_60 (by decide) (fun hc14 => ?_) (fun hc14 => ?_)
            · have hf := (if_pos hc14).symm.trans hf
              refine lv_iinc (v := (s1.2.1 + (1 : Int32))) (lv' := [(3, .int (s1.2.1 + (1 : Int32))), (5, .int ((s1.2.2 a1.toNatClampNeg) + (1 : Int32))), (4, .int q4), (0, .ref (gm g 0)), (1, .int a1), (2, .int s1.1)]) hx hb dX7_lessens_86 hl (k := 5) rfl (congrArg (fun y => s1.2.1 + y) (by decide : Int32.ofInt (1) = (1 : Int32))) (by decide) rfl (fun ls hl => ?_)
              refine lv_goto (tgt := 4) hx hb dX7_lessens_89 (by decide) ?_
              exact hback1 _ (Option.some.inj hf).symm H locs ls hP hS (lv_sub hl [3, 4, 5, 0] rfl)
            · have hf := (if_neg hc14).symm.trans hf
              refine lv_iload hx hb dX7_lessens_63 (lv_at hl 0 rfl) ?_
              refine lv_aload_n hx hb dX7_lessens_65 rfl (lv_at hl 2 rfl) ?_
              refine va_get (D := g.1) (ci := 5) (v := .ref (gm g 5)) (C := RX7) (T := TX7) (N := 27) hx hb hts iwX7 hown hK hP 0 k_md rfl 5 (by decide) hw0 (fun _ h9 => h9) rfl dX7_lessens_66 ?_
              refine lv_iload hx hb dX7_lessens_69 (lv_at hl 1 rfl) ?_
              obtain ⟨hg15, hf⟩ := gd_some hf
              refine va_iald (f := s1.2.2) hx hb hK hP 5 0 k_steps rfl hg15 dX7_lessens_71 ?_
              refine lv_icmp_ge (tgt := 86) hx hb dX7_lessens_72 (by decide) (fun hc16 => ?_) (fun hc16 => ?_)
              · have hf := (if_pos hc16).symm.trans hf
                refine lv_iinc (v := (s1.2.1 + (1 : Int32))) (lv' := [(3, .int (s1.2.1 + (1 : Int32))), (5, .int ((s1.2.2 a1.toNatClampNeg) + (1 : Int32))), (4, .int q4), (0, .ref (gm g 0)), (1, .int a1), (2, .int s1.1)]) hx hb dX7_lessens_86 hl (k := 5) rfl (congrArg (fun y => s1.2.1 + y) (by decide : Int32.ofInt (1) = (1 : Int32))) (by decide) rfl (fun ls hl => ?_)
                refine lv_goto (tgt := 4) hx hb dX7_lessens_89 (by decide) ?_
                exact hback1 _ (Option.some.inj hf).symm H locs ls hP hS (lv_sub hl [3, 4, 5, 0] rfl)
              · have hf := (if_neg hc16).symm.trans hf
                refine lv_aload_n hx hb dX7_lessens_75 rfl (lv_at hl 2 rfl) ?_
                refine va_get (D := g.1) (ci := 5) (v := .ref (gm g 5)) (C := RX7) (T := TX7) (N := 27) hx hb hts iwX7 hown hK hP 0 k_md rfl 5 (by decide) hw0 (fun _ h9 => h9) rfl dX7_lessens_76 ?_
                refine lv_iload hx hb dX7_lessens_79 (lv_at hl 1 rfl) ?_
                refine lv_iload hx hb dX7_lessens_81 (lv_at hl 0 rfl) ?_
                obtain ⟨hg17, hf⟩ := gd_some hf
                refine va_iast (f := s1.2.2) hx hb hK hP (mD hB.2.2.1 _) hS 5 0 k_steps rfl hg17 dX7_lessens_83 (fun H locs hP _ hS => ?_)
                have hP : va_P g.1 vwCl (mw g (m_now, m_kept, m_aside, m_isKept, m_found, (upd s1.2.2 q4.toNatClampNeg ((s1.2.2 a1.toNatClampNeg) + (1 : Int32))), m_queue, m_lives, m_treads, m_tape, m_taped, m_begins, m_ends, m_sort, m_value, m_isWrong, m_items, m_itemMany, m_seedThen, m_groundThen, m_widths, m_sizes, m_numbers, m_moved)) H := w_eq (k_set_steps (upd s1.2.2 q4.toNatClampNeg ((s1.2.2 a1.toNatClampNeg) + (1 : Int32)))) hP
                refine lv_iconst (v := (1 : Int32)) hx hb dX7_lessens_84 (by decide) ?_
                refine lv_istore_n (lv' := [(2, .int (1 : Int32)), (5, .int ((s1.2.2 a1.toNatClampNeg) + (1 : Int32))), (4, .int q4), (0, .ref (gm g 0)), (1, .int a1), (3, .int s1.2.1)]) hx hb dX7_lessens_85 rfl hl (by decide) rfl (fun ls hl => ?_)
                refine lv_iinc (v := (s1.2.1 + (1 : Int32))) (lv' := [(3, .int (s1.2.1 + (1 : Int32))), (2, .int (1 : Int32)), (5, .int ((s1.2.2 a1.toNatClampNeg) + (1 : Int32))), (4, .int q4), (0, .ref (gm g 0)), (1, .int a1)]) hx hb dX7_lessens_86 hl (k := 5) rfl (congrArg (fun y => s1.2.1 + y) (by decide : Int32.ofInt (1) = (1 : Int32))) (by decide) rfl (fun ls hl => ?_)
                refine lv_goto (tgt := 4) hx hb dX7_lessens_89 (by decide) ?_
                exact hback1 _ (Option.some.inj hf).symm H locs ls hP hS (lv_sub hl [4, 5, 1, 0] rfl)
        · have hf := (if_neg hc10).symm.trans hf
          refine lv_iconst (v := (0 : Int32)) hx hb dX7_lessens_41 (by decide) ?_
          refine lv_goto (tgt := 46) hx hb dX7_lessens_42 (by decide) ?_
          refine lv_iadd hx hb dX7_lessens_46 ?_
          refine lv_istore (lv' := [(5, .int ((s1.2.2 a1.toNatClampNeg) + (0 : Int32))), (4, .int q4), (0, .ref (gm g 0)), (1, .int a1), (2, .int s1.1), (3, .int s1.2.1)]) hx hb dX7_lessens_47 hl (by decide) rfl (fun ls hl => ?_)
          refine lv_iload hx hb dX7_lessens_49 (lv_at hl 1 rfl) ?_
          refine lv_if_lt (tgt := 86) hx hb dX7_lessens_51 (by decide) (fun hc18 => ?_) (fun hc18 => ?_)
          · have hf := (if_pos hc18).symm.trans hf
            refine lv_iinc (v := (s1.2.1 + (1 : Int32))) (lv' := [(3, .int (s1.2.1 + (1 : Int32))), (5, .int ((s1.2.2 a1.toNatClampNeg) + (0 : Int32))), (4, .int q4), (0, .ref (gm g 0)), (1, .int a1), (2, .int s1.1)]) hx hb dX7_lessens_86 hl (k := 5) rfl (congrArg (fun y => s1.2.1 + y) (by decide : Int32.ofInt (1) = (1 : Int32))) (by decide) rfl (fun ls hl => ?_)
            refine lv_goto (tgt := 4) hx hb dX7_lessens_89 (by decide) ?_
            exact hback1 _ (Option.some.inj hf).symm H locs ls hP hS (lv_sub hl [3, 4, 5, 0] rfl)
          · have hf := (if_neg hc18).symm.trans hf
            refine lv_aload_n hx hb dX7_lessens_54 rfl (lv_at hl 2 rfl) ?_
            refine lv_iload hx hb dX7_lessens_55 (lv_at hl 1 rfl) ?_
            obtain ⟨q19, hq19, hf⟩ := bd_some hf
            refine kr_S (st1 := [.int q19]) (va_runV (As := [.int q4]) (rest := []) ⟨hx, hb, hml, hown, hts⟩ (ct_X7_isGrass l n g m_now m_kept m_aside m_isKept m_found s1.2.2 m_queue m_lives m_treads m_tape m_taped m_begins m_ends m_sort m_value m_isWrong m_items m_itemMany m_seedThen m_groundThen m_widths m_sizes m_numbers m_moved q4 q19 hq19) (cwV 1 hts gX7_lessens_X7_isGrass rfl rfl rfl hd_X7_isGrass ⟨Nat.le_of_ble_eq_true rfl, Nat.le_of_ble_eq_true rfl⟩) ⟨bl_M, va_recv hK hP (ci := 5) (q0 := 0) rfl k_md, pr_M rfl hB hP hS⟩ rfl rfl hl.1 rfl (lv_room (Nat.le_of_ble_eq_true rfl)) dX7_lessens_57 ⟨Nat.le_refl _, Nat.le_refl _⟩) rfl (fun hn20 => ?_)
            refine lv_if_eq (tgt := 86) hx hb dX7_lessens_60 (by decide) (fun hc21 => ?_) (fun hc21 => ?_)
            · have hf := (if_pos hc21).symm.trans hf
              refine lv_iinc (v := (s1.2.1 + (1 : Int32))) (lv' := [(3, .int (s1.2.1 + (1 : Int32))), (5, .int ((s1.2.2 a1.toNatClampNeg) + (0 : Int32))), (4, .int q4), (0, .ref (gm g 0)), (1, .int a1), (2, .int s1.1)]) hx hb dX7_lessens_86 hl (k := 5) rfl (congrArg (fun y => s1.2.1 + y) (by decide : Int32.ofInt (1) = (1 : Int32))) (by decide) rfl (fun ls hl => ?_)
              refine lv_goto (tgt := 4) hx hb dX7_lessens_89 (by decide) ?_
              exact hback1 _ (Option.some.inj hf).symm H locs ls hP hS (lv_sub hl [3, 4, 5, 0] rfl)
            · have hf := (if_neg hc21).symm.trans hf
              refine lv_iload hx hb dX7_lessens_63 (lv_at hl 0 rfl) ?_
              refine lv_aload_n hx hb dX7_lessens_65 rfl (lv_at hl 2 rfl) ?_
              refine va_get (D := g.1) (ci := 5) (v := .ref (gm g 5)) (C := RX7) (T := TX7) (N := 27) hx hb hts iwX7 hown hK hP 0 k_md rfl 5 (by decide) hw0 (fun _ h9 => h9) rfl dX7_lessens_66 ?_
              refine lv_iload hx hb dX7_lessens_69 (lv_at hl 1 rfl) ?_
              obtain ⟨hg22, hf⟩ := gd_some hf
              refine va_iald (f := s1.2.2) hx hb hK hP 5 0 k_steps rfl hg22 dX7_lessens_71 ?_
              refine lv_icmp_ge (tgt := 86) hx hb dX7_lessens_72 (by decide) (fun hc23 => ?_) (fun hc23 => ?_)
              · have hf := (if_pos hc23).symm.trans hf
                refine lv_iinc (v := (s1.2.1 + (1 : Int32))) (lv' := [(3, .int (s1.2.1 + (1 : Int32))), (5, .int ((s1.2.2 a1.toNatClampNeg) + (0 : Int32))), (4, .int q4), (0, .ref (gm g 0)), (1, .int a1), (2, .int s1.1)]) hx hb dX7_lessens_86 hl (k := 5) rfl (congrArg (fun y => s1.2.1 + y) (by decide : Int32.ofInt (1) = (1 : Int32))) (by decide) rfl (fun ls hl => ?_)
                refine lv_goto (tgt := 4) hx hb dX7_lessens_89 (by decide) ?_
                exact hback1 _ (Option.some.inj hf).symm H locs ls hP hS (lv_sub hl [3, 4, 5, 0] rfl)
              · have hf := (if_neg hc23).symm.trans hf
                refine lv_aload_n hx hb dX7_lessens_75 rfl (lv_at hl 2 rfl) ?_
                refine va_get (D := g.1) (ci := 5) (v := .ref (gm g 5)) (C := RX7) (T := TX7) (N := 27) hx hb hts iwX7 hown hK hP 0 k_md rfl 5 (by decide) hw0 (fun _ h9 => h9) rfl dX7_lessens_76 ?_
                refine lv_iload hx hb dX7_lessens_79 (lv_at hl 1 rfl) ?_
                refine lv_iload hx hb dX7_lessens_81 (lv_at hl 0 rfl) ?_
                obtain ⟨hg24, hf⟩ := gd_some hf
                refine va_iast (f := s1.2.2) hx hb hK hP (mD hB.2.2.1 _) hS 5 0 k_steps rfl hg24 dX7_lessens_83 (fun H locs hP _ hS => ?_)
                have hP : va_P g.1 vwCl (mw g (m_now, m_kept, m_aside, m_isKept, m_found, (upd s1.2.2 q4.toNatClampNeg ((s1.2.2 a1.toNatClampNeg) + (0 : Int32))), m_queue, m_lives, m_treads, m_tape, m_taped, m_begins, m_ends, m_sort, m_value, m_isWrong, m_items, m_itemMany, m_seedThen, m_groundThen, m_widths, m_sizes, m_numbers, m_moved)) H := w_eq (k_set_steps (upd s1.2.2 q4.toNatClampNeg ((s1.2.2 a1.toNatClampNeg) + (0 : Int32)))) hP
                refine lv_iconst (v := (1 : Int32)) hx hb dX7_lessens_84 (by decide) ?_
                refine lv_istore_n (lv' := [(2, .int (1 : Int32)), (5, .int ((s1.2.2 a1.toNatClampNeg) + (0 : Int32))), (4, .int q4), (0, .ref (gm g 0)), (1, .int a1), (3, .int s1.2.1)]) hx hb dX7_lessens_85 rfl hl (by decide) rfl (fun ls hl => ?_)
                refine lv_iinc (v := (s1.2.1 + (1 : Int32))) (lv' := [(3, .int (s1.2.1 + (1 : Int32))), (2, .int (1 : Int32)), (5, .int ((s1.2.2 a1.toNatClampNeg) + (0 : Int32))), (4, .int q4), (0, .ref (gm g 0)), (1, .int a1)]) hx hb dX7_lessens_86 hl (k := 5) rfl (congrArg (fun y => s1.2.1 + y) (by decide : Int32.ofInt (1) = (1 : Int32))) (by decide) rfl (fun ls hl => ?_)
                refine lv_goto (tgt := 4) hx hb dX7_lessens_89 (by decide) ?_
                exact hback1 _ (Option.some.inj hf).symm H locs ls hP hS (lv_sub hl [4, 5, 1, 0] rfl)
      · have hf := (if_neg hc6).symm.trans hf
        refine lv_bipush (v := (37 : Int32)) hx hb dX7_lessens_21 (by decide) ?_
        refine lv_goto (tgt := 47) hx hb dX7_lessens_23 (by decide) ?_
        refine lv_istore (lv' := [(5, .int (37 : Int32)), (4, .int q4), (0, .ref (gm g 0)), (1, .int a1), (2, .int s1.1), (3, .int s1.2.1)]) hx hb dX7_lessens_47 hl (by decide) rfl (fun ls hl => ?_)
        refine lv_iload hx hb dX7_lessens_49 (lv_at hl 1 rfl) ?_
        refine lv_if_lt (tgt := 86) hx hb dX7_lessens_51 (by decide) (fun hc25 => ?_) (fun hc25 => ?_)
        · have hf := (if_pos hc25).symm.trans hf
          refine lv_iinc (v := (s1.2.1 + (1 : Int32))) (lv' := [(3, .int (s1.2.1 + (1 : Int32))), (5, .int (37 : Int32)), (4, .int q4), (0, .ref (gm g 0)), (1, .int a1), (2, .int s1.1)]) hx hb dX7_lessens_86 hl (k := 5) rfl (congrArg (fun y => s1.2.1 + y) (by decide : Int32.ofInt (1) = (1 : Int32))) (by decide) rfl (fun ls hl => ?_)
          refine lv_goto (tgt := 4) hx hb dX7_lessens_89 (by decide) ?_
          exact hback1 _ (Option.some.inj hf).symm H locs ls hP hS (lv_sub hl [3, 4, 5, 0] rfl)
        · have hf := (if_neg hc25).symm.trans hf
          refine lv_aload_n hx hb dX7_lessens_54 rfl (lv_at hl 2 rfl) ?_
          refine lv_iload hx hb dX7_lessens_55 (lv_at hl 1 rfl) ?_
          obtain ⟨q26, hq26, hf⟩ := bd_some hf
          refine kr_S (st1 := [.int q26]) (va_runV (As := [.int q4]) (rest := []) ⟨hx, hb, hml, hown, hts⟩ (ct_X7_isGrass l n g m_now m_kept m_aside m_isKept m_found s1.2.2 m_queue m_lives m_treads m_tape m_taped m_begins m_ends m_sort m_value m_isWrong m_items m_itemMany m_seedThen m_groundThen m_widths m_sizes m_numbers m_moved q4 q26 hq26) (cwV 1 hts gX7_lessens_X7_isGrass rfl rfl rfl hd_X7_isGrass ⟨Nat.le_of_ble_eq_true rfl, Nat.le_of_ble_eq_true rfl⟩) ⟨bl_M, va_recv hK hP (ci := 5) (q0 := 0) rfl k_md, pr_M rfl hB hP hS⟩ rfl rfl hl.1 rfl (lv_room (Nat.le_of_ble_eq_true rfl)) dX7_lessens_57 ⟨Nat.le_refl _, Nat.le_refl _⟩) rfl (fun hn27 => ?_)
          refine lv_if_eq (tgt := 86) hx hb dX7_lessens_60 (by decide) (fun hc28 => ?_) (fun hc28 => ?_)
          · have hf := (if_pos hc28).symm.trans hf
            refine lv_iinc (v := (s1.2.1 + (1 : Int32))) (lv' := [(3, .int (s1.2.1 + (1 : Int32))), (5, .int (37 : Int32)), (4, .int q4), (0, .ref (gm g 0)), (1, .int a1), (2, .int s1.1)]) hx hb dX7_lessens_86 hl (k := 5) rfl (congrArg (fun y => s1.2.1 + y) (by decide : Int32.ofInt (1) = (1 : Int32))) (by decide) rfl (fun ls hl => ?_)
            refine lv_goto (tgt := 4) hx hb dX7_lessens_89 (by decide) ?_
            exact hback1 _ (Option.some.inj hf).symm H locs ls hP hS (lv_sub hl [3, 4, 5, 0] rfl)
          · have hf := (if_neg hc28).symm.trans hf
            refine lv_iload hx hb dX7_lessens_63 (lv_at hl 0 rfl) ?_
            refine lv_aload_n hx hb dX7_lessens_65 rfl (lv_at hl 2 rfl) ?_
            refine va_get (D := g.1) (ci := 5) (v := .ref (gm g 5)) (C := RX7) (T := TX7) (N := 27) hx hb hts iwX7 hown hK hP 0 k_md rfl 5 (by decide) hw0 (fun _ h9 => h9) rfl dX7_lessens_66 ?_
            refine lv_iload hx hb dX7_lessens_69 (lv_at hl 1 rfl) ?_
            obtain ⟨hg29, hf⟩ := gd_some hf
            refine va_iald (f := s1.2.2) hx hb hK hP 5 0 k_steps rfl hg29 dX7_lessens_71 ?_
            refine lv_icmp_ge (tgt := 86) hx hb dX7_lessens_72 (by decide) (fun hc30 => ?_) (fun hc30 => ?_)
            · have hf := (if_pos hc30).symm.trans hf
              refine lv_iinc (v := (s1.2.1 + (1 : Int32))) (lv' := [(3, .int (s1.2.1 + (1 : Int32))), (5, .int (37 : Int32)), (4, .int q4), (0, .ref (gm g 0)), (1, .int a1), (2, .int s1.1)]) hx hb dX7_lessens_86 hl (k := 5) rfl (congrArg (fun y => s1.2.1 + y) (by decide : Int32.ofInt (1) = (1 : Int32))) (by decide) rfl (fun ls hl => ?_)
              refine lv_goto (tgt := 4) hx hb dX7_lessens_89 (by decide) ?_
              exact hback1 _ (Option.some.inj hf).symm H locs ls hP hS (lv_sub hl [3, 4, 5, 0] rfl)
            · have hf := (if_neg hc30).symm.trans hf
              refine lv_aload_n hx hb dX7_lessens_75 rfl (lv_at hl 2 rfl) ?_
              refine va_get (D := g.1) (ci := 5) (v := .ref (gm g 5)) (C := RX7) (T := TX7) (N := 27) hx hb hts iwX7 hown hK hP 0 k_md rfl 5 (by decide) hw0 (fun _ h9 => h9) rfl dX7_lessens_76 ?_
              refine lv_iload hx hb dX7_lessens_79 (lv_at hl 1 rfl) ?_
              refine lv_iload hx hb dX7_lessens_81 (lv_at hl 0 rfl) ?_
              obtain ⟨hg31, hf⟩ := gd_some hf
              refine va_iast (f := s1.2.2) hx hb hK hP (mD hB.2.2.1 _) hS 5 0 k_steps rfl hg31 dX7_lessens_83 (fun H locs hP _ hS => ?_)
              have hP : va_P g.1 vwCl (mw g (m_now, m_kept, m_aside, m_isKept, m_found, (upd s1.2.2 q4.toNatClampNeg (37 : Int32)), m_queue, m_lives, m_treads, m_tape, m_taped, m_begins, m_ends, m_sort, m_value, m_isWrong, m_items, m_itemMany, m_seedThen, m_groundThen, m_widths, m_sizes, m_numbers, m_moved)) H := w_eq (k_set_steps (upd s1.2.2 q4.toNatClampNeg (37 : Int32))) hP
              refine lv_iconst (v := (1 : Int32)) hx hb dX7_lessens_84 (by decide) ?_
              refine lv_istore_n (lv' := [(2, .int (1 : Int32)), (5, .int (37 : Int32)), (4, .int q4), (0, .ref (gm g 0)), (1, .int a1), (3, .int s1.2.1)]) hx hb dX7_lessens_85 rfl hl (by decide) rfl (fun ls hl => ?_)
              refine lv_iinc (v := (s1.2.1 + (1 : Int32))) (lv' := [(3, .int (s1.2.1 + (1 : Int32))), (2, .int (1 : Int32)), (5, .int (37 : Int32)), (4, .int q4), (0, .ref (gm g 0)), (1, .int a1)]) hx hb dX7_lessens_86 hl (k := 5) rfl (congrArg (fun y => s1.2.1 + y) (by decide : Int32.ofInt (1) = (1 : Int32))) (by decide) rfl (fun ls hl => ?_)
              refine lv_goto (tgt := 4) hx hb dX7_lessens_89 (by decide) ?_
              exact hback1 _ (Option.some.inj hf).symm H locs ls hP hS (lv_sub hl [4, 5, 1, 0] rfl)
set_option maxHeartbeats 4000000 in
set_option maxRecDepth 100000 in
theorem ct_X7_fewestMore (l : Launch) (n : Nat) (g : GM) (m_now : Nat → Int32) (m_kept : Nat → Int32) (m_aside : Nat → Int32) (m_isKept : Int32) (m_found : Nat → Int32) (m_steps : Nat → Int32) (m_queue : Nat → Int32) (m_lives : Nat → Int32) (m_treads : Nat → Int32) (m_tape : Nat → Int32) (m_taped : Int32) (m_begins : Int32) (m_ends : Int32) (m_sort : Int32) (m_value : Int32) (m_isWrong : Int32) (m_items : Nat → Int32) (m_itemMany : Int32) (m_seedThen : Int32) (m_groundThen : Nat → Int32) (m_widths : Nat → Int32) (m_sizes : Nat → Int32) (m_numbers : Nat → Int32) (m_moved : Nat → Int32) (a1 : Int32) (res : (Nat → Int32)) (hf : fX7_fewestMore n a1 m_now m_steps = some res) : Met l yX7_fewestMore wsX7_fewestMore ({ frames := 2, cells := 0, slots := 0, locals := 46 }) (va_Pc [.ref (gm g 0), .int a1] (mI g (m_now, m_kept, m_aside, m_isKept, m_found, m_steps, m_queue, m_lives, m_treads, m_tape, m_taped, m_begins, m_ends, m_sort, m_value, m_isWrong, m_items, m_itemMany, m_seedThen, m_groundThen, m_widths, m_sizes, m_numbers, m_moved))) (qW none True g.1 (mw g (m_now, m_kept, m_aside, m_isKept, m_found, res, m_queue, m_lives, m_treads, m_tape, m_taped, m_begins, m_ends, m_sort, m_value, m_isWrong, m_items, m_itemMany, m_seedThen, m_groundThen, m_widths, m_sizes, m_numbers, m_moved)) (mA g)) 0 0 (mA g) := by
  refine Met.ofW (cc := cX7_fewestMore) (maxL := 4) (ret := none) (by decide) rfl ?_
  intro p e s m args below meth c s₁ B hml hv
  obtain ⟨rfl, hI⟩ := hv
  have hx := B.exec
  have hb := B.bytes
  have hr := B.returns
  have hts := atoms_spec (ws := wsX7_fewestMore) B.pre
  have hown : s.vm.findClass RX7 = some m.cls := findClass_of_methodNamed B.named
  have hlocks := B.notSynchronized
  have hP := hI.1
  have hB := hI.2
  have hK := hB.1
  have hNW := hB.2.1
  have hS : va_S (mA g) s.heap s.heap [] := va_S.rf
  have hw0 := hts (.fieldLink RX7 22 "SownPathsModel" "steps" "[I") (by decide +kernel)
  have iwX7 : ∀ w ∈ wsX70, w ∈ wsX7_fewestMore := fun w h => List.mem_cons_of_mem _ (List.mem_append_right _ h)
  have hl := lv_entry ([.ref (gm g 0), .int a1]) (n := 4) (Nat.le_of_ble_eq_true rfl)
  rw [lg_entry_eq]
  generalize (lg_sl ([.ref (gm g 0), .int a1]) ++ List.replicate (4 - (lg_sl ([.ref (gm g 0), .int a1])).length) Slot.unset).toArray = ls at hl ⊢
  have hl : lv_has ls 4 [(0, .ref (gm g 0)), (1, .int a1)] := hl
  unfold fX7_fewestMore at hf
  refine lv_iconst (v := (0 : Int32)) hx hb dX7_fewestMore_0 (by decide) ?_
  refine lv_istore_n (lv' := [(2, .int (0 : Int32)), (0, .ref (gm g 0)), (1, .int a1)]) hx hb dX7_fewestMore_1 rfl hl (by decide) rfl (fun ls hl => ?_)
  refine lp_run hf (fun s1 => ∀ (H : Heap) (locs : List Loc) (ls : Array Slot), va_P g.1 vwCl (mw g (m_now, m_kept, m_aside, m_isKept, m_found, s1.2, m_queue, m_lives, m_treads, m_tape, m_taped, m_begins, m_ends, m_sort, m_value, m_isWrong, m_items, m_itemMany, m_seedThen, m_groundThen, m_widths, m_sizes, m_numbers, m_moved)) H → va_S (mA g) s.heap H locs → lv_has ls 4 [(0, .ref (gm g 0)), (1, .int a1), (2, .int s1.1)] → W p l e (headSpec wsX7_fewestMore ({ frames := 2, cells := 0, slots := 0, locals := 46 })).room s m ([.ref (gm g 0), .int a1] : List Value).toArray below meth c H locs 0 0 (MQ below (qW none True g.1 (mw g (m_now, m_kept, m_aside, m_isKept, m_found, res, m_queue, m_lives, m_treads, m_tape, m_taped, m_begins, m_ends, m_sort, m_value, m_isWrong, m_items, m_itemMany, m_seedThen, m_groundThen, m_widths, m_sizes, m_numbers, m_moved)) (mA g)) ([.ref (gm g 0), .int a1] : List Value).toArray s 0 0 (mA g)) (F0 m 2 ls [])) (fun v2 => ∀ (H : Heap) (locs : List Loc) (ls : Array Slot), va_P g.1 vwCl (mw g (m_now, m_kept, m_aside, m_isKept, m_found, v2.2, m_queue, m_lives, m_treads, m_tape, m_taped, m_begins, m_ends, m_sort, m_value, m_isWrong, m_items, m_itemMany, m_seedThen, m_groundThen, m_widths, m_sizes, m_numbers, m_moved)) H → va_S (mA g) s.heap H locs → lv_has ls 4 [(0, .ref (gm g 0)), (1, .int a1)] → W p l e (headSpec wsX7_fewestMore ({ frames := 2, cells := 0, slots := 0, locals := 46 })).room s m ([.ref (gm g 0), .int a1] : List Value).toArray below meth c H locs 0 0 (MQ below (qW none True g.1 (mw g (m_now, m_kept, m_aside, m_isKept, m_found, res, m_queue, m_lives, m_treads, m_tape, m_taped, m_begins, m_ends, m_sort, m_value, m_isWrong, m_items, m_itemMany, m_seedThen, m_groundThen, m_widths, m_sizes, m_numbers, m_moved)) (mA g)) ([.ref (gm g 0), .int a1] : List Value).toArray s 0 0 (mA g)) (F0 m 22 ls [])) ?_ ?_ _ _ _ hP hS (lv_sub hl [1, 2, 0] rfl)
  · intro v2 hf H locs ls hP hS hl
    refine lv_aload_n hx hb dX7_fewestMore_22 rfl (lv_at hl 0 rfl) ?_
    refine va_get (D := g.1) (ci := 5) (v := .ref (gm g 5)) (C := RX7) (T := TX7) (N := 27) hx hb hts iwX7 hown hK hP 0 k_md rfl 5 (by decide) hw0 (fun _ h9 => h9) rfl dX7_fewestMore_23 ?_
    refine lv_iload_n hx hb dX7_fewestMore_26 rfl (lv_at hl 1 rfl) ?_
    refine lv_aload_n hx hb dX7_fewestMore_27 rfl (lv_at hl 0 rfl) ?_
    refine lv_iload_n hx hb dX7_fewestMore_28 rfl (lv_at hl 1 rfl) ?_
    obtain ⟨q5, hq5, hf⟩ := bd_some hf
    refine kr_S (st1 := [.int q5, .int a1, .ref (gm g 5)]) (va_runV (As := [.int a1]) (rest := [.int a1, .ref (gm g 5)]) ⟨hx, hb, hml, hown, hts⟩ (ct_X7_isGrass l n g m_now m_kept m_aside m_isKept m_found v2.2 m_queue m_lives m_treads m_tape m_taped m_begins m_ends m_sort m_value m_isWrong m_items m_itemMany m_seedThen m_groundThen m_widths m_sizes m_numbers m_moved a1 q5 hq5) (cwV 1 hts gX7_fewestMore_X7_isGrass rfl rfl rfl hd_X7_isGrass ⟨Nat.le_of_ble_eq_true rfl, Nat.le_of_ble_eq_true rfl⟩) ⟨bl_M, va_recv hK hP (ci := 5) (q0 := 0) rfl k_md, pr_M rfl hB hP hS⟩ rfl rfl hl.1 rfl (lv_room (Nat.le_of_ble_eq_true rfl)) dX7_fewestMore_29 ⟨Nat.le_refl _, Nat.le_refl _⟩) rfl (fun hn6 => ?_)
    refine lv_if_ne (tgt := 40) hx hb dX7_fewestMore_32 (by decide) (fun hc7 => ?_) (fun hc7 => ?_)
    · have hf := (if_neg hc7).symm.trans hf
      refine lv_aload_n hx hb dX7_fewestMore_40 rfl (lv_at hl 0 rfl) ?_
      refine lv_iload_n hx hb dX7_fewestMore_41 rfl (lv_at hl 1 rfl) ?_
      obtain ⟨q8, hq8, hf⟩ := bd_some hf
      refine kr_S (st1 := [.int q8, .int a1, .ref (gm g 5)]) (va_runV (As := [.int a1]) (rest := [.int a1, .ref (gm g 5)]) ⟨hx, hb, hml, hown, hts⟩ (ct_X7_hasPath l n g m_now m_kept m_aside m_isKept m_found v2.2 m_queue m_lives m_treads m_tape m_taped m_begins m_ends m_sort m_value m_isWrong m_items m_itemMany m_seedThen m_groundThen m_widths m_sizes m_numbers m_moved a1 q8 hq8) (cwV 1 hts gX7_fewestMore_X7_hasPath rfl rfl rfl hd_X7_hasPath ⟨Nat.le_of_ble_eq_true rfl, Nat.le_of_ble_eq_true rfl⟩) ⟨bl_M, va_recv hK hP (ci := 5) (q0 := 0) rfl k_md, pr_M rfl hB hP hS⟩ rfl rfl hl.1 rfl (lv_room (Nat.le_of_ble_eq_true rfl)) dX7_fewestMore_42 ⟨Nat.le_refl _, Nat.le_refl _⟩) rfl (fun hn9 => ?_)
      refine lv_if_eq (tgt := 52) hx hb dX7_fewestMore_45 (by decide) (fun hc10 => ?_) (fun hc10 => ?_)
      · have hf := (if_pos hc10).symm.trans hf
        refine lv_iconst (v := (1 : Int32)) hx hb dX7_fewestMore_52 (by decide) ?_
        obtain ⟨hg11, hf⟩ := gd_some hf
        refine va_iast (f := v2.2) hx hb hK hP (mD hB.2.2.1 _) hS 5 0 k_steps rfl hg11 dX7_fewestMore_53 (fun H locs hP _ hS => ?_)
        have hP : va_P g.1 vwCl (mw g (m_now, m_kept, m_aside, m_isKept, m_found, (upd v2.2 a1.toNatClampNeg (1 : Int32)), m_queue, m_lives, m_treads, m_tape, m_taped, m_begins, m_ends, m_sort, m_value, m_isWrong, m_items, m_itemMany, m_seedThen, m_groundThen, m_widths, m_sizes, m_numbers, m_moved)) H := w_eq (k_set_steps (upd v2.2 a1.toNatClampNeg (1 : Int32))) hP
        refine lv_iconst (v := (1 : Int32)) hx hb dX7_fewestMore_54 (by decide) ?_
        refine lv_istore_n (lv' := [(2, .int (1 : Int32)), (0, .ref (gm g 0)), (1, .int a1)]) hx hb dX7_fewestMore_55 rfl hl (by decide) rfl (fun ls hl => ?_)
        refine lp_run hf (fun s12 => ∀ (H : Heap) (locs : List Loc) (ls : Array Slot), va_P g.1 vwCl (mw g (m_now, m_kept, m_aside, m_isKept, m_found, s12.2, m_queue, m_lives, m_treads, m_tape, m_taped, m_begins, m_ends, m_sort, m_value, m_isWrong, m_items, m_itemMany, m_seedThen, m_groundThen, m_widths, m_sizes, m_numbers, m_moved)) H → va_S (mA g) s.heap H locs → lv_has ls 4 [(0, .ref (gm g 0)), (2, .int s12.1)] → W p l e (headSpec wsX7_fewestMore ({ frames := 2, cells := 0, slots := 0, locals := 46 })).room s m ([.ref (gm g 0), .int a1] : List Value).toArray below meth c H locs 0 0 (MQ below (qW none True g.1 (mw g (m_now, m_kept, m_aside, m_isKept, m_found, res, m_queue, m_lives, m_treads, m_tape, m_taped, m_begins, m_ends, m_sort, m_value, m_isWrong, m_items, m_itemMany, m_seedThen, m_groundThen, m_widths, m_sizes, m_numbers, m_moved)) (mA g)) ([.ref (gm g 0), .int a1] : List Value).toArray s 0 0 (mA g)) (F0 m 56 ls [])) (fun v13 => ∀ (H : Heap) (locs : List Loc) (ls : Array Slot), va_P g.1 vwCl (mw g (m_now, m_kept, m_aside, m_isKept, m_found, v13.2, m_queue, m_lives, m_treads, m_tape, m_taped, m_begins, m_ends, m_sort, m_value, m_isWrong, m_items, m_itemMany, m_seedThen, m_groundThen, m_widths, m_sizes, m_numbers, m_moved)) H → va_S (mA g) s.heap H locs → lv_has ls 4 [] → W p l e (headSpec wsX7_fewestMore ({ frames := 2, cells := 0, slots := 0, locals := 46 })).room s m ([.ref (gm g 0), .int a1] : List Value).toArray below meth c H locs 0 0 (MQ below (qW none True g.1 (mw g (m_now, m_kept, m_aside, m_isKept, m_found, res, m_queue, m_lives, m_treads, m_tape, m_taped, m_begins, m_ends, m_sort, m_value, m_isWrong, m_items, m_itemMany, m_seedThen, m_groundThen, m_widths, m_sizes, m_numbers, m_moved)) (mA g)) ([.ref (gm g 0), .int a1] : List Value).toArray s 0 0 (mA g)) (F0 m 87 ls [])) ?_ ?_ _ _ _ hP hS (lv_sub hl [1, 0] rfl)
        · intro v13 hf H locs ls hP hS hl
          have hres : v13.2 = res := (Option.some.inj hf)
          have hP := w_eq (congrArg (fun z => mw g (m_now, m_kept, m_aside, m_isKept, m_found, z, m_queue, m_lives, m_treads, m_tape, m_taped, m_begins, m_ends, m_sort, m_value, m_isWrong, m_items, m_itemMany, m_seedThen, m_groundThen, m_widths, m_sizes, m_numbers, m_moved)) hres) hP
          exact W.vret hx hb hr (fun t ht hW => ⟨rfl, trivial, by rw [ht]; exact hP, hS.F ht⟩) hS.2.2 dX7_fewestMore_87
        · intro s12 r1 hf hback1 hexit1 H locs ls hP hS hl
          refine lv_iload_n hx hb dX7_fewestMore_56 rfl (lv_at hl 1 rfl) ?_
          refine lv_if_eq (tgt := 87) hx hb dX7_fewestMore_57 (by decide) (fun hc14 => ?_) (fun hc14 => ?_)
          · have hf := (if_pos hc14).symm.trans hf
            exact hexit1 (s12.1, s12.2) (Option.some.inj hf).symm H locs ls hP hS (lv_sub hl [] rfl)
          · have hf := (if_neg hc14).symm.trans hf
            refine lv_iconst (v := (0 : Int32)) hx hb dX7_fewestMore_60 (by decide) ?_
            refine lv_istore_n (lv' := [(2, .int (0 : Int32)), (0, .ref (gm g 0))]) hx hb dX7_fewestMore_61 rfl hl (by decide) rfl (fun ls hl => ?_)
            refine lv_iconst (v := (0 : Int32)) hx hb dX7_fewestMore_62 (by decide) ?_
            refine lv_istore_n (lv' := [(3, .int (0 : Int32)), (2, .int (0 : Int32)), (0, .ref (gm g 0))]) hx hb dX7_fewestMore_63 rfl hl (by decide) rfl (fun ls hl => ?_)
            refine lp_run hf (fun s15 => ∀ (H : Heap) (locs : List Loc) (ls : Array Slot), va_P g.1 vwCl (mw g (m_now, m_kept, m_aside, m_isKept, m_found, s15.2.2, m_queue, m_lives, m_treads, m_tape, m_taped, m_begins, m_ends, m_sort, m_value, m_isWrong, m_items, m_itemMany, m_seedThen, m_groundThen, m_widths, m_sizes, m_numbers, m_moved)) H → va_S (mA g) s.heap H locs → lv_has ls 4 [(0, .ref (gm g 0)), (2, .int s15.1), (3, .int s15.2.1)] → W p l e (headSpec wsX7_fewestMore ({ frames := 2, cells := 0, slots := 0, locals := 46 })).room s m ([.ref (gm g 0), .int a1] : List Value).toArray below meth c H locs 0 0 (MQ below (qW none True g.1 (mw g (m_now, m_kept, m_aside, m_isKept, m_found, res, m_queue, m_lives, m_treads, m_tape, m_taped, m_begins, m_ends, m_sort, m_value, m_isWrong, m_items, m_itemMany, m_seedThen, m_groundThen, m_widths, m_sizes, m_numbers, m_moved)) (mA g)) ([.ref (gm g 0), .int a1] : List Value).toArray s 0 0 (mA g)) (F0 m 64 ls [])) (fun v16 => ∀ (H : Heap) (locs : List Loc) (ls : Array Slot), va_P g.1 vwCl (mw g (m_now, m_kept, m_aside, m_isKept, m_found, v16.2.2, m_queue, m_lives, m_treads, m_tape, m_taped, m_begins, m_ends, m_sort, m_value, m_isWrong, m_items, m_itemMany, m_seedThen, m_groundThen, m_widths, m_sizes, m_numbers, m_moved)) H → va_S (mA g) s.heap H locs → lv_has ls 4 [(0, .ref (gm g 0)), (2, .int v16.1)] → W p l e (headSpec wsX7_fewestMore ({ frames := 2, cells := 0, slots := 0, locals := 46 })).room s m ([.ref (gm g 0), .int a1] : List Value).toArray below meth c H locs 0 0 (MQ below (qW none True g.1 (mw g (m_now, m_kept, m_aside, m_isKept, m_found, res, m_queue, m_lives, m_treads, m_tape, m_taped, m_begins, m_ends, m_sort, m_value, m_isWrong, m_items, m_itemMany, m_seedThen, m_groundThen, m_widths, m_sizes, m_numbers, m_moved)) (mA g)) ([.ref (gm g 0), .int a1] : List Value).toArray s 0 0 (mA g)) (F0 m 84 ls [])) ?_ ?_ _ _ _ hP hS (lv_sub hl [2, 1, 0] rfl)
            · intro v16 hf H locs ls hP hS hl
              refine lv_goto (tgt := 56) hx hb dX7_fewestMore_84 (by decide) ?_
              exact hback1 _ (Option.some.inj hf).symm H locs ls hP hS (lv_sub hl [0, 1] rfl)
            · intro s15 r2 hf hback2 hexit2 H locs ls hP hS hl
              refine lv_iload_n hx hb dX7_fewestMore_64 rfl (lv_at hl 2 rfl) ?_
              refine lv_bipush (v := (36 : Int32)) hx hb dX7_fewestMore_65 (by decide) ?_
              refine lv_icmp_ge (tgt := 84) hx hb dX7_fewestMore_67 (by decide) (fun hc17 => ?_) (fun hc17 => ?_)
              · have hf := (if_pos hc17).symm.trans hf
                exact hexit2 (s15.1, s15.2.1, s15.2.2) (Option.some.inj hf).symm H locs ls hP hS (lv_sub hl [0, 1] rfl)
              · have hf := (if_neg hc17).symm.trans hf
                refine lv_iload_n hx hb dX7_fewestMore_70 rfl (lv_at hl 1 rfl) ?_
                refine lv_aload_n hx hb dX7_fewestMore_71 rfl (lv_at hl 0 rfl) ?_
                refine lv_iload_n hx hb dX7_fewestMore_72 rfl (lv_at hl 2 rfl) ?_
                obtain ⟨q18, hq18, hf⟩ := bd_some hf
                refine kr_W (st1 := [.int q18.1, .int s15.1]) (va_runV (As := [.int s15.2.1]) (rest := [.int s15.1]) ⟨hx, hb, hml, hown, hts⟩ (ct_X7_lessens l n g m_now m_kept m_aside m_isKept m_found s15.2.2 m_queue m_lives m_treads m_tape m_taped m_begins m_ends m_sort m_value m_isWrong m_items m_itemMany m_seedThen m_groundThen m_widths m_sizes m_numbers m_moved s15.2.1 q18 hq18) (cwV 1 hts gX7_fewestMore_X7_lessens rfl rfl rfl hd_X7_lessens ⟨Nat.le_of_ble_eq_true rfl, Nat.le_of_ble_eq_true rfl⟩) ⟨bl_M, va_recv hK hP (ci := 5) (q0 := 0) rfl k_md, pr_M rfl hB hP hS⟩ rfl rfl hl.1 rfl (lv_room (Nat.le_of_ble_eq_true rfl)) dX7_fewestMore_73 ⟨Nat.le_refl _, Nat.le_refl _⟩) hS rfl (fun hn19 H locs hP hS => ?_)
                have hP : va_P g.1 vwCl (mw g (m_now, m_kept, m_aside, m_isKept, m_found, q18.2, m_queue, m_lives, m_treads, m_tape, m_taped, m_begins, m_ends, m_sort, m_value, m_isWrong, m_items, m_itemMany, m_seedThen, m_groundThen, m_widths, m_sizes, m_numbers, m_moved)) H := hP
                refine lv_ior hx hb dX7_fewestMore_76 ?_
                refine lv_istore_n (lv' := [(2, .int (s15.1 ||| q18.1)), (0, .ref (gm g 0)), (3, .int s15.2.1)]) hx hb dX7_fewestMore_77 rfl hl (by decide) rfl (fun ls hl => ?_)
                refine lv_iinc (v := (s15.2.1 + (1 : Int32))) (lv' := [(3, .int (s15.2.1 + (1 : Int32))), (2, .int (s15.1 ||| q18.1)), (0, .ref (gm g 0))]) hx hb dX7_fewestMore_78 hl (k := 2) rfl (congrArg (fun y => s15.2.1 + y) (by decide : Int32.ofInt (1) = (1 : Int32))) (by decide) rfl (fun ls hl => ?_)
                refine lv_goto (tgt := 64) hx hb dX7_fewestMore_81 (by decide) ?_
                exact hback2 _ (Option.some.inj hf).symm H locs ls hP hS (lv_sub hl [2, 1, 0] rfl)
      · have hf := (if_neg hc10).symm.trans hf
        refine lv_iconst (v := (0 : Int32)) hx hb dX7_fewestMore_48 (by decide) ?_
        refine lv_goto (tgt := 53) hx hb dX7_fewestMore_49 (by decide) ?_
        obtain ⟨hg20, hf⟩ := gd_some hf
        refine va_iast (f := v2.2) hx hb hK hP (mD hB.2.2.1 _) hS 5 0 k_steps rfl hg20 dX7_fewestMore_53 (fun H locs hP _ hS => ?_)
        have hP : va_P g.1 vwCl (mw g (m_now, m_kept, m_aside, m_isKept, m_found, (upd v2.2 a1.toNatClampNeg (0 : Int32)), m_queue, m_lives, m_treads, m_tape, m_taped, m_begins, m_ends, m_sort, m_value, m_isWrong, m_items, m_itemMany, m_seedThen, m_groundThen, m_widths, m_sizes, m_numbers, m_moved)) H := w_eq (k_set_steps (upd v2.2 a1.toNatClampNeg (0 : Int32))) hP
        refine lv_iconst (v := (1 : Int32)) hx hb dX7_fewestMore_54 (by decide) ?_
        refine lv_istore_n (lv' := [(2, .int (1 : Int32)), (0, .ref (gm g 0)), (1, .int a1)]) hx hb dX7_fewestMore_55 rfl hl (by decide) rfl (fun ls hl => ?_)
        refine lp_run hf (fun s21 => ∀ (H : Heap) (locs : List Loc) (ls : Array Slot), va_P g.1 vwCl (mw g (m_now, m_kept, m_aside, m_isKept, m_found, s21.2, m_queue, m_lives, m_treads, m_tape, m_taped, m_begins, m_ends, m_sort, m_value, m_isWrong, m_items, m_itemMany, m_seedThen, m_groundThen, m_widths, m_sizes, m_numbers, m_moved)) H → va_S (mA g) s.heap H locs → lv_has ls 4 [(0, .ref (gm g 0)), (2, .int s21.1)] → W p l e (headSpec wsX7_fewestMore ({ frames := 2, cells := 0, slots := 0, locals := 46 })).room s m ([.ref (gm g 0), .int a1] : List Value).toArray below meth c H locs 0 0 (MQ below (qW none True g.1 (mw g (m_now, m_kept, m_aside, m_isKept, m_found, res, m_queue, m_lives, m_treads, m_tape, m_taped, m_begins, m_ends, m_sort, m_value, m_isWrong, m_items, m_itemMany, m_seedThen, m_groundThen, m_widths, m_sizes, m_numbers, m_moved)) (mA g)) ([.ref (gm g 0), .int a1] : List Value).toArray s 0 0 (mA g)) (F0 m 56 ls [])) (fun v22 => ∀ (H : Heap) (locs : List Loc) (ls : Array Slot), va_P g.1 vwCl (mw g (m_now, m_kept, m_aside, m_isKept, m_found, v22.2, m_queue, m_lives, m_treads, m_tape, m_taped, m_begins, m_ends, m_sort, m_value, m_isWrong, m_items, m_itemMany, m_seedThen, m_groundThen, m_widths, m_sizes, m_numbers, m_moved)) H → va_S (mA g) s.heap H locs → lv_has ls 4 [] → W p l e (headSpec wsX7_fewestMore ({ frames := 2, cells := 0, slots := 0, locals := 46 })).room s m ([.ref (gm g 0), .int a1] : List Value).toArray below meth c H locs 0 0 (MQ below (qW none True g.1 (mw g (m_now, m_kept, m_aside, m_isKept, m_found, res, m_queue, m_lives, m_treads, m_tape, m_taped, m_begins, m_ends, m_sort, m_value, m_isWrong, m_items, m_itemMany, m_seedThen, m_groundThen, m_widths, m_sizes, m_numbers, m_moved)) (mA g)) ([.ref (gm g 0), .int a1] : List Value).toArray s 0 0 (mA g)) (F0 m 87 ls [])) ?_ ?_ _ _ _ hP hS (lv_sub hl [1, 0] rfl)
        · intro v22 hf H locs ls hP hS hl
          have hres : v22.2 = res := (Option.some.inj hf)
          have hP := w_eq (congrArg (fun z => mw g (m_now, m_kept, m_aside, m_isKept, m_found, z, m_queue, m_lives, m_treads, m_tape, m_taped, m_begins, m_ends, m_sort, m_value, m_isWrong, m_items, m_itemMany, m_seedThen, m_groundThen, m_widths, m_sizes, m_numbers, m_moved)) hres) hP
          exact W.vret hx hb hr (fun t ht hW => ⟨rfl, trivial, by rw [ht]; exact hP, hS.F ht⟩) hS.2.2 dX7_fewestMore_87
        · intro s21 r1 hf hback1 hexit1 H locs ls hP hS hl
          refine lv_iload_n hx hb dX7_fewestMore_56 rfl (lv_at hl 1 rfl) ?_
          refine lv_if_eq (tgt := 87) hx hb dX7_fewestMore_57 (by decide) (fun hc23 => ?_) (fun hc23 => ?_)
          · have hf := (if_pos hc23).symm.trans hf
            exact hexit1 (s21.1, s21.2) (Option.some.inj hf).symm H locs ls hP hS (lv_sub hl [] rfl)
          · have hf := (if_neg hc23).symm.trans hf
            refine lv_iconst (v := (0 : Int32)) hx hb dX7_fewestMore_60 (by decide) ?_
            refine lv_istore_n (lv' := [(2, .int (0 : Int32)), (0, .ref (gm g 0))]) hx hb dX7_fewestMore_61 rfl hl (by decide) rfl (fun ls hl => ?_)
            refine lv_iconst (v := (0 : Int32)) hx hb dX7_fewestMore_62 (by decide) ?_
            refine lv_istore_n (lv' := [(3, .int (0 : Int32)), (2, .int (0 : Int32)), (0, .ref (gm g 0))]) hx hb dX7_fewestMore_63 rfl hl (by decide) rfl (fun ls hl => ?_)
            refine lp_run hf (fun s24 => ∀ (H : Heap) (locs : List Loc) (ls : Array Slot), va_P g.1 vwCl (mw g (m_now, m_kept, m_aside, m_isKept, m_found, s24.2.2, m_queue, m_lives, m_treads, m_tape, m_taped, m_begins, m_ends, m_sort, m_value, m_isWrong, m_items, m_itemMany, m_seedThen, m_groundThen, m_widths, m_sizes, m_numbers, m_moved)) H → va_S (mA g) s.heap H locs → lv_has ls 4 [(0, .ref (gm g 0)), (2, .int s24.1), (3, .int s24.2.1)] → W p l e (headSpec wsX7_fewestMore ({ frames := 2, cells := 0, slots := 0, locals := 46 })).room s m ([.ref (gm g 0), .int a1] : List Value).toArray below meth c H locs 0 0 (MQ below (qW none True g.1 (mw g (m_now, m_kept, m_aside, m_isKept, m_found, res, m_queue, m_lives, m_treads, m_tape, m_taped, m_begins, m_ends, m_sort, m_value, m_isWrong, m_items, m_itemMany, m_seedThen, m_groundThen, m_widths, m_sizes, m_numbers, m_moved)) (mA g)) ([.ref (gm g 0), .int a1] : List Value).toArray s 0 0 (mA g)) (F0 m 64 ls [])) (fun v25 => ∀ (H : Heap) (locs : List Loc) (ls : Array Slot), va_P g.1 vwCl (mw g (m_now, m_kept, m_aside, m_isKept, m_found, v25.2.2, m_queue, m_lives, m_treads, m_tape, m_taped, m_begins, m_ends, m_sort, m_value, m_isWrong, m_items, m_itemMany, m_seedThen, m_groundThen, m_widths, m_sizes, m_numbers, m_moved)) H → va_S (mA g) s.heap H locs → lv_has ls 4 [(0, .ref (gm g 0)), (2, .int v25.1)] → W p l e (headSpec wsX7_fewestMore ({ frames := 2, cells := 0, slots := 0, locals := 46 })).room s m ([.ref (gm g 0), .int a1] : List Value).toArray below meth c H locs 0 0 (MQ below (qW none True g.1 (mw g (m_now, m_kept, m_aside, m_isKept, m_found, res, m_queue, m_lives, m_treads, m_tape, m_taped, m_begins, m_ends, m_sort, m_value, m_isWrong, m_items, m_itemMany, m_seedThen, m_groundThen, m_widths, m_sizes, m_numbers, m_moved)) (mA g)) ([.ref (gm g 0), .int a1] : List Value).toArray s 0 0 (mA g)) (F0 m 84 ls [])) ?_ ?_ _ _ _ hP hS (lv_sub hl [2, 1, 0] rfl)
            · intro v25 hf H locs ls hP hS hl
              refine lv_goto (tgt := 56) hx hb dX7_fewestMore_84 (by decide) ?_
              exact hback1 _ (Option.some.inj hf).symm H locs ls hP hS (lv_sub hl [0, 1] rfl)
            · intro s24 r2 hf hback2 hexit2 H locs ls hP hS hl
              refine lv_iload_n hx hb dX7_fewestMore_64 rfl (lv_at hl 2 rfl) ?_
              refine lv_bipush (v := (36 : Int32)) hx hb dX7_fewestMore_65 (by decide) ?_
              refine lv_icmp_ge (tgt := 84) hx hb dX7_fewestMore_67 (by decide) (fun hc26 => ?_) (fun hc26 => ?_)
              · have hf := (if_pos hc26).symm.trans hf
                exact hexit2 (s24.1, s24.2.1, s24.2.2) (Option.some.inj hf).symm H locs ls hP hS (lv_sub hl [0, 1] rfl)
              · have hf := (if_neg hc26).symm.trans hf
                refine lv_iload_n hx hb dX7_fewestMore_70 rfl (lv_at hl 1 rfl) ?_
                refine lv_aload_n hx hb dX7_fewestMore_71 rfl (lv_at hl 0 rfl) ?_
                refine lv_iload_n hx hb dX7_fewestMore_72 rfl (lv_at hl 2 rfl) ?_
                obtain ⟨q27, hq27, hf⟩ := bd_some hf
                refine kr_W (st1 := [.int q27.1, .int s24.1]) (va_runV (As := [.int s24.2.1]) (rest := [.int s24.1]) ⟨hx, hb, hml, hown, hts⟩ (ct_X7_lessens l n g m_now m_kept m_aside m_isKept m_found s24.2.2 m_queue m_lives m_treads m_tape m_taped m_begins m_ends m_sort m_value m_isWrong m_items m_itemMany m_seedThen m_groundThen m_widths m_sizes m_numbers m_moved s24.2.1 q27 hq27) (cwV 1 hts gX7_fewestMore_X7_lessens rfl rfl rfl hd_X7_lessens ⟨Nat.le_of_ble_eq_true rfl, Nat.le_of_ble_eq_true rfl⟩) ⟨bl_M, va_recv hK hP (ci := 5) (q0 := 0) rfl k_md, pr_M rfl hB hP hS⟩ rfl rfl hl.1 rfl (lv_room (Nat.le_of_ble_eq_true rfl)) dX7_fewestMore_73 ⟨Nat.le_refl _, Nat.le_refl _⟩) hS rfl (fun hn28 H locs hP hS => ?_)
                have hP : va_P g.1 vwCl (mw g (m_now, m_kept, m_aside, m_isKept, m_found, q27.2, m_queue, m_lives, m_treads, m_tape, m_taped, m_begins, m_ends, m_sort, m_value, m_isWrong, m_items, m_itemMany, m_seedThen, m_groundThen, m_widths, m_sizes, m_numbers, m_moved)) H := hP
                refine lv_ior hx hb dX7_fewestMore_76 ?_
                refine lv_istore_n (lv' := [(2, .int (s24.1 ||| q27.1)), (0, .ref (gm g 0)), (3, .int s24.2.1)]) hx hb dX7_fewestMore_77 rfl hl (by decide) rfl (fun ls hl => ?_)
                refine lv_iinc (v := (s24.2.1 + (1 : Int32))) (lv' := [(3, .int (s24.2.1 + (1 : Int32))), (2, .int (s24.1 ||| q27.1)), (0, .ref (gm g 0))]) hx hb dX7_fewestMore_78 hl (k := 2) rfl (congrArg (fun y => s24.2.1 + y) (by decide : Int32.ofInt (1) = (1 : Int32))) (by decide) rfl (fun ls hl => ?_)
                refine lv_goto (tgt := 64) hx hb dX7_fewestMore_81 (by decide) ?_
                exact hback2 _ (Option.some.inj hf).symm H locs ls hP hS (lv_sub hl [2, 1, 0] rfl)
    · have hf := (if_pos hc7).symm.trans hf
      refine lv_bipush (v := (37 : Int32)) hx hb dX7_fewestMore_35 (by decide) ?_
      refine lv_goto (tgt := 53) hx hb dX7_fewestMore_37 (by decide) ?_
      obtain ⟨hg29, hf⟩ := gd_some hf
      refine va_iast (f := v2.2) hx hb hK hP (mD hB.2.2.1 _) hS 5 0 k_steps rfl hg29 dX7_fewestMore_53 (fun H locs hP _ hS => ?_)
      have hP : va_P g.1 vwCl (mw g (m_now, m_kept, m_aside, m_isKept, m_found, (upd v2.2 a1.toNatClampNeg (37 : Int32)), m_queue, m_lives, m_treads, m_tape, m_taped, m_begins, m_ends, m_sort, m_value, m_isWrong, m_items, m_itemMany, m_seedThen, m_groundThen, m_widths, m_sizes, m_numbers, m_moved)) H := w_eq (k_set_steps (upd v2.2 a1.toNatClampNeg (37 : Int32))) hP
      refine lv_iconst (v := (1 : Int32)) hx hb dX7_fewestMore_54 (by decide) ?_
      refine lv_istore_n (lv' := [(2, .int (1 : Int32)), (0, .ref (gm g 0)), (1, .int a1)]) hx hb dX7_fewestMore_55 rfl hl (by decide) rfl (fun ls hl => ?_)
      refine lp_run hf (fun s30 => ∀ (H : Heap) (locs : List Loc) (ls : Array Slot), va_P g.1 vwCl (mw g (m_now, m_kept, m_aside, m_isKept, m_found, s30.2, m_queue, m_lives, m_treads, m_tape, m_taped, m_begins, m_ends, m_sort, m_value, m_isWrong, m_items, m_itemMany, m_seedThen, m_groundThen, m_widths, m_sizes, m_numbers, m_moved)) H → va_S (mA g) s.heap H locs → lv_has ls 4 [(0, .ref (gm g 0)), (2, .int s30.1)] → W p l e (headSpec wsX7_fewestMore ({ frames := 2, cells := 0, slots := 0, locals := 46 })).room s m ([.ref (gm g 0), .int a1] : List Value).toArray below meth c H locs 0 0 (MQ below (qW none True g.1 (mw g (m_now, m_kept, m_aside, m_isKept, m_found, res, m_queue, m_lives, m_treads, m_tape, m_taped, m_begins, m_ends, m_sort, m_value, m_isWrong, m_items, m_itemMany, m_seedThen, m_groundThen, m_widths, m_sizes, m_numbers, m_moved)) (mA g)) ([.ref (gm g 0), .int a1] : List Value).toArray s 0 0 (mA g)) (F0 m 56 ls [])) (fun v31 => ∀ (H : Heap) (locs : List Loc) (ls : Array Slot), va_P g.1 vwCl (mw g (m_now, m_kept, m_aside, m_isKept, m_found, v31.2, m_queue, m_lives, m_treads, m_tape, m_taped, m_begins, m_ends, m_sort, m_value, m_isWrong, m_items, m_itemMany, m_seedThen, m_groundThen, m_widths, m_sizes, m_numbers, m_moved)) H → va_S (mA g) s.heap H locs → lv_has ls 4 [] → W p l e (headSpec wsX7_fewestMore ({ frames := 2, cells := 0, slots := 0, locals := 46 })).room s m ([.ref (gm g 0), .int a1] : List Value).toArray below meth c H locs 0 0 (MQ below (qW none True g.1 (mw g (m_now, m_kept, m_aside, m_isKept, m_found, res, m_queue, m_lives, m_treads, m_tape, m_taped, m_begins, m_ends, m_sort, m_value, m_isWrong, m_items, m_itemMany, m_seedThen, m_groundThen, m_widths, m_sizes, m_numbers, m_moved)) (mA g)) ([.ref (gm g 0), .int a1] : List Value).toArray s 0 0 (mA g)) (F0 m 87 ls [])) ?_ ?_ _ _ _ hP hS (lv_sub hl [1, 0] rfl)
      · intro v31 hf H locs ls hP hS hl
        have hres : v31.2 = res := (Option.some.inj hf)
        have hP := w_eq (congrArg (fun z => mw g (m_now, m_kept, m_aside, m_isKept, m_found, z, m_queue, m_lives, m_treads, m_tape, m_taped, m_begins, m_ends, m_sort, m_value, m_isWrong, m_items, m_itemMany, m_seedThen, m_groundThen, m_widths, m_sizes, m_numbers, m_moved)) hres) hP
        exact W.vret hx hb hr (fun t ht hW => ⟨rfl, trivial, by rw [ht]; exact hP, hS.F ht⟩) hS.2.2 dX7_fewestMore_87
      · intro s30 r1 hf hback1 hexit1 H locs ls hP hS hl
        refine lv_iload_n hx hb dX7_fewestMore_56 rfl (lv_at hl 1 rfl) ?_
        refine lv_if_eq (tgt := 87) hx hb dX7_fewestMore_57 (by decide) (fun hc32 => ?_) (fun hc32 => ?_)
        · have hf := (if_pos hc32).symm.trans hf
          exact hexit1 (s30.1, s30.2) (Option.some.inj hf).symm H locs ls hP hS (lv_sub hl [] rfl)
        · have hf := (if_neg hc32).symm.trans hf
          refine lv_iconst (v := (0 : Int32)) hx hb dX7_fewestMore_60 (by decide) ?_
          refine lv_istore_n (lv' := [(2, .int (0 : Int32)), (0, .ref (gm g 0))]) hx hb dX7_fewestMore_61 rfl hl (by decide) rfl (fun ls hl => ?_)
          refine lv_iconst (v := (0 : Int32)) hx hb dX7_fewestMore_62 (by decide) ?_
          refine lv_istore_n (lv' := [(3, .int (0 : Int32)), (2, .int (0 : Int32)), (0, .ref (gm g 0))]) hx hb dX7_fewestMore_63 rfl hl (by decide) rfl (fun ls hl => ?_)
          refine lp_run hf (fun s33 => ∀ (H : Heap) (locs : List Loc) (ls : Array Slot), va_P g.1 vwCl (mw g (m_now, m_kept, m_aside, m_isKept, m_found, s33.2.2, m_queue, m_lives, m_treads, m_tape, m_taped, m_begins, m_ends, m_sort, m_value, m_isWrong, m_items, m_itemMany, m_seedThen, m_groundThen, m_widths, m_sizes, m_numbers, m_moved)) H → va_S (mA g) s.heap H locs → lv_has ls 4 [(0, .ref (gm g 0)), (2, .int s33.1), (3, .int s33.2.1)] → W p l e (headSpec wsX7_fewestMore ({ frames := 2, cells := 0, slots := 0, locals := 46 })).room s m ([.ref (gm g 0), .int a1] : List Value).toArray below meth c H locs 0 0 (MQ below (qW none True g.1 (mw g (m_now, m_kept, m_aside, m_isKept, m_found, res, m_queue, m_lives, m_treads, m_tape, m_taped, m_begins, m_ends, m_sort, m_value, m_isWrong, m_items, m_itemMany, m_seedThen, m_groundThen, m_widths, m_sizes, m_numbers, m_moved)) (mA g)) ([.ref (gm g 0), .int a1] : List Value).toArray s 0 0 (mA g)) (F0 m 64 ls [])) (fun v34 => ∀ (H : Heap) (locs : List Loc) (ls : Array Slot), va_P g.1 vwCl (mw g (m_now, m_kept, m_aside, m_isKept, m_found, v34.2.2, m_queue, m_lives, m_treads, m_tape, m_taped, m_begins, m_ends, m_sort, m_value, m_isWrong, m_items, m_itemMany, m_seedThen, m_groundThen, m_widths, m_sizes, m_numbers, m_moved)) H → va_S (mA g) s.heap H locs → lv_has ls 4 [(0, .ref (gm g 0)), (2, .int v34.1)] → W p l e (headSpec wsX7_fewestMore ({ frames := 2, cells := 0, slots := 0, locals := 46 })).room s m ([.ref (gm g 0), .int a1] : List Value).toArray below meth c H locs 0 0 (MQ below (qW none True g.1 (mw g (m_now, m_kept, m_aside, m_isKept, m_found, res, m_queue, m_lives, m_treads, m_tape, m_taped, m_begins, m_ends, m_sort, m_value, m_isWrong, m_items, m_itemMany, m_seedThen, m_groundThen, m_widths, m_sizes, m_numbers, m_moved)) (mA g)) ([.ref (gm g 0), .int a1] : List Value).toArray s 0 0 (mA g)) (F0 m 84 ls [])) ?_ ?_ _ _ _ hP hS (lv_sub hl [2, 1, 0] rfl)
          · intro v34 hf H locs ls hP hS hl
            refine lv_goto (tgt := 56) hx hb dX7_fewestMore_84 (by decide) ?_
            exact hback1 _ (Option.some.inj hf).symm H locs ls hP hS (lv_sub hl [0, 1] rfl)
          · intro s33 r2 hf hback2 hexit2 H locs ls hP hS hl
            refine lv_iload_n hx hb dX7_fewestMore_64 rfl (lv_at hl 2 rfl) ?_
            refine lv_bipush (v := (36 : Int32)) hx hb dX7_fewestMore_65 (by decide) ?_
            refine lv_icmp_ge (tgt := 84) hx hb dX7_fewestMore_67 (by decide) (fun hc35 => ?_) (fun hc35 => ?_)
            · have hf := (if_pos hc35).symm.trans hf
              exact hexit2 (s33.1, s33.2.1, s33.2.2) (Option.some.inj hf).symm H locs ls hP hS (lv_sub hl [0, 1] rfl)
            · have hf := (if_neg hc35).symm.trans hf
              refine lv_iload_n hx hb dX7_fewestMore_70 rfl (lv_at hl 1 rfl) ?_
              refine lv_aload_n hx hb dX7_fewestMore_71 rfl (lv_at hl 0 rfl) ?_
              refine lv_iload_n hx hb dX7_fewestMore_72 rfl (lv_at hl 2 rfl) ?_
              obtain ⟨q36, hq36, hf⟩ := bd_some hf
              refine kr_W (st1 := [.int q36.1, .int s33.1]) (va_runV (As := [.int s33.2.1]) (rest := [.int s33.1]) ⟨hx, hb, hml, hown, hts⟩ (ct_X7_lessens l n g m_now m_kept m_aside m_isKept m_found s33.2.2 m_queue m_lives m_treads m_tape m_taped m_begins m_ends m_sort m_value m_isWrong m_items m_itemMany m_seedThen m_groundThen m_widths m_sizes m_numbers m_moved s33.2.1 q36 hq36) (cwV 1 hts gX7_fewestMore_X7_lessens rfl rfl rfl hd_X7_lessens ⟨Nat.le_of_ble_eq_true rfl, Nat.le_of_ble_eq_true rfl⟩) ⟨bl_M, va_recv hK hP (ci := 5) (q0 := 0) rfl k_md, pr_M rfl hB hP hS⟩ rfl rfl hl.1 rfl (lv_room (Nat.le_of_ble_eq_true rfl)) dX7_fewestMore_73 ⟨Nat.le_refl _, Nat.le_refl _⟩) hS rfl (fun hn37 H locs hP hS => ?_)
              have hP : va_P g.1 vwCl (mw g (m_now, m_kept, m_aside, m_isKept, m_found, q36.2, m_queue, m_lives, m_treads, m_tape, m_taped, m_begins, m_ends, m_sort, m_value, m_isWrong, m_items, m_itemMany, m_seedThen, m_groundThen, m_widths, m_sizes, m_numbers, m_moved)) H := hP
              refine lv_ior hx hb dX7_fewestMore_76 ?_
              refine lv_istore_n (lv' := [(2, .int (s33.1 ||| q36.1)), (0, .ref (gm g 0)), (3, .int s33.2.1)]) hx hb dX7_fewestMore_77 rfl hl (by decide) rfl (fun ls hl => ?_)
              refine lv_iinc (v := (s33.2.1 + (1 : Int32))) (lv' := [(3, .int (s33.2.1 + (1 : Int32))), (2, .int (s33.1 ||| q36.1)), (0, .ref (gm g 0))]) hx hb dX7_fewestMore_78 hl (k := 2) rfl (congrArg (fun y => s33.2.1 + y) (by decide : Int32.ofInt (1) = (1 : Int32))) (by decide) rfl (fun ls hl => ?_)
              refine lv_goto (tgt := 64) hx hb dX7_fewestMore_81 (by decide) ?_
              exact hback2 _ (Option.some.inj hf).symm H locs ls hP hS (lv_sub hl [2, 1, 0] rfl)
  · intro s1 r1 hf hback1 hexit1 H locs ls hP hS hl
    refine lv_iload_n hx hb dX7_fewestMore_2 rfl (lv_at hl 2 rfl) ?_
    refine lv_bipush (v := (36 : Int32)) hx hb dX7_fewestMore_3 (by decide) ?_
    refine lv_icmp_ge (tgt := 22) hx hb dX7_fewestMore_5 (by decide) (fun hc3 => ?_) (fun hc3 => ?_)
    · have hf := (if_pos hc3).symm.trans hf
      exact hexit1 (s1.1, s1.2) (Option.some.inj hf).symm H locs ls hP hS (lv_sub hl [0, 1] rfl)
    · have hf := (if_neg hc3).symm.trans hf
      refine lv_aload_n hx hb dX7_fewestMore_8 rfl (lv_at hl 0 rfl) ?_
      refine va_get (D := g.1) (ci := 5) (v := .ref (gm g 5)) (C := RX7) (T := TX7) (N := 27) hx hb hts iwX7 hown hK hP 0 k_md rfl 5 (by decide) hw0 (fun _ h9 => h9) rfl dX7_fewestMore_9 ?_
      refine lv_iload_n hx hb dX7_fewestMore_12 rfl (lv_at hl 2 rfl) ?_
      refine lv_bipush (v := (37 : Int32)) hx hb dX7_fewestMore_13 (by decide) ?_
      obtain ⟨hg4, hf⟩ := gd_some hf
      refine va_iast (f := s1.2) hx hb hK hP (mD hB.2.2.1 _) hS 5 0 k_steps rfl hg4 dX7_fewestMore_15 (fun H locs hP _ hS => ?_)
      have hP : va_P g.1 vwCl (mw g (m_now, m_kept, m_aside, m_isKept, m_found, (upd s1.2 s1.1.toNatClampNeg (37 : Int32)), m_queue, m_lives, m_treads, m_tape, m_taped, m_begins, m_ends, m_sort, m_value, m_isWrong, m_items, m_itemMany, m_seedThen, m_groundThen, m_widths, m_sizes, m_numbers, m_moved)) H := w_eq (k_set_steps (upd s1.2 s1.1.toNatClampNeg (37 : Int32))) hP
      refine lv_iinc (v := (s1.1 + (1 : Int32))) (lv' := [(2, .int (s1.1 + (1 : Int32))), (0, .ref (gm g 0)), (1, .int a1)]) hx hb dX7_fewestMore_16 hl (k := 2) rfl (congrArg (fun y => s1.1 + y) (by decide : Int32.ofInt (1) = (1 : Int32))) (by decide) rfl (fun ls hl => ?_)
      refine lv_goto (tgt := 2) hx hb dX7_fewestMore_19 (by decide) ?_
      exact hback1 _ (Option.some.inj hf).symm H locs ls hP hS (lv_sub hl [1, 2, 0] rfl)
set_option maxHeartbeats 4000000 in
set_option maxRecDepth 100000 in
theorem ct_X7_mend (l : Launch) (n : Nat) (g : GM) (m_now : Nat → Int32) (m_kept : Nat → Int32) (m_aside : Nat → Int32) (m_isKept : Int32) (m_found : Nat → Int32) (m_steps : Nat → Int32) (m_queue : Nat → Int32) (m_lives : Nat → Int32) (m_treads : Nat → Int32) (m_tape : Nat → Int32) (m_taped : Int32) (m_begins : Int32) (m_ends : Int32) (m_sort : Int32) (m_value : Int32) (m_isWrong : Int32) (m_items : Nat → Int32) (m_itemMany : Int32) (m_seedThen : Int32) (m_groundThen : Nat → Int32) (m_widths : Nat → Int32) (m_sizes : Nat → Int32) (m_numbers : Nat → Int32) (m_moved : Nat → Int32) (a1 : Int32) (a2 : Int32) (res : Int32 × (Nat → Int32) × (Nat → Int32)) (hf : fX7_mend n a1 a2 m_now m_found m_steps = some res) : Met l yX7_mend wsX7_mend ({ frames := 3, cells := 0, slots := 0, locals := 69 }) (va_Pc [.ref (gm g 0), .int a1, .int a2] (mI g (m_now, m_kept, m_aside, m_isKept, m_found, m_steps, m_queue, m_lives, m_treads, m_tape, m_taped, m_begins, m_ends, m_sort, m_value, m_isWrong, m_items, m_itemMany, m_seedThen, m_groundThen, m_widths, m_sizes, m_numbers, m_moved))) (qW (some (.int res.1)) True g.1 (mw g (m_now, m_kept, m_aside, m_isKept, res.2.1, res.2.2, m_queue, m_lives, m_treads, m_tape, m_taped, m_begins, m_ends, m_sort, m_value, m_isWrong, m_items, m_itemMany, m_seedThen, m_groundThen, m_widths, m_sizes, m_numbers, m_moved)) (mA g)) 0 0 (mA g) := by
  refine Met.ofW (cc := cX7_mend) (maxL := 3) (ret := (some .int)) (by decide) rfl ?_
  intro p e s m args below meth c s₁ B hml hv
  obtain ⟨rfl, hI⟩ := hv
  have hx := B.exec
  have hb := B.bytes
  have hr := B.returns
  have hts := atoms_spec (ws := wsX7_mend) B.pre
  have hown : s.vm.findClass RX7 = some m.cls := findClass_of_methodNamed B.named
  have hlocks := B.notSynchronized
  have hP := hI.1
  have hB := hI.2
  have hK := hB.1
  have hNW := hB.2.1
  have hS : va_S (mA g) s.heap s.heap [] := va_S.rf
  have hw0 := hts (.fieldLink RX7 22 "SownPathsModel" "steps" "[I") (by decide +kernel)
  have hw1 := hts (.constant RX7 100 (-1000004)) (by decide +kernel)
  have hw2 := hts (.constant RX7 95 (-1000001)) (by decide +kernel)
  have iwX7 : ∀ w ∈ wsX70, w ∈ wsX7_mend := fun w h => List.mem_cons_of_mem _ (List.mem_append_right _ h)
  have hl := lv_entry ([.ref (gm g 0), .int a1, .int a2]) (n := 3) (Nat.le_of_ble_eq_true rfl)
  rw [lg_entry_eq]
  generalize (lg_sl ([.ref (gm g 0), .int a1, .int a2]) ++ List.replicate (3 - (lg_sl ([.ref (gm g 0), .int a1, .int a2])).length) Slot.unset).toArray = ls at hl ⊢
  have hl : lv_has ls 3 [(0, .ref (gm g 0)), (1, .int a1), (2, .int a2)] := hl
  unfold fX7_mend at hf
  refine lv_iload_n hx hb dX7_mend_0 rfl (lv_at hl 1 rfl) ?_
  refine lv_iload_n hx hb dX7_mend_1 rfl (lv_at hl 2 rfl) ?_
  obtain ⟨q1, hq1, hf⟩ := bd_some hf
  refine kr_S (st1 := [.int q1]) (va_runS (As := [.int a1, .int a2]) (rest := []) ⟨hx, hb, hml, hown, hts⟩ (ct_X7_areCells l n a1 a2 q1 hq1) (va_cwS 2 hts gX7_mend_X7_areCells rfl rfl rfl hn_X7_areCells ⟨Nat.le_of_ble_eq_true rfl, Nat.le_of_ble_eq_true rfl⟩) ⟨bl_N, pr_N rfl hNW⟩ rfl rfl hl.1 rfl (lv_room (Nat.le_of_ble_eq_true rfl)) dX7_mend_2 ⟨Nat.le_refl _, Nat.le_refl _⟩) rfl (fun hn2 => ?_)
  refine lv_if_ne (tgt := 15) hx hb dX7_mend_5 (by decide) (fun hc3 => ?_) (fun hc3 => ?_)
  · have hf := (if_neg hc3).symm.trans hf
    refine lv_aload_n hx hb dX7_mend_15 rfl (lv_at hl 0 rfl) ?_
    refine lv_iload_n hx hb dX7_mend_16 rfl (lv_at hl 1 rfl) ?_
    obtain ⟨q4, hq4, hf⟩ := bd_some hf
    refine kr_W (st1 := []) (va_runV (As := [.int a1]) (rest := []) ⟨hx, hb, hml, hown, hts⟩ (ct_X7_fewestMore l n g m_now m_kept m_aside m_isKept m_found m_steps m_queue m_lives m_treads m_tape m_taped m_begins m_ends m_sort m_value m_isWrong m_items m_itemMany m_seedThen m_groundThen m_widths m_sizes m_numbers m_moved a1 q4 hq4) (cwV 1 hts gX7_mend_X7_fewestMore rfl rfl rfl hd_X7_fewestMore ⟨Nat.le_of_ble_eq_true rfl, Nat.le_of_ble_eq_true rfl⟩) ⟨bl_M, va_recv hK hP (ci := 5) (q0 := 0) rfl k_md, pr_M rfl hB hP hS⟩ rfl rfl hl.1 rfl (lv_room (Nat.le_of_ble_eq_true rfl)) dX7_mend_17 ⟨Nat.le_refl _, Nat.le_refl _⟩) hS rfl (fun hn5 H locs hP hS => ?_)
    have hP : va_P g.1 vwCl (mw g (m_now, m_kept, m_aside, m_isKept, m_found, q4, m_queue, m_lives, m_treads, m_tape, m_taped, m_begins, m_ends, m_sort, m_value, m_isWrong, m_items, m_itemMany, m_seedThen, m_groundThen, m_widths, m_sizes, m_numbers, m_moved)) H := hP
    refine lv_aload_n hx hb dX7_mend_20 rfl (lv_at hl 0 rfl) ?_
    refine va_get (D := g.1) (ci := 5) (v := .ref (gm g 5)) (C := RX7) (T := TX7) (N := 27) hx hb hts iwX7 hown hK hP 0 k_md rfl 5 (by decide) hw0 (fun _ h9 => h9) rfl dX7_mend_21 ?_
    refine lv_iload_n hx hb dX7_mend_24 rfl (lv_at hl 2 rfl) ?_
    obtain ⟨hg6, hf⟩ := gd_some hf
    refine va_iald (f := q4) hx hb hK hP 5 0 k_steps rfl hg6 dX7_mend_25 ?_
    refine lv_bipush (v := (36 : Int32)) hx hb dX7_mend_26 (by decide) ?_
    refine lv_icmp_le (tgt := 40) hx hb dX7_mend_28 (by decide) (fun hc7 => ?_) (fun hc7 => ?_)
    · have hf := (if_pos hc7).symm.trans hf
      refine lv_aload_n hx hb dX7_mend_40 rfl (lv_at hl 0 rfl) ?_
      refine va_get (D := g.1) (ci := 5) (v := .ref (gm g 5)) (C := RX7) (T := TX7) (N := 27) hx hb hts iwX7 hown hK hP 0 k_md rfl 5 (by decide) hw0 (fun _ h9 => h9) rfl dX7_mend_41 ?_
      refine lv_iload_n hx hb dX7_mend_44 rfl (lv_at hl 2 rfl) ?_
      obtain ⟨hg8, hf⟩ := gd_some hf
      refine va_iald (f := q4) hx hb hK hP 5 0 k_steps rfl hg8 dX7_mend_45 ?_
      have hres : ((q4 a2.toNatClampNeg), m_found, q4) = res := (Option.some.inj hf)
      have hP := w_eq (congrArg (fun z => mw g (m_now, m_kept, m_aside, m_isKept, z.2.1, z.2.2, m_queue, m_lives, m_treads, m_tape, m_taped, m_begins, m_ends, m_sort, m_value, m_isWrong, m_items, m_itemMany, m_seedThen, m_groundThen, m_widths, m_sizes, m_numbers, m_moved)) hres) hP
      exact W.iret (v := (q4 a2.toNatClampNeg)) hx hb hr (fun t ht hW => ⟨congrArg (fun z => Outcome.returned (some (Value.int z.1))) hres, trivial, by rw [ht]; exact hP, hS.F ht⟩) hS.2.2 dX7_mend_46
    · have hf := (if_neg hc7).symm.trans hf
      refine lv_aload_n hx hb dX7_mend_31 rfl (lv_at hl 0 rfl) ?_
      refine lv_ldc (v := (-1000004 : Int32)) hx hb hown hw1 dX7_mend_32 ?_
      obtain ⟨q9, hq9, hf⟩ := bd_some hf
      refine kr_W (st1 := [.int q9.1]) (va_runV (As := [.int (-1000004 : Int32)]) (rest := []) ⟨hx, hb, hml, hown, hts⟩ (ct_X7_finding l n g m_now m_kept m_aside m_isKept m_found q4 m_queue m_lives m_treads m_tape m_taped m_begins m_ends m_sort m_value m_isWrong m_items m_itemMany m_seedThen m_groundThen m_widths m_sizes m_numbers m_moved (-1000004 : Int32) q9 hq9) (cwV 1 hts gX7_mend_X7_finding rfl rfl rfl hd_X7_finding ⟨Nat.le_of_ble_eq_true rfl, Nat.le_of_ble_eq_true rfl⟩) ⟨bl_M, va_recv hK hP (ci := 5) (q0 := 0) rfl k_md, pr_M rfl hB hP hS⟩ rfl rfl hl.1 rfl (lv_room (Nat.le_of_ble_eq_true rfl)) dX7_mend_34 ⟨Nat.le_refl _, Nat.le_refl _⟩) hS rfl (fun hn10 H locs hP hS => ?_)
      have hP : va_P g.1 vwCl (mw g (m_now, m_kept, m_aside, m_isKept, q9.2, q4, m_queue, m_lives, m_treads, m_tape, m_taped, m_begins, m_ends, m_sort, m_value, m_isWrong, m_items, m_itemMany, m_seedThen, m_groundThen, m_widths, m_sizes, m_numbers, m_moved)) H := hP
      refine lv_goto (tgt := 46) hx hb dX7_mend_37 (by decide) ?_
      have hres : (q9.1, q9.2, q4) = res := (Option.some.inj hf)
      have hP := w_eq (congrArg (fun z => mw g (m_now, m_kept, m_aside, m_isKept, z.2.1, z.2.2, m_queue, m_lives, m_treads, m_tape, m_taped, m_begins, m_ends, m_sort, m_value, m_isWrong, m_items, m_itemMany, m_seedThen, m_groundThen, m_widths, m_sizes, m_numbers, m_moved)) hres) hP
      exact W.iret (v := q9.1) hx hb hr (fun t ht hW => ⟨congrArg (fun z => Outcome.returned (some (Value.int z.1))) hres, trivial, by rw [ht]; exact hP, hS.F ht⟩) hS.2.2 dX7_mend_46
  · have hf := (if_pos hc3).symm.trans hf
    refine lv_aload_n hx hb dX7_mend_8 rfl (lv_at hl 0 rfl) ?_
    refine lv_ldc (v := (-1000001 : Int32)) hx hb hown hw2 dX7_mend_9 ?_
    obtain ⟨q11, hq11, hf⟩ := bd_some hf
    refine kr_W (st1 := [.int q11.1]) (va_runV (As := [.int (-1000001 : Int32)]) (rest := []) ⟨hx, hb, hml, hown, hts⟩ (ct_X7_finding l n g m_now m_kept m_aside m_isKept m_found m_steps m_queue m_lives m_treads m_tape m_taped m_begins m_ends m_sort m_value m_isWrong m_items m_itemMany m_seedThen m_groundThen m_widths m_sizes m_numbers m_moved (-1000001 : Int32) q11 hq11) (cwV 1 hts gX7_mend_X7_finding rfl rfl rfl hd_X7_finding ⟨Nat.le_of_ble_eq_true rfl, Nat.le_of_ble_eq_true rfl⟩) ⟨bl_M, va_recv hK hP (ci := 5) (q0 := 0) rfl k_md, pr_M rfl hB hP hS⟩ rfl rfl hl.1 rfl (lv_room (Nat.le_of_ble_eq_true rfl)) dX7_mend_11 ⟨Nat.le_refl _, Nat.le_refl _⟩) hS rfl (fun hn12 H locs hP hS => ?_)
    have hP : va_P g.1 vwCl (mw g (m_now, m_kept, m_aside, m_isKept, q11.2, m_steps, m_queue, m_lives, m_treads, m_tape, m_taped, m_begins, m_ends, m_sort, m_value, m_isWrong, m_items, m_itemMany, m_seedThen, m_groundThen, m_widths, m_sizes, m_numbers, m_moved)) H := hP
    have hres : (q11.1, q11.2, m_steps) = res := (Option.some.inj hf)
    have hP := w_eq (congrArg (fun z => mw g (m_now, m_kept, m_aside, m_isKept, z.2.1, z.2.2, m_queue, m_lives, m_treads, m_tape, m_taped, m_begins, m_ends, m_sort, m_value, m_isWrong, m_items, m_itemMany, m_seedThen, m_groundThen, m_widths, m_sizes, m_numbers, m_moved)) hres) hP
    exact W.iret (v := q11.1) hx hb hr (fun t ht hW => ⟨congrArg (fun z => Outcome.returned (some (Value.int z.1))) hres, trivial, by rw [ht]; exact hP, hS.F ht⟩) hS.2.2 dX7_mend_14
set_option maxHeartbeats 4000000 in
set_option maxRecDepth 100000 in
theorem ct_X7_behind (l : Launch) (n : Nat) (g : GM) (m_now : Nat → Int32) (m_kept : Nat → Int32) (m_aside : Nat → Int32) (m_isKept : Int32) (m_found : Nat → Int32) (m_steps : Nat → Int32) (m_queue : Nat → Int32) (m_lives : Nat → Int32) (m_treads : Nat → Int32) (m_tape : Nat → Int32) (m_taped : Int32) (m_begins : Int32) (m_ends : Int32) (m_sort : Int32) (m_value : Int32) (m_isWrong : Int32) (m_items : Nat → Int32) (m_itemMany : Int32) (m_seedThen : Int32) (m_groundThen : Nat → Int32) (m_widths : Nat → Int32) (m_sizes : Nat → Int32) (m_numbers : Nat → Int32) (m_moved : Nat → Int32) (a1 : Int32) (a2 : Int32) (res : Int32 × (Nat → Int32) × (Nat → Int32)) (hf : fX7_behind n a1 a2 m_now m_aside m_lives m_treads = some res) : Met l yX7_behind wsX7_behind ({ frames := 9, cells := 0, slots := 0, locals := 204 }) (va_Pc [.ref (gm g 0), .int a1, .int a2] (mI g (m_now, m_kept, m_aside, m_isKept, m_found, m_steps, m_queue, m_lives, m_treads, m_tape, m_taped, m_begins, m_ends, m_sort, m_value, m_isWrong, m_items, m_itemMany, m_seedThen, m_groundThen, m_widths, m_sizes, m_numbers, m_moved))) (qW (some (.int res.1)) True g.1 (mw g (res.2.1, m_kept, res.2.2, m_isKept, m_found, m_steps, m_queue, m_lives, m_treads, m_tape, m_taped, m_begins, m_ends, m_sort, m_value, m_isWrong, m_items, m_itemMany, m_seedThen, m_groundThen, m_widths, m_sizes, m_numbers, m_moved)) (mA g)) 0 0 (mA g) := by
  refine Met.ofW (cc := cX7_behind) (maxL := 3) (ret := (some .int)) (by decide) rfl ?_
  intro p e s m args below meth c s₁ B hml hv
  obtain ⟨rfl, hI⟩ := hv
  have hx := B.exec
  have hb := B.bytes
  have hr := B.returns
  have hts := atoms_spec (ws := wsX7_behind) B.pre
  have hown : s.vm.findClass RX7 = some m.cls := findClass_of_methodNamed B.named
  have hlocks := B.notSynchronized
  have hP := hI.1
  have hB := hI.2
  have hK := hB.1
  have hNW := hB.2.1
  have hS : va_S (mA g) s.heap s.heap [] := va_S.rf
  have hw0 := hts (.fieldLink RX7 9 "SownPathsModel" "now" "[I") (by decide +kernel)
  have hw1 := hts (.fieldLink RX7 16 "SownPathsModel" "aside" "[I") (by decide +kernel)
  have iwX7 : ∀ w ∈ wsX70, w ∈ wsX7_behind := fun w h => List.mem_cons_of_mem _ (List.mem_append_right _ h)
  have hl := lv_entry ([.ref (gm g 0), .int a1, .int a2]) (n := 3) (Nat.le_of_ble_eq_true rfl)
  rw [lg_entry_eq]
  generalize (lg_sl ([.ref (gm g 0), .int a1, .int a2]) ++ List.replicate (3 - (lg_sl ([.ref (gm g 0), .int a1, .int a2])).length) Slot.unset).toArray = ls at hl ⊢
  have hl : lv_has ls 3 [(0, .ref (gm g 0)), (1, .int a1), (2, .int a2)] := hl
  unfold fX7_behind at hf
  refine lv_aload_n hx hb dX7_behind_0 rfl (lv_at hl 0 rfl) ?_
  refine va_get (D := g.1) (ci := 5) (v := .ref (gm g 1)) (C := RX7) (T := TX7) (N := 27) hx hb hts iwX7 hown hK hP 0 k_md rfl 0 (by decide) hw0 (fun _ h9 => h9) rfl dX7_behind_1 ?_
  refine lv_aload_n hx hb dX7_behind_4 rfl (lv_at hl 0 rfl) ?_
  refine va_get (D := g.1) (ci := 5) (v := .ref (gm g 3)) (C := RX7) (T := TX7) (N := 27) hx hb hts iwX7 hown hK hP 0 k_md rfl 2 (by decide) hw1 (fun _ h9 => h9) rfl dX7_behind_5 ?_
  obtain ⟨q1, hq1, hf⟩ := bd_some hf
  refine kr_W (st1 := []) (va_runS (As := [.ref (gm g 1), .ref (gm g 3)]) (rest := []) ⟨hx, hb, hml, hown, hts⟩ (ct_X7_copyRow l n g (m_now, m_kept, m_aside, m_isKept, m_found, m_steps, m_queue, m_lives, m_treads, m_tape, m_taped, m_begins, m_ends, m_sort, m_value, m_isWrong, m_items, m_itemMany, m_seedThen, m_groundThen, m_widths, m_sizes, m_numbers, m_moved) 3 117 m_aside k_aside 1 117 m_now k_now (by decide) q1 hq1) (va_cwS 2 hts gX7_behind_X7_copyRow rfl rfl rfl hn_X7_copyRow ⟨Nat.le_of_ble_eq_true rfl, Nat.le_of_ble_eq_true rfl⟩) ⟨bl_M, pr_M rfl hB hP hS⟩ rfl rfl hl.1 rfl (lv_room (Nat.le_of_ble_eq_true rfl)) dX7_behind_8 ⟨Nat.le_refl _, Nat.le_refl _⟩) hS rfl (fun hn2 H locs hP hS => ?_)
  have hP : va_P g.1 vwCl (mw g (m_now, m_kept, q1, m_isKept, m_found, m_steps, m_queue, m_lives, m_treads, m_tape, m_taped, m_begins, m_ends, m_sort, m_value, m_isWrong, m_items, m_itemMany, m_seedThen, m_groundThen, m_widths, m_sizes, m_numbers, m_moved)) H := w_eq (k_set_aside q1) hP
  refine lv_aload_n hx hb dX7_behind_11 rfl (lv_at hl 0 rfl) ?_
  refine lv_iload_n hx hb dX7_behind_12 rfl (lv_at hl 2 rfl) ?_
  obtain ⟨q3, hq3, hf⟩ := bd_some hf
  refine kr_W (st1 := []) (va_runV (As := [.int a2]) (rest := []) ⟨hx, hb, hml, hown, hts⟩ (ct_X7_seasons l n g m_now m_kept q1 m_isKept m_found m_steps m_queue m_lives m_treads m_tape m_taped m_begins m_ends m_sort m_value m_isWrong m_items m_itemMany m_seedThen m_groundThen m_widths m_sizes m_numbers m_moved a2 q3 hq3) (cwV 1 hts gX7_behind_X7_seasons rfl rfl rfl hd_X7_seasons ⟨Nat.le_of_ble_eq_true rfl, Nat.le_of_ble_eq_true rfl⟩) ⟨bl_M, va_recv hK hP (ci := 5) (q0 := 0) rfl k_md, pr_M rfl hB hP hS⟩ rfl rfl hl.1 rfl (lv_room (Nat.le_of_ble_eq_true rfl)) dX7_behind_13 ⟨Nat.le_refl _, Nat.le_refl _⟩) hS rfl (fun hn4 H locs hP hS => ?_)
  have hP : va_P g.1 vwCl (mw g (q3, m_kept, q1, m_isKept, m_found, m_steps, m_queue, m_lives, m_treads, m_tape, m_taped, m_begins, m_ends, m_sort, m_value, m_isWrong, m_items, m_itemMany, m_seedThen, m_groundThen, m_widths, m_sizes, m_numbers, m_moved)) H := hP
  refine lv_aload_n hx hb dX7_behind_16 rfl (lv_at hl 0 rfl) ?_
  refine lv_aload_n hx hb dX7_behind_17 rfl (lv_at hl 0 rfl) ?_
  refine va_get (D := g.1) (ci := 5) (v := .ref (gm g 1)) (C := RX7) (T := TX7) (N := 27) hx hb hts iwX7 hown hK hP 0 k_md rfl 0 (by decide) hw0 (fun _ h9 => h9) rfl dX7_behind_18 ?_
  refine lv_iload_n hx hb dX7_behind_21 rfl (lv_at hl 1 rfl) ?_
  obtain ⟨hg5, hf⟩ := gd_some hf
  refine va_iald (f := q3) hx hb hK hP 1 0 k_now rfl hg5 dX7_behind_22 ?_
  obtain ⟨q6, hq6, hf⟩ := bd_some hf
  refine kr_W (st1 := [.int q6.1]) (va_runV (As := [.int (q3 a1.toNatClampNeg)]) (rest := []) ⟨hx, hb, hml, hown, hts⟩ (ct_X7_putBack l n g q3 m_kept q1 m_isKept m_found m_steps m_queue m_lives m_treads m_tape m_taped m_begins m_ends m_sort m_value m_isWrong m_items m_itemMany m_seedThen m_groundThen m_widths m_sizes m_numbers m_moved (q3 a1.toNatClampNeg) q6 hq6) (cwV 1 hts gX7_behind_X7_putBack rfl rfl rfl hd_X7_putBack ⟨Nat.le_of_ble_eq_true rfl, Nat.le_of_ble_eq_true rfl⟩) ⟨bl_M, va_recv hK hP (ci := 5) (q0 := 0) rfl k_md, pr_M rfl hB hP hS⟩ rfl rfl hl.1 rfl (lv_room (Nat.le_of_ble_eq_true rfl)) dX7_behind_23 ⟨Nat.le_refl _, Nat.le_refl _⟩) hS rfl (fun hn7 H locs hP hS => ?_)
  have hP : va_P g.1 vwCl (mw g (q6.2, m_kept, q1, m_isKept, m_found, m_steps, m_queue, m_lives, m_treads, m_tape, m_taped, m_begins, m_ends, m_sort, m_value, m_isWrong, m_items, m_itemMany, m_seedThen, m_groundThen, m_widths, m_sizes, m_numbers, m_moved)) H := hP
  have hres : (q6.1, q6.2, q1) = res := (Option.some.inj hf)
  have hP := w_eq (congrArg (fun z => mw g (z.2.1, m_kept, z.2.2, m_isKept, m_found, m_steps, m_queue, m_lives, m_treads, m_tape, m_taped, m_begins, m_ends, m_sort, m_value, m_isWrong, m_items, m_itemMany, m_seedThen, m_groundThen, m_widths, m_sizes, m_numbers, m_moved)) hres) hP
  exact W.iret (v := q6.1) hx hb hr (fun t ht hW => ⟨congrArg (fun z => Outcome.returned (some (Value.int z.1))) hres, trivial, by rw [ht]; exact hP, hS.F ht⟩) hS.2.2 dX7_behind_26
set_option maxHeartbeats 4000000 in
set_option maxRecDepth 100000 in
theorem ct_X7_ahead (l : Launch) (n : Nat) (g : GM) (m_now : Nat → Int32) (m_kept : Nat → Int32) (m_aside : Nat → Int32) (m_isKept : Int32) (m_found : Nat → Int32) (m_steps : Nat → Int32) (m_queue : Nat → Int32) (m_lives : Nat → Int32) (m_treads : Nat → Int32) (m_tape : Nat → Int32) (m_taped : Int32) (m_begins : Int32) (m_ends : Int32) (m_sort : Int32) (m_value : Int32) (m_isWrong : Int32) (m_items : Nat → Int32) (m_itemMany : Int32) (m_seedThen : Int32) (m_groundThen : Nat → Int32) (m_widths : Nat → Int32) (m_sizes : Nat → Int32) (m_numbers : Nat → Int32) (m_moved : Nat → Int32) (a1 : Int32) (a2 : Int32) (res : Int32 × (Nat → Int32) × (Nat → Int32) × (Nat → Int32)) (hf : fX7_ahead n a1 a2 m_now m_aside m_found m_lives m_treads = some res) : Met l yX7_ahead wsX7_ahead ({ frames := 10, cells := 0, slots := 0, locals := 226 }) (va_Pc [.ref (gm g 0), .int a1, .int a2] (mI g (m_now, m_kept, m_aside, m_isKept, m_found, m_steps, m_queue, m_lives, m_treads, m_tape, m_taped, m_begins, m_ends, m_sort, m_value, m_isWrong, m_items, m_itemMany, m_seedThen, m_groundThen, m_widths, m_sizes, m_numbers, m_moved))) (qW (some (.int res.1)) True g.1 (mw g (res.2.1, m_kept, res.2.2.1, m_isKept, res.2.2.2, m_steps, m_queue, m_lives, m_treads, m_tape, m_taped, m_begins, m_ends, m_sort, m_value, m_isWrong, m_items, m_itemMany, m_seedThen, m_groundThen, m_widths, m_sizes, m_numbers, m_moved)) (mA g)) 0 0 (mA g) := by
  refine Met.ofW (cc := cX7_ahead) (maxL := 3) (ret := (some .int)) (by decide) rfl ?_
  intro p e s m args below meth c s₁ B hml hv
  obtain ⟨rfl, hI⟩ := hv
  have hx := B.exec
  have hb := B.bytes
  have hr := B.returns
  have hts := atoms_spec (ws := wsX7_ahead) B.pre
  have hown : s.vm.findClass RX7 = some m.cls := findClass_of_methodNamed B.named
  have hlocks := B.notSynchronized
  have hP := hI.1
  have hB := hI.2
  have hK := hB.1
  have hNW := hB.2.1
  have hS : va_S (mA g) s.heap s.heap [] := va_S.rf
  have hw0 := hts (.constant RX7 95 (-1000001)) (by decide +kernel)
  have hl := lv_entry ([.ref (gm g 0), .int a1, .int a2]) (n := 3) (Nat.le_of_ble_eq_true rfl)
  rw [lg_entry_eq]
  generalize (lg_sl ([.ref (gm g 0), .int a1, .int a2]) ++ List.replicate (3 - (lg_sl ([.ref (gm g 0), .int a1, .int a2])).length) Slot.unset).toArray = ls at hl ⊢
  have hl : lv_has ls 3 [(0, .ref (gm g 0)), (1, .int a1), (2, .int a2)] := hl
  unfold fX7_ahead at hf
  refine lv_iload_n hx hb dX7_ahead_0 rfl (lv_at hl 1 rfl) ?_
  obtain ⟨q1, hq1, hf⟩ := bd_some hf
  refine kr_S (st1 := [.int q1]) (va_runS (As := [.int a1]) (rest := []) ⟨hx, hb, hml, hown, hts⟩ (ct_X7_isCell l n a1 q1 hq1) (va_cwS 1 hts gX7_ahead_X7_isCell rfl rfl rfl hn_X7_isCell ⟨Nat.le_of_ble_eq_true rfl, Nat.le_of_ble_eq_true rfl⟩) ⟨bl_N, pr_N rfl hNW⟩ rfl rfl hl.1 rfl (lv_room (Nat.le_of_ble_eq_true rfl)) dX7_ahead_1 ⟨Nat.le_refl _, Nat.le_refl _⟩) rfl (fun hn2 => ?_)
  refine lv_if_eq (tgt := 29) hx hb dX7_ahead_4 (by decide) (fun hc3 => ?_) (fun hc3 => ?_)
  · have hf := (if_pos hc3).symm.trans hf
    refine lv_aload_n hx hb dX7_ahead_29 rfl (lv_at hl 0 rfl) ?_
    refine lv_ldc (v := (-1000001 : Int32)) hx hb hown hw0 dX7_ahead_30 ?_
    obtain ⟨q4, hq4, hf⟩ := bd_some hf
    refine kr_W (st1 := [.int q4.1]) (va_runV (As := [.int (-1000001 : Int32)]) (rest := []) ⟨hx, hb, hml, hown, hts⟩ (ct_X7_finding l n g m_now m_kept m_aside m_isKept m_found m_steps m_queue m_lives m_treads m_tape m_taped m_begins m_ends m_sort m_value m_isWrong m_items m_itemMany m_seedThen m_groundThen m_widths m_sizes m_numbers m_moved (-1000001 : Int32) q4 hq4) (cwV 1 hts gX7_ahead_X7_finding rfl rfl rfl hd_X7_finding ⟨Nat.le_of_ble_eq_true rfl, Nat.le_of_ble_eq_true rfl⟩) ⟨bl_M, va_recv hK hP (ci := 5) (q0 := 0) rfl k_md, pr_M rfl hB hP hS⟩ rfl rfl hl.1 rfl (lv_room (Nat.le_of_ble_eq_true rfl)) dX7_ahead_32 ⟨Nat.le_refl _, Nat.le_refl _⟩) hS rfl (fun hn5 H locs hP hS => ?_)
    have hP : va_P g.1 vwCl (mw g (m_now, m_kept, m_aside, m_isKept, q4.2, m_steps, m_queue, m_lives, m_treads, m_tape, m_taped, m_begins, m_ends, m_sort, m_value, m_isWrong, m_items, m_itemMany, m_seedThen, m_groundThen, m_widths, m_sizes, m_numbers, m_moved)) H := hP
    have hres : (q4.1, m_now, m_aside, q4.2) = res := (Option.some.inj hf)
    have hP := w_eq (congrArg (fun z => mw g (z.2.1, m_kept, z.2.2.1, m_isKept, z.2.2.2, m_steps, m_queue, m_lives, m_treads, m_tape, m_taped, m_begins, m_ends, m_sort, m_value, m_isWrong, m_items, m_itemMany, m_seedThen, m_groundThen, m_widths, m_sizes, m_numbers, m_moved)) hres) hP
    exact W.iret (v := q4.1) hx hb hr (fun t ht hW => ⟨congrArg (fun z => Outcome.returned (some (Value.int z.1))) hres, trivial, by rw [ht]; exact hP, hS.F ht⟩) hS.2.2 dX7_ahead_35
  · have hf := (if_neg hc3).symm.trans hf
    refine lv_iload_n hx hb dX7_ahead_7 rfl (lv_at hl 2 rfl) ?_
    refine lv_iconst (v := (0 : Int32)) hx hb dX7_ahead_8 (by decide) ?_
    refine lv_bipush (v := (60 : Int32)) hx hb dX7_ahead_9 (by decide) ?_
    obtain ⟨q6, hq6, hf⟩ := bd_some hf
    refine kr_S (st1 := [.int q6]) (va_runS (As := [.int a2, .int (0 : Int32), .int (60 : Int32)]) (rest := []) ⟨hx, hb, hml, hown, hts⟩ (ct_X7_within l n a2 (0 : Int32) (60 : Int32) q6 hq6) (va_cwS 3 hts gX7_ahead_X7_within rfl rfl rfl hn_X7_within ⟨Nat.le_of_ble_eq_true rfl, Nat.le_of_ble_eq_true rfl⟩) ⟨bl_N, pr_N rfl hNW⟩ rfl rfl hl.1 rfl (lv_room (Nat.le_of_ble_eq_true rfl)) dX7_ahead_11 ⟨Nat.le_refl _, Nat.le_refl _⟩) rfl (fun hn7 => ?_)
    refine lv_if_eq (tgt := 29) hx hb dX7_ahead_14 (by decide) (fun hc8 => ?_) (fun hc8 => ?_)
    · have hf := (if_pos hc8).symm.trans hf
      refine lv_aload_n hx hb dX7_ahead_29 rfl (lv_at hl 0 rfl) ?_
      refine lv_ldc (v := (-1000001 : Int32)) hx hb hown hw0 dX7_ahead_30 ?_
      obtain ⟨q9, hq9, hf⟩ := bd_some hf
      refine kr_W (st1 := [.int q9.1]) (va_runV (As := [.int (-1000001 : Int32)]) (rest := []) ⟨hx, hb, hml, hown, hts⟩ (ct_X7_finding l n g m_now m_kept m_aside m_isKept m_found m_steps m_queue m_lives m_treads m_tape m_taped m_begins m_ends m_sort m_value m_isWrong m_items m_itemMany m_seedThen m_groundThen m_widths m_sizes m_numbers m_moved (-1000001 : Int32) q9 hq9) (cwV 1 hts gX7_ahead_X7_finding rfl rfl rfl hd_X7_finding ⟨Nat.le_of_ble_eq_true rfl, Nat.le_of_ble_eq_true rfl⟩) ⟨bl_M, va_recv hK hP (ci := 5) (q0 := 0) rfl k_md, pr_M rfl hB hP hS⟩ rfl rfl hl.1 rfl (lv_room (Nat.le_of_ble_eq_true rfl)) dX7_ahead_32 ⟨Nat.le_refl _, Nat.le_refl _⟩) hS rfl (fun hn10 H locs hP hS => ?_)
      have hP : va_P g.1 vwCl (mw g (m_now, m_kept, m_aside, m_isKept, q9.2, m_steps, m_queue, m_lives, m_treads, m_tape, m_taped, m_begins, m_ends, m_sort, m_value, m_isWrong, m_items, m_itemMany, m_seedThen, m_groundThen, m_widths, m_sizes, m_numbers, m_moved)) H := hP
      have hres : (q9.1, m_now, m_aside, q9.2) = res := (Option.some.inj hf)
      have hP := w_eq (congrArg (fun z => mw g (z.2.1, m_kept, z.2.2.1, m_isKept, z.2.2.2, m_steps, m_queue, m_lives, m_treads, m_tape, m_taped, m_begins, m_ends, m_sort, m_value, m_isWrong, m_items, m_itemMany, m_seedThen, m_groundThen, m_widths, m_sizes, m_numbers, m_moved)) hres) hP
      exact W.iret (v := q9.1) hx hb hr (fun t ht hW => ⟨congrArg (fun z => Outcome.returned (some (Value.int z.1))) hres, trivial, by rw [ht]; exact hP, hS.F ht⟩) hS.2.2 dX7_ahead_35
    · have hf := (if_neg hc8).symm.trans hf
      refine lv_aload_n hx hb dX7_ahead_17 rfl (lv_at hl 0 rfl) ?_
      refine lv_bipush (v := (49 : Int32)) hx hb dX7_ahead_18 (by decide) ?_
      refine lv_iload_n hx hb dX7_ahead_20 rfl (lv_at hl 1 rfl) ?_
      refine lv_iadd hx hb dX7_ahead_21 ?_
      refine lv_iload_n hx hb dX7_ahead_22 rfl (lv_at hl 2 rfl) ?_
      obtain ⟨q11, hq11, hf⟩ := bd_some hf
      refine kr_W (st1 := [.int q11.1]) (va_runV (As := [.int ((49 : Int32) + a1), .int a2]) (rest := []) ⟨hx, hb, hml, hown, hts⟩ (ct_X7_behind l n g m_now m_kept m_aside m_isKept m_found m_steps m_queue m_lives m_treads m_tape m_taped m_begins m_ends m_sort m_value m_isWrong m_items m_itemMany m_seedThen m_groundThen m_widths m_sizes m_numbers m_moved ((49 : Int32) + a1) a2 q11 hq11) (cwV 2 hts gX7_ahead_X7_behind rfl rfl rfl hd_X7_behind ⟨Nat.le_of_ble_eq_true rfl, Nat.le_of_ble_eq_true rfl⟩) ⟨bl_M, va_recv hK hP (ci := 5) (q0 := 0) rfl k_md, pr_M rfl hB hP hS⟩ rfl rfl hl.1 rfl (lv_room (Nat.le_of_ble_eq_true rfl)) dX7_ahead_23 ⟨Nat.le_refl _, Nat.le_refl _⟩) hS rfl (fun hn12 H locs hP hS => ?_)
      have hP : va_P g.1 vwCl (mw g (q11.2.1, m_kept, q11.2.2, m_isKept, m_found, m_steps, m_queue, m_lives, m_treads, m_tape, m_taped, m_begins, m_ends, m_sort, m_value, m_isWrong, m_items, m_itemMany, m_seedThen, m_groundThen, m_widths, m_sizes, m_numbers, m_moved)) H := hP
      refine lv_goto (tgt := 35) hx hb dX7_ahead_26 (by decide) ?_
      have hres : (q11.1, q11.2.1, q11.2.2, m_found) = res := (Option.some.inj hf)
      have hP := w_eq (congrArg (fun z => mw g (z.2.1, m_kept, z.2.2.1, m_isKept, z.2.2.2, m_steps, m_queue, m_lives, m_treads, m_tape, m_taped, m_begins, m_ends, m_sort, m_value, m_isWrong, m_items, m_itemMany, m_seedThen, m_groundThen, m_widths, m_sizes, m_numbers, m_moved)) hres) hP
      exact W.iret (v := q11.1) hx hb hr (fun t ht hW => ⟨congrArg (fun z => Outcome.returned (some (Value.int z.1))) hres, trivial, by rw [ht]; exact hP, hS.F ht⟩) hS.2.2 dX7_ahead_35
set_option maxHeartbeats 4000000 in
set_option maxRecDepth 100000 in
theorem ct_X7_head (l : Launch) (n : Nat) (g : GM) (m_now : Nat → Int32) (m_kept : Nat → Int32) (m_aside : Nat → Int32) (m_isKept : Int32) (m_found : Nat → Int32) (m_steps : Nat → Int32) (m_queue : Nat → Int32) (m_lives : Nat → Int32) (m_treads : Nat → Int32) (m_tape : Nat → Int32) (m_taped : Int32) (m_begins : Int32) (m_ends : Int32) (m_sort : Int32) (m_value : Int32) (m_isWrong : Int32) (m_items : Nat → Int32) (m_itemMany : Int32) (m_seedThen : Int32) (m_groundThen : Nat → Int32) (m_widths : Nat → Int32) (m_sizes : Nat → Int32) (m_numbers : Nat → Int32) (m_moved : Nat → Int32) (a1 : Int32) (a2 : Int32) (res : Int32 × (Nat → Int32) × (Nat → Int32) × (Nat → Int32)) (hf : fX7_head n a1 a2 m_now m_aside m_found m_lives m_treads = some res) : Met l yX7_head wsX7_head ({ frames := 10, cells := 0, slots := 0, locals := 226 }) (va_Pc [.ref (gm g 0), .int a1, .int a2] (mI g (m_now, m_kept, m_aside, m_isKept, m_found, m_steps, m_queue, m_lives, m_treads, m_tape, m_taped, m_begins, m_ends, m_sort, m_value, m_isWrong, m_items, m_itemMany, m_seedThen, m_groundThen, m_widths, m_sizes, m_numbers, m_moved))) (qW (some (.int res.1)) True g.1 (mw g (res.2.1, m_kept, res.2.2.1, m_isKept, res.2.2.2, m_steps, m_queue, m_lives, m_treads, m_tape, m_taped, m_begins, m_ends, m_sort, m_value, m_isWrong, m_items, m_itemMany, m_seedThen, m_groundThen, m_widths, m_sizes, m_numbers, m_moved)) (mA g)) 0 0 (mA g) := by
  refine Met.ofW (cc := cX7_head) (maxL := 3) (ret := (some .int)) (by decide) rfl ?_
  intro p e s m args below meth c s₁ B hml hv
  obtain ⟨rfl, hI⟩ := hv
  have hx := B.exec
  have hb := B.bytes
  have hr := B.returns
  have hts := atoms_spec (ws := wsX7_head) B.pre
  have hown : s.vm.findClass RX7 = some m.cls := findClass_of_methodNamed B.named
  have hlocks := B.notSynchronized
  have hP := hI.1
  have hB := hI.2
  have hK := hB.1
  have hNW := hB.2.1
  have hS : va_S (mA g) s.heap s.heap [] := va_S.rf
  have hw0 := hts (.constant RX7 95 (-1000001)) (by decide +kernel)
  have hl := lv_entry ([.ref (gm g 0), .int a1, .int a2]) (n := 3) (Nat.le_of_ble_eq_true rfl)
  rw [lg_entry_eq]
  generalize (lg_sl ([.ref (gm g 0), .int a1, .int a2]) ++ List.replicate (3 - (lg_sl ([.ref (gm g 0), .int a1, .int a2])).length) Slot.unset).toArray = ls at hl ⊢
  have hl : lv_has ls 3 [(0, .ref (gm g 0)), (1, .int a1), (2, .int a2)] := hl
  unfold fX7_head at hf
  refine lv_aload_n hx hb dX7_head_0 rfl (lv_at hl 0 rfl) ?_
  refine lv_iload_n hx hb dX7_head_1 rfl (lv_at hl 1 rfl) ?_
  obtain ⟨q1, hq1, hf⟩ := bd_some hf
  refine kr_S (st1 := [.int q1]) (va_runV (As := [.int a1]) (rest := []) ⟨hx, hb, hml, hown, hts⟩ (ct_X7_isSeed l n g m_now m_kept m_aside m_isKept m_found m_steps m_queue m_lives m_treads m_tape m_taped m_begins m_ends m_sort m_value m_isWrong m_items m_itemMany m_seedThen m_groundThen m_widths m_sizes m_numbers m_moved a1 q1 hq1) (cwV 1 hts gX7_head_X7_isSeed rfl rfl rfl hd_X7_isSeed ⟨Nat.le_of_ble_eq_true rfl, Nat.le_of_ble_eq_true rfl⟩) ⟨bl_M, va_recv hK hP (ci := 5) (q0 := 0) rfl k_md, pr_M rfl hB hP hS⟩ rfl rfl hl.1 rfl (lv_room (Nat.le_of_ble_eq_true rfl)) dX7_head_2 ⟨Nat.le_refl _, Nat.le_refl _⟩) rfl (fun hn2 => ?_)
  refine lv_if_eq (tgt := 31) hx hb dX7_head_5 (by decide) (fun hc3 => ?_) (fun hc3 => ?_)
  · have hf := (if_pos hc3).symm.trans hf
    refine lv_aload_n hx hb dX7_head_31 rfl (lv_at hl 0 rfl) ?_
    refine lv_ldc (v := (-1000001 : Int32)) hx hb hown hw0 dX7_head_32 ?_
    obtain ⟨q4, hq4, hf⟩ := bd_some hf
    refine kr_W (st1 := [.int q4.1]) (va_runV (As := [.int (-1000001 : Int32)]) (rest := []) ⟨hx, hb, hml, hown, hts⟩ (ct_X7_finding l n g m_now m_kept m_aside m_isKept m_found m_steps m_queue m_lives m_treads m_tape m_taped m_begins m_ends m_sort m_value m_isWrong m_items m_itemMany m_seedThen m_groundThen m_widths m_sizes m_numbers m_moved (-1000001 : Int32) q4 hq4) (cwV 1 hts gX7_head_X7_finding rfl rfl rfl hd_X7_finding ⟨Nat.le_of_ble_eq_true rfl, Nat.le_of_ble_eq_true rfl⟩) ⟨bl_M, va_recv hK hP (ci := 5) (q0 := 0) rfl k_md, pr_M rfl hB hP hS⟩ rfl rfl hl.1 rfl (lv_room (Nat.le_of_ble_eq_true rfl)) dX7_head_34 ⟨Nat.le_refl _, Nat.le_refl _⟩) hS rfl (fun hn5 H locs hP hS => ?_)
    have hP : va_P g.1 vwCl (mw g (m_now, m_kept, m_aside, m_isKept, q4.2, m_steps, m_queue, m_lives, m_treads, m_tape, m_taped, m_begins, m_ends, m_sort, m_value, m_isWrong, m_items, m_itemMany, m_seedThen, m_groundThen, m_widths, m_sizes, m_numbers, m_moved)) H := hP
    have hres : (q4.1, m_now, m_aside, q4.2) = res := (Option.some.inj hf)
    have hP := w_eq (congrArg (fun z => mw g (z.2.1, m_kept, z.2.2.1, m_isKept, z.2.2.2, m_steps, m_queue, m_lives, m_treads, m_tape, m_taped, m_begins, m_ends, m_sort, m_value, m_isWrong, m_items, m_itemMany, m_seedThen, m_groundThen, m_widths, m_sizes, m_numbers, m_moved)) hres) hP
    exact W.iret (v := q4.1) hx hb hr (fun t ht hW => ⟨congrArg (fun z => Outcome.returned (some (Value.int z.1))) hres, trivial, by rw [ht]; exact hP, hS.F ht⟩) hS.2.2 dX7_head_37
  · have hf := (if_neg hc3).symm.trans hf
    refine lv_iload_n hx hb dX7_head_8 rfl (lv_at hl 2 rfl) ?_
    refine lv_iconst (v := (0 : Int32)) hx hb dX7_head_9 (by decide) ?_
    refine lv_bipush (v := (60 : Int32)) hx hb dX7_head_10 (by decide) ?_
    obtain ⟨q6, hq6, hf⟩ := bd_some hf
    refine kr_S (st1 := [.int q6]) (va_runS (As := [.int a2, .int (0 : Int32), .int (60 : Int32)]) (rest := []) ⟨hx, hb, hml, hown, hts⟩ (ct_X7_within l n a2 (0 : Int32) (60 : Int32) q6 hq6) (va_cwS 3 hts gX7_head_X7_within rfl rfl rfl hn_X7_within ⟨Nat.le_of_ble_eq_true rfl, Nat.le_of_ble_eq_true rfl⟩) ⟨bl_N, pr_N rfl hNW⟩ rfl rfl hl.1 rfl (lv_room (Nat.le_of_ble_eq_true rfl)) dX7_head_12 ⟨Nat.le_refl _, Nat.le_refl _⟩) rfl (fun hn7 => ?_)
    refine lv_if_eq (tgt := 31) hx hb dX7_head_15 (by decide) (fun hc8 => ?_) (fun hc8 => ?_)
    · have hf := (if_pos hc8).symm.trans hf
      refine lv_aload_n hx hb dX7_head_31 rfl (lv_at hl 0 rfl) ?_
      refine lv_ldc (v := (-1000001 : Int32)) hx hb hown hw0 dX7_head_32 ?_
      obtain ⟨q9, hq9, hf⟩ := bd_some hf
      refine kr_W (st1 := [.int q9.1]) (va_runV (As := [.int (-1000001 : Int32)]) (rest := []) ⟨hx, hb, hml, hown, hts⟩ (ct_X7_finding l n g m_now m_kept m_aside m_isKept m_found m_steps m_queue m_lives m_treads m_tape m_taped m_begins m_ends m_sort m_value m_isWrong m_items m_itemMany m_seedThen m_groundThen m_widths m_sizes m_numbers m_moved (-1000001 : Int32) q9 hq9) (cwV 1 hts gX7_head_X7_finding rfl rfl rfl hd_X7_finding ⟨Nat.le_of_ble_eq_true rfl, Nat.le_of_ble_eq_true rfl⟩) ⟨bl_M, va_recv hK hP (ci := 5) (q0 := 0) rfl k_md, pr_M rfl hB hP hS⟩ rfl rfl hl.1 rfl (lv_room (Nat.le_of_ble_eq_true rfl)) dX7_head_34 ⟨Nat.le_refl _, Nat.le_refl _⟩) hS rfl (fun hn10 H locs hP hS => ?_)
      have hP : va_P g.1 vwCl (mw g (m_now, m_kept, m_aside, m_isKept, q9.2, m_steps, m_queue, m_lives, m_treads, m_tape, m_taped, m_begins, m_ends, m_sort, m_value, m_isWrong, m_items, m_itemMany, m_seedThen, m_groundThen, m_widths, m_sizes, m_numbers, m_moved)) H := hP
      have hres : (q9.1, m_now, m_aside, q9.2) = res := (Option.some.inj hf)
      have hP := w_eq (congrArg (fun z => mw g (z.2.1, m_kept, z.2.2.1, m_isKept, z.2.2.2, m_steps, m_queue, m_lives, m_treads, m_tape, m_taped, m_begins, m_ends, m_sort, m_value, m_isWrong, m_items, m_itemMany, m_seedThen, m_groundThen, m_widths, m_sizes, m_numbers, m_moved)) hres) hP
      exact W.iret (v := q9.1) hx hb hr (fun t ht hW => ⟨congrArg (fun z => Outcome.returned (some (Value.int z.1))) hres, trivial, by rw [ht]; exact hP, hS.F ht⟩) hS.2.2 dX7_head_37
    · have hf := (if_neg hc8).symm.trans hf
      refine lv_aload_n hx hb dX7_head_18 rfl (lv_at hl 0 rfl) ?_
      refine lv_iload_n hx hb dX7_head_19 rfl (lv_at hl 1 rfl) ?_
      refine lv_iconst (v := (1 : Int32)) hx hb dX7_head_20 (by decide) ?_
      obtain ⟨q11, hq11, hf⟩ := bd_some hf
      refine kr_S (st1 := [.int q11, .ref (gm g 0)]) (va_runS (As := [.int a1, .int (1 : Int32)]) (rest := [.ref (gm g 0)]) ⟨hx, hb, hml, hown, hts⟩ (ct_X7_at l n a1 (1 : Int32) q11 hq11) (va_cwS 2 hts gX7_head_X7_at rfl rfl rfl hn_X7_at ⟨Nat.le_of_ble_eq_true rfl, Nat.le_of_ble_eq_true rfl⟩) ⟨bl_N, pr_N rfl hNW⟩ rfl rfl hl.1 rfl (lv_room (Nat.le_of_ble_eq_true rfl)) dX7_head_21 ⟨Nat.le_refl _, Nat.le_refl _⟩) rfl (fun hn12 => ?_)
      refine lv_iload_n hx hb dX7_head_24 rfl (lv_at hl 2 rfl) ?_
      obtain ⟨q13, hq13, hf⟩ := bd_some hf
      refine kr_W (st1 := [.int q13.1]) (va_runV (As := [.int q11, .int a2]) (rest := []) ⟨hx, hb, hml, hown, hts⟩ (ct_X7_behind l n g m_now m_kept m_aside m_isKept m_found m_steps m_queue m_lives m_treads m_tape m_taped m_begins m_ends m_sort m_value m_isWrong m_items m_itemMany m_seedThen m_groundThen m_widths m_sizes m_numbers m_moved q11 a2 q13 hq13) (cwV 2 hts gX7_head_X7_behind rfl rfl rfl hd_X7_behind ⟨Nat.le_of_ble_eq_true rfl, Nat.le_of_ble_eq_true rfl⟩) ⟨bl_M, va_recv hK hP (ci := 5) (q0 := 0) rfl k_md, pr_M rfl hB hP hS⟩ rfl rfl hl.1 rfl (lv_room (Nat.le_of_ble_eq_true rfl)) dX7_head_25 ⟨Nat.le_refl _, Nat.le_refl _⟩) hS rfl (fun hn14 H locs hP hS => ?_)
      have hP : va_P g.1 vwCl (mw g (q13.2.1, m_kept, q13.2.2, m_isKept, m_found, m_steps, m_queue, m_lives, m_treads, m_tape, m_taped, m_begins, m_ends, m_sort, m_value, m_isWrong, m_items, m_itemMany, m_seedThen, m_groundThen, m_widths, m_sizes, m_numbers, m_moved)) H := hP
      refine lv_goto (tgt := 37) hx hb dX7_head_28 (by decide) ?_
      have hres : (q13.1, q13.2.1, q13.2.2, m_found) = res := (Option.some.inj hf)
      have hP := w_eq (congrArg (fun z => mw g (z.2.1, m_kept, z.2.2.1, m_isKept, z.2.2.2, m_steps, m_queue, m_lives, m_treads, m_tape, m_taped, m_begins, m_ends, m_sort, m_value, m_isWrong, m_items, m_itemMany, m_seedThen, m_groundThen, m_widths, m_sizes, m_numbers, m_moved)) hres) hP
      exact W.iret (v := q13.1) hx hb hr (fun t ht hW => ⟨congrArg (fun z => Outcome.returned (some (Value.int z.1))) hres, trivial, by rw [ht]; exact hP, hS.F ht⟩) hS.2.2 dX7_head_37
set_option maxHeartbeats 4000000 in
set_option maxRecDepth 100000 in
theorem ct_X7_when (l : Launch) (n : Nat) (g : GM) (m_now : Nat → Int32) (m_kept : Nat → Int32) (m_aside : Nat → Int32) (m_isKept : Int32) (m_found : Nat → Int32) (m_steps : Nat → Int32) (m_queue : Nat → Int32) (m_lives : Nat → Int32) (m_treads : Nat → Int32) (m_tape : Nat → Int32) (m_taped : Int32) (m_begins : Int32) (m_ends : Int32) (m_sort : Int32) (m_value : Int32) (m_isWrong : Int32) (m_items : Nat → Int32) (m_itemMany : Int32) (m_seedThen : Int32) (m_groundThen : Nat → Int32) (m_widths : Nat → Int32) (m_sizes : Nat → Int32) (m_numbers : Nat → Int32) (m_moved : Nat → Int32) (a1 : Int32) (a2 : Int32) (res : Int32 × (Nat → Int32) × (Nat → Int32) × (Nat → Int32) × (Nat → Int32) × (Nat → Int32)) (hf : fX7_when n a1 a2 m_now m_aside m_found m_steps m_queue m_lives m_treads = some res) : Met l yX7_when wsX7_when ({ frames := 8, cells := 0, slots := 0, locals := 182 }) (va_Pc [.ref (gm g 0), .int a1, .int a2] (mI g (m_now, m_kept, m_aside, m_isKept, m_found, m_steps, m_queue, m_lives, m_treads, m_tape, m_taped, m_begins, m_ends, m_sort, m_value, m_isWrong, m_items, m_itemMany, m_seedThen, m_groundThen, m_widths, m_sizes, m_numbers, m_moved))) (qW (some (.int res.1)) True g.1 (mw g (res.2.1, m_kept, res.2.2.1, m_isKept, res.2.2.2.1, res.2.2.2.2.1, res.2.2.2.2.2, m_lives, m_treads, m_tape, m_taped, m_begins, m_ends, m_sort, m_value, m_isWrong, m_items, m_itemMany, m_seedThen, m_groundThen, m_widths, m_sizes, m_numbers, m_moved)) (mA g)) 0 0 (mA g) := by
  refine Met.ofW (cc := cX7_when) (maxL := 4) (ret := (some .int)) (by decide) rfl ?_
  intro p e s m args below meth c s₁ B hml hv
  obtain ⟨rfl, hI⟩ := hv
  have hx := B.exec
  have hb := B.bytes
  have hr := B.returns
  have hts := atoms_spec (ws := wsX7_when) B.pre
  have hown : s.vm.findClass RX7 = some m.cls := findClass_of_methodNamed B.named
  have hlocks := B.notSynchronized
  have hP := hI.1
  have hB := hI.2
  have hK := hB.1
  have hNW := hB.2.1
  have hS : va_S (mA g) s.heap s.heap [] := va_S.rf
  have hw0 := hts (.fieldLink RX7 9 "SownPathsModel" "now" "[I") (by decide +kernel)
  have hw1 := hts (.fieldLink RX7 16 "SownPathsModel" "aside" "[I") (by decide +kernel)
  have hw2 := hts (.constant RX7 95 (-1000001)) (by decide +kernel)
  have iwX7 : ∀ w ∈ wsX70, w ∈ wsX7_when := fun w h => List.mem_cons_of_mem _ (List.mem_append_right _ h)
  have hl := lv_entry ([.ref (gm g 0), .int a1, .int a2]) (n := 4) (Nat.le_of_ble_eq_true rfl)
  rw [lg_entry_eq]
  generalize (lg_sl ([.ref (gm g 0), .int a1, .int a2]) ++ List.replicate (4 - (lg_sl ([.ref (gm g 0), .int a1, .int a2])).length) Slot.unset).toArray = ls at hl ⊢
  have hl : lv_has ls 4 [(0, .ref (gm g 0)), (1, .int a1), (2, .int a2)] := hl
  unfold fX7_when at hf
  refine lv_iload_n hx hb dX7_when_0 rfl (lv_at hl 1 rfl) ?_
  refine lv_iload_n hx hb dX7_when_1 rfl (lv_at hl 2 rfl) ?_
  obtain ⟨q1, hq1, hf⟩ := bd_some hf
  refine kr_S (st1 := [.int q1]) (va_runS (As := [.int a1, .int a2]) (rest := []) ⟨hx, hb, hml, hown, hts⟩ (ct_X7_areCells l n a1 a2 q1 hq1) (va_cwS 2 hts gX7_when_X7_areCells rfl rfl rfl hn_X7_areCells ⟨Nat.le_of_ble_eq_true rfl, Nat.le_of_ble_eq_true rfl⟩) ⟨bl_N, pr_N rfl hNW⟩ rfl rfl hl.1 rfl (lv_room (Nat.le_of_ble_eq_true rfl)) dX7_when_2 ⟨Nat.le_refl _, Nat.le_refl _⟩) rfl (fun hn2 => ?_)
  refine lv_if_ne (tgt := 15) hx hb dX7_when_5 (by decide) (fun hc3 => ?_) (fun hc3 => ?_)
  · have hf := (if_neg hc3).symm.trans hf
    refine lv_aload_n hx hb dX7_when_15 rfl (lv_at hl 0 rfl) ?_
    refine va_get (D := g.1) (ci := 5) (v := .ref (gm g 1)) (C := RX7) (T := TX7) (N := 27) hx hb hts iwX7 hown hK hP 0 k_md rfl 0 (by decide) hw0 (fun _ h9 => h9) rfl dX7_when_16 ?_
    refine lv_aload_n hx hb dX7_when_19 rfl (lv_at hl 0 rfl) ?_
    refine va_get (D := g.1) (ci := 5) (v := .ref (gm g 3)) (C := RX7) (T := TX7) (N := 27) hx hb hts iwX7 hown hK hP 0 k_md rfl 2 (by decide) hw1 (fun _ h9 => h9) rfl dX7_when_20 ?_
    obtain ⟨q4, hq4, hf⟩ := bd_some hf
    refine kr_W (st1 := []) (va_runS (As := [.ref (gm g 1), .ref (gm g 3)]) (rest := []) ⟨hx, hb, hml, hown, hts⟩ (ct_X7_copyRow l n g (m_now, m_kept, m_aside, m_isKept, m_found, m_steps, m_queue, m_lives, m_treads, m_tape, m_taped, m_begins, m_ends, m_sort, m_value, m_isWrong, m_items, m_itemMany, m_seedThen, m_groundThen, m_widths, m_sizes, m_numbers, m_moved) 3 117 m_aside k_aside 1 117 m_now k_now (by decide) q4 hq4) (va_cwS 2 hts gX7_when_X7_copyRow rfl rfl rfl hn_X7_copyRow ⟨Nat.le_of_ble_eq_true rfl, Nat.le_of_ble_eq_true rfl⟩) ⟨bl_M, pr_M rfl hB hP hS⟩ rfl rfl hl.1 rfl (lv_room (Nat.le_of_ble_eq_true rfl)) dX7_when_23 ⟨Nat.le_refl _, Nat.le_refl _⟩) hS rfl (fun hn5 H locs hP hS => ?_)
    have hP : va_P g.1 vwCl (mw g (m_now, m_kept, q4, m_isKept, m_found, m_steps, m_queue, m_lives, m_treads, m_tape, m_taped, m_begins, m_ends, m_sort, m_value, m_isWrong, m_items, m_itemMany, m_seedThen, m_groundThen, m_widths, m_sizes, m_numbers, m_moved)) H := w_eq (k_set_aside q4) hP
    refine lv_iconst (v := (0 : Int32)) hx hb dX7_when_26 (by decide) ?_
    refine lv_istore_n (lv' := [(3, .int (0 : Int32)), (0, .ref (gm g 0)), (1, .int a1), (2, .int a2)]) hx hb dX7_when_27 rfl hl (by decide) rfl (fun ls hl => ?_)
    refine lp_run hf (fun s6 => ∀ (H : Heap) (locs : List Loc) (ls : Array Slot), va_P g.1 vwCl (mw g (s6.2.1, m_kept, q4, m_isKept, m_found, s6.2.2.1, s6.2.2.2, m_lives, m_treads, m_tape, m_taped, m_begins, m_ends, m_sort, m_value, m_isWrong, m_items, m_itemMany, m_seedThen, m_groundThen, m_widths, m_sizes, m_numbers, m_moved)) H → va_S (mA g) s.heap H locs → lv_has ls 4 [(0, .ref (gm g 0)), (1, .int a1), (2, .int a2), (3, .int s6.1)] → W p l e (headSpec wsX7_when ({ frames := 8, cells := 0, slots := 0, locals := 182 })).room s m ([.ref (gm g 0), .int a1, .int a2] : List Value).toArray below meth c H locs 0 0 (MQ below (qW (some (.int res.1)) True g.1 (mw g (res.2.1, m_kept, res.2.2.1, m_isKept, res.2.2.2.1, res.2.2.2.2.1, res.2.2.2.2.2, m_lives, m_treads, m_tape, m_taped, m_begins, m_ends, m_sort, m_value, m_isWrong, m_items, m_itemMany, m_seedThen, m_groundThen, m_widths, m_sizes, m_numbers, m_moved)) (mA g)) ([.ref (gm g 0), .int a1, .int a2] : List Value).toArray s 0 0 (mA g)) (F0 m 28 ls [])) (fun v7 => ∀ (H : Heap) (locs : List Loc) (ls : Array Slot), va_P g.1 vwCl (mw g (v7.2.1, m_kept, q4, m_isKept, m_found, v7.2.2.1, v7.2.2.2, m_lives, m_treads, m_tape, m_taped, m_begins, m_ends, m_sort, m_value, m_isWrong, m_items, m_itemMany, m_seedThen, m_groundThen, m_widths, m_sizes, m_numbers, m_moved)) H → va_S (mA g) s.heap H locs → lv_has ls 4 [(0, .ref (gm g 0)), (1, .int a1), (2, .int a2), (3, .int v7.1)] → W p l e (headSpec wsX7_when ({ frames := 8, cells := 0, slots := 0, locals := 182 })).room s m ([.ref (gm g 0), .int a1, .int a2] : List Value).toArray below meth c H locs 0 0 (MQ below (qW (some (.int res.1)) True g.1 (mw g (res.2.1, m_kept, res.2.2.1, m_isKept, res.2.2.2.1, res.2.2.2.2.1, res.2.2.2.2.2, m_lives, m_treads, m_tape, m_taped, m_begins, m_ends, m_sort, m_value, m_isWrong, m_items, m_itemMany, m_seedThen, m_groundThen, m_widths, m_sizes, m_numbers, m_moved)) (mA g)) ([.ref (gm g 0), .int a1, .int a2] : List Value).toArray s 0 0 (mA g)) (F0 m 53 ls [])) ?_ ?_ _ _ _ hP hS (lv_sub hl [1, 2, 3, 0] rfl)
    · intro v7 hf H locs ls hP hS hl
      refine lv_aload_n hx hb dX7_when_53 rfl (lv_at hl 0 rfl) ?_
      refine lv_aload_n hx hb dX7_when_54 rfl (lv_at hl 0 rfl) ?_
      refine lv_aload_n hx hb dX7_when_55 rfl (lv_at hl 0 rfl) ?_
      refine lv_iload_n hx hb dX7_when_56 rfl (lv_at hl 1 rfl) ?_
      refine lv_iload_n hx hb dX7_when_57 rfl (lv_at hl 2 rfl) ?_
      obtain ⟨q14, hq14, hf⟩ := bd_some hf
      refine kr_W (st1 := [.int q14.1, .ref (gm g 0), .ref (gm g 0)]) (va_runV (As := [.int a1, .int a2]) (rest := [.ref (gm g 0), .ref (gm g 0)]) ⟨hx, hb, hml, hown, hts⟩ (ct_X7_areJoined l n g v7.2.1 m_kept q4 m_isKept m_found v7.2.2.1 v7.2.2.2 m_lives m_treads m_tape m_taped m_begins m_ends m_sort m_value m_isWrong m_items m_itemMany m_seedThen m_groundThen m_widths m_sizes m_numbers m_moved a1 a2 q14 hq14) (cwV 2 hts gX7_when_X7_areJoined rfl rfl rfl hd_X7_areJoined ⟨Nat.le_of_ble_eq_true rfl, Nat.le_of_ble_eq_true rfl⟩) ⟨bl_M, va_recv hK hP (ci := 5) (q0 := 0) rfl k_md, pr_M rfl hB hP hS⟩ rfl rfl hl.1 rfl (lv_room (Nat.le_of_ble_eq_true rfl)) dX7_when_58 ⟨Nat.le_refl _, Nat.le_refl _⟩) hS rfl (fun hn15 H locs hP hS => ?_)
      have hP : va_P g.1 vwCl (mw g (v7.2.1, m_kept, q4, m_isKept, m_found, q14.2.1, q14.2.2, m_lives, m_treads, m_tape, m_taped, m_begins, m_ends, m_sort, m_value, m_isWrong, m_items, m_itemMany, m_seedThen, m_groundThen, m_widths, m_sizes, m_numbers, m_moved)) H := hP
      refine lv_if_eq (tgt := 68) hx hb dX7_when_61 (by decide) (fun hc16 => ?_) (fun hc16 => ?_)
      · have hf := (if_pos hc16).symm.trans hf
        refine lv_iconst (v := (-1 : Int32)) hx hb dX7_when_68 (by decide) ?_
        obtain ⟨q17, hq17, hf⟩ := bd_some hf
        refine kr_W (st1 := [.int q17.1, .ref (gm g 0)]) (va_runV (As := [.int (-1 : Int32)]) (rest := [.ref (gm g 0)]) ⟨hx, hb, hml, hown, hts⟩ (ct_X7_putBack l n g v7.2.1 m_kept q4 m_isKept m_found q14.2.1 q14.2.2 m_lives m_treads m_tape m_taped m_begins m_ends m_sort m_value m_isWrong m_items m_itemMany m_seedThen m_groundThen m_widths m_sizes m_numbers m_moved (-1 : Int32) q17 hq17) (cwV 1 hts gX7_when_X7_putBack rfl rfl rfl hd_X7_putBack ⟨Nat.le_of_ble_eq_true rfl, Nat.le_of_ble_eq_true rfl⟩) ⟨bl_M, va_recv hK hP (ci := 5) (q0 := 0) rfl k_md, pr_M rfl hB hP hS⟩ rfl rfl hl.1 rfl (lv_room (Nat.le_of_ble_eq_true rfl)) dX7_when_69 ⟨Nat.le_refl _, Nat.le_refl _⟩) hS rfl (fun hn18 H locs hP hS => ?_)
        have hP : va_P g.1 vwCl (mw g (q17.2, m_kept, q4, m_isKept, m_found, q14.2.1, q14.2.2, m_lives, m_treads, m_tape, m_taped, m_begins, m_ends, m_sort, m_value, m_isWrong, m_items, m_itemMany, m_seedThen, m_groundThen, m_widths, m_sizes, m_numbers, m_moved)) H := hP
        obtain ⟨q19, hq19, hf⟩ := bd_some hf
        refine kr_W (st1 := [.int q19.1]) (va_runV (As := [.int q17.1]) (rest := []) ⟨hx, hb, hml, hown, hts⟩ (ct_X7_orNone l n g q17.2 m_kept q4 m_isKept m_found q14.2.1 q14.2.2 m_lives m_treads m_tape m_taped m_begins m_ends m_sort m_value m_isWrong m_items m_itemMany m_seedThen m_groundThen m_widths m_sizes m_numbers m_moved q17.1 q19 hq19) (cwV 1 hts gX7_when_X7_orNone rfl rfl rfl hd_X7_orNone ⟨Nat.le_of_ble_eq_true rfl, Nat.le_of_ble_eq_true rfl⟩) ⟨bl_M, va_recv hK hP (ci := 5) (q0 := 0) rfl k_md, pr_M rfl hB hP hS⟩ rfl rfl hl.1 rfl (lv_room (Nat.le_of_ble_eq_true rfl)) dX7_when_72 ⟨Nat.le_refl _, Nat.le_refl _⟩) hS rfl (fun hn20 H locs hP hS => ?_)
        have hP : va_P g.1 vwCl (mw g (q17.2, m_kept, q4, m_isKept, q19.2, q14.2.1, q14.2.2, m_lives, m_treads, m_tape, m_taped, m_begins, m_ends, m_sort, m_value, m_isWrong, m_items, m_itemMany, m_seedThen, m_groundThen, m_widths, m_sizes, m_numbers, m_moved)) H := hP
        have hres : (q19.1, q17.2, q4, q19.2, q14.2.1, q14.2.2) = res := (Option.some.inj hf)
        have hP := w_eq (congrArg (fun z => mw g (z.2.1, m_kept, z.2.2.1, m_isKept, z.2.2.2.1, z.2.2.2.2.1, z.2.2.2.2.2, m_lives, m_treads, m_tape, m_taped, m_begins, m_ends, m_sort, m_value, m_isWrong, m_items, m_itemMany, m_seedThen, m_groundThen, m_widths, m_sizes, m_numbers, m_moved)) hres) hP
        exact W.iret (v := q19.1) hx hb hr (fun t ht hW => ⟨congrArg (fun z => Outcome.returned (some (Value.int z.1))) hres, trivial, by rw [ht]; exact hP, hS.F ht⟩) hS.2.2 dX7_when_75
      · have hf := (if_neg hc16).symm.trans hf
        refine lv_iload_n hx hb dX7_when_64 rfl (lv_at hl 3 rfl) ?_
        refine lv_goto (tgt := 69) hx hb dX7_when_65 (by decide) ?_
        obtain ⟨q21, hq21, hf⟩ := bd_some hf
        refine kr_W (st1 := [.int q21.1, .ref (gm g 0)]) (va_runV (As := [.int v7.1]) (rest := [.ref (gm g 0)]) ⟨hx, hb, hml, hown, hts⟩ (ct_X7_putBack l n g v7.2.1 m_kept q4 m_isKept m_found q14.2.1 q14.2.2 m_lives m_treads m_tape m_taped m_begins m_ends m_sort m_value m_isWrong m_items m_itemMany m_seedThen m_groundThen m_widths m_sizes m_numbers m_moved v7.1 q21 hq21) (cwV 1 hts gX7_when_X7_putBack rfl rfl rfl hd_X7_putBack ⟨Nat.le_of_ble_eq_true rfl, Nat.le_of_ble_eq_true rfl⟩) ⟨bl_M, va_recv hK hP (ci := 5) (q0 := 0) rfl k_md, pr_M rfl hB hP hS⟩ rfl rfl hl.1 rfl (lv_room (Nat.le_of_ble_eq_true rfl)) dX7_when_69 ⟨Nat.le_refl _, Nat.le_refl _⟩) hS rfl (fun hn22 H locs hP hS => ?_)
        have hP : va_P g.1 vwCl (mw g (q21.2, m_kept, q4, m_isKept, m_found, q14.2.1, q14.2.2, m_lives, m_treads, m_tape, m_taped, m_begins, m_ends, m_sort, m_value, m_isWrong, m_items, m_itemMany, m_seedThen, m_groundThen, m_widths, m_sizes, m_numbers, m_moved)) H := hP
        obtain ⟨q23, hq23, hf⟩ := bd_some hf
        refine kr_W (st1 := [.int q23.1]) (va_runV (As := [.int q21.1]) (rest := []) ⟨hx, hb, hml, hown, hts⟩ (ct_X7_orNone l n g q21.2 m_kept q4 m_isKept m_found q14.2.1 q14.2.2 m_lives m_treads m_tape m_taped m_begins m_ends m_sort m_value m_isWrong m_items m_itemMany m_seedThen m_groundThen m_widths m_sizes m_numbers m_moved q21.1 q23 hq23) (cwV 1 hts gX7_when_X7_orNone rfl rfl rfl hd_X7_orNone ⟨Nat.le_of_ble_eq_true rfl, Nat.le_of_ble_eq_true rfl⟩) ⟨bl_M, va_recv hK hP (ci := 5) (q0 := 0) rfl k_md, pr_M rfl hB hP hS⟩ rfl rfl hl.1 rfl (lv_room (Nat.le_of_ble_eq_true rfl)) dX7_when_72 ⟨Nat.le_refl _, Nat.le_refl _⟩) hS rfl (fun hn24 H locs hP hS => ?_)
        have hP : va_P g.1 vwCl (mw g (q21.2, m_kept, q4, m_isKept, q23.2, q14.2.1, q14.2.2, m_lives, m_treads, m_tape, m_taped, m_begins, m_ends, m_sort, m_value, m_isWrong, m_items, m_itemMany, m_seedThen, m_groundThen, m_widths, m_sizes, m_numbers, m_moved)) H := hP
        have hres : (q23.1, q21.2, q4, q23.2, q14.2.1, q14.2.2) = res := (Option.some.inj hf)
        have hP := w_eq (congrArg (fun z => mw g (z.2.1, m_kept, z.2.2.1, m_isKept, z.2.2.2.1, z.2.2.2.2.1, z.2.2.2.2.2, m_lives, m_treads, m_tape, m_taped, m_begins, m_ends, m_sort, m_value, m_isWrong, m_items, m_itemMany, m_seedThen, m_groundThen, m_widths, m_sizes, m_numbers, m_moved)) hres) hP
        exact W.iret (v := q23.1) hx hb hr (fun t ht hW => ⟨congrArg (fun z => Outcome.returned (some (Value.int z.1))) hres, trivial, by rw [ht]; exact hP, hS.F ht⟩) hS.2.2 dX7_when_75
    · intro s6 r1 hf hback1 hexit1 H locs ls hP hS hl
      refine lv_iload_n hx hb dX7_when_28 rfl (lv_at hl 3 rfl) ?_
      refine lv_bipush (v := (60 : Int32)) hx hb dX7_when_29 (by decide) ?_
      refine lv_icmp_ge (tgt := 53) hx hb dX7_when_31 (by decide) (fun hc8 => ?_) (fun hc8 => ?_)
      · have hf := (if_pos hc8).symm.trans hf
        exact hexit1 (s6.1, s6.2.1, s6.2.2.1, s6.2.2.2) (Option.some.inj hf).symm H locs ls hP hS (lv_sub hl [0, 1, 2, 3] rfl)
      · have hf := (if_neg hc8).symm.trans hf
        refine lv_aload_n hx hb dX7_when_34 rfl (lv_at hl 0 rfl) ?_
        refine lv_iload_n hx hb dX7_when_35 rfl (lv_at hl 1 rfl) ?_
        refine lv_iload_n hx hb dX7_when_36 rfl (lv_at hl 2 rfl) ?_
        obtain ⟨q9, hq9, hf⟩ := bd_some hf
        refine kr_W (st1 := [.int q9.1]) (va_runV (As := [.int a1, .int a2]) (rest := []) ⟨hx, hb, hml, hown, hts⟩ (ct_X7_areJoined l n g s6.2.1 m_kept q4 m_isKept m_found s6.2.2.1 s6.2.2.2 m_lives m_treads m_tape m_taped m_begins m_ends m_sort m_value m_isWrong m_items m_itemMany m_seedThen m_groundThen m_widths m_sizes m_numbers m_moved a1 a2 q9 hq9) (cwV 2 hts gX7_when_X7_areJoined rfl rfl rfl hd_X7_areJoined ⟨Nat.le_of_ble_eq_true rfl, Nat.le_of_ble_eq_true rfl⟩) ⟨bl_M, va_recv hK hP (ci := 5) (q0 := 0) rfl k_md, pr_M rfl hB hP hS⟩ rfl rfl hl.1 rfl (lv_room (Nat.le_of_ble_eq_true rfl)) dX7_when_37 ⟨Nat.le_refl _, Nat.le_refl _⟩) hS rfl (fun hn10 H locs hP hS => ?_)
        have hP : va_P g.1 vwCl (mw g (s6.2.1, m_kept, q4, m_isKept, m_found, q9.2.1, q9.2.2, m_lives, m_treads, m_tape, m_taped, m_begins, m_ends, m_sort, m_value, m_isWrong, m_items, m_itemMany, m_seedThen, m_groundThen, m_widths, m_sizes, m_numbers, m_moved)) H := hP
        refine lv_if_ne (tgt := 53) hx hb dX7_when_40 (by decide) (fun hc11 => ?_) (fun hc11 => ?_)
        · have hf := (if_neg hc11).symm.trans hf
          exact hexit1 (s6.1, s6.2.1, q9.2.1, q9.2.2) (Option.some.inj hf).symm H locs ls hP hS (lv_sub hl [0, 1, 2, 3] rfl)
        · have hf := (if_pos hc11).symm.trans hf
          refine lv_aload_n hx hb dX7_when_43 rfl (lv_at hl 0 rfl) ?_
          obtain ⟨q12, hq12, hf⟩ := bd_some hf
          refine kr_W (st1 := []) (va_runV (As := []) (rest := []) ⟨hx, hb, hml, hown, hts⟩ (ct_X7_season l n g s6.2.1 m_kept q4 m_isKept m_found q9.2.1 q9.2.2 m_lives m_treads m_tape m_taped m_begins m_ends m_sort m_value m_isWrong m_items m_itemMany m_seedThen m_groundThen m_widths m_sizes m_numbers m_moved q12 hq12) (cwV 0 hts gX7_when_X7_season rfl rfl rfl hd_X7_season ⟨Nat.le_of_ble_eq_true rfl, Nat.le_of_ble_eq_true rfl⟩) ⟨bl_M, va_recv hK hP (ci := 5) (q0 := 0) rfl k_md, pr_M rfl hB hP hS⟩ rfl rfl hl.1 rfl (lv_room (Nat.le_of_ble_eq_true rfl)) dX7_when_44 ⟨Nat.le_refl _, Nat.le_refl _⟩) hS rfl (fun hn13 H locs hP hS => ?_)
          have hP : va_P g.1 vwCl (mw g (q12, m_kept, q4, m_isKept, m_found, q9.2.1, q9.2.2, m_lives, m_treads, m_tape, m_taped, m_begins, m_ends, m_sort, m_value, m_isWrong, m_items, m_itemMany, m_seedThen, m_groundThen, m_widths, m_sizes, m_numbers, m_moved)) H := hP
          refine lv_iinc (v := (s6.1 + (1 : Int32))) (lv' := [(3, .int (s6.1 + (1 : Int32))), (0, .ref (gm g 0)), (1, .int a1), (2, .int a2)]) hx hb dX7_when_47 hl (k := 3) rfl (congrArg (fun y => s6.1 + y) (by decide : Int32.ofInt (1) = (1 : Int32))) (by decide) rfl (fun ls hl => ?_)
          refine lv_goto (tgt := 28) hx hb dX7_when_50 (by decide) ?_
          exact hback1 _ (Option.some.inj hf).symm H locs ls hP hS (lv_sub hl [1, 2, 3, 0] rfl)
  · have hf := (if_pos hc3).symm.trans hf
    refine lv_aload_n hx hb dX7_when_8 rfl (lv_at hl 0 rfl) ?_
    refine lv_ldc (v := (-1000001 : Int32)) hx hb hown hw2 dX7_when_9 ?_
    obtain ⟨q25, hq25, hf⟩ := bd_some hf
    refine kr_W (st1 := [.int q25.1]) (va_runV (As := [.int (-1000001 : Int32)]) (rest := []) ⟨hx, hb, hml, hown, hts⟩ (ct_X7_finding l n g m_now m_kept m_aside m_isKept m_found m_steps m_queue m_lives m_treads m_tape m_taped m_begins m_ends m_sort m_value m_isWrong m_items m_itemMany m_seedThen m_groundThen m_widths m_sizes m_numbers m_moved (-1000001 : Int32) q25 hq25) (cwV 1 hts gX7_when_X7_finding rfl rfl rfl hd_X7_finding ⟨Nat.le_of_ble_eq_true rfl, Nat.le_of_ble_eq_true rfl⟩) ⟨bl_M, va_recv hK hP (ci := 5) (q0 := 0) rfl k_md, pr_M rfl hB hP hS⟩ rfl rfl hl.1 rfl (lv_room (Nat.le_of_ble_eq_true rfl)) dX7_when_11 ⟨Nat.le_refl _, Nat.le_refl _⟩) hS rfl (fun hn26 H locs hP hS => ?_)
    have hP : va_P g.1 vwCl (mw g (m_now, m_kept, m_aside, m_isKept, q25.2, m_steps, m_queue, m_lives, m_treads, m_tape, m_taped, m_begins, m_ends, m_sort, m_value, m_isWrong, m_items, m_itemMany, m_seedThen, m_groundThen, m_widths, m_sizes, m_numbers, m_moved)) H := hP
    have hres : (q25.1, m_now, m_aside, q25.2, m_steps, m_queue) = res := (Option.some.inj hf)
    have hP := w_eq (congrArg (fun z => mw g (z.2.1, m_kept, z.2.2.1, m_isKept, z.2.2.2.1, z.2.2.2.2.1, z.2.2.2.2.2, m_lives, m_treads, m_tape, m_taped, m_begins, m_ends, m_sort, m_value, m_isWrong, m_items, m_itemMany, m_seedThen, m_groundThen, m_widths, m_sizes, m_numbers, m_moved)) hres) hP
    exact W.iret (v := q25.1) hx hb hr (fun t ht hW => ⟨congrArg (fun z => Outcome.returned (some (Value.int z.1))) hres, trivial, by rw [ht]; exact hP, hS.F ht⟩) hS.2.2 dX7_when_14
