/-! CONTRACTS, by program -/
set_option maxHeartbeats 4000000 in
set_option maxRecDepth 100000 in
theorem ct_X7_bulbTurn (l : Launch) (n : Nat) (g : GM) (m_now : Nat → Int32) (m_kept : Nat → Int32) (m_aside : Nat → Int32) (m_isKept : Int32) (m_found : Nat → Int32) (m_steps : Nat → Int32) (m_queue : Nat → Int32) (m_lives : Nat → Int32) (m_treads : Nat → Int32) (m_tape : Nat → Int32) (m_taped : Int32) (m_begins : Int32) (m_ends : Int32) (m_sort : Int32) (m_value : Int32) (m_isWrong : Int32) (m_items : Nat → Int32) (m_itemMany : Int32) (m_seedThen : Int32) (m_groundThen : Nat → Int32) (m_widths : Nat → Int32) (m_sizes : Nat → Int32) (m_numbers : Nat → Int32) (m_moved : Nat → Int32) (a1 : Int32) (res : Int32) (hf : fX7_bulbTurn n a1 m_now = some res) : Met l yX7_bulbTurn wsX7_bulbTurn ({ frames := 3, cells := 0, slots := 0, locals := 69 }) (va_Pc [.ref (gm g 0), .int a1] (mI g (m_now, m_kept, m_aside, m_isKept, m_found, m_steps, m_queue, m_lives, m_treads, m_tape, m_taped, m_begins, m_ends, m_sort, m_value, m_isWrong, m_items, m_itemMany, m_seedThen, m_groundThen, m_widths, m_sizes, m_numbers, m_moved))) (qS (some (.int res)) True) 0 0 (fun _ => False) := by
  refine Met.ofW (cc := cX7_bulbTurn) (maxL := 4) (ret := (some .int)) (by decide) rfl ?_
  intro p e s m args below meth c s₁ B hml hv
  obtain ⟨rfl, hI⟩ := hv
  have hx := B.exec
  have hb := B.bytes
  have hr := B.returns
  have hts := atoms_spec (ws := wsX7_bulbTurn) B.pre
  have hown : s.vm.findClass RX7 = some m.cls := findClass_of_methodNamed B.named
  have hlocks := B.notSynchronized
  have hP := hI.1
  have hB := hI.2
  have hK := hB.1
  have hNW := hB.2.1
  have hS : va_S (mA g) s.heap s.heap [] := va_S.rf
  have hl := lv_entry ([.ref (gm g 0), .int a1]) (n := 4) (Nat.le_of_ble_eq_true rfl)
  rw [lg_entry_eq]
  generalize (lg_sl ([.ref (gm g 0), .int a1]) ++ List.replicate (4 - (lg_sl ([.ref (gm g 0), .int a1])).length) Slot.unset).toArray = ls at hl ⊢
  have hl : lv_has ls 4 [(0, .ref (gm g 0)), (1, .int a1)] := hl
  unfold fX7_bulbTurn at hf
  refine lv_aload_n hx hb dX7_bulbTurn_0 rfl (lv_at hl 0 rfl) ?_
  refine lv_iload_n hx hb dX7_bulbTurn_1 rfl (lv_at hl 1 rfl) ?_
  refine lv_iconst (v := (1 : Int32)) hx hb dX7_bulbTurn_2 (by decide) ?_
  obtain ⟨q1, hq1, hf⟩ := bd_some hf
  refine kr_S (st1 := [.int q1]) (va_runV (As := [.int a1, .int (1 : Int32)]) (rest := []) ⟨hx, hb, hml, hown, hts⟩ (ct_X7_seedIs l n g m_now m_kept m_aside m_isKept m_found m_steps m_queue m_lives m_treads m_tape m_taped m_begins m_ends m_sort m_value m_isWrong m_items m_itemMany m_seedThen m_groundThen m_widths m_sizes m_numbers m_moved a1 (1 : Int32) q1 hq1) (cwV 2 hts gX7_bulbTurn_X7_seedIs rfl rfl rfl hd_X7_seedIs ⟨Nat.le_of_ble_eq_true rfl, Nat.le_of_ble_eq_true rfl⟩) ⟨bl_M, va_recv hK hP (ci := 5) (q0 := 0) rfl k_md, pr_M rfl hB hP hS⟩ rfl rfl hl.1 rfl (lv_room (Nat.le_of_ble_eq_true rfl)) dX7_bulbTurn_3 ⟨Nat.le_refl _, Nat.le_refl _⟩) rfl (fun hn2 => ?_)
  refine lv_istore_n (lv' := [(2, .int q1), (0, .ref (gm g 0)), (1, .int a1)]) hx hb dX7_bulbTurn_6 rfl hl (by decide) rfl (fun ls hl => ?_)
  refine lv_aload_n hx hb dX7_bulbTurn_7 rfl (lv_at hl 1 rfl) ?_
  refine lv_iload_n hx hb dX7_bulbTurn_8 rfl (lv_at hl 0 rfl) ?_
  obtain ⟨q3, hq3, hf⟩ := bd_some hf
  refine kr_S (st1 := [.int q3]) (va_runV (As := [.int q1]) (rest := []) ⟨hx, hb, hml, hown, hts⟩ (ct_X7_nearestWater l n g m_now m_kept m_aside m_isKept m_found m_steps m_queue m_lives m_treads m_tape m_taped m_begins m_ends m_sort m_value m_isWrong m_items m_itemMany m_seedThen m_groundThen m_widths m_sizes m_numbers m_moved q1 q3 hq3) (cwV 1 hts gX7_bulbTurn_X7_nearestWater rfl rfl rfl hd_X7_nearestWater ⟨Nat.le_of_ble_eq_true rfl, Nat.le_of_ble_eq_true rfl⟩) ⟨bl_M, va_recv hK hP (ci := 5) (q0 := 0) rfl k_md, pr_M rfl hB hP hS⟩ rfl rfl hl.1 rfl (lv_room (Nat.le_of_ble_eq_true rfl)) dX7_bulbTurn_9 ⟨Nat.le_refl _, Nat.le_refl _⟩) rfl (fun hn4 => ?_)
  refine lv_istore_n (lv' := [(3, .int q3), (2, .int q1), (0, .ref (gm g 0)), (1, .int a1)]) hx hb dX7_bulbTurn_12 rfl hl (by decide) rfl (fun ls hl => ?_)
  refine lv_iload_n hx hb dX7_bulbTurn_13 rfl (lv_at hl 0 rfl) ?_
  refine lv_if_lt (tgt := 22) hx hb dX7_bulbTurn_14 (by decide) (fun hc5 => ?_) (fun hc5 => ?_)
  · have hf := (if_pos hc5).symm.trans hf
    refine lv_aload_n hx hb dX7_bulbTurn_22 rfl (lv_at hl 2 rfl) ?_
    refine lv_iload_n hx hb dX7_bulbTurn_23 rfl (lv_at hl 3 rfl) ?_
    refine lv_iconst (v := (2 : Int32)) hx hb dX7_bulbTurn_24 (by decide) ?_
    obtain ⟨q6, hq6, hf⟩ := bd_some hf
    refine kr_S (st1 := [.int q6]) (va_runV (As := [.int a1, .int (2 : Int32)]) (rest := []) ⟨hx, hb, hml, hown, hts⟩ (ct_X7_seedIs l n g m_now m_kept m_aside m_isKept m_found m_steps m_queue m_lives m_treads m_tape m_taped m_begins m_ends m_sort m_value m_isWrong m_items m_itemMany m_seedThen m_groundThen m_widths m_sizes m_numbers m_moved a1 (2 : Int32) q6 hq6) (cwV 2 hts gX7_bulbTurn_X7_seedIs rfl rfl rfl hd_X7_seedIs ⟨Nat.le_of_ble_eq_true rfl, Nat.le_of_ble_eq_true rfl⟩) ⟨bl_M, va_recv hK hP (ci := 5) (q0 := 0) rfl k_md, pr_M rfl hB hP hS⟩ rfl rfl hl.1 rfl (lv_room (Nat.le_of_ble_eq_true rfl)) dX7_bulbTurn_25 ⟨Nat.le_refl _, Nat.le_refl _⟩) rfl (fun hn7 => ?_)
    refine lv_goto (tgt := 36) hx hb dX7_bulbTurn_28 (by decide) ?_
    have hres : q6 = res := (Option.some.inj hf)
    exact W.iret (v := q6) hx hb hr (fun t ht hW => ⟨congrArg (fun z => Outcome.returned (some (Value.int z))) hres, trivial, ht⟩) t_nil dX7_bulbTurn_36
  · have hf := (if_neg hc5).symm.trans hf
    refine lv_iload_n hx hb dX7_bulbTurn_17 rfl (lv_at hl 0 rfl) ?_
    refine lv_iload_n hx hb dX7_bulbTurn_18 rfl (lv_at hl 1 rfl) ?_
    refine lv_icmp_ne (tgt := 31) hx hb dX7_bulbTurn_19 (by decide) (fun hc8 => ?_) (fun hc8 => ?_)
    · have hf := (if_neg hc8).symm.trans hf
      refine lv_iload_n hx hb dX7_bulbTurn_31 rfl (lv_at hl 1 rfl) ?_
      refine lv_iload_n hx hb dX7_bulbTurn_32 rfl (lv_at hl 0 rfl) ?_
      obtain ⟨q9, hq9, hf⟩ := bd_some hf
      refine kr_S (st1 := [.int q9]) (va_runS (As := [.int q1, .int q3]) (rest := []) ⟨hx, hb, hml, hown, hts⟩ (ct_X7_toward l n q1 q3 q9 hq9) (va_cwS 2 hts gX7_bulbTurn_X7_toward rfl rfl rfl hn_X7_toward ⟨Nat.le_of_ble_eq_true rfl, Nat.le_of_ble_eq_true rfl⟩) ⟨bl_N, pr_N rfl hNW⟩ rfl rfl hl.1 rfl (lv_room (Nat.le_of_ble_eq_true rfl)) dX7_bulbTurn_33 ⟨Nat.le_refl _, Nat.le_refl _⟩) rfl (fun hn10 => ?_)
      have hres : q9 = res := (Option.some.inj hf)
      exact W.iret (v := q9) hx hb hr (fun t ht hW => ⟨congrArg (fun z => Outcome.returned (some (Value.int z))) hres, trivial, ht⟩) t_nil dX7_bulbTurn_36
    · have hf := (if_pos hc8).symm.trans hf
      refine lv_aload_n hx hb dX7_bulbTurn_22 rfl (lv_at hl 2 rfl) ?_
      refine lv_iload_n hx hb dX7_bulbTurn_23 rfl (lv_at hl 3 rfl) ?_
      refine lv_iconst (v := (2 : Int32)) hx hb dX7_bulbTurn_24 (by decide) ?_
      obtain ⟨q11, hq11, hf⟩ := bd_some hf
      refine kr_S (st1 := [.int q11]) (va_runV (As := [.int a1, .int (2 : Int32)]) (rest := []) ⟨hx, hb, hml, hown, hts⟩ (ct_X7_seedIs l n g m_now m_kept m_aside m_isKept m_found m_steps m_queue m_lives m_treads m_tape m_taped m_begins m_ends m_sort m_value m_isWrong m_items m_itemMany m_seedThen m_groundThen m_widths m_sizes m_numbers m_moved a1 (2 : Int32) q11 hq11) (cwV 2 hts gX7_bulbTurn_X7_seedIs rfl rfl rfl hd_X7_seedIs ⟨Nat.le_of_ble_eq_true rfl, Nat.le_of_ble_eq_true rfl⟩) ⟨bl_M, va_recv hK hP (ci := 5) (q0 := 0) rfl k_md, pr_M rfl hB hP hS⟩ rfl rfl hl.1 rfl (lv_room (Nat.le_of_ble_eq_true rfl)) dX7_bulbTurn_25 ⟨Nat.le_refl _, Nat.le_refl _⟩) rfl (fun hn12 => ?_)
      refine lv_goto (tgt := 36) hx hb dX7_bulbTurn_28 (by decide) ?_
      have hres : q11 = res := (Option.some.inj hf)
      exact W.iret (v := q11) hx hb hr (fun t ht hW => ⟨congrArg (fun z => Outcome.returned (some (Value.int z))) hres, trivial, ht⟩) t_nil dX7_bulbTurn_36
set_option maxHeartbeats 4000000 in
set_option maxRecDepth 100000 in
theorem ct_X7_runnerTurn (l : Launch) (n : Nat) (g : GM) (m_now : Nat → Int32) (m_kept : Nat → Int32) (m_aside : Nat → Int32) (m_isKept : Int32) (m_found : Nat → Int32) (m_steps : Nat → Int32) (m_queue : Nat → Int32) (m_lives : Nat → Int32) (m_treads : Nat → Int32) (m_tape : Nat → Int32) (m_taped : Int32) (m_begins : Int32) (m_ends : Int32) (m_sort : Int32) (m_value : Int32) (m_isWrong : Int32) (m_items : Nat → Int32) (m_itemMany : Int32) (m_seedThen : Int32) (m_groundThen : Nat → Int32) (m_widths : Nat → Int32) (m_sizes : Nat → Int32) (m_numbers : Nat → Int32) (m_moved : Nat → Int32) (a1 : Int32) (res : Int32) (hf : fX7_runnerTurn n a1 m_now m_lives = some res) : Met l yX7_runnerTurn wsX7_runnerTurn ({ frames := 4, cells := 0, slots := 0, locals := 92 }) (va_Pc [.ref (gm g 0), .int a1] (mI g (m_now, m_kept, m_aside, m_isKept, m_found, m_steps, m_queue, m_lives, m_treads, m_tape, m_taped, m_begins, m_ends, m_sort, m_value, m_isWrong, m_items, m_itemMany, m_seedThen, m_groundThen, m_widths, m_sizes, m_numbers, m_moved))) (qS (some (.int res)) True) 0 0 (fun _ => False) := by
  refine Met.ofW (cc := cX7_runnerTurn) (maxL := 3) (ret := (some .int)) (by decide) rfl ?_
  intro p e s m args below meth c s₁ B hml hv
  obtain ⟨rfl, hI⟩ := hv
  have hx := B.exec
  have hb := B.bytes
  have hr := B.returns
  have hts := atoms_spec (ws := wsX7_runnerTurn) B.pre
  have hown : s.vm.findClass RX7 = some m.cls := findClass_of_methodNamed B.named
  have hlocks := B.notSynchronized
  have hP := hI.1
  have hB := hI.2
  have hK := hB.1
  have hNW := hB.2.1
  have hS : va_S (mA g) s.heap s.heap [] := va_S.rf
  have hl := lv_entry ([.ref (gm g 0), .int a1]) (n := 3) (Nat.le_of_ble_eq_true rfl)
  rw [lg_entry_eq]
  generalize (lg_sl ([.ref (gm g 0), .int a1]) ++ List.replicate (3 - (lg_sl ([.ref (gm g 0), .int a1])).length) Slot.unset).toArray = ls at hl ⊢
  have hl : lv_has ls 3 [(0, .ref (gm g 0)), (1, .int a1)] := hl
  unfold fX7_runnerTurn at hf
  refine lv_aload_n hx hb dX7_runnerTurn_0 rfl (lv_at hl 0 rfl) ?_
  refine lv_iload_n hx hb dX7_runnerTurn_1 rfl (lv_at hl 1 rfl) ?_
  obtain ⟨q1, hq1, hf⟩ := bd_some hf
  refine kr_S (st1 := [.int q1]) (va_runV (As := [.int a1]) (rest := []) ⟨hx, hb, hml, hown, hts⟩ (ct_X7_nearestHead l n g m_now m_kept m_aside m_isKept m_found m_steps m_queue m_lives m_treads m_tape m_taped m_begins m_ends m_sort m_value m_isWrong m_items m_itemMany m_seedThen m_groundThen m_widths m_sizes m_numbers m_moved a1 q1 hq1) (cwV 1 hts gX7_runnerTurn_X7_nearestHead rfl rfl rfl hd_X7_nearestHead ⟨Nat.le_of_ble_eq_true rfl, Nat.le_of_ble_eq_true rfl⟩) ⟨bl_M, va_recv hK hP (ci := 5) (q0 := 0) rfl k_md, pr_M rfl hB hP hS⟩ rfl rfl hl.1 rfl (lv_room (Nat.le_of_ble_eq_true rfl)) dX7_runnerTurn_2 ⟨Nat.le_refl _, Nat.le_refl _⟩) rfl (fun hn2 => ?_)
  refine lv_istore_n (lv' := [(2, .int q1), (0, .ref (gm g 0)), (1, .int a1)]) hx hb dX7_runnerTurn_5 rfl hl (by decide) rfl (fun ls hl => ?_)
  refine lv_iload_n hx hb dX7_runnerTurn_6 rfl (lv_at hl 0 rfl) ?_
  refine lv_if_ge (tgt := 18) hx hb dX7_runnerTurn_7 (by decide) (fun hc3 => ?_) (fun hc3 => ?_)
  · have hf := (if_pos hc3).symm.trans hf
    refine lv_aload_n hx hb dX7_runnerTurn_18 rfl (lv_at hl 1 rfl) ?_
    refine lv_iload_n hx hb dX7_runnerTurn_19 rfl (lv_at hl 2 rfl) ?_
    refine lv_iconst (v := (1 : Int32)) hx hb dX7_runnerTurn_20 (by decide) ?_
    obtain ⟨q4, hq4, hf⟩ := bd_some hf
    refine kr_S (st1 := [.int q4]) (va_runV (As := [.int a1, .int (1 : Int32)]) (rest := []) ⟨hx, hb, hml, hown, hts⟩ (ct_X7_seedIs l n g m_now m_kept m_aside m_isKept m_found m_steps m_queue m_lives m_treads m_tape m_taped m_begins m_ends m_sort m_value m_isWrong m_items m_itemMany m_seedThen m_groundThen m_widths m_sizes m_numbers m_moved a1 (1 : Int32) q4 hq4) (cwV 2 hts gX7_runnerTurn_X7_seedIs rfl rfl rfl hd_X7_seedIs ⟨Nat.le_of_ble_eq_true rfl, Nat.le_of_ble_eq_true rfl⟩) ⟨bl_M, va_recv hK hP (ci := 5) (q0 := 0) rfl k_md, pr_M rfl hB hP hS⟩ rfl rfl hl.1 rfl (lv_room (Nat.le_of_ble_eq_true rfl)) dX7_runnerTurn_21 ⟨Nat.le_refl _, Nat.le_refl _⟩) rfl (fun hn5 => ?_)
    refine lv_iload_n hx hb dX7_runnerTurn_24 rfl (lv_at hl 0 rfl) ?_
    obtain ⟨q6, hq6, hf⟩ := bd_some hf
    refine kr_S (st1 := [.int q6]) (va_runS (As := [.int q4, .int q1]) (rest := []) ⟨hx, hb, hml, hown, hts⟩ (ct_X7_toward l n q4 q1 q6 hq6) (va_cwS 2 hts gX7_runnerTurn_X7_toward rfl rfl rfl hn_X7_toward ⟨Nat.le_of_ble_eq_true rfl, Nat.le_of_ble_eq_true rfl⟩) ⟨bl_N, pr_N rfl hNW⟩ rfl rfl hl.1 rfl (lv_room (Nat.le_of_ble_eq_true rfl)) dX7_runnerTurn_25 ⟨Nat.le_refl _, Nat.le_refl _⟩) rfl (fun hn7 => ?_)
    have hres : q6 = res := (Option.some.inj hf)
    exact W.iret (v := q6) hx hb hr (fun t ht hW => ⟨congrArg (fun z => Outcome.returned (some (Value.int z))) hres, trivial, ht⟩) t_nil dX7_runnerTurn_28
  · have hf := (if_neg hc3).symm.trans hf
    refine lv_aload_n hx hb dX7_runnerTurn_10 rfl (lv_at hl 1 rfl) ?_
    refine lv_iload_n hx hb dX7_runnerTurn_11 rfl (lv_at hl 2 rfl) ?_
    obtain ⟨q8, hq8, hf⟩ := bd_some hf
    refine kr_S (st1 := [.int q8]) (va_runV (As := [.int a1]) (rest := []) ⟨hx, hb, hml, hown, hts⟩ (ct_X7_bulbTurn l n g m_now m_kept m_aside m_isKept m_found m_steps m_queue m_lives m_treads m_tape m_taped m_begins m_ends m_sort m_value m_isWrong m_items m_itemMany m_seedThen m_groundThen m_widths m_sizes m_numbers m_moved a1 q8 hq8) (cwV 1 hts gX7_runnerTurn_X7_bulbTurn rfl rfl rfl hd_X7_bulbTurn ⟨Nat.le_of_ble_eq_true rfl, Nat.le_of_ble_eq_true rfl⟩) ⟨bl_M, va_recv hK hP (ci := 5) (q0 := 0) rfl k_md, pr_M rfl hB hP hS⟩ rfl rfl hl.1 rfl (lv_room (Nat.le_of_ble_eq_true rfl)) dX7_runnerTurn_12 ⟨Nat.le_refl _, Nat.le_refl _⟩) rfl (fun hn9 => ?_)
    refine lv_goto (tgt := 28) hx hb dX7_runnerTurn_15 (by decide) ?_
    have hres : q8 = res := (Option.some.inj hf)
    exact W.iret (v := q8) hx hb hr (fun t ht hW => ⟨congrArg (fun z => Outcome.returned (some (Value.int z))) hres, trivial, ht⟩) t_nil dX7_runnerTurn_28
set_option maxHeartbeats 4000000 in
set_option maxRecDepth 100000 in
theorem ct_X7_turnOf (l : Launch) (n : Nat) (g : GM) (m_now : Nat → Int32) (m_kept : Nat → Int32) (m_aside : Nat → Int32) (m_isKept : Int32) (m_found : Nat → Int32) (m_steps : Nat → Int32) (m_queue : Nat → Int32) (m_lives : Nat → Int32) (m_treads : Nat → Int32) (m_tape : Nat → Int32) (m_taped : Int32) (m_begins : Int32) (m_ends : Int32) (m_sort : Int32) (m_value : Int32) (m_isWrong : Int32) (m_items : Nat → Int32) (m_itemMany : Int32) (m_seedThen : Int32) (m_groundThen : Nat → Int32) (m_widths : Nat → Int32) (m_sizes : Nat → Int32) (m_numbers : Nat → Int32) (m_moved : Nat → Int32) (a1 : Int32) (res : Int32) (hf : fX7_turnOf n a1 m_now m_lives = some res) : Met l yX7_turnOf wsX7_turnOf ({ frames := 5, cells := 0, slots := 0, locals := 114 }) (va_Pc [.ref (gm g 0), .int a1] (mI g (m_now, m_kept, m_aside, m_isKept, m_found, m_steps, m_queue, m_lives, m_treads, m_tape, m_taped, m_begins, m_ends, m_sort, m_value, m_isWrong, m_items, m_itemMany, m_seedThen, m_groundThen, m_widths, m_sizes, m_numbers, m_moved))) (qS (some (.int res)) True) 0 0 (fun _ => False) := by
  refine Met.ofW (cc := cX7_turnOf) (maxL := 2) (ret := (some .int)) (by decide) rfl ?_
  intro p e s m args below meth c s₁ B hml hv
  obtain ⟨rfl, hI⟩ := hv
  have hx := B.exec
  have hb := B.bytes
  have hr := B.returns
  have hts := atoms_spec (ws := wsX7_turnOf) B.pre
  have hown : s.vm.findClass RX7 = some m.cls := findClass_of_methodNamed B.named
  have hlocks := B.notSynchronized
  have hP := hI.1
  have hB := hI.2
  have hK := hB.1
  have hNW := hB.2.1
  have hS : va_S (mA g) s.heap s.heap [] := va_S.rf
  have hw0 := hts (.fieldLink RX7 9 "SownPathsModel" "now" "[I") (by decide +kernel)
  have iwX7 : ∀ w ∈ wsX70, w ∈ wsX7_turnOf := fun w h => List.mem_cons_of_mem _ (List.mem_append_right _ h)
  have hl := lv_entry ([.ref (gm g 0), .int a1]) (n := 2) (Nat.le_of_ble_eq_true rfl)
  rw [lg_entry_eq]
  generalize (lg_sl ([.ref (gm g 0), .int a1]) ++ List.replicate (2 - (lg_sl ([.ref (gm g 0), .int a1])).length) Slot.unset).toArray = ls at hl ⊢
  have hl : lv_has ls 2 [(0, .ref (gm g 0)), (1, .int a1)] := hl
  unfold fX7_turnOf at hf
  refine lv_aload_n hx hb dX7_turnOf_0 rfl (lv_at hl 0 rfl) ?_
  refine lv_iload_n hx hb dX7_turnOf_1 rfl (lv_at hl 1 rfl) ?_
  refine lv_iconst (v := (0 : Int32)) hx hb dX7_turnOf_2 (by decide) ?_
  obtain ⟨q1, hq1, hf⟩ := bd_some hf
  refine kr_S (st1 := [.int q1]) (va_runV (As := [.int a1, .int (0 : Int32)]) (rest := []) ⟨hx, hb, hml, hown, hts⟩ (ct_X7_seedIs l n g m_now m_kept m_aside m_isKept m_found m_steps m_queue m_lives m_treads m_tape m_taped m_begins m_ends m_sort m_value m_isWrong m_items m_itemMany m_seedThen m_groundThen m_widths m_sizes m_numbers m_moved a1 (0 : Int32) q1 hq1) (cwV 2 hts gX7_turnOf_X7_seedIs rfl rfl rfl hd_X7_seedIs ⟨Nat.le_of_ble_eq_true rfl, Nat.le_of_ble_eq_true rfl⟩) ⟨bl_M, va_recv hK hP (ci := 5) (q0 := 0) rfl k_md, pr_M rfl hB hP hS⟩ rfl rfl hl.1 rfl (lv_room (Nat.le_of_ble_eq_true rfl)) dX7_turnOf_3 ⟨Nat.le_refl _, Nat.le_refl _⟩) rfl (fun hn2 => ?_)
  by_cases hc3 : q1 = (2 : Int32)
  · have hf := (if_pos hc3).symm.trans hf
    refine lv_tableIn (tgt := 40) hx hb dX7_turnOf_6 (by rw [hc3]; decide) (by rw [hc3]; decide) (by rw [hc3]; rfl) (by decide) ?_
    refine lv_aload_n hx hb dX7_turnOf_40 rfl (lv_at hl 0 rfl) ?_
    refine lv_iload_n hx hb dX7_turnOf_41 rfl (lv_at hl 1 rfl) ?_
    obtain ⟨q4, hq4, hf⟩ := bd_some hf
    refine kr_S (st1 := [.int q4]) (va_runV (As := [.int a1]) (rest := []) ⟨hx, hb, hml, hown, hts⟩ (ct_X7_bulbTurn l n g m_now m_kept m_aside m_isKept m_found m_steps m_queue m_lives m_treads m_tape m_taped m_begins m_ends m_sort m_value m_isWrong m_items m_itemMany m_seedThen m_groundThen m_widths m_sizes m_numbers m_moved a1 q4 hq4) (cwV 1 hts gX7_turnOf_X7_bulbTurn rfl rfl rfl hd_X7_bulbTurn ⟨Nat.le_of_ble_eq_true rfl, Nat.le_of_ble_eq_true rfl⟩) ⟨bl_M, va_recv hK hP (ci := 5) (q0 := 0) rfl k_md, pr_M rfl hB hP hS⟩ rfl rfl hl.1 rfl (lv_room (Nat.le_of_ble_eq_true rfl)) dX7_turnOf_42 ⟨Nat.le_refl _, Nat.le_refl _⟩) rfl (fun hn5 => ?_)
    have hres : q4 = res := (Option.some.inj hf)
    exact W.iret (v := q4) hx hb hr (fun t ht hW => ⟨congrArg (fun z => Outcome.returned (some (Value.int z))) hres, trivial, ht⟩) t_nil dX7_turnOf_45
  · have hf := (if_neg hc3).symm.trans hf
    by_cases hc6 : q1 = (3 : Int32)
    · have hf := (if_pos hc6).symm.trans hf
      refine lv_tableIn (tgt := 46) hx hb dX7_turnOf_6 (by rw [hc6]; decide) (by rw [hc6]; decide) (by rw [hc6]; rfl) (by decide) ?_
      refine lv_aload_n hx hb dX7_turnOf_46 rfl (lv_at hl 0 rfl) ?_
      refine lv_iload_n hx hb dX7_turnOf_47 rfl (lv_at hl 1 rfl) ?_
      obtain ⟨q7, hq7, hf⟩ := bd_some hf
      refine kr_S (st1 := [.int q7]) (va_runV (As := [.int a1]) (rest := []) ⟨hx, hb, hml, hown, hts⟩ (ct_X7_runnerTurn l n g m_now m_kept m_aside m_isKept m_found m_steps m_queue m_lives m_treads m_tape m_taped m_begins m_ends m_sort m_value m_isWrong m_items m_itemMany m_seedThen m_groundThen m_widths m_sizes m_numbers m_moved a1 q7 hq7) (cwV 1 hts gX7_turnOf_X7_runnerTurn rfl rfl rfl hd_X7_runnerTurn ⟨Nat.le_of_ble_eq_true rfl, Nat.le_of_ble_eq_true rfl⟩) ⟨bl_M, va_recv hK hP (ci := 5) (q0 := 0) rfl k_md, pr_M rfl hB hP hS⟩ rfl rfl hl.1 rfl (lv_room (Nat.le_of_ble_eq_true rfl)) dX7_turnOf_48 ⟨Nat.le_refl _, Nat.le_refl _⟩) rfl (fun hn8 => ?_)
      have hres : q7 = res := (Option.some.inj hf)
      exact W.iret (v := q7) hx hb hr (fun t ht hW => ⟨congrArg (fun z => Outcome.returned (some (Value.int z))) hres, trivial, ht⟩) t_nil dX7_turnOf_51
    · have hf := (if_neg hc6).symm.trans hf
      by_cases hc9 : q1 = (4 : Int32)
      · have hf := (if_pos hc9).symm.trans hf
        refine lv_tableIn (tgt := 52) hx hb dX7_turnOf_6 (by rw [hc9]; decide) (by rw [hc9]; decide) (by rw [hc9]; rfl) (by decide) ?_
        refine lv_aload_n hx hb dX7_turnOf_52 rfl (lv_at hl 0 rfl) ?_
        refine lv_iload_n hx hb dX7_turnOf_53 rfl (lv_at hl 1 rfl) ?_
        obtain ⟨q10, hq10, hf⟩ := bd_some hf
        refine kr_S (st1 := [.int q10]) (va_runV (As := [.int a1]) (rest := []) ⟨hx, hb, hml, hown, hts⟩ (ct_X7_runnerTurn l n g m_now m_kept m_aside m_isKept m_found m_steps m_queue m_lives m_treads m_tape m_taped m_begins m_ends m_sort m_value m_isWrong m_items m_itemMany m_seedThen m_groundThen m_widths m_sizes m_numbers m_moved a1 q10 hq10) (cwV 1 hts gX7_turnOf_X7_runnerTurn rfl rfl rfl hd_X7_runnerTurn ⟨Nat.le_of_ble_eq_true rfl, Nat.le_of_ble_eq_true rfl⟩) ⟨bl_M, va_recv hK hP (ci := 5) (q0 := 0) rfl k_md, pr_M rfl hB hP hS⟩ rfl rfl hl.1 rfl (lv_room (Nat.le_of_ble_eq_true rfl)) dX7_turnOf_54 ⟨Nat.le_refl _, Nat.le_refl _⟩) rfl (fun hn11 => ?_)
        refine lv_aload_n hx hb dX7_turnOf_57 rfl (lv_at hl 0 rfl) ?_
        refine va_get (D := g.1) (ci := 5) (v := .ref (gm g 1)) (C := RX7) (T := TX7) (N := 27) hx hb hts iwX7 hown hK hP 0 k_md rfl 0 (by decide) hw0 (fun _ h9 => h9) rfl dX7_turnOf_58 ?_
        refine lv_iconst (v := (0 : Int32)) hx hb dX7_turnOf_61 (by decide) ?_
        refine va_iald (f := m_now) hx hb hK hP 1 0 k_now rfl (vi_lit (by decide)) dX7_turnOf_62 ?_
        refine lv_iconst (v := (2 : Int32)) hx hb dX7_turnOf_63 (by decide) ?_
        refine lv_irem hx hb dX7_turnOf_64 (by decide) ?_
        refine lv_iadd hx hb dX7_turnOf_65 ?_
        refine lv_iconst (v := (4 : Int32)) hx hb dX7_turnOf_66 (by decide) ?_
        refine lv_irem hx hb dX7_turnOf_67 (by decide) ?_
        have hres : ((q10 + ((m_now (0 : Int32).toNatClampNeg) - (m_now (0 : Int32).toNatClampNeg) / (2 : Int32) * (2 : Int32))) - (q10 + ((m_now (0 : Int32).toNatClampNeg) - (m_now (0 : Int32).toNatClampNeg) / (2 : Int32) * (2 : Int32))) / (4 : Int32) * (4 : Int32)) = res := (Option.some.inj hf)
        exact W.iret (v := ((q10 + ((m_now (0 : Int32).toNatClampNeg) - (m_now (0 : Int32).toNatClampNeg) / (2 : Int32) * (2 : Int32))) - (q10 + ((m_now (0 : Int32).toNatClampNeg) - (m_now (0 : Int32).toNatClampNeg) / (2 : Int32) * (2 : Int32))) / (4 : Int32) * (4 : Int32))) hx hb hr (fun t ht hW => ⟨congrArg (fun z => Outcome.returned (some (Value.int z))) hres, trivial, ht⟩) t_nil dX7_turnOf_68
      · have hf := (if_neg hc9).symm.trans hf
        by_cases hc12 : q1 = (5 : Int32)
        · have hf := (if_pos hc12).symm.trans hf
          refine lv_tableIn (tgt := 69) hx hb dX7_turnOf_6 (by rw [hc12]; decide) (by rw [hc12]; decide) (by rw [hc12]; rfl) (by decide) ?_
          refine lv_aload_n hx hb dX7_turnOf_69 rfl (lv_at hl 0 rfl) ?_
          refine lv_iload_n hx hb dX7_turnOf_70 rfl (lv_at hl 1 rfl) ?_
          refine lv_iconst (v := (2 : Int32)) hx hb dX7_turnOf_71 (by decide) ?_
          obtain ⟨q13, hq13, hf⟩ := bd_some hf
          refine kr_S (st1 := [.int q13]) (va_runV (As := [.int a1, .int (2 : Int32)]) (rest := []) ⟨hx, hb, hml, hown, hts⟩ (ct_X7_seedIs l n g m_now m_kept m_aside m_isKept m_found m_steps m_queue m_lives m_treads m_tape m_taped m_begins m_ends m_sort m_value m_isWrong m_items m_itemMany m_seedThen m_groundThen m_widths m_sizes m_numbers m_moved a1 (2 : Int32) q13 hq13) (cwV 2 hts gX7_turnOf_X7_seedIs rfl rfl rfl hd_X7_seedIs ⟨Nat.le_of_ble_eq_true rfl, Nat.le_of_ble_eq_true rfl⟩) ⟨bl_M, va_recv hK hP (ci := 5) (q0 := 0) rfl k_md, pr_M rfl hB hP hS⟩ rfl rfl hl.1 rfl (lv_room (Nat.le_of_ble_eq_true rfl)) dX7_turnOf_72 ⟨Nat.le_refl _, Nat.le_refl _⟩) rfl (fun hn14 => ?_)
          refine lv_iconst (v := (1 : Int32)) hx hb dX7_turnOf_75 (by decide) ?_
          refine lv_iadd hx hb dX7_turnOf_76 ?_
          refine lv_iconst (v := (4 : Int32)) hx hb dX7_turnOf_77 (by decide) ?_
          refine lv_irem hx hb dX7_turnOf_78 (by decide) ?_
          have hres : ((q13 + (1 : Int32)) - (q13 + (1 : Int32)) / (4 : Int32) * (4 : Int32)) = res := (Option.some.inj hf)
          exact W.iret (v := ((q13 + (1 : Int32)) - (q13 + (1 : Int32)) / (4 : Int32) * (4 : Int32))) hx hb hr (fun t ht hW => ⟨congrArg (fun z => Outcome.returned (some (Value.int z))) hres, trivial, ht⟩) t_nil dX7_turnOf_79
        · have hf := (if_neg hc12).symm.trans hf
          by_cases hc15 : q1 = (6 : Int32)
          · have hf := (if_pos hc15).symm.trans hf
            refine lv_tableIn (tgt := 80) hx hb dX7_turnOf_6 (by rw [hc15]; decide) (by rw [hc15]; decide) (by rw [hc15]; rfl) (by decide) ?_
            refine lv_aload_n hx hb dX7_turnOf_80 rfl (lv_at hl 0 rfl) ?_
            refine lv_iload_n hx hb dX7_turnOf_81 rfl (lv_at hl 1 rfl) ?_
            refine lv_iconst (v := (2 : Int32)) hx hb dX7_turnOf_82 (by decide) ?_
            obtain ⟨q16, hq16, hf⟩ := bd_some hf
            refine kr_S (st1 := [.int q16]) (va_runV (As := [.int a1, .int (2 : Int32)]) (rest := []) ⟨hx, hb, hml, hown, hts⟩ (ct_X7_seedIs l n g m_now m_kept m_aside m_isKept m_found m_steps m_queue m_lives m_treads m_tape m_taped m_begins m_ends m_sort m_value m_isWrong m_items m_itemMany m_seedThen m_groundThen m_widths m_sizes m_numbers m_moved a1 (2 : Int32) q16 hq16) (cwV 2 hts gX7_turnOf_X7_seedIs rfl rfl rfl hd_X7_seedIs ⟨Nat.le_of_ble_eq_true rfl, Nat.le_of_ble_eq_true rfl⟩) ⟨bl_M, va_recv hK hP (ci := 5) (q0 := 0) rfl k_md, pr_M rfl hB hP hS⟩ rfl rfl hl.1 rfl (lv_room (Nat.le_of_ble_eq_true rfl)) dX7_turnOf_83 ⟨Nat.le_refl _, Nat.le_refl _⟩) rfl (fun hn17 => ?_)
            refine lv_aload_n hx hb dX7_turnOf_86 rfl (lv_at hl 0 rfl) ?_
            refine lv_iload_n hx hb dX7_turnOf_87 rfl (lv_at hl 1 rfl) ?_
            refine lv_iconst (v := (3 : Int32)) hx hb dX7_turnOf_88 (by decide) ?_
            obtain ⟨q18, hq18, hf⟩ := bd_some hf
            refine kr_S (st1 := [.int q18, .int q16]) (va_runV (As := [.int a1, .int (3 : Int32)]) (rest := [.int q16]) ⟨hx, hb, hml, hown, hts⟩ (ct_X7_seedIs l n g m_now m_kept m_aside m_isKept m_found m_steps m_queue m_lives m_treads m_tape m_taped m_begins m_ends m_sort m_value m_isWrong m_items m_itemMany m_seedThen m_groundThen m_widths m_sizes m_numbers m_moved a1 (3 : Int32) q18 hq18) (cwV 2 hts gX7_turnOf_X7_seedIs rfl rfl rfl hd_X7_seedIs ⟨Nat.le_of_ble_eq_true rfl, Nat.le_of_ble_eq_true rfl⟩) ⟨bl_M, va_recv hK hP (ci := 5) (q0 := 0) rfl k_md, pr_M rfl hB hP hS⟩ rfl rfl hl.1 rfl (lv_room (Nat.le_of_ble_eq_true rfl)) dX7_turnOf_89 ⟨Nat.le_refl _, Nat.le_refl _⟩) rfl (fun hn19 => ?_)
            refine lv_iconst (v := (2 : Int32)) hx hb dX7_turnOf_92 (by decide) ?_
            refine lv_irem hx hb dX7_turnOf_93 (by decide) ?_
            refine lv_iadd hx hb dX7_turnOf_94 ?_
            refine lv_iconst (v := (4 : Int32)) hx hb dX7_turnOf_95 (by decide) ?_
            refine lv_irem hx hb dX7_turnOf_96 (by decide) ?_
            have hres : ((q16 + (q18 - q18 / (2 : Int32) * (2 : Int32))) - (q16 + (q18 - q18 / (2 : Int32) * (2 : Int32))) / (4 : Int32) * (4 : Int32)) = res := (Option.some.inj hf)
            exact W.iret (v := ((q16 + (q18 - q18 / (2 : Int32) * (2 : Int32))) - (q16 + (q18 - q18 / (2 : Int32) * (2 : Int32))) / (4 : Int32) * (4 : Int32))) hx hb hr (fun t ht hW => ⟨congrArg (fun z => Outcome.returned (some (Value.int z))) hres, trivial, ht⟩) t_nil dX7_turnOf_97
          · have hf := (if_neg hc15).symm.trans hf
            refine lv_tableOut (tgt := 98) hx hb dX7_turnOf_6 (by have := lv_neT (a := 2) hc3 rfl; have := lv_neT (a := 3) hc6 rfl; have := lv_neT (a := 4) hc9 rfl; have := lv_neT (a := 5) hc12 rfl; have := lv_neT (a := 6) hc15 rfl; omega) (by decide) ?_
            refine lv_aload_n hx hb dX7_turnOf_98 rfl (lv_at hl 0 rfl) ?_
            refine lv_iload_n hx hb dX7_turnOf_99 rfl (lv_at hl 1 rfl) ?_
            refine lv_iconst (v := (2 : Int32)) hx hb dX7_turnOf_100 (by decide) ?_
            obtain ⟨q20, hq20, hf⟩ := bd_some hf
            refine kr_S (st1 := [.int q20]) (va_runV (As := [.int a1, .int (2 : Int32)]) (rest := []) ⟨hx, hb, hml, hown, hts⟩ (ct_X7_seedIs l n g m_now m_kept m_aside m_isKept m_found m_steps m_queue m_lives m_treads m_tape m_taped m_begins m_ends m_sort m_value m_isWrong m_items m_itemMany m_seedThen m_groundThen m_widths m_sizes m_numbers m_moved a1 (2 : Int32) q20 hq20) (cwV 2 hts gX7_turnOf_X7_seedIs rfl rfl rfl hd_X7_seedIs ⟨Nat.le_of_ble_eq_true rfl, Nat.le_of_ble_eq_true rfl⟩) ⟨bl_M, va_recv hK hP (ci := 5) (q0 := 0) rfl k_md, pr_M rfl hB hP hS⟩ rfl rfl hl.1 rfl (lv_room (Nat.le_of_ble_eq_true rfl)) dX7_turnOf_101 ⟨Nat.le_refl _, Nat.le_refl _⟩) rfl (fun hn21 => ?_)
            have hres : q20 = res := (Option.some.inj hf)
            exact W.iret (v := q20) hx hb hr (fun t ht hW => ⟨congrArg (fun z => Outcome.returned (some (Value.int z))) hres, trivial, ht⟩) t_nil dX7_turnOf_104
set_option maxHeartbeats 4000000 in
set_option maxRecDepth 100000 in
theorem ct_X7_of (l : Launch) (n : Nat) (g : GM) (m_now : Nat → Int32) (m_kept : Nat → Int32) (m_aside : Nat → Int32) (m_isKept : Int32) (m_found : Nat → Int32) (m_steps : Nat → Int32) (m_queue : Nat → Int32) (m_lives : Nat → Int32) (m_treads : Nat → Int32) (m_tape : Nat → Int32) (m_taped : Int32) (m_begins : Int32) (m_ends : Int32) (m_sort : Int32) (m_value : Int32) (m_isWrong : Int32) (m_items : Nat → Int32) (m_itemMany : Int32) (m_seedThen : Int32) (m_groundThen : Nat → Int32) (m_widths : Nat → Int32) (m_sizes : Nat → Int32) (m_numbers : Nat → Int32) (m_moved : Nat → Int32) (a1 : Int32) (a2 : Int32) (res : Int32 × (Nat → Int32)) (hf : fX7_of n a1 a2 m_now m_found m_lives m_treads = some res) : Met l yX7_of wsX7_of ({ frames := 6, cells := 0, slots := 0, locals := 135 }) (va_Pc [.ref (gm g 0), .int a1, .int a2] (mI g (m_now, m_kept, m_aside, m_isKept, m_found, m_steps, m_queue, m_lives, m_treads, m_tape, m_taped, m_begins, m_ends, m_sort, m_value, m_isWrong, m_items, m_itemMany, m_seedThen, m_groundThen, m_widths, m_sizes, m_numbers, m_moved))) (qW (some (.int res.1)) True g.1 (mw g (m_now, m_kept, m_aside, m_isKept, res.2, m_steps, m_queue, m_lives, m_treads, m_tape, m_taped, m_begins, m_ends, m_sort, m_value, m_isWrong, m_items, m_itemMany, m_seedThen, m_groundThen, m_widths, m_sizes, m_numbers, m_moved)) (mA g)) 0 0 (mA g) := by
  refine Met.ofW (cc := cX7_of) (maxL := 3) (ret := (some .int)) (by decide) rfl ?_
  intro p e s m args below meth c s₁ B hml hv
  obtain ⟨rfl, hI⟩ := hv
  have hx := B.exec
  have hb := B.bytes
  have hr := B.returns
  have hts := atoms_spec (ws := wsX7_of) B.pre
  have hown : s.vm.findClass RX7 = some m.cls := findClass_of_methodNamed B.named
  have hlocks := B.notSynchronized
  have hP := hI.1
  have hB := hI.2
  have hK := hB.1
  have hNW := hB.2.1
  have hS : va_S (mA g) s.heap s.heap [] := va_S.rf
  have hw0 := hts (.constant RX7 95 (-1000001)) (by decide +kernel)
  have hw1 := hts (.fieldLink RX7 28 "SownPathsModel" "lives" "[I") (by decide +kernel)
  have hw2 := hts (.fieldLink RX7 31 "SownPathsModel" "treads" "[I") (by decide +kernel)
  have iwX7 : ∀ w ∈ wsX70, w ∈ wsX7_of := fun w h => List.mem_cons_of_mem _ (List.mem_append_right _ h)
  have hl := lv_entry ([.ref (gm g 0), .int a1, .int a2]) (n := 3) (Nat.le_of_ble_eq_true rfl)
  rw [lg_entry_eq]
  generalize (lg_sl ([.ref (gm g 0), .int a1, .int a2]) ++ List.replicate (3 - (lg_sl ([.ref (gm g 0), .int a1, .int a2])).length) Slot.unset).toArray = ls at hl ⊢
  have hl : lv_has ls 3 [(0, .ref (gm g 0)), (1, .int a1), (2, .int a2)] := hl
  unfold fX7_of at hf
  refine lv_aload_n hx hb dX7_of_0 rfl (lv_at hl 0 rfl) ?_
  refine lv_iload_n hx hb dX7_of_1 rfl (lv_at hl 1 rfl) ?_
  obtain ⟨q1, hq1, hf⟩ := bd_some hf
  refine kr_S (st1 := [.int q1]) (va_runV (As := [.int a1]) (rest := []) ⟨hx, hb, hml, hown, hts⟩ (ct_X7_isSeed l n g m_now m_kept m_aside m_isKept m_found m_steps m_queue m_lives m_treads m_tape m_taped m_begins m_ends m_sort m_value m_isWrong m_items m_itemMany m_seedThen m_groundThen m_widths m_sizes m_numbers m_moved a1 q1 hq1) (cwV 1 hts gX7_of_X7_isSeed rfl rfl rfl hd_X7_isSeed ⟨Nat.le_of_ble_eq_true rfl, Nat.le_of_ble_eq_true rfl⟩) ⟨bl_M, va_recv hK hP (ci := 5) (q0 := 0) rfl k_md, pr_M rfl hB hP hS⟩ rfl rfl hl.1 rfl (lv_room (Nat.le_of_ble_eq_true rfl)) dX7_of_2 ⟨Nat.le_refl _, Nat.le_refl _⟩) rfl (fun hn2 => ?_)
  refine lv_if_eq (tgt := 18) hx hb dX7_of_5 (by decide) (fun hc3 => ?_) (fun hc3 => ?_)
  · have hf := (if_pos hc3).symm.trans hf
    refine lv_aload_n hx hb dX7_of_18 rfl (lv_at hl 0 rfl) ?_
    refine lv_ldc (v := (-1000001 : Int32)) hx hb hown hw0 dX7_of_19 ?_
    obtain ⟨q4, hq4, hf⟩ := bd_some hf
    refine kr_W (st1 := [.int q4.1]) (va_runV (As := [.int (-1000001 : Int32)]) (rest := []) ⟨hx, hb, hml, hown, hts⟩ (ct_X7_finding l n g m_now m_kept m_aside m_isKept m_found m_steps m_queue m_lives m_treads m_tape m_taped m_begins m_ends m_sort m_value m_isWrong m_items m_itemMany m_seedThen m_groundThen m_widths m_sizes m_numbers m_moved (-1000001 : Int32) q4 hq4) (cwV 1 hts gX7_of_X7_finding rfl rfl rfl hd_X7_finding ⟨Nat.le_of_ble_eq_true rfl, Nat.le_of_ble_eq_true rfl⟩) ⟨bl_M, va_recv hK hP (ci := 5) (q0 := 0) rfl k_md, pr_M rfl hB hP hS⟩ rfl rfl hl.1 rfl (lv_room (Nat.le_of_ble_eq_true rfl)) dX7_of_21 ⟨Nat.le_refl _, Nat.le_refl _⟩) hS rfl (fun hn5 H locs hP hS => ?_)
    have hP : va_P g.1 vwCl (mw g (m_now, m_kept, m_aside, m_isKept, q4.2, m_steps, m_queue, m_lives, m_treads, m_tape, m_taped, m_begins, m_ends, m_sort, m_value, m_isWrong, m_items, m_itemMany, m_seedThen, m_groundThen, m_widths, m_sizes, m_numbers, m_moved)) H := hP
    have hres : (q4.1, q4.2) = res := (Option.some.inj hf)
    have hP := w_eq (congrArg (fun z => mw g (m_now, m_kept, m_aside, m_isKept, z.2, m_steps, m_queue, m_lives, m_treads, m_tape, m_taped, m_begins, m_ends, m_sort, m_value, m_isWrong, m_items, m_itemMany, m_seedThen, m_groundThen, m_widths, m_sizes, m_numbers, m_moved)) hres) hP
    exact W.iret (v := q4.1) hx hb hr (fun t ht hW => ⟨congrArg (fun z => Outcome.returned (some (Value.int z.1))) hres, trivial, by rw [ht]; exact hP, hS.F ht⟩) hS.2.2 dX7_of_24
  · have hf := (if_neg hc3).symm.trans hf
    refine lv_iload_n hx hb dX7_of_8 rfl (lv_at hl 2 rfl) ?_
    refine lv_iconst (v := (0 : Int32)) hx hb dX7_of_9 (by decide) ?_
    refine lv_bipush (v := (7 : Int32)) hx hb dX7_of_10 (by decide) ?_
    obtain ⟨q6, hq6, hf⟩ := bd_some hf
    refine kr_S (st1 := [.int q6]) (va_runS (As := [.int a2, .int (0 : Int32), .int (7 : Int32)]) (rest := []) ⟨hx, hb, hml, hown, hts⟩ (ct_X7_within l n a2 (0 : Int32) (7 : Int32) q6 hq6) (va_cwS 3 hts gX7_of_X7_within rfl rfl rfl hn_X7_within ⟨Nat.le_of_ble_eq_true rfl, Nat.le_of_ble_eq_true rfl⟩) ⟨bl_N, pr_N rfl hNW⟩ rfl rfl hl.1 rfl (lv_room (Nat.le_of_ble_eq_true rfl)) dX7_of_12 ⟨Nat.le_refl _, Nat.le_refl _⟩) rfl (fun hn7 => ?_)
    refine lv_if_ne (tgt := 25) hx hb dX7_of_15 (by decide) (fun hc8 => ?_) (fun hc8 => ?_)
    · have hf := (if_neg hc8).symm.trans hf
      refine lv_iload_n hx hb dX7_of_25 rfl (lv_at hl 2 rfl) ?_
      by_cases hc9 : a2 = (4 : Int32)
      · have hf := (if_pos hc9).symm.trans hf
        refine lv_tableIn (tgt := 56) hx hb dX7_of_26 (by rw [hc9]; decide) (by rw [hc9]; decide) (by rw [hc9]; rfl) (by decide) ?_
        refine lv_aload_n hx hb dX7_of_56 rfl (lv_at hl 0 rfl) ?_
        refine va_get (D := g.1) (ci := 5) (v := .ref (gm g 7)) (C := RX7) (T := TX7) (N := 27) hx hb hts iwX7 hown hK hP 0 k_md rfl 7 (by decide) hw1 (fun _ h9 => h9) rfl dX7_of_57 ?_
        refine lv_aload_n hx hb dX7_of_60 rfl (lv_at hl 0 rfl) ?_
        refine lv_iload_n hx hb dX7_of_61 rfl (lv_at hl 1 rfl) ?_
        refine lv_iconst (v := (0 : Int32)) hx hb dX7_of_62 (by decide) ?_
        obtain ⟨q10, hq10, hf⟩ := bd_some hf
        refine kr_S (st1 := [.int q10, .ref (gm g 7)]) (va_runV (As := [.int a1, .int (0 : Int32)]) (rest := [.ref (gm g 7)]) ⟨hx, hb, hml, hown, hts⟩ (ct_X7_seedIs l n g m_now m_kept m_aside m_isKept m_found m_steps m_queue m_lives m_treads m_tape m_taped m_begins m_ends m_sort m_value m_isWrong m_items m_itemMany m_seedThen m_groundThen m_widths m_sizes m_numbers m_moved a1 (0 : Int32) q10 hq10) (cwV 2 hts gX7_of_X7_seedIs rfl rfl rfl hd_X7_seedIs ⟨Nat.le_of_ble_eq_true rfl, Nat.le_of_ble_eq_true rfl⟩) ⟨bl_M, va_recv hK hP (ci := 5) (q0 := 0) rfl k_md, pr_M rfl hB hP hS⟩ rfl rfl hl.1 rfl (lv_room (Nat.le_of_ble_eq_true rfl)) dX7_of_63 ⟨Nat.le_refl _, Nat.le_refl _⟩) rfl (fun hn11 => ?_)
        obtain ⟨hg12, hf⟩ := gd_some hf
        refine va_iald (f := m_lives) hx hb hK hP 7 0 k_lives rfl hg12 dX7_of_66 ?_
        have hres : ((m_lives q10.toNatClampNeg), m_found) = res := (Option.some.inj hf)
        have hP := w_eq (congrArg (fun z => mw g (m_now, m_kept, m_aside, m_isKept, z.2, m_steps, m_queue, m_lives, m_treads, m_tape, m_taped, m_begins, m_ends, m_sort, m_value, m_isWrong, m_items, m_itemMany, m_seedThen, m_groundThen, m_widths, m_sizes, m_numbers, m_moved)) hres) hP
        exact W.iret (v := (m_lives q10.toNatClampNeg)) hx hb hr (fun t ht hW => ⟨congrArg (fun z => Outcome.returned (some (Value.int z.1))) hres, trivial, by rw [ht]; exact hP, hS.F ht⟩) hS.2.2 dX7_of_67
      · have hf := (if_neg hc9).symm.trans hf
        by_cases hc13 : a2 = (5 : Int32)
        · have hf := (if_pos hc13).symm.trans hf
          refine lv_tableIn (tgt := 68) hx hb dX7_of_26 (by rw [hc13]; decide) (by rw [hc13]; decide) (by rw [hc13]; rfl) (by decide) ?_
          refine lv_aload_n hx hb dX7_of_68 rfl (lv_at hl 0 rfl) ?_
          refine va_get (D := g.1) (ci := 5) (v := .ref (gm g 8)) (C := RX7) (T := TX7) (N := 27) hx hb hts iwX7 hown hK hP 0 k_md rfl 8 (by decide) hw2 (fun _ h9 => h9) rfl dX7_of_69 ?_
          refine lv_aload_n hx hb dX7_of_72 rfl (lv_at hl 0 rfl) ?_
          refine lv_iload_n hx hb dX7_of_73 rfl (lv_at hl 1 rfl) ?_
          refine lv_iconst (v := (0 : Int32)) hx hb dX7_of_74 (by decide) ?_
          obtain ⟨q14, hq14, hf⟩ := bd_some hf
          refine kr_S (st1 := [.int q14, .ref (gm g 8)]) (va_runV (As := [.int a1, .int (0 : Int32)]) (rest := [.ref (gm g 8)]) ⟨hx, hb, hml, hown, hts⟩ (ct_X7_seedIs l n g m_now m_kept m_aside m_isKept m_found m_steps m_queue m_lives m_treads m_tape m_taped m_begins m_ends m_sort m_value m_isWrong m_items m_itemMany m_seedThen m_groundThen m_widths m_sizes m_numbers m_moved a1 (0 : Int32) q14 hq14) (cwV 2 hts gX7_of_X7_seedIs rfl rfl rfl hd_X7_seedIs ⟨Nat.le_of_ble_eq_true rfl, Nat.le_of_ble_eq_true rfl⟩) ⟨bl_M, va_recv hK hP (ci := 5) (q0 := 0) rfl k_md, pr_M rfl hB hP hS⟩ rfl rfl hl.1 rfl (lv_room (Nat.le_of_ble_eq_true rfl)) dX7_of_75 ⟨Nat.le_refl _, Nat.le_refl _⟩) rfl (fun hn15 => ?_)
          obtain ⟨hg16, hf⟩ := gd_some hf
          refine va_iald (f := m_treads) hx hb hK hP 8 0 k_treads rfl hg16 dX7_of_78 ?_
          have hres : ((m_treads q14.toNatClampNeg), m_found) = res := (Option.some.inj hf)
          have hP := w_eq (congrArg (fun z => mw g (m_now, m_kept, m_aside, m_isKept, z.2, m_steps, m_queue, m_lives, m_treads, m_tape, m_taped, m_begins, m_ends, m_sort, m_value, m_isWrong, m_items, m_itemMany, m_seedThen, m_groundThen, m_widths, m_sizes, m_numbers, m_moved)) hres) hP
          exact W.iret (v := (m_treads q14.toNatClampNeg)) hx hb hr (fun t ht hW => ⟨congrArg (fun z => Outcome.returned (some (Value.int z.1))) hres, trivial, by rw [ht]; exact hP, hS.F ht⟩) hS.2.2 dX7_of_79
        · have hf := (if_neg hc13).symm.trans hf
          by_cases hc17 : a2 = (6 : Int32)
          · have hf := (if_pos hc17).symm.trans hf
            refine lv_tableIn (tgt := 80) hx hb dX7_of_26 (by rw [hc17]; decide) (by rw [hc17]; decide) (by rw [hc17]; rfl) (by decide) ?_
            refine lv_aload_n hx hb dX7_of_80 rfl (lv_at hl 0 rfl) ?_
            refine lv_iload_n hx hb dX7_of_81 rfl (lv_at hl 1 rfl) ?_
            obtain ⟨q18, hq18, hf⟩ := bd_some hf
            refine kr_S (st1 := [.int q18]) (va_runV (As := [.int a1]) (rest := []) ⟨hx, hb, hml, hown, hts⟩ (ct_X7_turnOf l n g m_now m_kept m_aside m_isKept m_found m_steps m_queue m_lives m_treads m_tape m_taped m_begins m_ends m_sort m_value m_isWrong m_items m_itemMany m_seedThen m_groundThen m_widths m_sizes m_numbers m_moved a1 q18 hq18) (cwV 1 hts gX7_of_X7_turnOf rfl rfl rfl hd_X7_turnOf ⟨Nat.le_of_ble_eq_true rfl, Nat.le_of_ble_eq_true rfl⟩) ⟨bl_M, va_recv hK hP (ci := 5) (q0 := 0) rfl k_md, pr_M rfl hB hP hS⟩ rfl rfl hl.1 rfl (lv_room (Nat.le_of_ble_eq_true rfl)) dX7_of_82 ⟨Nat.le_refl _, Nat.le_refl _⟩) rfl (fun hn19 => ?_)
            have hres : (q18, m_found) = res := (Option.some.inj hf)
            have hP := w_eq (congrArg (fun z => mw g (m_now, m_kept, m_aside, m_isKept, z.2, m_steps, m_queue, m_lives, m_treads, m_tape, m_taped, m_begins, m_ends, m_sort, m_value, m_isWrong, m_items, m_itemMany, m_seedThen, m_groundThen, m_widths, m_sizes, m_numbers, m_moved)) hres) hP
            exact W.iret (v := q18) hx hb hr (fun t ht hW => ⟨congrArg (fun z => Outcome.returned (some (Value.int z.1))) hres, trivial, by rw [ht]; exact hP, hS.F ht⟩) hS.2.2 dX7_of_85
          · have hf := (if_neg hc17).symm.trans hf
            by_cases hc20 : a2 = (7 : Int32)
            · have hf := (if_pos hc20).symm.trans hf
              refine lv_tableIn (tgt := 86) hx hb dX7_of_26 (by rw [hc20]; decide) (by rw [hc20]; decide) (by rw [hc20]; rfl) (by decide) ?_
              refine lv_aload_n hx hb dX7_of_86 rfl (lv_at hl 0 rfl) ?_
              refine lv_iload_n hx hb dX7_of_87 rfl (lv_at hl 1 rfl) ?_
              obtain ⟨q21, hq21, hf⟩ := bd_some hf
              refine kr_S (st1 := [.int q21]) (va_runV (As := [.int a1]) (rest := []) ⟨hx, hb, hml, hown, hts⟩ (ct_X7_isAlive l n g m_now m_kept m_aside m_isKept m_found m_steps m_queue m_lives m_treads m_tape m_taped m_begins m_ends m_sort m_value m_isWrong m_items m_itemMany m_seedThen m_groundThen m_widths m_sizes m_numbers m_moved a1 q21 hq21) (cwV 1 hts gX7_of_X7_isAlive rfl rfl rfl hd_X7_isAlive ⟨Nat.le_of_ble_eq_true rfl, Nat.le_of_ble_eq_true rfl⟩) ⟨bl_M, va_recv hK hP (ci := 5) (q0 := 0) rfl k_md, pr_M rfl hB hP hS⟩ rfl rfl hl.1 rfl (lv_room (Nat.le_of_ble_eq_true rfl)) dX7_of_88 ⟨Nat.le_refl _, Nat.le_refl _⟩) rfl (fun hn22 => ?_)
              refine lv_if_eq (tgt := 98) hx hb dX7_of_91 (by decide) (fun hc23 => ?_) (fun hc23 => ?_)
              · have hf := (if_pos hc23).symm.trans hf
                refine lv_iconst (v := (0 : Int32)) hx hb dX7_of_98 (by decide) ?_
                have hres : ((0 : Int32), m_found) = res := (Option.some.inj hf)
                have hP := w_eq (congrArg (fun z => mw g (m_now, m_kept, m_aside, m_isKept, z.2, m_steps, m_queue, m_lives, m_treads, m_tape, m_taped, m_begins, m_ends, m_sort, m_value, m_isWrong, m_items, m_itemMany, m_seedThen, m_groundThen, m_widths, m_sizes, m_numbers, m_moved)) hres) hP
                exact W.iret (v := (0 : Int32)) hx hb hr (fun t ht hW => ⟨congrArg (fun z => Outcome.returned (some (Value.int z.1))) hres, trivial, by rw [ht]; exact hP, hS.F ht⟩) hS.2.2 dX7_of_99
              · have hf := (if_neg hc23).symm.trans hf
                refine lv_iconst (v := (1 : Int32)) hx hb dX7_of_94 (by decide) ?_
                refine lv_goto (tgt := 99) hx hb dX7_of_95 (by decide) ?_
                have hres : ((1 : Int32), m_found) = res := (Option.some.inj hf)
                have hP := w_eq (congrArg (fun z => mw g (m_now, m_kept, m_aside, m_isKept, z.2, m_steps, m_queue, m_lives, m_treads, m_tape, m_taped, m_begins, m_ends, m_sort, m_value, m_isWrong, m_items, m_itemMany, m_seedThen, m_groundThen, m_widths, m_sizes, m_numbers, m_moved)) hres) hP
                exact W.iret (v := (1 : Int32)) hx hb hr (fun t ht hW => ⟨congrArg (fun z => Outcome.returned (some (Value.int z.1))) hres, trivial, by rw [ht]; exact hP, hS.F ht⟩) hS.2.2 dX7_of_99
            · have hf := (if_neg hc20).symm.trans hf
              refine lv_tableOut (tgt := 100) hx hb dX7_of_26 (by have := lv_neT (a := 4) hc9 rfl; have := lv_neT (a := 5) hc13 rfl; have := lv_neT (a := 6) hc17 rfl; have := lv_neT (a := 7) hc20 rfl; omega) (by decide) ?_
              refine lv_aload_n hx hb dX7_of_100 rfl (lv_at hl 0 rfl) ?_
              refine lv_iload_n hx hb dX7_of_101 rfl (lv_at hl 1 rfl) ?_
              refine lv_iload_n hx hb dX7_of_102 rfl (lv_at hl 2 rfl) ?_
              obtain ⟨q24, hq24, hf⟩ := bd_some hf
              refine kr_S (st1 := [.int q24]) (va_runV (As := [.int a1, .int a2]) (rest := []) ⟨hx, hb, hml, hown, hts⟩ (ct_X7_seedIs l n g m_now m_kept m_aside m_isKept m_found m_steps m_queue m_lives m_treads m_tape m_taped m_begins m_ends m_sort m_value m_isWrong m_items m_itemMany m_seedThen m_groundThen m_widths m_sizes m_numbers m_moved a1 a2 q24 hq24) (cwV 2 hts gX7_of_X7_seedIs rfl rfl rfl hd_X7_seedIs ⟨Nat.le_of_ble_eq_true rfl, Nat.le_of_ble_eq_true rfl⟩) ⟨bl_M, va_recv hK hP (ci := 5) (q0 := 0) rfl k_md, pr_M rfl hB hP hS⟩ rfl rfl hl.1 rfl (lv_room (Nat.le_of_ble_eq_true rfl)) dX7_of_103 ⟨Nat.le_refl _, Nat.le_refl _⟩) rfl (fun hn25 => ?_)
              have hres : (q24, m_found) = res := (Option.some.inj hf)
              have hP := w_eq (congrArg (fun z => mw g (m_now, m_kept, m_aside, m_isKept, z.2, m_steps, m_queue, m_lives, m_treads, m_tape, m_taped, m_begins, m_ends, m_sort, m_value, m_isWrong, m_items, m_itemMany, m_seedThen, m_groundThen, m_widths, m_sizes, m_numbers, m_moved)) hres) hP
              exact W.iret (v := q24) hx hb hr (fun t ht hW => ⟨congrArg (fun z => Outcome.returned (some (Value.int z.1))) hres, trivial, by rw [ht]; exact hP, hS.F ht⟩) hS.2.2 dX7_of_106
    · have hf := (if_pos hc8).symm.trans hf
      refine lv_aload_n hx hb dX7_of_18 rfl (lv_at hl 0 rfl) ?_
      refine lv_ldc (v := (-1000001 : Int32)) hx hb hown hw0 dX7_of_19 ?_
      obtain ⟨q26, hq26, hf⟩ := bd_some hf
      refine kr_W (st1 := [.int q26.1]) (va_runV (As := [.int (-1000001 : Int32)]) (rest := []) ⟨hx, hb, hml, hown, hts⟩ (ct_X7_finding l n g m_now m_kept m_aside m_isKept m_found m_steps m_queue m_lives m_treads m_tape m_taped m_begins m_ends m_sort m_value m_isWrong m_items m_itemMany m_seedThen m_groundThen m_widths m_sizes m_numbers m_moved (-1000001 : Int32) q26 hq26) (cwV 1 hts gX7_of_X7_finding rfl rfl rfl hd_X7_finding ⟨Nat.le_of_ble_eq_true rfl, Nat.le_of_ble_eq_true rfl⟩) ⟨bl_M, va_recv hK hP (ci := 5) (q0 := 0) rfl k_md, pr_M rfl hB hP hS⟩ rfl rfl hl.1 rfl (lv_room (Nat.le_of_ble_eq_true rfl)) dX7_of_21 ⟨Nat.le_refl _, Nat.le_refl _⟩) hS rfl (fun hn27 H locs hP hS => ?_)
      have hP : va_P g.1 vwCl (mw g (m_now, m_kept, m_aside, m_isKept, q26.2, m_steps, m_queue, m_lives, m_treads, m_tape, m_taped, m_begins, m_ends, m_sort, m_value, m_isWrong, m_items, m_itemMany, m_seedThen, m_groundThen, m_widths, m_sizes, m_numbers, m_moved)) H := hP
      have hres : (q26.1, q26.2) = res := (Option.some.inj hf)
      have hP := w_eq (congrArg (fun z => mw g (m_now, m_kept, m_aside, m_isKept, z.2, m_steps, m_queue, m_lives, m_treads, m_tape, m_taped, m_begins, m_ends, m_sort, m_value, m_isWrong, m_items, m_itemMany, m_seedThen, m_groundThen, m_widths, m_sizes, m_numbers, m_moved)) hres) hP
      exact W.iret (v := q26.1) hx hb hr (fun t ht hW => ⟨congrArg (fun z => Outcome.returned (some (Value.int z.1))) hres, trivial, by rw [ht]; exact hP, hS.F ht⟩) hS.2.2 dX7_of_24
set_option maxHeartbeats 4000000 in
set_option maxRecDepth 100000 in
theorem ct_X7_mayBe (l : Launch) (n : Nat) (a0 : Int32) (a1 : Int32) (res : Int32) (hf : fX7_mayBe n a0 a1 = some res) : Met l yX7_mayBe wsX7_mayBe ({ frames := 2, cells := 0, slots := 0, locals := 42 }) (va_Pc [.int a0, .int a1] NW) (qS (some (.int res)) (narrow .boolean (.int res) = .int res)) 0 0 (fun _ => False) := by
  refine Met.ofW (cc := cX7_mayBe) (maxL := 2) (ret := (some .boolean)) (by decide) rfl ?_
  intro p e s m args below meth c s₁ B hml hv
  obtain ⟨rfl, hI⟩ := hv
  have hx := B.exec
  have hb := B.bytes
  have hr := B.returns
  have hts := atoms_spec (ws := wsX7_mayBe) B.pre
  have hown : s.vm.findClass RX7 = some m.cls := findClass_of_methodNamed B.named
  have hlocks := B.notSynchronized
  have hNW : NW s := hI
  have hl := lv_entry ([.int a0, .int a1]) (n := 2) (Nat.le_of_ble_eq_true rfl)
  rw [lg_entry_eq]
  generalize (lg_sl ([.int a0, .int a1]) ++ List.replicate (2 - (lg_sl ([.int a0, .int a1])).length) Slot.unset).toArray = ls at hl ⊢
  have hl : lv_has ls 2 [(0, .int a0), (1, .int a1)] := hl
  unfold fX7_mayBe at hf
  refine lv_iload_n hx hb dX7_mayBe_0 rfl (lv_at hl 0 rfl) ?_
  by_cases hc1 : a0 = (0 : Int32)
  · have hf := (if_pos hc1).symm.trans hf
    refine lv_tableIn (tgt := 32) hx hb dX7_mayBe_1 (by rw [hc1]; decide) (by rw [hc1]; decide) (by rw [hc1]; rfl) (by decide) ?_
    refine lv_iload_n hx hb dX7_mayBe_32 rfl (lv_at hl 1 rfl) ?_
    obtain ⟨q2, hq2, hf⟩ := bd_some hf
    refine kr_S (st1 := [.int q2]) (va_runS (As := [.int a1]) (rest := []) ⟨hx, hb, hml, hown, hts⟩ (ct_X7_isKind l n a1 q2 hq2) (va_cwS 1 hts gX7_mayBe_X7_isKind rfl rfl rfl hn_X7_isKind ⟨Nat.le_of_ble_eq_true rfl, Nat.le_of_ble_eq_true rfl⟩) ⟨bl_N, pr_N rfl hNW⟩ rfl rfl hl.1 rfl (lv_room (Nat.le_of_ble_eq_true rfl)) dX7_mayBe_33 ⟨Nat.le_refl _, Nat.le_refl _⟩) rfl (fun hn3 => ?_)
    have hres : q2 = res := (Option.some.inj hf)
    have hnr : narrow .boolean (.int q2) = .int q2 := hn3
    exact W.zret (v := q2) hx hb hr hnr (fun t ht hW => ⟨congrArg (fun z => Outcome.returned (some (Value.int z))) hres, Eq.mp (congrArg (fun z => narrow .boolean (.int z) = .int z) hres) hnr, ht⟩) t_nil dX7_mayBe_36
  · have hf := (if_neg hc1).symm.trans hf
    by_cases hc4 : a0 = (1 : Int32)
    · have hf := (if_pos hc4).symm.trans hf
      refine lv_tableIn (tgt := 37) hx hb dX7_mayBe_1 (by rw [hc4]; decide) (by rw [hc4]; decide) (by rw [hc4]; rfl) (by decide) ?_
      refine lv_iload_n hx hb dX7_mayBe_37 rfl (lv_at hl 1 rfl) ?_
      obtain ⟨q5, hq5, hf⟩ := bd_some hf
      refine kr_S (st1 := [.int q5]) (va_runS (As := [.int a1]) (rest := []) ⟨hx, hb, hml, hown, hts⟩ (ct_X7_isCell l n a1 q5 hq5) (va_cwS 1 hts gX7_mayBe_X7_isCell rfl rfl rfl hn_X7_isCell ⟨Nat.le_of_ble_eq_true rfl, Nat.le_of_ble_eq_true rfl⟩) ⟨bl_N, pr_N rfl hNW⟩ rfl rfl hl.1 rfl (lv_room (Nat.le_of_ble_eq_true rfl)) dX7_mayBe_38 ⟨Nat.le_refl _, Nat.le_refl _⟩) rfl (fun hn6 => ?_)
      have hres : q5 = res := (Option.some.inj hf)
      have hnr : narrow .boolean (.int q5) = .int q5 := hn6
      exact W.zret (v := q5) hx hb hr hnr (fun t ht hW => ⟨congrArg (fun z => Outcome.returned (some (Value.int z))) hres, Eq.mp (congrArg (fun z => narrow .boolean (.int z) = .int z) hres) hnr, ht⟩) t_nil dX7_mayBe_41
    · have hf := (if_neg hc4).symm.trans hf
      by_cases hc7 : a0 = (2 : Int32)
      · have hf := (if_pos hc7).symm.trans hf
        refine lv_tableIn (tgt := 42) hx hb dX7_mayBe_1 (by rw [hc7]; decide) (by rw [hc7]; decide) (by rw [hc7]; rfl) (by decide) ?_
        refine lv_iload_n hx hb dX7_mayBe_42 rfl (lv_at hl 1 rfl) ?_
        obtain ⟨q8, hq8, hf⟩ := bd_some hf
        refine kr_S (st1 := [.int q8]) (va_runS (As := [.int a1]) (rest := []) ⟨hx, hb, hml, hown, hts⟩ (ct_X7_isHeading l n a1 q8 hq8) (va_cwS 1 hts gX7_mayBe_X7_isHeading rfl rfl rfl hn_X7_isHeading ⟨Nat.le_of_ble_eq_true rfl, Nat.le_of_ble_eq_true rfl⟩) ⟨bl_N, pr_N rfl hNW⟩ rfl rfl hl.1 rfl (lv_room (Nat.le_of_ble_eq_true rfl)) dX7_mayBe_43 ⟨Nat.le_refl _, Nat.le_refl _⟩) rfl (fun hn9 => ?_)
        have hres : q8 = res := (Option.some.inj hf)
        have hnr : narrow .boolean (.int q8) = .int q8 := hn9
        exact W.zret (v := q8) hx hb hr hnr (fun t ht hW => ⟨congrArg (fun z => Outcome.returned (some (Value.int z))) hres, Eq.mp (congrArg (fun z => narrow .boolean (.int z) = .int z) hres) hnr, ht⟩) t_nil dX7_mayBe_46
      · have hf := (if_neg hc7).symm.trans hf
        by_cases hc10 : a0 = (3 : Int32)
        · have hf := (if_pos hc10).symm.trans hf
          refine lv_tableIn (tgt := 47) hx hb dX7_mayBe_1 (by rw [hc10]; decide) (by rw [hc10]; decide) (by rw [hc10]; rfl) (by decide) ?_
          refine lv_iload_n hx hb dX7_mayBe_47 rfl (lv_at hl 1 rfl) ?_
          refine lv_iconst (v := (0 : Int32)) hx hb dX7_mayBe_48 (by decide) ?_
          refine lv_sipush (v := (999 : Int32)) hx hb dX7_mayBe_49 (by decide) ?_
          obtain ⟨q11, hq11, hf⟩ := bd_some hf
          refine kr_S (st1 := [.int q11]) (va_runS (As := [.int a1, .int (0 : Int32), .int (999 : Int32)]) (rest := []) ⟨hx, hb, hml, hown, hts⟩ (ct_X7_within l n a1 (0 : Int32) (999 : Int32) q11 hq11) (va_cwS 3 hts gX7_mayBe_X7_within rfl rfl rfl hn_X7_within ⟨Nat.le_of_ble_eq_true rfl, Nat.le_of_ble_eq_true rfl⟩) ⟨bl_N, pr_N rfl hNW⟩ rfl rfl hl.1 rfl (lv_room (Nat.le_of_ble_eq_true rfl)) dX7_mayBe_52 ⟨Nat.le_refl _, Nat.le_refl _⟩) rfl (fun hn12 => ?_)
          have hres : q11 = res := (Option.some.inj hf)
          have hnr : narrow .boolean (.int q11) = .int q11 := hn12
          exact W.zret (v := q11) hx hb hr hnr (fun t ht hW => ⟨congrArg (fun z => Outcome.returned (some (Value.int z))) hres, Eq.mp (congrArg (fun z => narrow .boolean (.int z) = .int z) hres) hnr, ht⟩) t_nil dX7_mayBe_55
        · have hf := (if_neg hc10).symm.trans hf
          refine lv_tableOut (tgt := 56) hx hb dX7_mayBe_1 (by have := lv_neT (a := 0) hc1 rfl; have := lv_neT (a := 1) hc4 rfl; have := lv_neT (a := 2) hc7 rfl; have := lv_neT (a := 3) hc10 rfl; omega) (by decide) ?_
          refine lv_iconst (v := (0 : Int32)) hx hb dX7_mayBe_56 (by decide) ?_
          have hres : (0 : Int32) = res := (Option.some.inj hf)
          have hnr : narrow .boolean (.int (0 : Int32)) = .int (0 : Int32) := rfl
          exact W.zret (v := (0 : Int32)) hx hb hr hnr (fun t ht hW => ⟨congrArg (fun z => Outcome.returned (some (Value.int z))) hres, Eq.mp (congrArg (fun z => narrow .boolean (.int z) = .int z) hres) hnr, ht⟩) t_nil dX7_mayBe_57
set_option maxHeartbeats 4000000 in
set_option maxRecDepth 100000 in
theorem ct_X7_change (l : Launch) (n : Nat) (g : GM) (m_now : Nat → Int32) (m_kept : Nat → Int32) (m_aside : Nat → Int32) (m_isKept : Int32) (m_found : Nat → Int32) (m_steps : Nat → Int32) (m_queue : Nat → Int32) (m_lives : Nat → Int32) (m_treads : Nat → Int32) (m_tape : Nat → Int32) (m_taped : Int32) (m_begins : Int32) (m_ends : Int32) (m_sort : Int32) (m_value : Int32) (m_isWrong : Int32) (m_items : Nat → Int32) (m_itemMany : Int32) (m_seedThen : Int32) (m_groundThen : Nat → Int32) (m_widths : Nat → Int32) (m_sizes : Nat → Int32) (m_numbers : Nat → Int32) (m_moved : Nat → Int32) (a1 : Int32) (a2 : Int32) (a3 : Int32) (res : Int32 × (Nat → Int32) × (Nat → Int32)) (hf : fX7_change n a1 a2 a3 m_now m_found = some res) : Met l yX7_change wsX7_change ({ frames := 3, cells := 0, slots := 0, locals := 63 }) (va_Pc [.ref (gm g 0), .int a1, .int a2, .int a3] (mI g (m_now, m_kept, m_aside, m_isKept, m_found, m_steps, m_queue, m_lives, m_treads, m_tape, m_taped, m_begins, m_ends, m_sort, m_value, m_isWrong, m_items, m_itemMany, m_seedThen, m_groundThen, m_widths, m_sizes, m_numbers, m_moved))) (qW (some (.int res.1)) True g.1 (mw g (res.2.1, m_kept, m_aside, m_isKept, res.2.2, m_steps, m_queue, m_lives, m_treads, m_tape, m_taped, m_begins, m_ends, m_sort, m_value, m_isWrong, m_items, m_itemMany, m_seedThen, m_groundThen, m_widths, m_sizes, m_numbers, m_moved)) (mA g)) 0 0 (mA g) := by
  refine Met.ofW (cc := cX7_change) (maxL := 4) (ret := (some .int)) (by decide) rfl ?_
  intro p e s m args below meth c s₁ B hml hv
  obtain ⟨rfl, hI⟩ := hv
  have hx := B.exec
  have hb := B.bytes
  have hr := B.returns
  have hts := atoms_spec (ws := wsX7_change) B.pre
  have hown : s.vm.findClass RX7 = some m.cls := findClass_of_methodNamed B.named
  have hlocks := B.notSynchronized
  have hP := hI.1
  have hB := hI.2
  have hK := hB.1
  have hNW := hB.2.1
  have hS : va_S (mA g) s.heap s.heap [] := va_S.rf
  have hw0 := hts (.constant RX7 95 (-1000001)) (by decide +kernel)
  have hl := lv_entry ([.ref (gm g 0), .int a1, .int a2, .int a3]) (n := 4) (Nat.le_of_ble_eq_true rfl)
  rw [lg_entry_eq]
  generalize (lg_sl ([.ref (gm g 0), .int a1, .int a2, .int a3]) ++ List.replicate (4 - (lg_sl ([.ref (gm g 0), .int a1, .int a2, .int a3])).length) Slot.unset).toArray = ls at hl ⊢
  have hl : lv_has ls 4 [(0, .ref (gm g 0)), (1, .int a1), (2, .int a2), (3, .int a3)] := hl
  unfold fX7_change at hf
  refine lv_aload_n hx hb dX7_change_0 rfl (lv_at hl 0 rfl) ?_
  refine lv_iload_n hx hb dX7_change_1 rfl (lv_at hl 1 rfl) ?_
  obtain ⟨q1, hq1, hf⟩ := bd_some hf
  refine kr_S (st1 := [.int q1]) (va_runV (As := [.int a1]) (rest := []) ⟨hx, hb, hml, hown, hts⟩ (ct_X7_isSeed l n g m_now m_kept m_aside m_isKept m_found m_steps m_queue m_lives m_treads m_tape m_taped m_begins m_ends m_sort m_value m_isWrong m_items m_itemMany m_seedThen m_groundThen m_widths m_sizes m_numbers m_moved a1 q1 hq1) (cwV 1 hts gX7_change_X7_isSeed rfl rfl rfl hd_X7_isSeed ⟨Nat.le_of_ble_eq_true rfl, Nat.le_of_ble_eq_true rfl⟩) ⟨bl_M, va_recv hK hP (ci := 5) (q0 := 0) rfl k_md, pr_M rfl hB hP hS⟩ rfl rfl hl.1 rfl (lv_room (Nat.le_of_ble_eq_true rfl)) dX7_change_2 ⟨Nat.le_refl _, Nat.le_refl _⟩) rfl (fun hn2 => ?_)
  refine lv_if_eq (tgt := 29) hx hb dX7_change_5 (by decide) (fun hc3 => ?_) (fun hc3 => ?_)
  · have hf := (if_pos hc3).symm.trans hf
    refine lv_aload_n hx hb dX7_change_29 rfl (lv_at hl 0 rfl) ?_
    refine lv_ldc (v := (-1000001 : Int32)) hx hb hown hw0 dX7_change_30 ?_
    obtain ⟨q4, hq4, hf⟩ := bd_some hf
    refine kr_W (st1 := [.int q4.1]) (va_runV (As := [.int (-1000001 : Int32)]) (rest := []) ⟨hx, hb, hml, hown, hts⟩ (ct_X7_finding l n g m_now m_kept m_aside m_isKept m_found m_steps m_queue m_lives m_treads m_tape m_taped m_begins m_ends m_sort m_value m_isWrong m_items m_itemMany m_seedThen m_groundThen m_widths m_sizes m_numbers m_moved (-1000001 : Int32) q4 hq4) (cwV 1 hts gX7_change_X7_finding rfl rfl rfl hd_X7_finding ⟨Nat.le_of_ble_eq_true rfl, Nat.le_of_ble_eq_true rfl⟩) ⟨bl_M, va_recv hK hP (ci := 5) (q0 := 0) rfl k_md, pr_M rfl hB hP hS⟩ rfl rfl hl.1 rfl (lv_room (Nat.le_of_ble_eq_true rfl)) dX7_change_32 ⟨Nat.le_refl _, Nat.le_refl _⟩) hS rfl (fun hn5 H locs hP hS => ?_)
    have hP : va_P g.1 vwCl (mw g (m_now, m_kept, m_aside, m_isKept, q4.2, m_steps, m_queue, m_lives, m_treads, m_tape, m_taped, m_begins, m_ends, m_sort, m_value, m_isWrong, m_items, m_itemMany, m_seedThen, m_groundThen, m_widths, m_sizes, m_numbers, m_moved)) H := hP
    have hres : (q4.1, m_now, q4.2) = res := (Option.some.inj hf)
    have hP := w_eq (congrArg (fun z => mw g (z.2.1, m_kept, m_aside, m_isKept, z.2.2, m_steps, m_queue, m_lives, m_treads, m_tape, m_taped, m_begins, m_ends, m_sort, m_value, m_isWrong, m_items, m_itemMany, m_seedThen, m_groundThen, m_widths, m_sizes, m_numbers, m_moved)) hres) hP
    exact W.iret (v := q4.1) hx hb hr (fun t ht hW => ⟨congrArg (fun z => Outcome.returned (some (Value.int z.1))) hres, trivial, by rw [ht]; exact hP, hS.F ht⟩) hS.2.2 dX7_change_35
  · have hf := (if_neg hc3).symm.trans hf
    refine lv_iload_n hx hb dX7_change_8 rfl (lv_at hl 2 rfl) ?_
    refine lv_iload_n hx hb dX7_change_9 rfl (lv_at hl 3 rfl) ?_
    obtain ⟨q6, hq6, hf⟩ := bd_some hf
    refine kr_S (st1 := [.int q6]) (va_runS (As := [.int a2, .int a3]) (rest := []) ⟨hx, hb, hml, hown, hts⟩ (ct_X7_mayBe l n a2 a3 q6 hq6) (va_cwS 2 hts gX7_change_X7_mayBe rfl rfl rfl hn_X7_mayBe ⟨Nat.le_of_ble_eq_true rfl, Nat.le_of_ble_eq_true rfl⟩) ⟨bl_N, pr_N rfl hNW⟩ rfl rfl hl.1 rfl (lv_room (Nat.le_of_ble_eq_true rfl)) dX7_change_10 ⟨Nat.le_refl _, Nat.le_refl _⟩) rfl (fun hn7 => ?_)
    refine lv_if_eq (tgt := 29) hx hb dX7_change_13 (by decide) (fun hc8 => ?_) (fun hc8 => ?_)
    · have hf := (if_pos hc8).symm.trans hf
      refine lv_aload_n hx hb dX7_change_29 rfl (lv_at hl 0 rfl) ?_
      refine lv_ldc (v := (-1000001 : Int32)) hx hb hown hw0 dX7_change_30 ?_
      obtain ⟨q9, hq9, hf⟩ := bd_some hf
      refine kr_W (st1 := [.int q9.1]) (va_runV (As := [.int (-1000001 : Int32)]) (rest := []) ⟨hx, hb, hml, hown, hts⟩ (ct_X7_finding l n g m_now m_kept m_aside m_isKept m_found m_steps m_queue m_lives m_treads m_tape m_taped m_begins m_ends m_sort m_value m_isWrong m_items m_itemMany m_seedThen m_groundThen m_widths m_sizes m_numbers m_moved (-1000001 : Int32) q9 hq9) (cwV 1 hts gX7_change_X7_finding rfl rfl rfl hd_X7_finding ⟨Nat.le_of_ble_eq_true rfl, Nat.le_of_ble_eq_true rfl⟩) ⟨bl_M, va_recv hK hP (ci := 5) (q0 := 0) rfl k_md, pr_M rfl hB hP hS⟩ rfl rfl hl.1 rfl (lv_room (Nat.le_of_ble_eq_true rfl)) dX7_change_32 ⟨Nat.le_refl _, Nat.le_refl _⟩) hS rfl (fun hn10 H locs hP hS => ?_)
      have hP : va_P g.1 vwCl (mw g (m_now, m_kept, m_aside, m_isKept, q9.2, m_steps, m_queue, m_lives, m_treads, m_tape, m_taped, m_begins, m_ends, m_sort, m_value, m_isWrong, m_items, m_itemMany, m_seedThen, m_groundThen, m_widths, m_sizes, m_numbers, m_moved)) H := hP
      have hres : (q9.1, m_now, q9.2) = res := (Option.some.inj hf)
      have hP := w_eq (congrArg (fun z => mw g (z.2.1, m_kept, m_aside, m_isKept, z.2.2, m_steps, m_queue, m_lives, m_treads, m_tape, m_taped, m_begins, m_ends, m_sort, m_value, m_isWrong, m_items, m_itemMany, m_seedThen, m_groundThen, m_widths, m_sizes, m_numbers, m_moved)) hres) hP
      exact W.iret (v := q9.1) hx hb hr (fun t ht hW => ⟨congrArg (fun z => Outcome.returned (some (Value.int z.1))) hres, trivial, by rw [ht]; exact hP, hS.F ht⟩) hS.2.2 dX7_change_35
    · have hf := (if_neg hc8).symm.trans hf
      refine lv_aload_n hx hb dX7_change_16 rfl (lv_at hl 0 rfl) ?_
      refine lv_iload_n hx hb dX7_change_17 rfl (lv_at hl 1 rfl) ?_
      refine lv_iload_n hx hb dX7_change_18 rfl (lv_at hl 2 rfl) ?_
      obtain ⟨q11, hq11, hf⟩ := bd_some hf
      refine kr_S (st1 := [.int q11, .ref (gm g 0)]) (va_runS (As := [.int a1, .int a2]) (rest := [.ref (gm g 0)]) ⟨hx, hb, hml, hown, hts⟩ (ct_X7_at l n a1 a2 q11 hq11) (va_cwS 2 hts gX7_change_X7_at rfl rfl rfl hn_X7_at ⟨Nat.le_of_ble_eq_true rfl, Nat.le_of_ble_eq_true rfl⟩) ⟨bl_N, pr_N rfl hNW⟩ rfl rfl hl.1 rfl (lv_room (Nat.le_of_ble_eq_true rfl)) dX7_change_19 ⟨Nat.le_refl _, Nat.le_refl _⟩) rfl (fun hn12 => ?_)
      refine lv_iload_n hx hb dX7_change_22 rfl (lv_at hl 3 rfl) ?_
      obtain ⟨q13, hq13, hf⟩ := bd_some hf
      refine kr_W (st1 := [.int q13.1]) (va_runV (As := [.int q11, .int a3]) (rest := []) ⟨hx, hb, hml, hown, hts⟩ (ct_X7_become l n g m_now m_kept m_aside m_isKept m_found m_steps m_queue m_lives m_treads m_tape m_taped m_begins m_ends m_sort m_value m_isWrong m_items m_itemMany m_seedThen m_groundThen m_widths m_sizes m_numbers m_moved q11 a3 q13 hq13) (cwV 2 hts gX7_change_X7_become rfl rfl rfl hd_X7_become ⟨Nat.le_of_ble_eq_true rfl, Nat.le_of_ble_eq_true rfl⟩) ⟨bl_M, va_recv hK hP (ci := 5) (q0 := 0) rfl k_md, pr_M rfl hB hP hS⟩ rfl rfl hl.1 rfl (lv_room (Nat.le_of_ble_eq_true rfl)) dX7_change_23 ⟨Nat.le_refl _, Nat.le_refl _⟩) hS rfl (fun hn14 H locs hP hS => ?_)
      have hP : va_P g.1 vwCl (mw g (q13.2, m_kept, m_aside, m_isKept, m_found, m_steps, m_queue, m_lives, m_treads, m_tape, m_taped, m_begins, m_ends, m_sort, m_value, m_isWrong, m_items, m_itemMany, m_seedThen, m_groundThen, m_widths, m_sizes, m_numbers, m_moved)) H := hP
      refine lv_goto (tgt := 35) hx hb dX7_change_26 (by decide) ?_
      have hres : (q13.1, q13.2, m_found) = res := (Option.some.inj hf)
      have hP := w_eq (congrArg (fun z => mw g (z.2.1, m_kept, m_aside, m_isKept, z.2.2, m_steps, m_queue, m_lives, m_treads, m_tape, m_taped, m_begins, m_ends, m_sort, m_value, m_isWrong, m_items, m_itemMany, m_seedThen, m_groundThen, m_widths, m_sizes, m_numbers, m_moved)) hres) hP
      exact W.iret (v := q13.1) hx hb hr (fun t ht hW => ⟨congrArg (fun z => Outcome.returned (some (Value.int z.1))) hres, trivial, by rw [ht]; exact hP, hS.F ht⟩) hS.2.2 dX7_change_35
set_option maxHeartbeats 4000000 in
set_option maxRecDepth 100000 in
theorem ct_X7_apart (l : Launch) (n : Nat) (g : GM) (m_now : Nat → Int32) (m_kept : Nat → Int32) (m_aside : Nat → Int32) (m_isKept : Int32) (m_found : Nat → Int32) (m_steps : Nat → Int32) (m_queue : Nat → Int32) (m_lives : Nat → Int32) (m_treads : Nat → Int32) (m_tape : Nat → Int32) (m_taped : Int32) (m_begins : Int32) (m_ends : Int32) (m_sort : Int32) (m_value : Int32) (m_isWrong : Int32) (m_items : Nat → Int32) (m_itemMany : Int32) (m_seedThen : Int32) (m_groundThen : Nat → Int32) (m_widths : Nat → Int32) (m_sizes : Nat → Int32) (m_numbers : Nat → Int32) (m_moved : Nat → Int32) (a1 : Int32) (a2 : Int32) (res : Int32 × (Nat → Int32)) (hf : fX7_apart n a1 a2 m_found = some res) : Met l yX7_apart wsX7_apart ({ frames := 2, cells := 0, slots := 0, locals := 45 }) (va_Pc [.ref (gm g 0), .int a1, .int a2] (mI g (m_now, m_kept, m_aside, m_isKept, m_found, m_steps, m_queue, m_lives, m_treads, m_tape, m_taped, m_begins, m_ends, m_sort, m_value, m_isWrong, m_items, m_itemMany, m_seedThen, m_groundThen, m_widths, m_sizes, m_numbers, m_moved))) (qW (some (.int res.1)) True g.1 (mw g (m_now, m_kept, m_aside, m_isKept, res.2, m_steps, m_queue, m_lives, m_treads, m_tape, m_taped, m_begins, m_ends, m_sort, m_value, m_isWrong, m_items, m_itemMany, m_seedThen, m_groundThen, m_widths, m_sizes, m_numbers, m_moved)) (mA g)) 0 0 (mA g) := by
  refine Met.ofW (cc := cX7_apart) (maxL := 3) (ret := (some .int)) (by decide) rfl ?_
  intro p e s m args below meth c s₁ B hml hv
  obtain ⟨rfl, hI⟩ := hv
  have hx := B.exec
  have hb := B.bytes
  have hr := B.returns
  have hts := atoms_spec (ws := wsX7_apart) B.pre
  have hown : s.vm.findClass RX7 = some m.cls := findClass_of_methodNamed B.named
  have hlocks := B.notSynchronized
  have hP := hI.1
  have hB := hI.2
  have hK := hB.1
  have hNW := hB.2.1
  have hS : va_S (mA g) s.heap s.heap [] := va_S.rf
  have hw0 := hts (.constant RX7 95 (-1000001)) (by decide +kernel)
  have hl := lv_entry ([.ref (gm g 0), .int a1, .int a2]) (n := 3) (Nat.le_of_ble_eq_true rfl)
  rw [lg_entry_eq]
  generalize (lg_sl ([.ref (gm g 0), .int a1, .int a2]) ++ List.replicate (3 - (lg_sl ([.ref (gm g 0), .int a1, .int a2])).length) Slot.unset).toArray = ls at hl ⊢
  have hl : lv_has ls 3 [(0, .ref (gm g 0)), (1, .int a1), (2, .int a2)] := hl
  unfold fX7_apart at hf
  refine lv_iload_n hx hb dX7_apart_0 rfl (lv_at hl 1 rfl) ?_
  obtain ⟨q1, hq1, hf⟩ := bd_some hf
  refine kr_S (st1 := [.int q1]) (va_runS (As := [.int a1]) (rest := []) ⟨hx, hb, hml, hown, hts⟩ (ct_X7_isCell l n a1 q1 hq1) (va_cwS 1 hts gX7_apart_X7_isCell rfl rfl rfl hn_X7_isCell ⟨Nat.le_of_ble_eq_true rfl, Nat.le_of_ble_eq_true rfl⟩) ⟨bl_N, pr_N rfl hNW⟩ rfl rfl hl.1 rfl (lv_room (Nat.le_of_ble_eq_true rfl)) dX7_apart_1 ⟨Nat.le_refl _, Nat.le_refl _⟩) rfl (fun hn2 => ?_)
  refine lv_if_eq (tgt := 22) hx hb dX7_apart_4 (by decide) (fun hc3 => ?_) (fun hc3 => ?_)
  · have hf := (if_pos hc3).symm.trans hf
    refine lv_aload_n hx hb dX7_apart_22 rfl (lv_at hl 0 rfl) ?_
    refine lv_ldc (v := (-1000001 : Int32)) hx hb hown hw0 dX7_apart_23 ?_
    obtain ⟨q4, hq4, hf⟩ := bd_some hf
    refine kr_W (st1 := [.int q4.1]) (va_runV (As := [.int (-1000001 : Int32)]) (rest := []) ⟨hx, hb, hml, hown, hts⟩ (ct_X7_finding l n g m_now m_kept m_aside m_isKept m_found m_steps m_queue m_lives m_treads m_tape m_taped m_begins m_ends m_sort m_value m_isWrong m_items m_itemMany m_seedThen m_groundThen m_widths m_sizes m_numbers m_moved (-1000001 : Int32) q4 hq4) (cwV 1 hts gX7_apart_X7_finding rfl rfl rfl hd_X7_finding ⟨Nat.le_of_ble_eq_true rfl, Nat.le_of_ble_eq_true rfl⟩) ⟨bl_M, va_recv hK hP (ci := 5) (q0 := 0) rfl k_md, pr_M rfl hB hP hS⟩ rfl rfl hl.1 rfl (lv_room (Nat.le_of_ble_eq_true rfl)) dX7_apart_25 ⟨Nat.le_refl _, Nat.le_refl _⟩) hS rfl (fun hn5 H locs hP hS => ?_)
    have hP : va_P g.1 vwCl (mw g (m_now, m_kept, m_aside, m_isKept, q4.2, m_steps, m_queue, m_lives, m_treads, m_tape, m_taped, m_begins, m_ends, m_sort, m_value, m_isWrong, m_items, m_itemMany, m_seedThen, m_groundThen, m_widths, m_sizes, m_numbers, m_moved)) H := hP
    have hres : (q4.1, q4.2) = res := (Option.some.inj hf)
    have hP := w_eq (congrArg (fun z => mw g (m_now, m_kept, m_aside, m_isKept, z.2, m_steps, m_queue, m_lives, m_treads, m_tape, m_taped, m_begins, m_ends, m_sort, m_value, m_isWrong, m_items, m_itemMany, m_seedThen, m_groundThen, m_widths, m_sizes, m_numbers, m_moved)) hres) hP
    exact W.iret (v := q4.1) hx hb hr (fun t ht hW => ⟨congrArg (fun z => Outcome.returned (some (Value.int z.1))) hres, trivial, by rw [ht]; exact hP, hS.F ht⟩) hS.2.2 dX7_apart_28
  · have hf := (if_neg hc3).symm.trans hf
    refine lv_iload_n hx hb dX7_apart_7 rfl (lv_at hl 2 rfl) ?_
    obtain ⟨q6, hq6, hf⟩ := bd_some hf
    refine kr_S (st1 := [.int q6]) (va_runS (As := [.int a2]) (rest := []) ⟨hx, hb, hml, hown, hts⟩ (ct_X7_isCell l n a2 q6 hq6) (va_cwS 1 hts gX7_apart_X7_isCell rfl rfl rfl hn_X7_isCell ⟨Nat.le_of_ble_eq_true rfl, Nat.le_of_ble_eq_true rfl⟩) ⟨bl_N, pr_N rfl hNW⟩ rfl rfl hl.1 rfl (lv_room (Nat.le_of_ble_eq_true rfl)) dX7_apart_8 ⟨Nat.le_refl _, Nat.le_refl _⟩) rfl (fun hn7 => ?_)
    refine lv_if_eq (tgt := 22) hx hb dX7_apart_11 (by decide) (fun hc8 => ?_) (fun hc8 => ?_)
    · have hf := (if_pos hc8).symm.trans hf
      refine lv_aload_n hx hb dX7_apart_22 rfl (lv_at hl 0 rfl) ?_
      refine lv_ldc (v := (-1000001 : Int32)) hx hb hown hw0 dX7_apart_23 ?_
      obtain ⟨q9, hq9, hf⟩ := bd_some hf
      refine kr_W (st1 := [.int q9.1]) (va_runV (As := [.int (-1000001 : Int32)]) (rest := []) ⟨hx, hb, hml, hown, hts⟩ (ct_X7_finding l n g m_now m_kept m_aside m_isKept m_found m_steps m_queue m_lives m_treads m_tape m_taped m_begins m_ends m_sort m_value m_isWrong m_items m_itemMany m_seedThen m_groundThen m_widths m_sizes m_numbers m_moved (-1000001 : Int32) q9 hq9) (cwV 1 hts gX7_apart_X7_finding rfl rfl rfl hd_X7_finding ⟨Nat.le_of_ble_eq_true rfl, Nat.le_of_ble_eq_true rfl⟩) ⟨bl_M, va_recv hK hP (ci := 5) (q0 := 0) rfl k_md, pr_M rfl hB hP hS⟩ rfl rfl hl.1 rfl (lv_room (Nat.le_of_ble_eq_true rfl)) dX7_apart_25 ⟨Nat.le_refl _, Nat.le_refl _⟩) hS rfl (fun hn10 H locs hP hS => ?_)
      have hP : va_P g.1 vwCl (mw g (m_now, m_kept, m_aside, m_isKept, q9.2, m_steps, m_queue, m_lives, m_treads, m_tape, m_taped, m_begins, m_ends, m_sort, m_value, m_isWrong, m_items, m_itemMany, m_seedThen, m_groundThen, m_widths, m_sizes, m_numbers, m_moved)) H := hP
      have hres : (q9.1, q9.2) = res := (Option.some.inj hf)
      have hP := w_eq (congrArg (fun z => mw g (m_now, m_kept, m_aside, m_isKept, z.2, m_steps, m_queue, m_lives, m_treads, m_tape, m_taped, m_begins, m_ends, m_sort, m_value, m_isWrong, m_items, m_itemMany, m_seedThen, m_groundThen, m_widths, m_sizes, m_numbers, m_moved)) hres) hP
      exact W.iret (v := q9.1) hx hb hr (fun t ht hW => ⟨congrArg (fun z => Outcome.returned (some (Value.int z.1))) hres, trivial, by rw [ht]; exact hP, hS.F ht⟩) hS.2.2 dX7_apart_28
    · have hf := (if_neg hc8).symm.trans hf
      refine lv_iload_n hx hb dX7_apart_14 rfl (lv_at hl 1 rfl) ?_
      refine lv_iload_n hx hb dX7_apart_15 rfl (lv_at hl 2 rfl) ?_
      obtain ⟨q11, hq11, hf⟩ := bd_some hf
      refine kr_S (st1 := [.int q11]) (va_runS (As := [.int a1, .int a2]) (rest := []) ⟨hx, hb, hml, hown, hts⟩ (ct_X7_apartOf l n a1 a2 q11 hq11) (va_cwS 2 hts gX7_apart_X7_apartOf rfl rfl rfl hn_X7_apartOf ⟨Nat.le_of_ble_eq_true rfl, Nat.le_of_ble_eq_true rfl⟩) ⟨bl_N, pr_N rfl hNW⟩ rfl rfl hl.1 rfl (lv_room (Nat.le_of_ble_eq_true rfl)) dX7_apart_16 ⟨Nat.le_refl _, Nat.le_refl _⟩) rfl (fun hn12 => ?_)
      refine lv_goto (tgt := 28) hx hb dX7_apart_19 (by decide) ?_
      have hres : (q11, m_found) = res := (Option.some.inj hf)
      have hP := w_eq (congrArg (fun z => mw g (m_now, m_kept, m_aside, m_isKept, z.2, m_steps, m_queue, m_lives, m_treads, m_tape, m_taped, m_begins, m_ends, m_sort, m_value, m_isWrong, m_items, m_itemMany, m_seedThen, m_groundThen, m_widths, m_sizes, m_numbers, m_moved)) hres) hP
      exact W.iret (v := q11) hx hb hr (fun t ht hW => ⟨congrArg (fun z => Outcome.returned (some (Value.int z.1))) hres, trivial, by rw [ht]; exact hP, hS.F ht⟩) hS.2.2 dX7_apart_28
set_option maxHeartbeats 4000000 in
set_option maxRecDepth 100000 in
theorem ct_X7_grows (l : Launch) (n : Nat) (g : GM) (m_now : Nat → Int32) (m_kept : Nat → Int32) (m_aside : Nat → Int32) (m_isKept : Int32) (m_found : Nat → Int32) (m_steps : Nat → Int32) (m_queue : Nat → Int32) (m_lives : Nat → Int32) (m_treads : Nat → Int32) (m_tape : Nat → Int32) (m_taped : Int32) (m_begins : Int32) (m_ends : Int32) (m_sort : Int32) (m_value : Int32) (m_isWrong : Int32) (m_items : Nat → Int32) (m_itemMany : Int32) (m_seedThen : Int32) (m_groundThen : Nat → Int32) (m_widths : Nat → Int32) (m_sizes : Nat → Int32) (m_numbers : Nat → Int32) (m_moved : Nat → Int32) (a1 : Int32) (res : (Nat → Int32)) (hf : fX7_grows n a1 m_now m_lives m_treads = some res) : Met l yX7_grows wsX7_grows ({ frames := 6, cells := 0, slots := 0, locals := 135 }) (va_Pc [.ref (gm g 0), .int a1] (mI g (m_now, m_kept, m_aside, m_isKept, m_found, m_steps, m_queue, m_lives, m_treads, m_tape, m_taped, m_begins, m_ends, m_sort, m_value, m_isWrong, m_items, m_itemMany, m_seedThen, m_groundThen, m_widths, m_sizes, m_numbers, m_moved))) (qW none True g.1 (mw g (res, m_kept, m_aside, m_isKept, m_found, m_steps, m_queue, m_lives, m_treads, m_tape, m_taped, m_begins, m_ends, m_sort, m_value, m_isWrong, m_items, m_itemMany, m_seedThen, m_groundThen, m_widths, m_sizes, m_numbers, m_moved)) (mA g)) 0 0 (mA g) := by
  refine Met.ofW (cc := cX7_grows) (maxL := 7) (ret := none) (by decide) rfl ?_
  intro p e s m args below meth c s₁ B hml hv
  obtain ⟨rfl, hI⟩ := hv
  have hx := B.exec
  have hb := B.bytes
  have hr := B.returns
  have hts := atoms_spec (ws := wsX7_grows) B.pre
  have hown : s.vm.findClass RX7 = some m.cls := findClass_of_methodNamed B.named
  have hlocks := B.notSynchronized
  have hP := hI.1
  have hB := hI.2
  have hK := hB.1
  have hNW := hB.2.1
  have hS : va_S (mA g) s.heap s.heap [] := va_S.rf
  have hw0 := hts (.fieldLink RX7 9 "SownPathsModel" "now" "[I") (by decide +kernel)
  have hw1 := hts (.fieldLink RX7 31 "SownPathsModel" "treads" "[I") (by decide +kernel)
  have hw2 := hts (.methodLink RX7 192 Lib.Math.max.name) (by decide +kernel)
  have hw3 := hts (.static Lib.Math.max.name) (by decide +kernel)
  have hw4 := hts (.initialized "java/lang/Math") (by decide +kernel)
  have hw5 := hts (.code Lib.Math.max.name Lib.Math.max.code 2 (some .int)) (by decide +kernel)
  have iwX7 : ∀ w ∈ wsX70, w ∈ wsX7_grows := fun w h => List.mem_cons_of_mem _ (List.mem_append_right _ h)
  have hl := lv_entry ([.ref (gm g 0), .int a1]) (n := 7) (Nat.le_of_ble_eq_true rfl)
  rw [lg_entry_eq]
  generalize (lg_sl ([.ref (gm g 0), .int a1]) ++ List.replicate (7 - (lg_sl ([.ref (gm g 0), .int a1])).length) Slot.unset).toArray = ls at hl ⊢
  have hl : lv_has ls 7 [(0, .ref (gm g 0)), (1, .int a1)] := hl
  unfold fX7_grows at hf
  refine lv_aload_n hx hb dX7_grows_0 rfl (lv_at hl 0 rfl) ?_
  refine lv_iload_n hx hb dX7_grows_1 rfl (lv_at hl 1 rfl) ?_
  obtain ⟨q1, hq1, hf⟩ := bd_some hf
  refine kr_S (st1 := [.int q1]) (va_runV (As := [.int a1]) (rest := []) ⟨hx, hb, hml, hown, hts⟩ (ct_X7_turnOf l n g m_now m_kept m_aside m_isKept m_found m_steps m_queue m_lives m_treads m_tape m_taped m_begins m_ends m_sort m_value m_isWrong m_items m_itemMany m_seedThen m_groundThen m_widths m_sizes m_numbers m_moved a1 q1 hq1) (cwV 1 hts gX7_grows_X7_turnOf rfl rfl rfl hd_X7_turnOf ⟨Nat.le_of_ble_eq_true rfl, Nat.le_of_ble_eq_true rfl⟩) ⟨bl_M, va_recv hK hP (ci := 5) (q0 := 0) rfl k_md, pr_M rfl hB hP hS⟩ rfl rfl hl.1 rfl (lv_room (Nat.le_of_ble_eq_true rfl)) dX7_grows_2 ⟨Nat.le_refl _, Nat.le_refl _⟩) rfl (fun hn2 => ?_)
  refine lv_istore_n (lv' := [(2, .int q1), (0, .ref (gm g 0)), (1, .int a1)]) hx hb dX7_grows_5 rfl hl (by decide) rfl (fun ls hl => ?_)
  refine lv_aload_n hx hb dX7_grows_6 rfl (lv_at hl 1 rfl) ?_
  refine lv_iload_n hx hb dX7_grows_7 rfl (lv_at hl 2 rfl) ?_
  refine lv_iconst (v := (1 : Int32)) hx hb dX7_grows_8 (by decide) ?_
  obtain ⟨q3, hq3, hf⟩ := bd_some hf
  refine kr_S (st1 := [.int q3]) (va_runV (As := [.int a1, .int (1 : Int32)]) (rest := []) ⟨hx, hb, hml, hown, hts⟩ (ct_X7_seedIs l n g m_now m_kept m_aside m_isKept m_found m_steps m_queue m_lives m_treads m_tape m_taped m_begins m_ends m_sort m_value m_isWrong m_items m_itemMany m_seedThen m_groundThen m_widths m_sizes m_numbers m_moved a1 (1 : Int32) q3 hq3) (cwV 2 hts gX7_grows_X7_seedIs rfl rfl rfl hd_X7_seedIs ⟨Nat.le_of_ble_eq_true rfl, Nat.le_of_ble_eq_true rfl⟩) ⟨bl_M, va_recv hK hP (ci := 5) (q0 := 0) rfl k_md, pr_M rfl hB hP hS⟩ rfl rfl hl.1 rfl (lv_room (Nat.le_of_ble_eq_true rfl)) dX7_grows_9 ⟨Nat.le_refl _, Nat.le_refl _⟩) rfl (fun hn4 => ?_)
  refine lv_istore_n (lv' := [(3, .int q3), (2, .int q1), (0, .ref (gm g 0)), (1, .int a1)]) hx hb dX7_grows_12 rfl hl (by decide) rfl (fun ls hl => ?_)
  refine lv_iload_n hx hb dX7_grows_13 rfl (lv_at hl 0 rfl) ?_
  refine lv_iload_n hx hb dX7_grows_14 rfl (lv_at hl 1 rfl) ?_
  obtain ⟨q5, hq5, hf⟩ := bd_some hf
  refine kr_S (st1 := [.int q5]) (va_runS (As := [.int q3, .int q1]) (rest := []) ⟨hx, hb, hml, hown, hts⟩ (ct_X7_beside l n q3 q1 q5 hq5) (va_cwS 2 hts gX7_grows_X7_beside rfl rfl rfl hn_X7_beside ⟨Nat.le_of_ble_eq_true rfl, Nat.le_of_ble_eq_true rfl⟩) ⟨bl_N, pr_N rfl hNW⟩ rfl rfl hl.1 rfl (lv_room (Nat.le_of_ble_eq_true rfl)) dX7_grows_15 ⟨Nat.le_refl _, Nat.le_refl _⟩) rfl (fun hn6 => ?_)
  refine lv_istore (lv' := [(4, .int q5), (3, .int q3), (2, .int q1), (0, .ref (gm g 0)), (1, .int a1)]) hx hb dX7_grows_18 hl (by decide) rfl (fun ls hl => ?_)
  refine lv_iload hx hb dX7_grows_20 (lv_at hl 0 rfl) ?_
  refine lv_if_lt (tgt := 38) hx hb dX7_grows_22 (by decide) (fun hc7 => ?_) (fun hc7 => ?_)
  · have hf := (if_pos hc7).symm.trans hf
    refine lv_iconst (v := (0 : Int32)) hx hb dX7_grows_38 (by decide) ?_
    refine lv_istore (lv' := [(5, .int (0 : Int32)), (4, .int q5), (3, .int q3), (2, .int q1), (0, .ref (gm g 0)), (1, .int a1)]) hx hb dX7_grows_39 hl (by decide) rfl (fun ls hl => ?_)
    refine lv_aload_n hx hb dX7_grows_41 rfl (lv_at hl 4 rfl) ?_
    refine va_get (D := g.1) (ci := 5) (v := .ref (gm g 1)) (C := RX7) (T := TX7) (N := 27) hx hb hts iwX7 hown hK hP 0 k_md rfl 0 (by decide) hw0 (fun _ h9 => h9) rfl dX7_grows_42 ?_
    refine lv_iload_n hx hb dX7_grows_45 rfl (lv_at hl 5 rfl) ?_
    refine lv_iconst (v := (2 : Int32)) hx hb dX7_grows_46 (by decide) ?_
    obtain ⟨q8, hq8, hf⟩ := bd_some hf
    refine kr_S (st1 := [.int q8, .ref (gm g 1)]) (va_runS (As := [.int a1, .int (2 : Int32)]) (rest := [.ref (gm g 1)]) ⟨hx, hb, hml, hown, hts⟩ (ct_X7_at l n a1 (2 : Int32) q8 hq8) (va_cwS 2 hts gX7_grows_X7_at rfl rfl rfl hn_X7_at ⟨Nat.le_of_ble_eq_true rfl, Nat.le_of_ble_eq_true rfl⟩) ⟨bl_N, pr_N rfl hNW⟩ rfl rfl hl.1 rfl (lv_room (Nat.le_of_ble_eq_true rfl)) dX7_grows_47 ⟨Nat.le_refl _, Nat.le_refl _⟩) rfl (fun hn9 => ?_)
    refine lv_iload hx hb dX7_grows_50 (lv_at hl 0 rfl) ?_
    refine lv_if_eq (tgt := 59) hx hb dX7_grows_52 (by decide) (fun _ => ?_) (fun hc => absurd hc (by decide))
    refine lv_iload_n hx hb dX7_grows_59 rfl (lv_at hl 3 rfl) ?_
    refine lv_iconst (v := (1 : Int32)) hx hb dX7_grows_60 (by decide) ?_
    refine lv_iadd hx hb dX7_grows_61 ?_
    refine lv_iconst (v := (4 : Int32)) hx hb dX7_grows_62 (by decide) ?_
    refine lv_irem hx hb dX7_grows_63 (by decide) ?_
    obtain ⟨hg10, hf⟩ := gd_some hf
    refine va_iast (f := m_now) hx hb hK hP (mD hB.2.2.1 _) hS 1 0 k_now rfl hg10 dX7_grows_64 (fun H locs hP _ hS => ?_)
    have hP : va_P g.1 vwCl (mw g ((upd m_now q8.toNatClampNeg ((q1 + (1 : Int32)) - (q1 + (1 : Int32)) / (4 : Int32) * (4 : Int32))), m_kept, m_aside, m_isKept, m_found, m_steps, m_queue, m_lives, m_treads, m_tape, m_taped, m_begins, m_ends, m_sort, m_value, m_isWrong, m_items, m_itemMany, m_seedThen, m_groundThen, m_widths, m_sizes, m_numbers, m_moved)) H := w_eq (k_set_now (upd m_now q8.toNatClampNeg ((q1 + (1 : Int32)) - (q1 + (1 : Int32)) / (4 : Int32) * (4 : Int32)))) hP
    refine lv_iload hx hb dX7_grows_65 (lv_at hl 0 rfl) ?_
    refine lv_if_eq (tgt := 75) hx hb dX7_grows_67 (by decide) (fun _ => ?_) (fun hc => absurd hc (by decide))
    refine lv_iload_n hx hb dX7_grows_75 rfl (lv_at hl 2 rfl) ?_
    refine lv_istore (lv' := [(6, .int q3), (5, .int (0 : Int32)), (4, .int q5), (3, .int q3), (2, .int q1), (0, .ref (gm g 0)), (1, .int a1)]) hx hb dX7_grows_76 hl (by decide) rfl (fun ls hl => ?_)
    refine lv_aload_n hx hb dX7_grows_78 rfl (lv_at hl 5 rfl) ?_
    refine va_get (D := g.1) (ci := 5) (v := .ref (gm g 1)) (C := RX7) (T := TX7) (N := 27) hx hb hts iwX7 hown hK hP 0 k_md rfl 0 (by decide) hw0 (fun _ h9 => h9) rfl dX7_grows_79 ?_
    refine lv_iload_n hx hb dX7_grows_82 rfl (lv_at hl 6 rfl) ?_
    refine lv_iconst (v := (1 : Int32)) hx hb dX7_grows_83 (by decide) ?_
    obtain ⟨q11, hq11, hf⟩ := bd_some hf
    refine kr_S (st1 := [.int q11, .ref (gm g 1)]) (va_runS (As := [.int a1, .int (1 : Int32)]) (rest := [.ref (gm g 1)]) ⟨hx, hb, hml, hown, hts⟩ (ct_X7_at l n a1 (1 : Int32) q11 hq11) (va_cwS 2 hts gX7_grows_X7_at rfl rfl rfl hn_X7_at ⟨Nat.le_of_ble_eq_true rfl, Nat.le_of_ble_eq_true rfl⟩) ⟨bl_N, pr_N rfl hNW⟩ rfl rfl hl.1 rfl (lv_room (Nat.le_of_ble_eq_true rfl)) dX7_grows_84 ⟨Nat.le_refl _, Nat.le_refl _⟩) rfl (fun hn12 => ?_)
    refine lv_iload hx hb dX7_grows_87 (lv_at hl 0 rfl) ?_
    obtain ⟨hg13, hf⟩ := gd_some hf
    refine va_iast (f := (upd m_now q8.toNatClampNeg ((q1 + (1 : Int32)) - (q1 + (1 : Int32)) / (4 : Int32) * (4 : Int32)))) hx hb hK hP (mD hB.2.2.1 _) hS 1 0 k_now rfl hg13 dX7_grows_89 (fun H locs hP _ hS => ?_)
    have hP : va_P g.1 vwCl (mw g ((upd (upd m_now q8.toNatClampNeg ((q1 + (1 : Int32)) - (q1 + (1 : Int32)) / (4 : Int32) * (4 : Int32))) q11.toNatClampNeg q3), m_kept, m_aside, m_isKept, m_found, m_steps, m_queue, m_lives, m_treads, m_tape, m_taped, m_begins, m_ends, m_sort, m_value, m_isWrong, m_items, m_itemMany, m_seedThen, m_groundThen, m_widths, m_sizes, m_numbers, m_moved)) H := w_eq (k_set_now (upd (upd m_now q8.toNatClampNeg ((q1 + (1 : Int32)) - (q1 + (1 : Int32)) / (4 : Int32) * (4 : Int32))) q11.toNatClampNeg q3)) hP
    refine lv_aload_n hx hb dX7_grows_90 rfl (lv_at hl 5 rfl) ?_
    refine va_get (D := g.1) (ci := 5) (v := .ref (gm g 1)) (C := RX7) (T := TX7) (N := 27) hx hb hts iwX7 hown hK hP 0 k_md rfl 0 (by decide) hw0 (fun _ h9 => h9) rfl dX7_grows_91 ?_
    refine lv_bipush (v := (49 : Int32)) hx hb dX7_grows_94 (by decide) ?_
    refine lv_iload hx hb dX7_grows_96 (lv_at hl 0 rfl) ?_
    refine lv_iadd hx hb dX7_grows_98 ?_
    refine lv_aload_n hx hb dX7_grows_99 rfl (lv_at hl 5 rfl) ?_
    refine lv_iload hx hb dX7_grows_100 (lv_at hl 0 rfl) ?_
    obtain ⟨q14, hq14, hf⟩ := bd_some hf
    refine kr_S (st1 := [.int q14, .int ((49 : Int32) + q3), .ref (gm g 1)]) (va_runV (As := [.int q3]) (rest := [.int ((49 : Int32) + q3), .ref (gm g 1)]) ⟨hx, hb, hml, hown, hts⟩ (ct_X7_isGrass l n g (upd (upd m_now q8.toNatClampNeg ((q1 + (1 : Int32)) - (q1 + (1 : Int32)) / (4 : Int32) * (4 : Int32))) q11.toNatClampNeg q3) m_kept m_aside m_isKept m_found m_steps m_queue m_lives m_treads m_tape m_taped m_begins m_ends m_sort m_value m_isWrong m_items m_itemMany m_seedThen m_groundThen m_widths m_sizes m_numbers m_moved q3 q14 hq14) (cwV 1 hts gX7_grows_X7_isGrass rfl rfl rfl hd_X7_isGrass ⟨Nat.le_of_ble_eq_true rfl, Nat.le_of_ble_eq_true rfl⟩) ⟨bl_M, va_recv hK hP (ci := 5) (q0 := 0) rfl k_md, pr_M rfl hB hP hS⟩ rfl rfl hl.1 rfl (lv_room (Nat.le_of_ble_eq_true rfl)) dX7_grows_102 ⟨Nat.le_refl _, Nat.le_refl _⟩) rfl (fun hn15 => ?_)
    refine lv_if_eq (tgt := 135) hx hb dX7_grows_105 (by decide) (fun hc16 => ?_) (fun hc16 => ?_)
    · have hf := (if_pos hc16).symm.trans hf
      refine lv_aload_n hx hb dX7_grows_135 rfl (lv_at hl 5 rfl) ?_
      refine va_get (D := g.1) (ci := 5) (v := .ref (gm g 1)) (C := RX7) (T := TX7) (N := 27) hx hb hts iwX7 hown hK hP 0 k_md rfl 0 (by decide) hw0 (fun _ h9 => h9) rfl dX7_grows_136 ?_
      refine lv_bipush (v := (49 : Int32)) hx hb dX7_grows_139 (by decide) ?_
      refine lv_iload hx hb dX7_grows_141 (lv_at hl 0 rfl) ?_
      refine lv_iadd hx hb dX7_grows_143 ?_
      obtain ⟨hg17, hf⟩ := gd_some hf
      refine va_iald (f := (upd (upd m_now q8.toNatClampNeg ((q1 + (1 : Int32)) - (q1 + (1 : Int32)) / (4 : Int32) * (4 : Int32))) q11.toNatClampNeg q3)) hx hb hK hP 1 0 k_now rfl hg17 dX7_grows_144 ?_
      obtain ⟨hg18, hf⟩ := gd_some hf
      refine va_iast (f := (upd (upd m_now q8.toNatClampNeg ((q1 + (1 : Int32)) - (q1 + (1 : Int32)) / (4 : Int32) * (4 : Int32))) q11.toNatClampNeg q3)) hx hb hK hP (mD hB.2.2.1 _) hS 1 0 k_now rfl hg18 dX7_grows_145 (fun H locs hP _ hS => ?_)
      have hP : va_P g.1 vwCl (mw g ((upd (upd (upd m_now q8.toNatClampNeg ((q1 + (1 : Int32)) - (q1 + (1 : Int32)) / (4 : Int32) * (4 : Int32))) q11.toNatClampNeg q3) ((49 : Int32) + q3).toNatClampNeg ((upd (upd m_now q8.toNatClampNeg ((q1 + (1 : Int32)) - (q1 + (1 : Int32)) / (4 : Int32) * (4 : Int32))) q11.toNatClampNeg q3) ((49 : Int32) + q3).toNatClampNeg)), m_kept, m_aside, m_isKept, m_found, m_steps, m_queue, m_lives, m_treads, m_tape, m_taped, m_begins, m_ends, m_sort, m_value, m_isWrong, m_items, m_itemMany, m_seedThen, m_groundThen, m_widths, m_sizes, m_numbers, m_moved)) H := w_eq (k_set_now (upd (upd (upd m_now q8.toNatClampNeg ((q1 + (1 : Int32)) - (q1 + (1 : Int32)) / (4 : Int32) * (4 : Int32))) q11.toNatClampNeg q3) ((49 : Int32) + q3).toNatClampNeg ((upd (upd m_now q8.toNatClampNeg ((q1 + (1 : Int32)) - (q1 + (1 : Int32)) / (4 : Int32) * (4 : Int32))) q11.toNatClampNeg q3) ((49 : Int32) + q3).toNatClampNeg))) hP
      refine lv_aload_n hx hb dX7_grows_146 rfl (lv_at hl 5 rfl) ?_
      refine va_get (D := g.1) (ci := 5) (v := .ref (gm g 1)) (C := RX7) (T := TX7) (N := 27) hx hb hts iwX7 hown hK hP 0 k_md rfl 0 (by decide) hw0 (fun _ h9 => h9) rfl dX7_grows_147 ?_
      refine lv_iload_n hx hb dX7_grows_150 rfl (lv_at hl 6 rfl) ?_
      refine lv_iconst (v := (3 : Int32)) hx hb dX7_grows_151 (by decide) ?_
      obtain ⟨q19, hq19, hf⟩ := bd_some hf
      refine kr_S (st1 := [.int q19, .ref (gm g 1)]) (va_runS (As := [.int a1, .int (3 : Int32)]) (rest := [.ref (gm g 1)]) ⟨hx, hb, hml, hown, hts⟩ (ct_X7_at l n a1 (3 : Int32) q19 hq19) (va_cwS 2 hts gX7_grows_X7_at rfl rfl rfl hn_X7_at ⟨Nat.le_of_ble_eq_true rfl, Nat.le_of_ble_eq_true rfl⟩) ⟨bl_N, pr_N rfl hNW⟩ rfl rfl hl.1 rfl (lv_room (Nat.le_of_ble_eq_true rfl)) dX7_grows_152 ⟨Nat.le_refl _, Nat.le_refl _⟩) rfl (fun hn20 => ?_)
      refine lv_dup2_11 hx hb dX7_grows_155 rfl rfl ?_
      obtain ⟨hg21, hf⟩ := gd_some hf
      refine va_iald (f := (upd (upd (upd m_now q8.toNatClampNeg ((q1 + (1 : Int32)) - (q1 + (1 : Int32)) / (4 : Int32) * (4 : Int32))) q11.toNatClampNeg q3) ((49 : Int32) + q3).toNatClampNeg ((upd (upd m_now q8.toNatClampNeg ((q1 + (1 : Int32)) - (q1 + (1 : Int32)) / (4 : Int32) * (4 : Int32))) q11.toNatClampNeg q3) ((49 : Int32) + q3).toNatClampNeg))) hx hb hK hP 1 0 k_now rfl hg21 dX7_grows_156 ?_
      refine lv_iconst (v := (1 : Int32)) hx hb dX7_grows_157 (by decide) ?_
      refine lv_iadd hx hb dX7_grows_158 ?_
      obtain ⟨hg22, hf⟩ := gd_some hf
      refine va_iast (f := (upd (upd (upd m_now q8.toNatClampNeg ((q1 + (1 : Int32)) - (q1 + (1 : Int32)) / (4 : Int32) * (4 : Int32))) q11.toNatClampNeg q3) ((49 : Int32) + q3).toNatClampNeg ((upd (upd m_now q8.toNatClampNeg ((q1 + (1 : Int32)) - (q1 + (1 : Int32)) / (4 : Int32) * (4 : Int32))) q11.toNatClampNeg q3) ((49 : Int32) + q3).toNatClampNeg))) hx hb hK hP (mD hB.2.2.1 _) hS 1 0 k_now rfl hg22 dX7_grows_159 (fun H locs hP _ hS => ?_)
      have hP : va_P g.1 vwCl (mw g ((upd (upd (upd (upd m_now q8.toNatClampNeg ((q1 + (1 : Int32)) - (q1 + (1 : Int32)) / (4 : Int32) * (4 : Int32))) q11.toNatClampNeg q3) ((49 : Int32) + q3).toNatClampNeg ((upd (upd m_now q8.toNatClampNeg ((q1 + (1 : Int32)) - (q1 + (1 : Int32)) / (4 : Int32) * (4 : Int32))) q11.toNatClampNeg q3) ((49 : Int32) + q3).toNatClampNeg)) q19.toNatClampNeg (((upd (upd (upd m_now q8.toNatClampNeg ((q1 + (1 : Int32)) - (q1 + (1 : Int32)) / (4 : Int32) * (4 : Int32))) q11.toNatClampNeg q3) ((49 : Int32) + q3).toNatClampNeg ((upd (upd m_now q8.toNatClampNeg ((q1 + (1 : Int32)) - (q1 + (1 : Int32)) / (4 : Int32) * (4 : Int32))) q11.toNatClampNeg q3) ((49 : Int32) + q3).toNatClampNeg)) q19.toNatClampNeg) + (1 : Int32))), m_kept, m_aside, m_isKept, m_found, m_steps, m_queue, m_lives, m_treads, m_tape, m_taped, m_begins, m_ends, m_sort, m_value, m_isWrong, m_items, m_itemMany, m_seedThen, m_groundThen, m_widths, m_sizes, m_numbers, m_moved)) H := w_eq (k_set_now (upd (upd (upd (upd m_now q8.toNatClampNeg ((q1 + (1 : Int32)) - (q1 + (1 : Int32)) / (4 : Int32) * (4 : Int32))) q11.toNatClampNeg q3) ((49 : Int32) + q3).toNatClampNeg ((upd (upd m_now q8.toNatClampNeg ((q1 + (1 : Int32)) - (q1 + (1 : Int32)) / (4 : Int32) * (4 : Int32))) q11.toNatClampNeg q3) ((49 : Int32) + q3).toNatClampNeg)) q19.toNatClampNeg (((upd (upd (upd m_now q8.toNatClampNeg ((q1 + (1 : Int32)) - (q1 + (1 : Int32)) / (4 : Int32) * (4 : Int32))) q11.toNatClampNeg q3) ((49 : Int32) + q3).toNatClampNeg ((upd (upd m_now q8.toNatClampNeg ((q1 + (1 : Int32)) - (q1 + (1 : Int32)) / (4 : Int32) * (4 : Int32))) q11.toNatClampNeg q3) ((49 : Int32) + q3).toNatClampNeg)) q19.toNatClampNeg) + (1 : Int32)))) hP
      have hres : (upd (upd (upd (upd m_now q8.toNatClampNeg ((q1 + (1 : Int32)) - (q1 + (1 : Int32)) / (4 : Int32) * (4 : Int32))) q11.toNatClampNeg q3) ((49 : Int32) + q3).toNatClampNeg ((upd (upd m_now q8.toNatClampNeg ((q1 + (1 : Int32)) - (q1 + (1 : Int32)) / (4 : Int32) * (4 : Int32))) q11.toNatClampNeg q3) ((49 : Int32) + q3).toNatClampNeg)) q19.toNatClampNeg (((upd (upd (upd m_now q8.toNatClampNeg ((q1 + (1 : Int32)) - (q1 + (1 : Int32)) / (4 : Int32) * (4 : Int32))) q11.toNatClampNeg q3) ((49 : Int32) + q3).toNatClampNeg ((upd (upd m_now q8.toNatClampNeg ((q1 + (1 : Int32)) - (q1 + (1 : Int32)) / (4 : Int32) * (4 : Int32))) q11.toNatClampNeg q3) ((49 : Int32) + q3).toNatClampNeg)) q19.toNatClampNeg) + (1 : Int32))) = res := (Option.some.inj hf)
      have hP := w_eq (congrArg (fun z => mw g (z, m_kept, m_aside, m_isKept, m_found, m_steps, m_queue, m_lives, m_treads, m_tape, m_taped, m_begins, m_ends, m_sort, m_value, m_isWrong, m_items, m_itemMany, m_seedThen, m_groundThen, m_widths, m_sizes, m_numbers, m_moved)) hres) hP
      exact W.vret hx hb hr (fun t ht hW => ⟨rfl, trivial, by rw [ht]; exact hP, hS.F ht⟩) hS.2.2 dX7_grows_160
    · have hf := (if_neg hc16).symm.trans hf
      refine lv_aload_n hx hb dX7_grows_108 rfl (lv_at hl 5 rfl) ?_
      refine va_get (D := g.1) (ci := 5) (v := .ref (gm g 1)) (C := RX7) (T := TX7) (N := 27) hx hb hts iwX7 hown hK hP 0 k_md rfl 0 (by decide) hw0 (fun _ h9 => h9) rfl dX7_grows_109 ?_
      refine lv_bipush (v := (49 : Int32)) hx hb dX7_grows_112 (by decide) ?_
      refine lv_iload hx hb dX7_grows_114 (lv_at hl 0 rfl) ?_
      refine lv_iadd hx hb dX7_grows_116 ?_
      obtain ⟨hg23, hf⟩ := gd_some hf
      refine va_iald (f := (upd (upd m_now q8.toNatClampNeg ((q1 + (1 : Int32)) - (q1 + (1 : Int32)) / (4 : Int32) * (4 : Int32))) q11.toNatClampNeg q3)) hx hb hK hP 1 0 k_now rfl hg23 dX7_grows_117 ?_
      refine lv_aload_n hx hb dX7_grows_118 rfl (lv_at hl 5 rfl) ?_
      refine va_get (D := g.1) (ci := 5) (v := .ref (gm g 8)) (C := RX7) (T := TX7) (N := 27) hx hb hts iwX7 hown hK hP 0 k_md rfl 8 (by decide) hw1 (fun _ h9 => h9) rfl dX7_grows_119 ?_
      refine lv_aload_n hx hb dX7_grows_122 rfl (lv_at hl 5 rfl) ?_
      refine lv_iload_n hx hb dX7_grows_123 rfl (lv_at hl 6 rfl) ?_
      refine lv_iconst (v := (0 : Int32)) hx hb dX7_grows_124 (by decide) ?_
      obtain ⟨q24, hq24, hf⟩ := bd_some hf
      refine kr_S (st1 := [.int q24, .ref (gm g 8), .int ((upd (upd m_now q8.toNatClampNeg ((q1 + (1 : Int32)) - (q1 + (1 : Int32)) / (4 : Int32) * (4 : Int32))) q11.toNatClampNeg q3) ((49 : Int32) + q3).toNatClampNeg), .int ((49 : Int32) + q3), .ref (gm g 1)]) (va_runV (As := [.int a1, .int (0 : Int32)]) (rest := [.ref (gm g 8), .int ((upd (upd m_now q8.toNatClampNeg ((q1 + (1 : Int32)) - (q1 + (1 : Int32)) / (4 : Int32) * (4 : Int32))) q11.toNatClampNeg q3) ((49 : Int32) + q3).toNatClampNeg), .int ((49 : Int32) + q3), .ref (gm g 1)]) ⟨hx, hb, hml, hown, hts⟩ (ct_X7_seedIs l n g (upd (upd m_now q8.toNatClampNeg ((q1 + (1 : Int32)) - (q1 + (1 : Int32)) / (4 : Int32) * (4 : Int32))) q11.toNatClampNeg q3) m_kept m_aside m_isKept m_found m_steps m_queue m_lives m_treads m_tape m_taped m_begins m_ends m_sort m_value m_isWrong m_items m_itemMany m_seedThen m_groundThen m_widths m_sizes m_numbers m_moved a1 (0 : Int32) q24 hq24) (cwV 2 hts gX7_grows_X7_seedIs rfl rfl rfl hd_X7_seedIs ⟨Nat.le_of_ble_eq_true rfl, Nat.le_of_ble_eq_true rfl⟩) ⟨bl_M, va_recv hK hP (ci := 5) (q0 := 0) rfl k_md, pr_M rfl hB hP hS⟩ rfl rfl hl.1 rfl (lv_room (Nat.le_of_ble_eq_true rfl)) dX7_grows_125 ⟨Nat.le_refl _, Nat.le_refl _⟩) rfl (fun hn25 => ?_)
      obtain ⟨hg26, hf⟩ := gd_some hf
      refine va_iald (f := m_treads) hx hb hK hP 8 0 k_treads rfl hg26 dX7_grows_128 ?_
      refine va_mmax hx hb (hml.trans hl.1.symm) hown hw2 hw3 hw4 hw5 (Nat.le_of_ble_eq_true rfl) (Nat.le_of_ble_eq_true rfl) (Nat.le_of_ble_eq_true rfl) (Nat.le_of_ble_eq_true rfl) dX7_grows_129 ?_
      refine lv_goto (tgt := 145) hx hb dX7_grows_132 (by decide) ?_
      obtain ⟨hg27, hf⟩ := gd_some hf
      refine va_iast (f := (upd (upd m_now q8.toNatClampNeg ((q1 + (1 : Int32)) - (q1 + (1 : Int32)) / (4 : Int32) * (4 : Int32))) q11.toNatClampNeg q3)) hx hb hK hP (mD hB.2.2.1 _) hS 1 0 k_now rfl hg27 dX7_grows_145 (fun H locs hP _ hS => ?_)
      have hP : va_P g.1 vwCl (mw g ((upd (upd (upd m_now q8.toNatClampNeg ((q1 + (1 : Int32)) - (q1 + (1 : Int32)) / (4 : Int32) * (4 : Int32))) q11.toNatClampNeg q3) ((49 : Int32) + q3).toNatClampNeg (if ((upd (upd m_now q8.toNatClampNeg ((q1 + (1 : Int32)) - (q1 + (1 : Int32)) / (4 : Int32) * (4 : Int32))) q11.toNatClampNeg q3) ((49 : Int32) + q3).toNatClampNeg) < (m_treads q24.toNatClampNeg) then (m_treads q24.toNatClampNeg) else ((upd (upd m_now q8.toNatClampNeg ((q1 + (1 : Int32)) - (q1 + (1 : Int32)) / (4 : Int32) * (4 : Int32))) q11.toNatClampNeg q3) ((49 : Int32) + q3).toNatClampNeg))), m_kept, m_aside, m_isKept, m_found, m_steps, m_queue, m_lives, m_treads, m_tape, m_taped, m_begins, m_ends, m_sort, m_value, m_isWrong, m_items, m_itemMany, m_seedThen, m_groundThen, m_widths, m_sizes, m_numbers, m_moved)) H := w_eq (k_set_now (upd (upd (upd m_now q8.toNatClampNeg ((q1 + (1 : Int32)) - (q1 + (1 : Int32)) / (4 : Int32) * (4 : Int32))) q11.toNatClampNeg q3) ((49 : Int32) + q3).toNatClampNeg (if ((upd (upd m_now q8.toNatClampNeg ((q1 + (1 : Int32)) - (q1 + (1 : Int32)) / (4 : Int32) * (4 : Int32))) q11.toNatClampNeg q3) ((49 : Int32) + q3).toNatClampNeg) < (m_treads q24.toNatClampNeg) then (m_treads q24.toNatClampNeg) else ((upd (upd m_now q8.toNatClampNeg ((q1 + (1 : Int32)) - (q1 + (1 : Int32)) / (4 : Int32) * (4 : Int32))) q11.toNatClampNeg q3) ((49 : Int32) + q3).toNatClampNeg)))) hP
      refine lv_aload_n hx hb dX7_grows_146 rfl (lv_at hl 5 rfl) ?_
      refine va_get (D := g.1) (ci := 5) (v := .ref (gm g 1)) (C := RX7) (T := TX7) (N := 27) hx hb hts iwX7 hown hK hP 0 k_md rfl 0 (by decide) hw0 (fun _ h9 => h9) rfl dX7_grows_147 ?_
      refine lv_iload_n hx hb dX7_grows_150 rfl (lv_at hl 6 rfl) ?_
      refine lv_iconst (v := (3 : Int32)) hx hb dX7_grows_151 (by decide) ?_
      obtain ⟨q28, hq28, hf⟩ := bd_some hf
      refine kr_S (st1 := [.int q28, .ref (gm g 1)]) (va_runS (As := [.int a1, .int (3 : Int32)]) (rest := [.ref (gm g 1)]) ⟨hx, hb, hml, hown, hts⟩ (ct_X7_at l n a1 (3 : Int32) q28 hq28) (va_cwS 2 hts gX7_grows_X7_at rfl rfl rfl hn_X7_at ⟨Nat.le_of_ble_eq_true rfl, Nat.le_of_ble_eq_true rfl⟩) ⟨bl_N, pr_N rfl hNW⟩ rfl rfl hl.1 rfl (lv_room (Nat.le_of_ble_eq_true rfl)) dX7_grows_152 ⟨Nat.le_refl _, Nat.le_refl _⟩) rfl (fun hn29 => ?_)
      refine lv_dup2_11 hx hb dX7_grows_155 rfl rfl ?_
      obtain ⟨hg30, hf⟩ := gd_some hf
      refine va_iald (f := (upd (upd (upd m_now q8.toNatClampNeg ((q1 + (1 : Int32)) - (q1 + (1 : Int32)) / (4 : Int32) * (4 : Int32))) q11.toNatClampNeg q3) ((49 : Int32) + q3).toNatClampNeg (if ((upd (upd m_now q8.toNatClampNeg ((q1 + (1 : Int32)) - (q1 + (1 : Int32)) / (4 : Int32) * (4 : Int32))) q11.toNatClampNeg q3) ((49 : Int32) + q3).toNatClampNeg) < (m_treads q24.toNatClampNeg) then (m_treads q24.toNatClampNeg) else ((upd (upd m_now q8.toNatClampNeg ((q1 + (1 : Int32)) - (q1 + (1 : Int32)) / (4 : Int32) * (4 : Int32))) q11.toNatClampNeg q3) ((49 : Int32) + q3).toNatClampNeg)))) hx hb hK hP 1 0 k_now rfl hg30 dX7_grows_156 ?_
      refine lv_iconst (v := (1 : Int32)) hx hb dX7_grows_157 (by decide) ?_
      refine lv_iadd hx hb dX7_grows_158 ?_
      obtain ⟨hg31, hf⟩ := gd_some hf
      refine va_iast (f := (upd (upd (upd m_now q8.toNatClampNeg ((q1 + (1 : Int32)) - (q1 + (1 : Int32)) / (4 : Int32) * (4 : Int32))) q11.toNatClampNeg q3) ((49 : Int32) + q3).toNatClampNeg (if ((upd (upd m_now q8.toNatClampNeg ((q1 + (1 : Int32)) - (q1 + (1 : Int32)) / (4 : Int32) * (4 : Int32))) q11.toNatClampNeg q3) ((49 : Int32) + q3).toNatClampNeg) < (m_treads q24.toNatClampNeg) then (m_treads q24.toNatClampNeg) else ((upd (upd m_now q8.toNatClampNeg ((q1 + (1 : Int32)) - (q1 + (1 : Int32)) / (4 : Int32) * (4 : Int32))) q11.toNatClampNeg q3) ((49 : Int32) + q3).toNatClampNeg)))) hx hb hK hP (mD hB.2.2.1 _) hS 1 0 k_now rfl hg31 dX7_grows_159 (fun H locs hP _ hS => ?_)
      have hP : va_P g.1 vwCl (mw g ((upd (upd (upd (upd m_now q8.toNatClampNeg ((q1 + (1 : Int32)) - (q1 + (1 : Int32)) / (4 : Int32) * (4 : Int32))) q11.toNatClampNeg q3) ((49 : Int32) + q3).toNatClampNeg (if ((upd (upd m_now q8.toNatClampNeg ((q1 + (1 : Int32)) - (q1 + (1 : Int32)) / (4 : Int32) * (4 : Int32))) q11.toNatClampNeg q3) ((49 : Int32) + q3).toNatClampNeg) < (m_treads q24.toNatClampNeg) then (m_treads q24.toNatClampNeg) else ((upd (upd m_now q8.toNatClampNeg ((q1 + (1 : Int32)) - (q1 + (1 : Int32)) / (4 : Int32) * (4 : Int32))) q11.toNatClampNeg q3) ((49 : Int32) + q3).toNatClampNeg))) q28.toNatClampNeg (((upd (upd (upd m_now q8.toNatClampNeg ((q1 + (1 : Int32)) - (q1 + (1 : Int32)) / (4 : Int32) * (4 : Int32))) q11.toNatClampNeg q3) ((49 : Int32) + q3).toNatClampNeg (if ((upd (upd m_now q8.toNatClampNeg ((q1 + (1 : Int32)) - (q1 + (1 : Int32)) / (4 : Int32) * (4 : Int32))) q11.toNatClampNeg q3) ((49 : Int32) + q3).toNatClampNeg) < (m_treads q24.toNatClampNeg) then (m_treads q24.toNatClampNeg) else ((upd (upd m_now q8.toNatClampNeg ((q1 + (1 : Int32)) - (q1 + (1 : Int32)) / (4 : Int32) * (4 : Int32))) q11.toNatClampNeg q3) ((49 : Int32) + q3).toNatClampNeg))) q28.toNatClampNeg) + (1 : Int32))), m_kept, m_aside, m_isKept, m_found, m_steps, m_queue, m_lives, m_treads, m_tape, m_taped, m_begins, m_ends, m_sort, m_value, m_isWrong, m_items, m_itemMany, m_seedThen, m_groundThen, m_widths, m_sizes, m_numbers, m_moved)) H := w_eq (k_set_now (upd (upd (upd (upd m_now q8.toNatClampNeg ((q1 + (1 : Int32)) - (q1 + (1 : Int32)) / (4 : Int32) * (4 : Int32))) q11.toNatClampNeg q3) ((49 : Int32) + q3).toNatClampNeg (if ((upd (upd m_now q8.toNatClampNeg ((q1 + (1 : Int32)) - (q1 + (1 : Int32)) / (4 : Int32) * (4 : Int32))) q11.toNatClampNeg q3) ((49 : Int32) + q3).toNatClampNeg) < (m_treads q24.toNatClampNeg) then (m_treads q24.toNatClampNeg) else ((upd (upd m_now q8.toNatClampNeg ((q1 + (1 : Int32)) - (q1 + (1 : Int32)) / (4 : Int32) * (4 : Int32))) q11.toNatClampNeg q3) ((49 : Int32) + q3).toNatClampNeg))) q28.toNatClampNeg (((upd (upd (upd m_now q8.toNatClampNeg ((q1 + (1 : Int32)) - (q1 + (1 : Int32)) / (4 : Int32) * (4 : Int32))) q11.toNatClampNeg q3) ((49 : Int32) + q3).toNatClampNeg (if ((upd (upd m_now q8.toNatClampNeg ((q1 + (1 : Int32)) - (q1 + (1 : Int32)) / (4 : Int32) * (4 : Int32))) q11.toNatClampNeg q3) ((49 : Int32) + q3).toNatClampNeg) < (m_treads q24.toNatClampNeg) then (m_treads q24.toNatClampNeg) else ((upd (upd m_now q8.toNatClampNeg ((q1 + (1 : Int32)) - (q1 + (1 : Int32)) / (4 : Int32) * (4 : Int32))) q11.toNatClampNeg q3) ((49 : Int32) + q3).toNatClampNeg))) q28.toNatClampNeg) + (1 : Int32)))) hP
      have hres : (upd (upd (upd (upd m_now q8.toNatClampNeg ((q1 + (1 : Int32)) - (q1 + (1 : Int32)) / (4 : Int32) * (4 : Int32))) q11.toNatClampNeg q3) ((49 : Int32) + q3).toNatClampNeg (if ((upd (upd m_now q8.toNatClampNeg ((q1 + (1 : Int32)) - (q1 + (1 : Int32)) / (4 : Int32) * (4 : Int32))) q11.toNatClampNeg q3) ((49 : Int32) + q3).toNatClampNeg) < (m_treads q24.toNatClampNeg) then (m_treads q24.toNatClampNeg) else ((upd (upd m_now q8.toNatClampNeg ((q1 + (1 : Int32)) - (q1 + (1 : Int32)) / (4 : Int32) * (4 : Int32))) q11.toNatClampNeg q3) ((49 : Int32) + q3).toNatClampNeg))) q28.toNatClampNeg (((upd (upd (upd m_now q8.toNatClampNeg ((q1 + (1 : Int32)) - (q1 + (1 : Int32)) / (4 : Int32) * (4 : Int32))) q11.toNatClampNeg q3) ((49 : Int32) + q3).toNatClampNeg (if ((upd (upd m_now q8.toNatClampNeg ((q1 + (1 : Int32)) - (q1 + (1 : Int32)) / (4 : Int32) * (4 : Int32))) q11.toNatClampNeg q3) ((49 : Int32) + q3).toNatClampNeg) < (m_treads q24.toNatClampNeg) then (m_treads q24.toNatClampNeg) else ((upd (upd m_now q8.toNatClampNeg ((q1 + (1 : Int32)) - (q1 + (1 : Int32)) / (4 : Int32) * (4 : Int32))) q11.toNatClampNeg q3) ((49 : Int32) + q3).toNatClampNeg))) q28.toNatClampNeg) + (1 : Int32))) = res := (Option.some.inj hf)
      have hP := w_eq (congrArg (fun z => mw g (z, m_kept, m_aside, m_isKept, m_found, m_steps, m_queue, m_lives, m_treads, m_tape, m_taped, m_begins, m_ends, m_sort, m_value, m_isWrong, m_items, m_itemMany, m_seedThen, m_groundThen, m_widths, m_sizes, m_numbers, m_moved)) hres) hP
      exact W.vret hx hb hr (fun t ht hW => ⟨rfl, trivial, by rw [ht]; exact hP, hS.F ht⟩) hS.2.2 dX7_grows_160
  · have hf := (if_neg hc7).symm.trans hf
    refine lv_aload_n hx hb dX7_grows_25 rfl (lv_at hl 3 rfl) ?_
    refine lv_iload hx hb dX7_grows_26 (lv_at hl 0 rfl) ?_
    obtain ⟨q32, hq32, hf⟩ := bd_some hf
    refine kr_S (st1 := [.int q32]) (va_runV (As := [.int q5]) (rest := []) ⟨hx, hb, hml, hown, hts⟩ (ct_X7_isGrass l n g m_now m_kept m_aside m_isKept m_found m_steps m_queue m_lives m_treads m_tape m_taped m_begins m_ends m_sort m_value m_isWrong m_items m_itemMany m_seedThen m_groundThen m_widths m_sizes m_numbers m_moved q5 q32 hq32) (cwV 1 hts gX7_grows_X7_isGrass rfl rfl rfl hd_X7_isGrass ⟨Nat.le_of_ble_eq_true rfl, Nat.le_of_ble_eq_true rfl⟩) ⟨bl_M, va_recv hK hP (ci := 5) (q0 := 0) rfl k_md, pr_M rfl hB hP hS⟩ rfl rfl hl.1 rfl (lv_room (Nat.le_of_ble_eq_true rfl)) dX7_grows_28 ⟨Nat.le_refl _, Nat.le_refl _⟩) rfl (fun hn33 => ?_)
    refine lv_if_eq (tgt := 38) hx hb dX7_grows_31 (by decide) (fun hc34 => ?_) (fun hc34 => ?_)
    · have hf := (if_pos hc34).symm.trans hf
      refine lv_iconst (v := (0 : Int32)) hx hb dX7_grows_38 (by decide) ?_
      refine lv_istore (lv' := [(5, .int (0 : Int32)), (4, .int q5), (3, .int q3), (2, .int q1), (0, .ref (gm g 0)), (1, .int a1)]) hx hb dX7_grows_39 hl (by decide) rfl (fun ls hl => ?_)
      refine lv_aload_n hx hb dX7_grows_41 rfl (lv_at hl 4 rfl) ?_
      refine va_get (D := g.1) (ci := 5) (v := .ref (gm g 1)) (C := RX7) (T := TX7) (N := 27) hx hb hts iwX7 hown hK hP 0 k_md rfl 0 (by decide) hw0 (fun _ h9 => h9) rfl dX7_grows_42 ?_
      refine lv_iload_n hx hb dX7_grows_45 rfl (lv_at hl 5 rfl) ?_
      refine lv_iconst (v := (2 : Int32)) hx hb dX7_grows_46 (by decide) ?_
      obtain ⟨q35, hq35, hf⟩ := bd_some hf
      refine kr_S (st1 := [.int q35, .ref (gm g 1)]) (va_runS (As := [.int a1, .int (2 : Int32)]) (rest := [.ref (gm g 1)]) ⟨hx, hb, hml, hown, hts⟩ (ct_X7_at l n a1 (2 : Int32) q35 hq35) (va_cwS 2 hts gX7_grows_X7_at rfl rfl rfl hn_X7_at ⟨Nat.le_of_ble_eq_true rfl, Nat.le_of_ble_eq_true rfl⟩) ⟨bl_N, pr_N rfl hNW⟩ rfl rfl hl.1 rfl (lv_room (Nat.le_of_ble_eq_true rfl)) dX7_grows_47 ⟨Nat.le_refl _, Nat.le_refl _⟩) rfl (fun hn36 => ?_)
      refine lv_iload hx hb dX7_grows_50 (lv_at hl 0 rfl) ?_
      refine lv_if_eq (tgt := 59) hx hb dX7_grows_52 (by decide) (fun _ => ?_) (fun hc => absurd hc (by decide))
      refine lv_iload_n hx hb dX7_grows_59 rfl (lv_at hl 3 rfl) ?_
      refine lv_iconst (v := (1 : Int32)) hx hb dX7_grows_60 (by decide) ?_
      refine lv_iadd hx hb dX7_grows_61 ?_
      refine lv_iconst (v := (4 : Int32)) hx hb dX7_grows_62 (by decide) ?_
      refine lv_irem hx hb dX7_grows_63 (by decide) ?_
      obtain ⟨hg37, hf⟩ := gd_some hf
      refine va_iast (f := m_now) hx hb hK hP (mD hB.2.2.1 _) hS 1 0 k_now rfl hg37 dX7_grows_64 (fun H locs hP _ hS => ?_)
      have hP : va_P g.1 vwCl (mw g ((upd m_now q35.toNatClampNeg ((q1 + (1 : Int32)) - (q1 + (1 : Int32)) / (4 : Int32) * (4 : Int32))), m_kept, m_aside, m_isKept, m_found, m_steps, m_queue, m_lives, m_treads, m_tape, m_taped, m_begins, m_ends, m_sort, m_value, m_isWrong, m_items, m_itemMany, m_seedThen, m_groundThen, m_widths, m_sizes, m_numbers, m_moved)) H := w_eq (k_set_now (upd m_now q35.toNatClampNeg ((q1 + (1 : Int32)) - (q1 + (1 : Int32)) / (4 : Int32) * (4 : Int32)))) hP
      refine lv_iload hx hb dX7_grows_65 (lv_at hl 0 rfl) ?_
      refine lv_if_eq (tgt := 75) hx hb dX7_grows_67 (by decide) (fun _ => ?_) (fun hc => absurd hc (by decide))
      refine lv_iload_n hx hb dX7_grows_75 rfl (lv_at hl 2 rfl) ?_
      refine lv_istore (lv' := [(6, .int q3), (5, .int (0 : Int32)), (4, .int q5), (3, .int q3), (2, .int q1), (0, .ref (gm g 0)), (1, .int a1)]) hx hb dX7_grows_76 hl (by decide) rfl (fun ls hl => ?_)
      refine lv_aload_n hx hb dX7_grows_78 rfl (lv_at hl 5 rfl) ?_
      refine va_get (D := g.1) (ci := 5) (v := .ref (gm g 1)) (C := RX7) (T := TX7) (N := 27) hx hb hts iwX7 hown hK hP 0 k_md rfl 0 (by decide) hw0 (fun _ h9 => h9) rfl dX7_grows_79 ?_
      refine lv_iload_n hx hb dX7_grows_82 rfl (lv_at hl 6 rfl) ?_
      refine lv_iconst (v := (1 : Int32)) hx hb dX7_grows_83 (by decide) ?_
      obtain ⟨q38, hq38, hf⟩ := bd_some hf
      refine kr_S (st1 := [.int q38, .ref (gm g 1)]) (va_runS (As := [.int a1, .int (1 : Int32)]) (rest := [.ref (gm g 1)]) ⟨hx, hb, hml, hown, hts⟩ (ct_X7_at l n a1 (1 : Int32) q38 hq38) (va_cwS 2 hts gX7_grows_X7_at rfl rfl rfl hn_X7_at ⟨Nat.le_of_ble_eq_true rfl, Nat.le_of_ble_eq_true rfl⟩) ⟨bl_N, pr_N rfl hNW⟩ rfl rfl hl.1 rfl (lv_room (Nat.le_of_ble_eq_true rfl)) dX7_grows_84 ⟨Nat.le_refl _, Nat.le_refl _⟩) rfl (fun hn39 => ?_)
      refine lv_iload hx hb dX7_grows_87 (lv_at hl 0 rfl) ?_
      obtain ⟨hg40, hf⟩ := gd_some hf
      refine va_iast (f := (upd m_now q35.toNatClampNeg ((q1 + (1 : Int32)) - (q1 + (1 : Int32)) / (4 : Int32) * (4 : Int32)))) hx hb hK hP (mD hB.2.2.1 _) hS 1 0 k_now rfl hg40 dX7_grows_89 (fun H locs hP _ hS => ?_)
      have hP : va_P g.1 vwCl (mw g ((upd (upd m_now q35.toNatClampNeg ((q1 + (1 : Int32)) - (q1 + (1 : Int32)) / (4 : Int32) * (4 : Int32))) q38.toNatClampNeg q3), m_kept, m_aside, m_isKept, m_found, m_steps, m_queue, m_lives, m_treads, m_tape, m_taped, m_begins, m_ends, m_sort, m_value, m_isWrong, m_items, m_itemMany, m_seedThen, m_groundThen, m_widths, m_sizes, m_numbers, m_moved)) H := w_eq (k_set_now (upd (upd m_now q35.toNatClampNeg ((q1 + (1 : Int32)) - (q1 + (1 : Int32)) / (4 : Int32) * (4 : Int32))) q38.toNatClampNeg q3)) hP
      refine lv_aload_n hx hb dX7_grows_90 rfl (lv_at hl 5 rfl) ?_
      refine va_get (D := g.1) (ci := 5) (v := .ref (gm g 1)) (C := RX7) (T := TX7) (N := 27) hx hb hts iwX7 hown hK hP 0 k_md rfl 0 (by decide) hw0 (fun _ h9 => h9) rfl dX7_grows_91 ?_
      refine lv_bipush (v := (49 : Int32)) hx hb dX7_grows_94 (by decide) ?_
      refine lv_iload hx hb dX7_grows_96 (lv_at hl 0 rfl) ?_
      refine lv_iadd hx hb dX7_grows_98 ?_
      refine lv_aload_n hx hb dX7_grows_99 rfl (lv_at hl 5 rfl) ?_
      refine lv_iload hx hb dX7_grows_100 (lv_at hl 0 rfl) ?_
      obtain ⟨q41, hq41, hf⟩ := bd_some hf
      refine kr_S (st1 := [.int q41, .int ((49 : Int32) + q3), .ref (gm g 1)]) (va_runV (As := [.int q3]) (rest := [.int ((49 : Int32) + q3), .ref (gm g 1)]) ⟨hx, hb, hml, hown, hts⟩ (ct_X7_isGrass l n g (upd (upd m_now q35.toNatClampNeg ((q1 + (1 : Int32)) - (q1 + (1 : Int32)) / (4 : Int32) * (4 : Int32))) q38.toNatClampNeg q3) m_kept m_aside m_isKept m_found m_steps m_queue m_lives m_treads m_tape m_taped m_begins m_ends m_sort m_value m_isWrong m_items m_itemMany m_seedThen m_groundThen m_widths m_sizes m_numbers m_moved q3 q41 hq41) (cwV 1 hts gX7_grows_X7_isGrass rfl rfl rfl hd_X7_isGrass ⟨Nat.le_of_ble_eq_true rfl, Nat.le_of_ble_eq_true rfl⟩) ⟨bl_M, va_recv hK hP (ci := 5) (q0 := 0) rfl k_md, pr_M rfl hB hP hS⟩ rfl rfl hl.1 rfl (lv_room (Nat.le_of_ble_eq_true rfl)) dX7_grows_102 ⟨Nat.le_refl _, Nat.le_refl _⟩) rfl (fun hn42 => ?_)
      refine lv_if_eq (tgt := 135) hx hb dX7_grows_105 (by decide) (fun hc43 => ?_) (fun hc43 => ?_)
      · have hf := (if_pos hc43).symm.trans hf
        refine lv_aload_n hx hb dX7_grows_135 rfl (lv_at hl 5 rfl) ?_
        refine va_get (D := g.1) (ci := 5) (v := .ref (gm g 1)) (C := RX7) (T := TX7) (N := 27) hx hb hts iwX7 hown hK hP 0 k_md rfl 0 (by decide) hw0 (fun _ h9 => h9) rfl dX7_grows_136 ?_
        refine lv_bipush (v := (49 : Int32)) hx hb dX7_grows_139 (by decide) ?_
        refine lv_iload hx hb dX7_grows_141 (lv_at hl 0 rfl) ?_
        refine lv_iadd hx hb dX7_grows_143 ?_
        obtain ⟨hg44, hf⟩ := gd_some hf
        refine va_iald (f := (upd (upd m_now q35.toNatClampNeg ((q1 + (1 : Int32)) - (q1 + (1 : Int32)) / (4 : Int32) * (4 : Int32))) q38.toNatClampNeg q3)) hx hb hK hP 1 0 k_now rfl hg44 dX7_grows_144 ?_
        obtain ⟨hg45, hf⟩ := gd_some hf
        refine va_iast (f := (upd (upd m_now q35.toNatClampNeg ((q1 + (1 : Int32)) - (q1 + (1 : Int32)) / (4 : Int32) * (4 : Int32))) q38.toNatClampNeg q3)) hx hb hK hP (mD hB.2.2.1 _) hS 1 0 k_now rfl hg45 dX7_grows_145 (fun H locs hP _ hS => ?_)
        have hP : va_P g.1 vwCl (mw g ((upd (upd (upd m_now q35.toNatClampNeg ((q1 + (1 : Int32)) - (q1 + (1 : Int32)) / (4 : Int32) * (4 : Int32))) q38.toNatClampNeg q3) ((49 : Int32) + q3).toNatClampNeg ((upd (upd m_now q35.toNatClampNeg ((q1 + (1 : Int32)) - (q1 + (1 : Int32)) / (4 : Int32) * (4 : Int32))) q38.toNatClampNeg q3) ((49 : Int32) + q3).toNatClampNeg)), m_kept, m_aside, m_isKept, m_found, m_steps, m_queue, m_lives, m_treads, m_tape, m_taped, m_begins, m_ends, m_sort, m_value, m_isWrong, m_items, m_itemMany, m_seedThen, m_groundThen, m_widths, m_sizes, m_numbers, m_moved)) H := w_eq (k_set_now (upd (upd (upd m_now q35.toNatClampNeg ((q1 + (1 : Int32)) - (q1 + (1 : Int32)) / (4 : Int32) * (4 : Int32))) q38.toNatClampNeg q3) ((49 : Int32) + q3).toNatClampNeg ((upd (upd m_now q35.toNatClampNeg ((q1 + (1 : Int32)) - (q1 + (1 : Int32)) / (4 : Int32) * (4 : Int32))) q38.toNatClampNeg q3) ((49 : Int32) + q3).toNatClampNeg))) hP
        refine lv_aload_n hx hb dX7_grows_146 rfl (lv_at hl 5 rfl) ?_
        refine va_get (D := g.1) (ci := 5) (v := .ref (gm g 1)) (C := RX7) (T := TX7) (N := 27) hx hb hts iwX7 hown hK hP 0 k_md rfl 0 (by decide) hw0 (fun _ h9 => h9) rfl dX7_grows_147 ?_
        refine lv_iload_n hx hb dX7_grows_150 rfl (lv_at hl 6 rfl) ?_
        refine lv_iconst (v := (3 : Int32)) hx hb dX7_grows_151 (by decide) ?_
        obtain ⟨q46, hq46, hf⟩ := bd_some hf
        refine kr_S (st1 := [.int q46, .ref (gm g 1)]) (va_runS (As := [.int a1, .int (3 : Int32)]) (rest := [.ref (gm g 1)]) ⟨hx, hb, hml, hown, hts⟩ (ct_X7_at l n a1 (3 : Int32) q46 hq46) (va_cwS 2 hts gX7_grows_X7_at rfl rfl rfl hn_X7_at ⟨Nat.le_of_ble_eq_true rfl, Nat.le_of_ble_eq_true rfl⟩) ⟨bl_N, pr_N rfl hNW⟩ rfl rfl hl.1 rfl (lv_room (Nat.le_of_ble_eq_true rfl)) dX7_grows_152 ⟨Nat.le_refl _, Nat.le_refl _⟩) rfl (fun hn47 => ?_)
        refine lv_dup2_11 hx hb dX7_grows_155 rfl rfl ?_
        obtain ⟨hg48, hf⟩ := gd_some hf
        refine va_iald (f := (upd (upd (upd m_now q35.toNatClampNeg ((q1 + (1 : Int32)) - (q1 + (1 : Int32)) / (4 : Int32) * (4 : Int32))) q38.toNatClampNeg q3) ((49 : Int32) + q3).toNatClampNeg ((upd (upd m_now q35.toNatClampNeg ((q1 + (1 : Int32)) - (q1 + (1 : Int32)) / (4 : Int32) * (4 : Int32))) q38.toNatClampNeg q3) ((49 : Int32) + q3).toNatClampNeg))) hx hb hK hP 1 0 k_now rfl hg48 dX7_grows_156 ?_
        refine lv_iconst (v := (1 : Int32)) hx hb dX7_grows_157 (by decide) ?_
        refine lv_iadd hx hb dX7_grows_158 ?_
        obtain ⟨hg49, hf⟩ := gd_some hf
        refine va_iast (f := (upd (upd (upd m_now q35.toNatClampNeg ((q1 + (1 : Int32)) - (q1 + (1 : Int32)) / (4 : Int32) * (4 : Int32))) q38.toNatClampNeg q3) ((49 : Int32) + q3).toNatClampNeg ((upd (upd m_now q35.toNatClampNeg ((q1 + (1 : Int32)) - (q1 + (1 : Int32)) / (4 : Int32) * (4 : Int32))) q38.toNatClampNeg q3) ((49 : Int32) + q3).toNatClampNeg))) hx hb hK hP (mD hB.2.2.1 _) hS 1 0 k_now rfl hg49 dX7_grows_159 (fun H locs hP _ hS => ?_)
        have hP : va_P g.1 vwCl (mw g ((upd (upd (upd (upd m_now q35.toNatClampNeg ((q1 + (1 : Int32)) - (q1 + (1 : Int32)) / (4 : Int32) * (4 : Int32))) q38.toNatClampNeg q3) ((49 : Int32) + q3).toNatClampNeg ((upd (upd m_now q35.toNatClampNeg ((q1 + (1 : Int32)) - (q1 + (1 : Int32)) / (4 : Int32) * (4 : Int32))) q38.toNatClampNeg q3) ((49 : Int32) + q3).toNatClampNeg)) q46.toNatClampNeg (((upd (upd (upd m_now q35.toNatClampNeg ((q1 + (1 : Int32)) - (q1 + (1 : Int32)) / (4 : Int32) * (4 : Int32))) q38.toNatClampNeg q3) ((49 : Int32) + q3).toNatClampNeg ((upd (upd m_now q35.toNatClampNeg ((q1 + (1 : Int32)) - (q1 + (1 : Int32)) / (4 : Int32) * (4 : Int32))) q38.toNatClampNeg q3) ((49 : Int32) + q3).toNatClampNeg)) q46.toNatClampNeg) + (1 : Int32))), m_kept, m_aside, m_isKept, m_found, m_steps, m_queue, m_lives, m_treads, m_tape, m_taped, m_begins, m_ends, m_sort, m_value, m_isWrong, m_items, m_itemMany, m_seedThen, m_groundThen, m_widths, m_sizes, m_numbers, m_moved)) H := w_eq (k_set_now (upd (upd (upd (upd m_now q35.toNatClampNeg ((q1 + (1 : Int32)) - (q1 + (1 : Int32)) / (4 : Int32) * (4 : Int32))) q38.toNatClampNeg q3) ((49 : Int32) + q3).toNatClampNeg ((upd (upd m_now q35.toNatClampNeg ((q1 + (1 : Int32)) - (q1 + (1 : Int32)) / (4 : Int32) * (4 : Int32))) q38.toNatClampNeg q3) ((49 : Int32) + q3).toNatClampNeg)) q46.toNatClampNeg (((upd (upd (upd m_now q35.toNatClampNeg ((q1 + (1 : Int32)) - (q1 + (1 : Int32)) / (4 : Int32) * (4 : Int32))) q38.toNatClampNeg q3) ((49 : Int32) + q3).toNatClampNeg ((upd (upd m_now q35.toNatClampNeg ((q1 + (1 : Int32)) - (q1 + (1 : Int32)) / (4 : Int32) * (4 : Int32))) q38.toNatClampNeg q3) ((49 : Int32) + q3).toNatClampNeg)) q46.toNatClampNeg) + (1 : Int32)))) hP
        have hres : (upd (upd (upd (upd m_now q35.toNatClampNeg ((q1 + (1 : Int32)) - (q1 + (1 : Int32)) / (4 : Int32) * (4 : Int32))) q38.toNatClampNeg q3) ((49 : Int32) + q3).toNatClampNeg ((upd (upd m_now q35.toNatClampNeg ((q1 + (1 : Int32)) - (q1 + (1 : Int32)) / (4 : Int32) * (4 : Int32))) q38.toNatClampNeg q3) ((49 : Int32) + q3).toNatClampNeg)) q46.toNatClampNeg (((upd (upd (upd m_now q35.toNatClampNeg ((q1 + (1 : Int32)) - (q1 + (1 : Int32)) / (4 : Int32) * (4 : Int32))) q38.toNatClampNeg q3) ((49 : Int32) + q3).toNatClampNeg ((upd (upd m_now q35.toNatClampNeg ((q1 + (1 : Int32)) - (q1 + (1 : Int32)) / (4 : Int32) * (4 : Int32))) q38.toNatClampNeg q3) ((49 : Int32) + q3).toNatClampNeg)) q46.toNatClampNeg) + (1 : Int32))) = res := (Option.some.inj hf)
        have hP := w_eq (congrArg (fun z => mw g (z, m_kept, m_aside, m_isKept, m_found, m_steps, m_queue, m_lives, m_treads, m_tape, m_taped, m_begins, m_ends, m_sort, m_value, m_isWrong, m_items, m_itemMany, m_seedThen, m_groundThen, m_widths, m_sizes, m_numbers, m_moved)) hres) hP
        exact W.vret hx hb hr (fun t ht hW => ⟨rfl, trivial, by rw [ht]; exact hP, hS.F ht⟩) hS.2.2 dX7_grows_160
      · have hf := (if_neg hc43).symm.trans hf
        refine lv_aload_n hx hb dX7_grows_108 rfl (lv_at hl 5 rfl) ?_
        refine va_get (D := g.1) (ci := 5) (v := .ref (gm g 1)) (C := RX7) (T := TX7) (N := 27) hx hb hts iwX7 hown hK hP 0 k_md rfl 0 (by decide) hw0 (fun _ h9 => h9) rfl dX7_grows_109 ?_
        refine lv_bipush (v := (49 : Int32)) hx hb dX7_grows_112 (by decide) ?_
        refine lv_iload hx hb dX7_grows_114 (lv_at hl 0 rfl) ?_
        refine lv_iadd hx hb dX7_grows_116 ?_
        obtain ⟨hg50, hf⟩ := gd_some hf
        refine va_iald (f := (upd (upd m_now q35.toNatClampNeg ((q1 + (1 : Int32)) - (q1 + (1 : Int32)) / (4 : Int32) * (4 : Int32))) q38.toNatClampNeg q3)) hx hb hK hP 1 0 k_now rfl hg50 dX7_grows_117 ?_
        refine lv_aload_n hx hb dX7_grows_118 rfl (lv_at hl 5 rfl) ?_
        refine va_get (D := g.1) (ci := 5) (v := .ref (gm g 8)) (C := RX7) (T := TX7) (N := 27) hx hb hts iwX7 hown hK hP 0 k_md rfl 8 (by decide) hw1 (fun _ h9 => h9) rfl dX7_grows_119 ?_
        refine lv_aload_n hx hb dX7_grows_122 rfl (lv_at hl 5 rfl) ?_
        refine lv_iload_n hx hb dX7_grows_123 rfl (lv_at hl 6 rfl) ?_
        refine lv_iconst (v := (0 : Int32)) hx hb dX7_grows_124 (by decide) ?_
        obtain ⟨q51, hq51, hf⟩ := bd_some hf
        refine kr_S (st1 := [.int q51, .ref (gm g 8), .int ((upd (upd m_now q35.toNatClampNeg ((q1 + (1 : Int32)) - (q1 + (1 : Int32)) / (4 : Int32) * (4 : Int32))) q38.toNatClampNeg q3) ((49 : Int32) + q3).toNatClampNeg), .int ((49 : Int32) + q3), .ref (gm g 1)]) (va_runV (As := [.int a1, .int (0 : Int32)]) (rest := [.ref (gm g 8), .int ((upd (upd m_now q35.toNatClampNeg ((q1 + (1 : Int32)) - (q1 + (1 : Int32)) / (4 : Int32) * (4 : Int32))) q38.toNatClampNeg q3) ((49 : Int32) + q3).toNatClampNeg), .int ((49 : Int32) + q3), .ref (gm g 1)]) ⟨hx, hb, hml, hown, hts⟩ (ct_X7_seedIs l n g (upd (upd m_now q35.toNatClampNeg ((q1 + (1 : Int32)) - (q1 + (1 : Int32)) / (4 : Int32) * (4 : Int32))) q38.toNatClampNeg q3) m_kept m_aside m_isKept m_found m_steps m_queue m_lives m_treads m_tape m_taped m_begins m_ends m_sort m_value m_isWrong m_items m_itemMany m_seedThen m_groundThen m_widths m_sizes m_numbers m_moved a1 (0 : Int32) q51 hq51) (cwV 2 hts gX7_grows_X7_seedIs rfl rfl rfl hd_X7_seedIs ⟨Nat.le_of_ble_eq_true rfl, Nat.le_of_ble_eq_true rfl⟩) ⟨bl_M, va_recv hK hP (ci := 5) (q0 := 0) rfl k_md, pr_M rfl hB hP hS⟩ rfl rfl hl.1 rfl (lv_room (Nat.le_of_ble_eq_true rfl)) dX7_grows_125 ⟨Nat.le_refl _, Nat.le_refl _⟩) rfl (fun hn52 => ?_)
        obtain ⟨hg53, hf⟩ := gd_some hf
        refine va_iald (f := m_treads) hx hb hK hP 8 0 k_treads rfl hg53 dX7_grows_128 ?_
        refine va_mmax hx hb (hml.trans hl.1.symm) hown hw2 hw3 hw4 hw5 (Nat.le_of_ble_eq_true rfl) (Nat.le_of_ble_eq_true rfl) (Nat.le_of_ble_eq_true rfl) (Nat.le_of_ble_eq_true rfl) dX7_grows_129 ?_
        refine lv_goto (tgt := 145) hx hb dX7_grows_132 (by decide) ?_
        obtain ⟨hg54, hf⟩ := gd_some hf
        refine va_iast (f := (upd (upd m_now q35.toNatClampNeg ((q1 + (1 : Int32)) - (q1 + (1 : Int32)) / (4 : Int32) * (4 : Int32))) q38.toNatClampNeg q3)) hx hb hK hP (mD hB.2.2.1 _) hS 1 0 k_now rfl hg54 dX7_grows_145 (fun H locs hP _ hS => ?_)
        have hP : va_P g.1 vwCl (mw g ((upd (upd (upd m_now q35.toNatClampNeg ((q1 + (1 : Int32)) - (q1 + (1 : Int32)) / (4 : Int32) * (4 : Int32))) q38.toNatClampNeg q3) ((49 : Int32) + q3).toNatClampNeg (if ((upd (upd m_now q35.toNatClampNeg ((q1 + (1 : Int32)) - (q1 + (1 : Int32)) / (4 : Int32) * (4 : Int32))) q38.toNatClampNeg q3) ((49 : Int32) + q3).toNatClampNeg) < (m_treads q51.toNatClampNeg) then (m_treads q51.toNatClampNeg) else ((upd (upd m_now q35.toNatClampNeg ((q1 + (1 : Int32)) - (q1 + (1 : Int32)) / (4 : Int32) * (4 : Int32))) q38.toNatClampNeg q3) ((49 : Int32) + q3).toNatClampNeg))), m_kept, m_aside, m_isKept, m_found, m_steps, m_queue, m_lives, m_treads, m_tape, m_taped, m_begins, m_ends, m_sort, m_value, m_isWrong, m_items, m_itemMany, m_seedThen, m_groundThen, m_widths, m_sizes, m_numbers, m_moved)) H := w_eq (k_set_now (upd (upd (upd m_now q35.toNatClampNeg ((q1 + (1 : Int32)) - (q1 + (1 : Int32)) / (4 : Int32) * (4 : Int32))) q38.toNatClampNeg q3) ((49 : Int32) + q3).toNatClampNeg (if ((upd (upd m_now q35.toNatClampNeg ((q1 + (1 : Int32)) - (q1 + (1 : Int32)) / (4 : Int32) * (4 : Int32))) q38.toNatClampNeg q3) ((49 : Int32) + q3).toNatClampNeg) < (m_treads q51.toNatClampNeg) then (m_treads q51.toNatClampNeg) else ((upd (upd m_now q35.toNatClampNeg ((q1 + (1 : Int32)) - (q1 + (1 : Int32)) / (4 : Int32) * (4 : Int32))) q38.toNatClampNeg q3) ((49 : Int32) + q3).toNatClampNeg)))) hP
        refine lv_aload_n hx hb dX7_grows_146 rfl (lv_at hl 5 rfl) ?_
        refine va_get (D := g.1) (ci := 5) (v := .ref (gm g 1)) (C := RX7) (T := TX7) (N := 27) hx hb hts iwX7 hown hK hP 0 k_md rfl 0 (by decide) hw0 (fun _ h9 => h9) rfl dX7_grows_147 ?_
        refine lv_iload_n hx hb dX7_grows_150 rfl (lv_at hl 6 rfl) ?_
        refine lv_iconst (v := (3 : Int32)) hx hb dX7_grows_151 (by decide) ?_
        obtain ⟨q55, hq55, hf⟩ := bd_some hf
        refine kr_S (st1 := [.int q55, .ref (gm g 1)]) (va_runS (As := [.int a1, .int (3 : Int32)]) (rest := [.ref (gm g 1)]) ⟨hx, hb, hml, hown, hts⟩ (ct_X7_at l n a1 (3 : Int32) q55 hq55) (va_cwS 2 hts gX7_grows_X7_at rfl rfl rfl hn_X7_at ⟨Nat.le_of_ble_eq_true rfl, Nat.le_of_ble_eq_true rfl⟩) ⟨bl_N, pr_N rfl hNW⟩ rfl rfl hl.1 rfl (lv_room (Nat.le_of_ble_eq_true rfl)) dX7_grows_152 ⟨Nat.le_refl _, Nat.le_refl _⟩) rfl (fun hn56 => ?_)
        refine lv_dup2_11 hx hb dX7_grows_155 rfl rfl ?_
        obtain ⟨hg57, hf⟩ := gd_some hf
        refine va_iald (f := (upd (upd (upd m_now q35.toNatClampNeg ((q1 + (1 : Int32)) - (q1 + (1 : Int32)) / (4 : Int32) * (4 : Int32))) q38.toNatClampNeg q3) ((49 : Int32) + q3).toNatClampNeg (if ((upd (upd m_now q35.toNatClampNeg ((q1 + (1 : Int32)) - (q1 + (1 : Int32)) / (4 : Int32) * (4 : Int32))) q38.toNatClampNeg q3) ((49 : Int32) + q3).toNatClampNeg) < (m_treads q51.toNatClampNeg) then (m_treads q51.toNatClampNeg) else ((upd (upd m_now q35.toNatClampNeg ((q1 + (1 : Int32)) - (q1 + (1 : Int32)) / (4 : Int32) * (4 : Int32))) q38.toNatClampNeg q3) ((49 : Int32) + q3).toNatClampNeg)))) hx hb hK hP 1 0 k_now rfl hg57 dX7_grows_156 ?_
        refine lv_iconst (v := (1 : Int32)) hx hb dX7_grows_157 (by decide) ?_
        refine lv_iadd hx hb dX7_grows_158 ?_
        obtain ⟨hg58, hf⟩ := gd_some hf
        refine va_iast (f := (upd (upd (upd m_now q35.toNatClampNeg ((q1 + (1 : Int32)) - (q1 + (1 : Int32)) / (4 : Int32) * (4 : Int32))) q38.toNatClampNeg q3) ((49 : Int32) + q3).toNatClampNeg (if ((upd (upd m_now q35.toNatClampNeg ((q1 + (1 : Int32)) - (q1 + (1 : Int32)) / (4 : Int32) * (4 : Int32))) q38.toNatClampNeg q3) ((49 : Int32) + q3).toNatClampNeg) < (m_treads q51.toNatClampNeg) then (m_treads q51.toNatClampNeg) else ((upd (upd m_now q35.toNatClampNeg ((q1 + (1 : Int32)) - (q1 + (1 : Int32)) / (4 : Int32) * (4 : Int32))) q38.toNatClampNeg q3) ((49 : Int32) + q3).toNatClampNeg)))) hx hb hK hP (mD hB.2.2.1 _) hS 1 0 k_now rfl hg58 dX7_grows_159 (fun H locs hP _ hS => ?_)
        have hP : va_P g.1 vwCl (mw g ((upd (upd (upd (upd m_now q35.toNatClampNeg ((q1 + (1 : Int32)) - (q1 + (1 : Int32)) / (4 : Int32) * (4 : Int32))) q38.toNatClampNeg q3) ((49 : Int32) + q3).toNatClampNeg (if ((upd (upd m_now q35.toNatClampNeg ((q1 + (1 : Int32)) - (q1 + (1 : Int32)) / (4 : Int32) * (4 : Int32))) q38.toNatClampNeg q3) ((49 : Int32) + q3).toNatClampNeg) < (m_treads q51.toNatClampNeg) then (m_treads q51.toNatClampNeg) else ((upd (upd m_now q35.toNatClampNeg ((q1 + (1 : Int32)) - (q1 + (1 : Int32)) / (4 : Int32) * (4 : Int32))) q38.toNatClampNeg q3) ((49 : Int32) + q3).toNatClampNeg))) q55.toNatClampNeg (((upd (upd (upd m_now q35.toNatClampNeg ((q1 + (1 : Int32)) - (q1 + (1 : Int32)) / (4 : Int32) * (4 : Int32))) q38.toNatClampNeg q3) ((49 : Int32) + q3).toNatClampNeg (if ((upd (upd m_now q35.toNatClampNeg ((q1 + (1 : Int32)) - (q1 + (1 : Int32)) / (4 : Int32) * (4 : Int32))) q38.toNatClampNeg q3) ((49 : Int32) + q3).toNatClampNeg) < (m_treads q51.toNatClampNeg) then (m_treads q51.toNatClampNeg) else ((upd (upd m_now q35.toNatClampNeg ((q1 + (1 : Int32)) - (q1 + (1 : Int32)) / (4 : Int32) * (4 : Int32))) q38.toNatClampNeg q3) ((49 : Int32) + q3).toNatClampNeg))) q55.toNatClampNeg) + (1 : Int32))), m_kept, m_aside, m_isKept, m_found, m_steps, m_queue, m_lives, m_treads, m_tape, m_taped, m_begins, m_ends, m_sort, m_value, m_isWrong, m_items, m_itemMany, m_seedThen, m_groundThen, m_widths, m_sizes, m_numbers, m_moved)) H := w_eq (k_set_now (upd (upd (upd (upd m_now q35.toNatClampNeg ((q1 + (1 : Int32)) - (q1 + (1 : Int32)) / (4 : Int32) * (4 : Int32))) q38.toNatClampNeg q3) ((49 : Int32) + q3).toNatClampNeg (if ((upd (upd m_now q35.toNatClampNeg ((q1 + (1 : Int32)) - (q1 + (1 : Int32)) / (4 : Int32) * (4 : Int32))) q38.toNatClampNeg q3) ((49 : Int32) + q3).toNatClampNeg) < (m_treads q51.toNatClampNeg) then (m_treads q51.toNatClampNeg) else ((upd (upd m_now q35.toNatClampNeg ((q1 + (1 : Int32)) - (q1 + (1 : Int32)) / (4 : Int32) * (4 : Int32))) q38.toNatClampNeg q3) ((49 : Int32) + q3).toNatClampNeg))) q55.toNatClampNeg (((upd (upd (upd m_now q35.toNatClampNeg ((q1 + (1 : Int32)) - (q1 + (1 : Int32)) / (4 : Int32) * (4 : Int32))) q38.toNatClampNeg q3) ((49 : Int32) + q3).toNatClampNeg (if ((upd (upd m_now q35.toNatClampNeg ((q1 + (1 : Int32)) - (q1 + (1 : Int32)) / (4 : Int32) * (4 : Int32))) q38.toNatClampNeg q3) ((49 : Int32) + q3).toNatClampNeg) < (m_treads q51.toNatClampNeg) then (m_treads q51.toNatClampNeg) else ((upd (upd m_now q35.toNatClampNeg ((q1 + (1 : Int32)) - (q1 + (1 : Int32)) / (4 : Int32) * (4 : Int32))) q38.toNatClampNeg q3) ((49 : Int32) + q3).toNatClampNeg))) q55.toNatClampNeg) + (1 : Int32)))) hP
        have hres : (upd (upd (upd (upd m_now q35.toNatClampNeg ((q1 + (1 : Int32)) - (q1 + (1 : Int32)) / (4 : Int32) * (4 : Int32))) q38.toNatClampNeg q3) ((49 : Int32) + q3).toNatClampNeg (if ((upd (upd m_now q35.toNatClampNeg ((q1 + (1 : Int32)) - (q1 + (1 : Int32)) / (4 : Int32) * (4 : Int32))) q38.toNatClampNeg q3) ((49 : Int32) + q3).toNatClampNeg) < (m_treads q51.toNatClampNeg) then (m_treads q51.toNatClampNeg) else ((upd (upd m_now q35.toNatClampNeg ((q1 + (1 : Int32)) - (q1 + (1 : Int32)) / (4 : Int32) * (4 : Int32))) q38.toNatClampNeg q3) ((49 : Int32) + q3).toNatClampNeg))) q55.toNatClampNeg (((upd (upd (upd m_now q35.toNatClampNeg ((q1 + (1 : Int32)) - (q1 + (1 : Int32)) / (4 : Int32) * (4 : Int32))) q38.toNatClampNeg q3) ((49 : Int32) + q3).toNatClampNeg (if ((upd (upd m_now q35.toNatClampNeg ((q1 + (1 : Int32)) - (q1 + (1 : Int32)) / (4 : Int32) * (4 : Int32))) q38.toNatClampNeg q3) ((49 : Int32) + q3).toNatClampNeg) < (m_treads q51.toNatClampNeg) then (m_treads q51.toNatClampNeg) else ((upd (upd m_now q35.toNatClampNeg ((q1 + (1 : Int32)) - (q1 + (1 : Int32)) / (4 : Int32) * (4 : Int32))) q38.toNatClampNeg q3) ((49 : Int32) + q3).toNatClampNeg))) q55.toNatClampNeg) + (1 : Int32))) = res := (Option.some.inj hf)
        have hP := w_eq (congrArg (fun z => mw g (z, m_kept, m_aside, m_isKept, m_found, m_steps, m_queue, m_lives, m_treads, m_tape, m_taped, m_begins, m_ends, m_sort, m_value, m_isWrong, m_items, m_itemMany, m_seedThen, m_groundThen, m_widths, m_sizes, m_numbers, m_moved)) hres) hP
        exact W.vret hx hb hr (fun t ht hW => ⟨rfl, trivial, by rw [ht]; exact hP, hS.F ht⟩) hS.2.2 dX7_grows_160
    · have hf := (if_neg hc34).symm.trans hf
      refine lv_iconst (v := (1 : Int32)) hx hb dX7_grows_34 (by decide) ?_
      refine lv_goto (tgt := 39) hx hb dX7_grows_35 (by decide) ?_
      refine lv_istore (lv' := [(5, .int (1 : Int32)), (4, .int q5), (3, .int q3), (2, .int q1), (0, .ref (gm g 0)), (1, .int a1)]) hx hb dX7_grows_39 hl (by decide) rfl (fun ls hl => ?_)
      refine lv_aload_n hx hb dX7_grows_41 rfl (lv_at hl 4 rfl) ?_
      refine va_get (D := g.1) (ci := 5) (v := .ref (gm g 1)) (C := RX7) (T := TX7) (N := 27) hx hb hts iwX7 hown hK hP 0 k_md rfl 0 (by decide) hw0 (fun _ h9 => h9) rfl dX7_grows_42 ?_
      refine lv_iload_n hx hb dX7_grows_45 rfl (lv_at hl 5 rfl) ?_
      refine lv_iconst (v := (2 : Int32)) hx hb dX7_grows_46 (by decide) ?_
      obtain ⟨q59, hq59, hf⟩ := bd_some hf
      refine kr_S (st1 := [.int q59, .ref (gm g 1)]) (va_runS (As := [.int a1, .int (2 : Int32)]) (rest := [.ref (gm g 1)]) ⟨hx, hb, hml, hown, hts⟩ (ct_X7_at l n a1 (2 : Int32) q59 hq59) (va_cwS 2 hts gX7_grows_X7_at rfl rfl rfl hn_X7_at ⟨Nat.le_of_ble_eq_true rfl, Nat.le_of_ble_eq_true rfl⟩) ⟨bl_N, pr_N rfl hNW⟩ rfl rfl hl.1 rfl (lv_room (Nat.le_of_ble_eq_true rfl)) dX7_grows_47 ⟨Nat.le_refl _, Nat.le_refl _⟩) rfl (fun hn60 => ?_)
      refine lv_iload hx hb dX7_grows_50 (lv_at hl 0 rfl) ?_
      refine lv_if_eq (tgt := 59) hx hb dX7_grows_52 (by decide) (fun hc => absurd hc (by decide)) (fun _ => ?_)
      refine lv_iload_n hx hb dX7_grows_55 rfl (lv_at hl 3 rfl) ?_
      refine lv_goto (tgt := 64) hx hb dX7_grows_56 (by decide) ?_
      obtain ⟨hg61, hf⟩ := gd_some hf
      refine va_iast (f := m_now) hx hb hK hP (mD hB.2.2.1 _) hS 1 0 k_now rfl hg61 dX7_grows_64 (fun H locs hP _ hS => ?_)
      have hP : va_P g.1 vwCl (mw g ((upd m_now q59.toNatClampNeg q1), m_kept, m_aside, m_isKept, m_found, m_steps, m_queue, m_lives, m_treads, m_tape, m_taped, m_begins, m_ends, m_sort, m_value, m_isWrong, m_items, m_itemMany, m_seedThen, m_groundThen, m_widths, m_sizes, m_numbers, m_moved)) H := w_eq (k_set_now (upd m_now q59.toNatClampNeg q1)) hP
      refine lv_iload hx hb dX7_grows_65 (lv_at hl 0 rfl) ?_
      refine lv_if_eq (tgt := 75) hx hb dX7_grows_67 (by decide) (fun hc => absurd hc (by decide)) (fun _ => ?_)
      refine lv_iload hx hb dX7_grows_70 (lv_at hl 1 rfl) ?_
      refine lv_goto (tgt := 76) hx hb dX7_grows_72 (by decide) ?_
      refine lv_istore (lv' := [(6, .int q5), (5, .int (1 : Int32)), (4, .int q5), (3, .int q3), (2, .int q1), (0, .ref (gm g 0)), (1, .int a1)]) hx hb dX7_grows_76 hl (by decide) rfl (fun ls hl => ?_)
      refine lv_aload_n hx hb dX7_grows_78 rfl (lv_at hl 5 rfl) ?_
      refine va_get (D := g.1) (ci := 5) (v := .ref (gm g 1)) (C := RX7) (T := TX7) (N := 27) hx hb hts iwX7 hown hK hP 0 k_md rfl 0 (by decide) hw0 (fun _ h9 => h9) rfl dX7_grows_79 ?_
      refine lv_iload_n hx hb dX7_grows_82 rfl (lv_at hl 6 rfl) ?_
      refine lv_iconst (v := (1 : Int32)) hx hb dX7_grows_83 (by decide) ?_
      obtain ⟨q62, hq62, hf⟩ := bd_some hf
      refine kr_S (st1 := [.int q62, .ref (gm g 1)]) (va_runS (As := [.int a1, .int (1 : Int32)]) (rest := [.ref (gm g 1)]) ⟨hx, hb, hml, hown, hts⟩ (ct_X7_at l n a1 (1 : Int32) q62 hq62) (va_cwS 2 hts gX7_grows_X7_at rfl rfl rfl hn_X7_at ⟨Nat.le_of_ble_eq_true rfl, Nat.le_of_ble_eq_true rfl⟩) ⟨bl_N, pr_N rfl hNW⟩ rfl rfl hl.1 rfl (lv_room (Nat.le_of_ble_eq_true rfl)) dX7_grows_84 ⟨Nat.le_refl _, Nat.le_refl _⟩) rfl (fun hn63 => ?_)
      refine lv_iload hx hb dX7_grows_87 (lv_at hl 0 rfl) ?_
      obtain ⟨hg64, hf⟩ := gd_some hf
      refine va_iast (f := (upd m_now q59.toNatClampNeg q1)) hx hb hK hP (mD hB.2.2.1 _) hS 1 0 k_now rfl hg64 dX7_grows_89 (fun H locs hP _ hS => ?_)
      have hP : va_P g.1 vwCl (mw g ((upd (upd m_now q59.toNatClampNeg q1) q62.toNatClampNeg q5), m_kept, m_aside, m_isKept, m_found, m_steps, m_queue, m_lives, m_treads, m_tape, m_taped, m_begins, m_ends, m_sort, m_value, m_isWrong, m_items, m_itemMany, m_seedThen, m_groundThen, m_widths, m_sizes, m_numbers, m_moved)) H := w_eq (k_set_now (upd (upd m_now q59.toNatClampNeg q1) q62.toNatClampNeg q5)) hP
      refine lv_aload_n hx hb dX7_grows_90 rfl (lv_at hl 5 rfl) ?_
      refine va_get (D := g.1) (ci := 5) (v := .ref (gm g 1)) (C := RX7) (T := TX7) (N := 27) hx hb hts iwX7 hown hK hP 0 k_md rfl 0 (by decide) hw0 (fun _ h9 => h9) rfl dX7_grows_91 ?_
      refine lv_bipush (v := (49 : Int32)) hx hb dX7_grows_94 (by decide) ?_
      refine lv_iload hx hb dX7_grows_96 (lv_at hl 0 rfl) ?_
      refine lv_iadd hx hb dX7_grows_98 ?_
      refine lv_aload_n hx hb dX7_grows_99 rfl (lv_at hl 5 rfl) ?_
      refine lv_iload hx hb dX7_grows_100 (lv_at hl 0 rfl) ?_
      obtain ⟨q65, hq65, hf⟩ := bd_some hf
      refine kr_S (st1 := [.int q65, .int ((49 : Int32) + q5), .ref (gm g 1)]) (va_runV (As := [.int q5]) (rest := [.int ((49 : Int32) + q5), .ref (gm g 1)]) ⟨hx, hb, hml, hown, hts⟩ (ct_X7_isGrass l n g (upd (upd m_now q59.toNatClampNeg q1) q62.toNatClampNeg q5) m_kept m_aside m_isKept m_found m_steps m_queue m_lives m_treads m_tape m_taped m_begins m_ends m_sort m_value m_isWrong m_items m_itemMany m_seedThen m_groundThen m_widths m_sizes m_numbers m_moved q5 q65 hq65) (cwV 1 hts gX7_grows_X7_isGrass rfl rfl rfl hd_X7_isGrass ⟨Nat.le_of_ble_eq_true rfl, Nat.le_of_ble_eq_true rfl⟩) ⟨bl_M, va_recv hK hP (ci := 5) (q0 := 0) rfl k_md, pr_M rfl hB hP hS⟩ rfl rfl hl.1 rfl (lv_room (Nat.le_of_ble_eq_true rfl)) dX7_grows_102 ⟨Nat.le_refl _, Nat.le_refl _⟩) rfl (fun hn66 => ?_)
      refine lv_if_eq (tgt := 135) hx hb dX7_grows_105 (by decide) (fun hc67 => ?_) (fun hc67 => ?_)
      · have hf := (if_pos hc67).symm.trans hf
        refine lv_aload_n hx hb dX7_grows_135 rfl (lv_at hl 5 rfl) ?_
        refine va_get (D := g.1) (ci := 5) (v := .ref (gm g 1)) (C := RX7) (T := TX7) (N := 27) hx hb hts iwX7 hown hK hP 0 k_md rfl 0 (by decide) hw0 (fun _ h9 => h9) rfl dX7_grows_136 ?_
        refine lv_bipush (v := (49 : Int32)) hx hb dX7_grows_139 (by decide) ?_
        refine lv_iload hx hb dX7_grows_141 (lv_at hl 0 rfl) ?_
        refine lv_iadd hx hb dX7_grows_143 ?_
        obtain ⟨hg68, hf⟩ := gd_some hf
        refine va_iald (f := (upd (upd m_now q59.toNatClampNeg q1) q62.toNatClampNeg q5)) hx hb hK hP 1 0 k_now rfl hg68 dX7_grows_144 ?_
        obtain ⟨hg69, hf⟩ := gd_some hf
        refine va_iast (f := (upd (upd m_now q59.toNatClampNeg q1) q62.toNatClampNeg q5)) hx hb hK hP (mD hB.2.2.1 _) hS 1 0 k_now rfl hg69 dX7_grows_145 (fun H locs hP _ hS => ?_)
        have hP : va_P g.1 vwCl (mw g ((upd (upd (upd m_now q59.toNatClampNeg q1) q62.toNatClampNeg q5) ((49 : Int32) + q5).toNatClampNeg ((upd (upd m_now q59.toNatClampNeg q1) q62.toNatClampNeg q5) ((49 : Int32) + q5).toNatClampNeg)), m_kept, m_aside, m_isKept, m_found, m_steps, m_queue, m_lives, m_treads, m_tape, m_taped, m_begins, m_ends, m_sort, m_value, m_isWrong, m_items, m_itemMany, m_seedThen, m_groundThen, m_widths, m_sizes, m_numbers, m_moved)) H := w_eq (k_set_now (upd (upd (upd m_now q59.toNatClampNeg q1) q62.toNatClampNeg q5) ((49 : Int32) + q5).toNatClampNeg ((upd (upd m_now q59.toNatClampNeg q1) q62.toNatClampNeg q5) ((49 : Int32) + q5).toNatClampNeg))) hP
        refine lv_aload_n hx hb dX7_grows_146 rfl (lv_at hl 5 rfl) ?_
        refine va_get (D := g.1) (ci := 5) (v := .ref (gm g 1)) (C := RX7) (T := TX7) (N := 27) hx hb hts iwX7 hown hK hP 0 k_md rfl 0 (by decide) hw0 (fun _ h9 => h9) rfl dX7_grows_147 ?_
        refine lv_iload_n hx hb dX7_grows_150 rfl (lv_at hl 6 rfl) ?_
        refine lv_iconst (v := (3 : Int32)) hx hb dX7_grows_151 (by decide) ?_
        obtain ⟨q70, hq70, hf⟩ := bd_some hf
        refine kr_S (st1 := [.int q70, .ref (gm g 1)]) (va_runS (As := [.int a1, .int (3 : Int32)]) (rest := [.ref (gm g 1)]) ⟨hx, hb, hml, hown, hts⟩ (ct_X7_at l n a1 (3 : Int32) q70 hq70) (va_cwS 2 hts gX7_grows_X7_at rfl rfl rfl hn_X7_at ⟨Nat.le_of_ble_eq_true rfl, Nat.le_of_ble_eq_true rfl⟩) ⟨bl_N, pr_N rfl hNW⟩ rfl rfl hl.1 rfl (lv_room (Nat.le_of_ble_eq_true rfl)) dX7_grows_152 ⟨Nat.le_refl _, Nat.le_refl _⟩) rfl (fun hn71 => ?_)
        refine lv_dup2_11 hx hb dX7_grows_155 rfl rfl ?_
        obtain ⟨hg72, hf⟩ := gd_some hf
        refine va_iald (f := (upd (upd (upd m_now q59.toNatClampNeg q1) q62.toNatClampNeg q5) ((49 : Int32) + q5).toNatClampNeg ((upd (upd m_now q59.toNatClampNeg q1) q62.toNatClampNeg q5) ((49 : Int32) + q5).toNatClampNeg))) hx hb hK hP 1 0 k_now rfl hg72 dX7_grows_156 ?_
        refine lv_iconst (v := (1 : Int32)) hx hb dX7_grows_157 (by decide) ?_
        refine lv_iadd hx hb dX7_grows_158 ?_
        obtain ⟨hg73, hf⟩ := gd_some hf
        refine va_iast (f := (upd (upd (upd m_now q59.toNatClampNeg q1) q62.toNatClampNeg q5) ((49 : Int32) + q5).toNatClampNeg ((upd (upd m_now q59.toNatClampNeg q1) q62.toNatClampNeg q5) ((49 : Int32) + q5).toNatClampNeg))) hx hb hK hP (mD hB.2.2.1 _) hS 1 0 k_now rfl hg73 dX7_grows_159 (fun H locs hP _ hS => ?_)
        have hP : va_P g.1 vwCl (mw g ((upd (upd (upd (upd m_now q59.toNatClampNeg q1) q62.toNatClampNeg q5) ((49 : Int32) + q5).toNatClampNeg ((upd (upd m_now q59.toNatClampNeg q1) q62.toNatClampNeg q5) ((49 : Int32) + q5).toNatClampNeg)) q70.toNatClampNeg (((upd (upd (upd m_now q59.toNatClampNeg q1) q62.toNatClampNeg q5) ((49 : Int32) + q5).toNatClampNeg ((upd (upd m_now q59.toNatClampNeg q1) q62.toNatClampNeg q5) ((49 : Int32) + q5).toNatClampNeg)) q70.toNatClampNeg) + (1 : Int32))), m_kept, m_aside, m_isKept, m_found, m_steps, m_queue, m_lives, m_treads, m_tape, m_taped, m_begins, m_ends, m_sort, m_value, m_isWrong, m_items, m_itemMany, m_seedThen, m_groundThen, m_widths, m_sizes, m_numbers, m_moved)) H := w_eq (k_set_now (upd (upd (upd (upd m_now q59.toNatClampNeg q1) q62.toNatClampNeg q5) ((49 : Int32) + q5).toNatClampNeg ((upd (upd m_now q59.toNatClampNeg q1) q62.toNatClampNeg q5) ((49 : Int32) + q5).toNatClampNeg)) q70.toNatClampNeg (((upd (upd (upd m_now q59.toNatClampNeg q1) q62.toNatClampNeg q5) ((49 : Int32) + q5).toNatClampNeg ((upd (upd m_now q59.toNatClampNeg q1) q62.toNatClampNeg q5) ((49 : Int32) + q5).toNatClampNeg)) q70.toNatClampNeg) + (1 : Int32)))) hP
        have hres : (upd (upd (upd (upd m_now q59.toNatClampNeg q1) q62.toNatClampNeg q5) ((49 : Int32) + q5).toNatClampNeg ((upd (upd m_now q59.toNatClampNeg q1) q62.toNatClampNeg q5) ((49 : Int32) + q5).toNatClampNeg)) q70.toNatClampNeg (((upd (upd (upd m_now q59.toNatClampNeg q1) q62.toNatClampNeg q5) ((49 : Int32) + q5).toNatClampNeg ((upd (upd m_now q59.toNatClampNeg q1) q62.toNatClampNeg q5) ((49 : Int32) + q5).toNatClampNeg)) q70.toNatClampNeg) + (1 : Int32))) = res := (Option.some.inj hf)
        have hP := w_eq (congrArg (fun z => mw g (z, m_kept, m_aside, m_isKept, m_found, m_steps, m_queue, m_lives, m_treads, m_tape, m_taped, m_begins, m_ends, m_sort, m_value, m_isWrong, m_items, m_itemMany, m_seedThen, m_groundThen, m_widths, m_sizes, m_numbers, m_moved)) hres) hP
        exact W.vret hx hb hr (fun t ht hW => ⟨rfl, trivial, by rw [ht]; exact hP, hS.F ht⟩) hS.2.2 dX7_grows_160
      · have hf := (if_neg hc67).symm.trans hf
        refine lv_aload_n hx hb dX7_grows_108 rfl (lv_at hl 5 rfl) ?_
        refine va_get (D := g.1) (ci := 5) (v := .ref (gm g 1)) (C := RX7) (T := TX7) (N := 27) hx hb hts iwX7 hown hK hP 0 k_md rfl 0 (by decide) hw0 (fun _ h9 => h9) rfl dX7_grows_109 ?_
        refine lv_bipush (v := (49 : Int32)) hx hb dX7_grows_112 (by decide) ?_
        refine lv_iload hx hb dX7_grows_114 (lv_at hl 0 rfl) ?_
        refine lv_iadd hx hb dX7_grows_116 ?_
        obtain ⟨hg74, hf⟩ := gd_some hf
        refine va_iald (f := (upd (upd m_now q59.toNatClampNeg q1) q62.toNatClampNeg q5)) hx hb hK hP 1 0 k_now rfl hg74 dX7_grows_117 ?_
        refine lv_aload_n hx hb dX7_grows_118 rfl (lv_at hl 5 rfl) ?_
        refine va_get (D := g.1) (ci := 5) (v := .ref (gm g 8)) (C := RX7) (T := TX7) (N := 27) hx hb hts iwX7 hown hK hP 0 k_md rfl 8 (by decide) hw1 (fun _ h9 => h9) rfl dX7_grows_119 ?_
        refine lv_aload_n hx hb dX7_grows_122 rfl (lv_at hl 5 rfl) ?_
        refine lv_iload_n hx hb dX7_grows_123 rfl (lv_at hl 6 rfl) ?_
        refine lv_iconst (v := (0 : Int32)) hx hb dX7_grows_124 (by decide) ?_
        obtain ⟨q75, hq75, hf⟩ := bd_some hf
        refine kr_S (st1 := [.int q75, .ref (gm g 8), .int ((upd (upd m_now q59.toNatClampNeg q1) q62.toNatClampNeg q5) ((49 : Int32) + q5).toNatClampNeg), .int ((49 : Int32) + q5), .ref (gm g 1)]) (va_runV (As := [.int a1, .int (0 : Int32)]) (rest := [.ref (gm g 8), .int ((upd (upd m_now q59.toNatClampNeg q1) q62.toNatClampNeg q5) ((49 : Int32) + q5).toNatClampNeg), .int ((49 : Int32) + q5), .ref (gm g 1)]) ⟨hx, hb, hml, hown, hts⟩ (ct_X7_seedIs l n g (upd (upd m_now q59.toNatClampNeg q1) q62.toNatClampNeg q5) m_kept m_aside m_isKept m_found m_steps m_queue m_lives m_treads m_tape m_taped m_begins m_ends m_sort m_value m_isWrong m_items m_itemMany m_seedThen m_groundThen m_widths m_sizes m_numbers m_moved a1 (0 : Int32) q75 hq75) (cwV 2 hts gX7_grows_X7_seedIs rfl rfl rfl hd_X7_seedIs ⟨Nat.le_of_ble_eq_true rfl, Nat.le_of_ble_eq_true rfl⟩) ⟨bl_M, va_recv hK hP (ci := 5) (q0 := 0) rfl k_md, pr_M rfl hB hP hS⟩ rfl rfl hl.1 rfl (lv_room (Nat.le_of_ble_eq_true rfl)) dX7_grows_125 ⟨Nat.le_refl _, Nat.le_refl _⟩) rfl (fun hn76 => ?_)
        obtain ⟨hg77, hf⟩ := gd_some hf
        refine va_iald (f := m_treads) hx hb hK hP 8 0 k_treads rfl hg77 dX7_grows_128 ?_
        refine va_mmax hx hb (hml.trans hl.1.symm) hown hw2 hw3 hw4 hw5 (Nat.le_of_ble_eq_true rfl) (Nat.le_of_ble_eq_true rfl) (Nat.le_of_ble_eq_true rfl) (Nat.le_of_ble_eq_true rfl) dX7_grows_129 ?_
        refine lv_goto (tgt := 145) hx hb dX7_grows_132 (by decide) ?_
        obtain ⟨hg78, hf⟩ := gd_some hf
        refine va_iast (f := (upd (upd m_now q59.toNatClampNeg q1) q62.toNatClampNeg q5)) hx hb hK hP (mD hB.2.2.1 _) hS 1 0 k_now rfl hg78 dX7_grows_145 (fun H locs hP _ hS => ?_)
        have hP : va_P g.1 vwCl (mw g ((upd (upd (upd m_now q59.toNatClampNeg q1) q62.toNatClampNeg q5) ((49 : Int32) + q5).toNatClampNeg (if ((upd (upd m_now q59.toNatClampNeg q1) q62.toNatClampNeg q5) ((49 : Int32) + q5).toNatClampNeg) < (m_treads q75.toNatClampNeg) then (m_treads q75.toNatClampNeg) else ((upd (upd m_now q59.toNatClampNeg q1) q62.toNatClampNeg q5) ((49 : Int32) + q5).toNatClampNeg))), m_kept, m_aside, m_isKept, m_found, m_steps, m_queue, m_lives, m_treads, m_tape, m_taped, m_begins, m_ends, m_sort, m_value, m_isWrong, m_items, m_itemMany, m_seedThen, m_groundThen, m_widths, m_sizes, m_numbers, m_moved)) H := w_eq (k_set_now (upd (upd (upd m_now q59.toNatClampNeg q1) q62.toNatClampNeg q5) ((49 : Int32) + q5).toNatClampNeg (if ((upd (upd m_now q59.toNatClampNeg q1) q62.toNatClampNeg q5) ((49 : Int32) + q5).toNatClampNeg) < (m_treads q75.toNatClampNeg) then (m_treads q75.toNatClampNeg) else ((upd (upd m_now q59.toNatClampNeg q1) q62.toNatClampNeg q5) ((49 : Int32) + q5).toNatClampNeg)))) hP
        refine lv_aload_n hx hb dX7_grows_146 rfl (lv_at hl 5 rfl) ?_
        refine va_get (D := g.1) (ci := 5) (v := .ref (gm g 1)) (C := RX7) (T := TX7) (N := 27) hx hb hts iwX7 hown hK hP 0 k_md rfl 0 (by decide) hw0 (fun _ h9 => h9) rfl dX7_grows_147 ?_
        refine lv_iload_n hx hb dX7_grows_150 rfl (lv_at hl 6 rfl) ?_
        refine lv_iconst (v := (3 : Int32)) hx hb dX7_grows_151 (by decide) ?_
        obtain ⟨q79, hq79, hf⟩ := bd_some hf
        refine kr_S (st1 := [.int q79, .ref (gm g 1)]) (va_runS (As := [.int a1, .int (3 : Int32)]) (rest := [.ref (gm g 1)]) ⟨hx, hb, hml, hown, hts⟩ (ct_X7_at l n a1 (3 : Int32) q79 hq79) (va_cwS 2 hts gX7_grows_X7_at rfl rfl rfl hn_X7_at ⟨Nat.le_of_ble_eq_true rfl, Nat.le_of_ble_eq_true rfl⟩) ⟨bl_N, pr_N rfl hNW⟩ rfl rfl hl.1 rfl (lv_room (Nat.le_of_ble_eq_true rfl)) dX7_grows_152 ⟨Nat.le_refl _, Nat.le_refl _⟩) rfl (fun hn80 => ?_)
        refine lv_dup2_11 hx hb dX7_grows_155 rfl rfl ?_
        obtain ⟨hg81, hf⟩ := gd_some hf
        refine va_iald (f := (upd (upd (upd m_now q59.toNatClampNeg q1) q62.toNatClampNeg q5) ((49 : Int32) + q5).toNatClampNeg (if ((upd (upd m_now q59.toNatClampNeg q1) q62.toNatClampNeg q5) ((49 : Int32) + q5).toNatClampNeg) < (m_treads q75.toNatClampNeg) then (m_treads q75.toNatClampNeg) else ((upd (upd m_now q59.toNatClampNeg q1) q62.toNatClampNeg q5) ((49 : Int32) + q5).toNatClampNeg)))) hx hb hK hP 1 0 k_now rfl hg81 dX7_grows_156 ?_
        refine lv_iconst (v := (1 : Int32)) hx hb dX7_grows_157 (by decide) ?_
        refine lv_iadd hx hb dX7_grows_158 ?_
        obtain ⟨hg82, hf⟩ := gd_some hf
        refine va_iast (f := (upd (upd (upd m_now q59.toNatClampNeg q1) q62.toNatClampNeg q5) ((49 : Int32) + q5).toNatClampNeg (if ((upd (upd m_now q59.toNatClampNeg q1) q62.toNatClampNeg q5) ((49 : Int32) + q5).toNatClampNeg) < (m_treads q75.toNatClampNeg) then (m_treads q75.toNatClampNeg) else ((upd (upd m_now q59.toNatClampNeg q1) q62.toNatClampNeg q5) ((49 : Int32) + q5).toNatClampNeg)))) hx hb hK hP (mD hB.2.2.1 _) hS 1 0 k_now rfl hg82 dX7_grows_159 (fun H locs hP _ hS => ?_)
        have hP : va_P g.1 vwCl (mw g ((upd (upd (upd (upd m_now q59.toNatClampNeg q1) q62.toNatClampNeg q5) ((49 : Int32) + q5).toNatClampNeg (if ((upd (upd m_now q59.toNatClampNeg q1) q62.toNatClampNeg q5) ((49 : Int32) + q5).toNatClampNeg) < (m_treads q75.toNatClampNeg) then (m_treads q75.toNatClampNeg) else ((upd (upd m_now q59.toNatClampNeg q1) q62.toNatClampNeg q5) ((49 : Int32) + q5).toNatClampNeg))) q79.toNatClampNeg (((upd (upd (upd m_now q59.toNatClampNeg q1) q62.toNatClampNeg q5) ((49 : Int32) + q5).toNatClampNeg (if ((upd (upd m_now q59.toNatClampNeg q1) q62.toNatClampNeg q5) ((49 : Int32) + q5).toNatClampNeg) < (m_treads q75.toNatClampNeg) then (m_treads q75.toNatClampNeg) else ((upd (upd m_now q59.toNatClampNeg q1) q62.toNatClampNeg q5) ((49 : Int32) + q5).toNatClampNeg))) q79.toNatClampNeg) + (1 : Int32))), m_kept, m_aside, m_isKept, m_found, m_steps, m_queue, m_lives, m_treads, m_tape, m_taped, m_begins, m_ends, m_sort, m_value, m_isWrong, m_items, m_itemMany, m_seedThen, m_groundThen, m_widths, m_sizes, m_numbers, m_moved)) H := w_eq (k_set_now (upd (upd (upd (upd m_now q59.toNatClampNeg q1) q62.toNatClampNeg q5) ((49 : Int32) + q5).toNatClampNeg (if ((upd (upd m_now q59.toNatClampNeg q1) q62.toNatClampNeg q5) ((49 : Int32) + q5).toNatClampNeg) < (m_treads q75.toNatClampNeg) then (m_treads q75.toNatClampNeg) else ((upd (upd m_now q59.toNatClampNeg q1) q62.toNatClampNeg q5) ((49 : Int32) + q5).toNatClampNeg))) q79.toNatClampNeg (((upd (upd (upd m_now q59.toNatClampNeg q1) q62.toNatClampNeg q5) ((49 : Int32) + q5).toNatClampNeg (if ((upd (upd m_now q59.toNatClampNeg q1) q62.toNatClampNeg q5) ((49 : Int32) + q5).toNatClampNeg) < (m_treads q75.toNatClampNeg) then (m_treads q75.toNatClampNeg) else ((upd (upd m_now q59.toNatClampNeg q1) q62.toNatClampNeg q5) ((49 : Int32) + q5).toNatClampNeg))) q79.toNatClampNeg) + (1 : Int32)))) hP
        have hres : (upd (upd (upd (upd m_now q59.toNatClampNeg q1) q62.toNatClampNeg q5) ((49 : Int32) + q5).toNatClampNeg (if ((upd (upd m_now q59.toNatClampNeg q1) q62.toNatClampNeg q5) ((49 : Int32) + q5).toNatClampNeg) < (m_treads q75.toNatClampNeg) then (m_treads q75.toNatClampNeg) else ((upd (upd m_now q59.toNatClampNeg q1) q62.toNatClampNeg q5) ((49 : Int32) + q5).toNatClampNeg))) q79.toNatClampNeg (((upd (upd (upd m_now q59.toNatClampNeg q1) q62.toNatClampNeg q5) ((49 : Int32) + q5).toNatClampNeg (if ((upd (upd m_now q59.toNatClampNeg q1) q62.toNatClampNeg q5) ((49 : Int32) + q5).toNatClampNeg) < (m_treads q75.toNatClampNeg) then (m_treads q75.toNatClampNeg) else ((upd (upd m_now q59.toNatClampNeg q1) q62.toNatClampNeg q5) ((49 : Int32) + q5).toNatClampNeg))) q79.toNatClampNeg) + (1 : Int32))) = res := (Option.some.inj hf)
        have hP := w_eq (congrArg (fun z => mw g (z, m_kept, m_aside, m_isKept, m_found, m_steps, m_queue, m_lives, m_treads, m_tape, m_taped, m_begins, m_ends, m_sort, m_value, m_isWrong, m_items, m_itemMany, m_seedThen, m_groundThen, m_widths, m_sizes, m_numbers, m_moved)) hres) hP
        exact W.vret hx hb hr (fun t ht hW => ⟨rfl, trivial, by rw [ht]; exact hP, hS.F ht⟩) hS.2.2 dX7_grows_160
set_option maxHeartbeats 4000000 in
set_option maxRecDepth 100000 in
theorem ct_X7_season (l : Launch) (n : Nat) (g : GM) (m_now : Nat → Int32) (m_kept : Nat → Int32) (m_aside : Nat → Int32) (m_isKept : Int32) (m_found : Nat → Int32) (m_steps : Nat → Int32) (m_queue : Nat → Int32) (m_lives : Nat → Int32) (m_treads : Nat → Int32) (m_tape : Nat → Int32) (m_taped : Int32) (m_begins : Int32) (m_ends : Int32) (m_sort : Int32) (m_value : Int32) (m_isWrong : Int32) (m_items : Nat → Int32) (m_itemMany : Int32) (m_seedThen : Int32) (m_groundThen : Nat → Int32) (m_widths : Nat → Int32) (m_sizes : Nat → Int32) (m_numbers : Nat → Int32) (m_moved : Nat → Int32) (res : (Nat → Int32)) (hf : fX7_season n m_now m_lives m_treads = some res) : Met l yX7_season wsX7_season ({ frames := 7, cells := 0, slots := 0, locals := 161 }) (va_Pc [.ref (gm g 0)] (mI g (m_now, m_kept, m_aside, m_isKept, m_found, m_steps, m_queue, m_lives, m_treads, m_tape, m_taped, m_begins, m_ends, m_sort, m_value, m_isWrong, m_items, m_itemMany, m_seedThen, m_groundThen, m_widths, m_sizes, m_numbers, m_moved))) (qW none True g.1 (mw g (res, m_kept, m_aside, m_isKept, m_found, m_steps, m_queue, m_lives, m_treads, m_tape, m_taped, m_begins, m_ends, m_sort, m_value, m_isWrong, m_items, m_itemMany, m_seedThen, m_groundThen, m_widths, m_sizes, m_numbers, m_moved)) (mA g)) 0 0 (mA g) := by
  refine Met.ofW (cc := cX7_season) (maxL := 2) (ret := none) (by decide) rfl ?_
  intro p e s m args below meth c s₁ B hml hv
  obtain ⟨rfl, hI⟩ := hv
  have hx := B.exec
  have hb := B.bytes
  have hr := B.returns
  have hts := atoms_spec (ws := wsX7_season) B.pre
  have hown : s.vm.findClass RX7 = some m.cls := findClass_of_methodNamed B.named
  have hlocks := B.notSynchronized
  have hP := hI.1
  have hB := hI.2
  have hK := hB.1
  have hNW := hB.2.1
  have hS : va_S (mA g) s.heap s.heap [] := va_S.rf
  have hw0 := hts (.fieldLink RX7 9 "SownPathsModel" "now" "[I") (by decide +kernel)
  have hw1 := hts (.methodLink RX7 192 Lib.Math.max.name) (by decide +kernel)
  have hw2 := hts (.static Lib.Math.max.name) (by decide +kernel)
  have hw3 := hts (.initialized "java/lang/Math") (by decide +kernel)
  have hw4 := hts (.code Lib.Math.max.name Lib.Math.max.code 2 (some .int)) (by decide +kernel)
  have iwX7 : ∀ w ∈ wsX70, w ∈ wsX7_season := fun w h => List.mem_cons_of_mem _ (List.mem_append_right _ h)
  have hl := lv_entry ([.ref (gm g 0)]) (n := 2) (Nat.le_of_ble_eq_true rfl)
  rw [lg_entry_eq]
  generalize (lg_sl ([.ref (gm g 0)]) ++ List.replicate (2 - (lg_sl ([.ref (gm g 0)])).length) Slot.unset).toArray = ls at hl ⊢
  have hl : lv_has ls 2 [(0, .ref (gm g 0))] := hl
  unfold fX7_season at hf
  refine lv_iconst (v := (0 : Int32)) hx hb dX7_season_0 (by decide) ?_
  refine lv_istore_n (lv' := [(1, .int (0 : Int32)), (0, .ref (gm g 0))]) hx hb dX7_season_1 rfl hl (by decide) rfl (fun ls hl => ?_)
  refine lp_run hf (fun s1 => ∀ (H : Heap) (locs : List Loc) (ls : Array Slot), va_P g.1 vwCl (mw g (s1.2, m_kept, m_aside, m_isKept, m_found, m_steps, m_queue, m_lives, m_treads, m_tape, m_taped, m_begins, m_ends, m_sort, m_value, m_isWrong, m_items, m_itemMany, m_seedThen, m_groundThen, m_widths, m_sizes, m_numbers, m_moved)) H → va_S (mA g) s.heap H locs → lv_has ls 2 [(0, .ref (gm g 0)), (1, .int s1.1)] → W p l e (headSpec wsX7_season ({ frames := 7, cells := 0, slots := 0, locals := 161 })).room s m ([.ref (gm g 0)] : List Value).toArray below meth c H locs 0 0 (MQ below (qW none True g.1 (mw g (res, m_kept, m_aside, m_isKept, m_found, m_steps, m_queue, m_lives, m_treads, m_tape, m_taped, m_begins, m_ends, m_sort, m_value, m_isWrong, m_items, m_itemMany, m_seedThen, m_groundThen, m_widths, m_sizes, m_numbers, m_moved)) (mA g)) ([.ref (gm g 0)] : List Value).toArray s 0 0 (mA g)) (F0 m 2 ls [])) (fun v2 => ∀ (H : Heap) (locs : List Loc) (ls : Array Slot), va_P g.1 vwCl (mw g (v2.2, m_kept, m_aside, m_isKept, m_found, m_steps, m_queue, m_lives, m_treads, m_tape, m_taped, m_begins, m_ends, m_sort, m_value, m_isWrong, m_items, m_itemMany, m_seedThen, m_groundThen, m_widths, m_sizes, m_numbers, m_moved)) H → va_S (mA g) s.heap H locs → lv_has ls 2 [(0, .ref (gm g 0))] → W p l e (headSpec wsX7_season ({ frames := 7, cells := 0, slots := 0, locals := 161 })).room s m ([.ref (gm g 0)] : List Value).toArray below meth c H locs 0 0 (MQ below (qW none True g.1 (mw g (res, m_kept, m_aside, m_isKept, m_found, m_steps, m_queue, m_lives, m_treads, m_tape, m_taped, m_begins, m_ends, m_sort, m_value, m_isWrong, m_items, m_itemMany, m_seedThen, m_groundThen, m_widths, m_sizes, m_numbers, m_moved)) (mA g)) ([.ref (gm g 0)] : List Value).toArray s 0 0 (mA g)) (F0 m 38 ls [])) ?_ ?_ _ _ _ hP hS (lv_sub hl [1, 0] rfl)
  · intro v2 hf H locs ls hP hS hl
    refine lv_iconst (v := (0 : Int32)) hx hb dX7_season_38 (by decide) ?_
    refine lv_istore_n (lv' := [(1, .int (0 : Int32)), (0, .ref (gm g 0))]) hx hb dX7_season_39 rfl hl (by decide) rfl (fun ls hl => ?_)
    refine lp_run hf (fun s6 => ∀ (H : Heap) (locs : List Loc) (ls : Array Slot), va_P g.1 vwCl (mw g (s6.2, m_kept, m_aside, m_isKept, m_found, m_steps, m_queue, m_lives, m_treads, m_tape, m_taped, m_begins, m_ends, m_sort, m_value, m_isWrong, m_items, m_itemMany, m_seedThen, m_groundThen, m_widths, m_sizes, m_numbers, m_moved)) H → va_S (mA g) s.heap H locs → lv_has ls 2 [(0, .ref (gm g 0)), (1, .int s6.1)] → W p l e (headSpec wsX7_season ({ frames := 7, cells := 0, slots := 0, locals := 161 })).room s m ([.ref (gm g 0)] : List Value).toArray below meth c H locs 0 0 (MQ below (qW none True g.1 (mw g (res, m_kept, m_aside, m_isKept, m_found, m_steps, m_queue, m_lives, m_treads, m_tape, m_taped, m_begins, m_ends, m_sort, m_value, m_isWrong, m_items, m_itemMany, m_seedThen, m_groundThen, m_widths, m_sizes, m_numbers, m_moved)) (mA g)) ([.ref (gm g 0)] : List Value).toArray s 0 0 (mA g)) (F0 m 40 ls [])) (fun v7 => ∀ (H : Heap) (locs : List Loc) (ls : Array Slot), va_P g.1 vwCl (mw g (v7.2, m_kept, m_aside, m_isKept, m_found, m_steps, m_queue, m_lives, m_treads, m_tape, m_taped, m_begins, m_ends, m_sort, m_value, m_isWrong, m_items, m_itemMany, m_seedThen, m_groundThen, m_widths, m_sizes, m_numbers, m_moved)) H → va_S (mA g) s.heap H locs → lv_has ls 2 [(0, .ref (gm g 0))] → W p l e (headSpec wsX7_season ({ frames := 7, cells := 0, slots := 0, locals := 161 })).room s m ([.ref (gm g 0)] : List Value).toArray below meth c H locs 0 0 (MQ below (qW none True g.1 (mw g (res, m_kept, m_aside, m_isKept, m_found, m_steps, m_queue, m_lives, m_treads, m_tape, m_taped, m_begins, m_ends, m_sort, m_value, m_isWrong, m_items, m_itemMany, m_seedThen, m_groundThen, m_widths, m_sizes, m_numbers, m_moved)) (mA g)) ([.ref (gm g 0)] : List Value).toArray s 0 0 (mA g)) (F0 m 69 ls [])) ?_ ?_ _ _ _ hP hS (lv_sub hl [1, 0] rfl)
    · intro v7 hf H locs ls hP hS hl
      refine lv_aload_n hx hb dX7_season_69 rfl (lv_at hl 0 rfl) ?_
      refine va_get (D := g.1) (ci := 5) (v := .ref (gm g 1)) (C := RX7) (T := TX7) (N := 27) hx hb hts iwX7 hown hK hP 0 k_md rfl 0 (by decide) hw0 (fun _ h9 => h9) rfl dX7_season_70 ?_
      refine lv_iconst (v := (0 : Int32)) hx hb dX7_season_73 (by decide) ?_
      refine lv_dup2_11 hx hb dX7_season_74 rfl rfl ?_
      refine va_iald (f := v7.2) hx hb hK hP 1 0 k_now rfl (vi_lit (by decide)) dX7_season_75 ?_
      refine lv_iconst (v := (1 : Int32)) hx hb dX7_season_76 (by decide) ?_
      refine lv_iadd hx hb dX7_season_77 ?_
      refine va_iast (f := v7.2) hx hb hK hP (mD hB.2.2.1 _) hS 1 0 k_now rfl (vi_lit (by decide)) dX7_season_78 (fun H locs hP _ hS => ?_)
      have hP : va_P g.1 vwCl (mw g ((upd v7.2 (0 : Int32).toNatClampNeg ((v7.2 (0 : Int32).toNatClampNeg) + (1 : Int32))), m_kept, m_aside, m_isKept, m_found, m_steps, m_queue, m_lives, m_treads, m_tape, m_taped, m_begins, m_ends, m_sort, m_value, m_isWrong, m_items, m_itemMany, m_seedThen, m_groundThen, m_widths, m_sizes, m_numbers, m_moved)) H := w_eq (k_set_now (upd v7.2 (0 : Int32).toNatClampNeg ((v7.2 (0 : Int32).toNatClampNeg) + (1 : Int32)))) hP
      have hres : (upd v7.2 (0 : Int32).toNatClampNeg ((v7.2 (0 : Int32).toNatClampNeg) + (1 : Int32))) = res := (Option.some.inj hf)
      have hP := w_eq (congrArg (fun z => mw g (z, m_kept, m_aside, m_isKept, m_found, m_steps, m_queue, m_lives, m_treads, m_tape, m_taped, m_begins, m_ends, m_sort, m_value, m_isWrong, m_items, m_itemMany, m_seedThen, m_groundThen, m_widths, m_sizes, m_numbers, m_moved)) hres) hP
      exact W.vret hx hb hr (fun t ht hW => ⟨rfl, trivial, by rw [ht]; exact hP, hS.F ht⟩) hS.2.2 dX7_season_79
    · intro s6 r1 hf hback1 hexit1 H locs ls hP hS hl
      refine lv_iload_n hx hb dX7_season_40 rfl (lv_at hl 1 rfl) ?_
      refine lv_aload_n hx hb dX7_season_41 rfl (lv_at hl 0 rfl) ?_
      refine va_get (D := g.1) (ci := 5) (v := .ref (gm g 1)) (C := RX7) (T := TX7) (N := 27) hx hb hts iwX7 hown hK hP 0 k_md rfl 0 (by decide) hw0 (fun _ h9 => h9) rfl dX7_season_42 ?_
      refine lv_iconst (v := (1 : Int32)) hx hb dX7_season_45 (by decide) ?_
      refine va_iald (f := s6.2) hx hb hK hP 1 0 k_now rfl (vi_lit (by decide)) dX7_season_46 ?_
      refine lv_icmp_ge (tgt := 69) hx hb dX7_season_47 (by decide) (fun hc8 => ?_) (fun hc8 => ?_)
      · have hf := (if_pos hc8).symm.trans hf
        exact hexit1 (s6.1, s6.2) (Option.some.inj hf).symm H locs ls hP hS (lv_sub hl [0] rfl)
      · have hf := (if_neg hc8).symm.trans hf
        refine lv_aload_n hx hb dX7_season_50 rfl (lv_at hl 0 rfl) ?_
        refine lv_iload_n hx hb dX7_season_51 rfl (lv_at hl 1 rfl) ?_
        obtain ⟨q9, hq9, hf⟩ := bd_some hf
        refine kr_S (st1 := [.int q9]) (va_runV (As := [.int s6.1]) (rest := []) ⟨hx, hb, hml, hown, hts⟩ (ct_X7_isAlive l n g s6.2 m_kept m_aside m_isKept m_found m_steps m_queue m_lives m_treads m_tape m_taped m_begins m_ends m_sort m_value m_isWrong m_items m_itemMany m_seedThen m_groundThen m_widths m_sizes m_numbers m_moved s6.1 q9 hq9) (cwV 1 hts gX7_season_X7_isAlive rfl rfl rfl hd_X7_isAlive ⟨Nat.le_of_ble_eq_true rfl, Nat.le_of_ble_eq_true rfl⟩) ⟨bl_M, va_recv hK hP (ci := 5) (q0 := 0) rfl k_md, pr_M rfl hB hP hS⟩ rfl rfl hl.1 rfl (lv_room (Nat.le_of_ble_eq_true rfl)) dX7_season_52 ⟨Nat.le_refl _, Nat.le_refl _⟩) rfl (fun hn10 => ?_)
        refine lv_if_eq (tgt := 63) hx hb dX7_season_55 (by decide) (fun hc11 => ?_) (fun hc11 => ?_)
        · have hf := (if_pos hc11).symm.trans hf
          refine lv_iinc (v := (s6.1 + (1 : Int32))) (lv' := [(1, .int (s6.1 + (1 : Int32))), (0, .ref (gm g 0))]) hx hb dX7_season_63 hl (k := 1) rfl (congrArg (fun y => s6.1 + y) (by decide : Int32.ofInt (1) = (1 : Int32))) (by decide) rfl (fun ls hl => ?_)
          refine lv_goto (tgt := 40) hx hb dX7_season_66 (by decide) ?_
          exact hback1 _ (Option.some.inj hf).symm H locs ls hP hS (lv_sub hl [1, 0] rfl)
        · have hf := (if_neg hc11).symm.trans hf
          refine lv_aload_n hx hb dX7_season_58 rfl (lv_at hl 0 rfl) ?_
          refine lv_iload_n hx hb dX7_season_59 rfl (lv_at hl 1 rfl) ?_
          obtain ⟨q12, hq12, hf⟩ := bd_some hf
          refine kr_W (st1 := []) (va_runV (As := [.int s6.1]) (rest := []) ⟨hx, hb, hml, hown, hts⟩ (ct_X7_grows l n g s6.2 m_kept m_aside m_isKept m_found m_steps m_queue m_lives m_treads m_tape m_taped m_begins m_ends m_sort m_value m_isWrong m_items m_itemMany m_seedThen m_groundThen m_widths m_sizes m_numbers m_moved s6.1 q12 hq12) (cwV 1 hts gX7_season_X7_grows rfl rfl rfl hd_X7_grows ⟨Nat.le_of_ble_eq_true rfl, Nat.le_of_ble_eq_true rfl⟩) ⟨bl_M, va_recv hK hP (ci := 5) (q0 := 0) rfl k_md, pr_M rfl hB hP hS⟩ rfl rfl hl.1 rfl (lv_room (Nat.le_of_ble_eq_true rfl)) dX7_season_60 ⟨Nat.le_refl _, Nat.le_refl _⟩) hS rfl (fun hn13 H locs hP hS => ?_)
          have hP : va_P g.1 vwCl (mw g (q12, m_kept, m_aside, m_isKept, m_found, m_steps, m_queue, m_lives, m_treads, m_tape, m_taped, m_begins, m_ends, m_sort, m_value, m_isWrong, m_items, m_itemMany, m_seedThen, m_groundThen, m_widths, m_sizes, m_numbers, m_moved)) H := hP
          refine lv_iinc (v := (s6.1 + (1 : Int32))) (lv' := [(1, .int (s6.1 + (1 : Int32))), (0, .ref (gm g 0))]) hx hb dX7_season_63 hl (k := 1) rfl (congrArg (fun y => s6.1 + y) (by decide : Int32.ofInt (1) = (1 : Int32))) (by decide) rfl (fun ls hl => ?_)
          refine lv_goto (tgt := 40) hx hb dX7_season_66 (by decide) ?_
          exact hback1 _ (Option.some.inj hf).symm H locs ls hP hS (lv_sub hl [1, 0] rfl)
  · intro s1 r1 hf hback1 hexit1 H locs ls hP hS hl
    refine lv_iload_n hx hb dX7_season_2 rfl (lv_at hl 1 rfl) ?_
    refine lv_bipush (v := (36 : Int32)) hx hb dX7_season_3 (by decide) ?_
    refine lv_icmp_ge (tgt := 38) hx hb dX7_season_5 (by decide) (fun hc3 => ?_) (fun hc3 => ?_)
    · have hf := (if_pos hc3).symm.trans hf
      exact hexit1 (s1.1, s1.2) (Option.some.inj hf).symm H locs ls hP hS (lv_sub hl [0] rfl)
    · have hf := (if_neg hc3).symm.trans hf
      refine lv_aload_n hx hb dX7_season_8 rfl (lv_at hl 0 rfl) ?_
      refine va_get (D := g.1) (ci := 5) (v := .ref (gm g 1)) (C := RX7) (T := TX7) (N := 27) hx hb hts iwX7 hown hK hP 0 k_md rfl 0 (by decide) hw0 (fun _ h9 => h9) rfl dX7_season_9 ?_
      refine lv_bipush (v := (49 : Int32)) hx hb dX7_season_12 (by decide) ?_
      refine lv_iload_n hx hb dX7_season_14 rfl (lv_at hl 1 rfl) ?_
      refine lv_iadd hx hb dX7_season_15 ?_
      refine lv_iconst (v := (0 : Int32)) hx hb dX7_season_16 (by decide) ?_
      refine lv_aload_n hx hb dX7_season_17 rfl (lv_at hl 0 rfl) ?_
      refine va_get (D := g.1) (ci := 5) (v := .ref (gm g 1)) (C := RX7) (T := TX7) (N := 27) hx hb hts iwX7 hown hK hP 0 k_md rfl 0 (by decide) hw0 (fun _ h9 => h9) rfl dX7_season_18 ?_
      refine lv_bipush (v := (49 : Int32)) hx hb dX7_season_21 (by decide) ?_
      refine lv_iload_n hx hb dX7_season_23 rfl (lv_at hl 1 rfl) ?_
      refine lv_iadd hx hb dX7_season_24 ?_
      obtain ⟨hg4, hf⟩ := gd_some hf
      refine va_iald (f := s1.2) hx hb hK hP 1 0 k_now rfl hg4 dX7_season_25 ?_
      refine lv_iconst (v := (1 : Int32)) hx hb dX7_season_26 (by decide) ?_
      refine lv_isub hx hb dX7_season_27 ?_
      refine va_mmax hx hb (hml.trans hl.1.symm) hown hw1 hw2 hw3 hw4 (Nat.le_of_ble_eq_true rfl) (Nat.le_of_ble_eq_true rfl) (Nat.le_of_ble_eq_true rfl) (Nat.le_of_ble_eq_true rfl) dX7_season_28 ?_
      obtain ⟨hg5, hf⟩ := gd_some hf
      refine va_iast (f := s1.2) hx hb hK hP (mD hB.2.2.1 _) hS 1 0 k_now rfl hg5 dX7_season_31 (fun H locs hP _ hS => ?_)
      have hP : va_P g.1 vwCl (mw g ((upd s1.2 ((49 : Int32) + s1.1).toNatClampNeg (if (0 : Int32) < ((s1.2 ((49 : Int32) + s1.1).toNatClampNeg) - (1 : Int32)) then ((s1.2 ((49 : Int32) + s1.1).toNatClampNeg) - (1 : Int32)) else (0 : Int32))), m_kept, m_aside, m_isKept, m_found, m_steps, m_queue, m_lives, m_treads, m_tape, m_taped, m_begins, m_ends, m_sort, m_value, m_isWrong, m_items, m_itemMany, m_seedThen, m_groundThen, m_widths, m_sizes, m_numbers, m_moved)) H := w_eq (k_set_now (upd s1.2 ((49 : Int32) + s1.1).toNatClampNeg (if (0 : Int32) < ((s1.2 ((49 : Int32) + s1.1).toNatClampNeg) - (1 : Int32)) then ((s1.2 ((49 : Int32) + s1.1).toNatClampNeg) - (1 : Int32)) else (0 : Int32)))) hP
      refine lv_iinc (v := (s1.1 + (1 : Int32))) (lv' := [(1, .int (s1.1 + (1 : Int32))), (0, .ref (gm g 0))]) hx hb dX7_season_32 hl (k := 1) rfl (congrArg (fun y => s1.1 + y) (by decide : Int32.ofInt (1) = (1 : Int32))) (by decide) rfl (fun ls hl => ?_)
      refine lv_goto (tgt := 2) hx hb dX7_season_35 (by decide) ?_
      exact hback1 _ (Option.some.inj hf).symm H locs ls hP hS (lv_sub hl [1, 0] rfl)
set_option maxHeartbeats 4000000 in
set_option maxRecDepth 100000 in
theorem ct_X7_seasons (l : Launch) (n : Nat) (g : GM) (m_now : Nat → Int32) (m_kept : Nat → Int32) (m_aside : Nat → Int32) (m_isKept : Int32) (m_found : Nat → Int32) (m_steps : Nat → Int32) (m_queue : Nat → Int32) (m_lives : Nat → Int32) (m_treads : Nat → Int32) (m_tape : Nat → Int32) (m_taped : Int32) (m_begins : Int32) (m_ends : Int32) (m_sort : Int32) (m_value : Int32) (m_isWrong : Int32) (m_items : Nat → Int32) (m_itemMany : Int32) (m_seedThen : Int32) (m_groundThen : Nat → Int32) (m_widths : Nat → Int32) (m_sizes : Nat → Int32) (m_numbers : Nat → Int32) (m_moved : Nat → Int32) (a1 : Int32) (res : (Nat → Int32)) (hf : fX7_seasons n a1 m_now m_lives m_treads = some res) : Met l yX7_seasons wsX7_seasons ({ frames := 8, cells := 0, slots := 0, locals := 182 }) (va_Pc [.ref (gm g 0), .int a1] (mI g (m_now, m_kept, m_aside, m_isKept, m_found, m_steps, m_queue, m_lives, m_treads, m_tape, m_taped, m_begins, m_ends, m_sort, m_value, m_isWrong, m_items, m_itemMany, m_seedThen, m_groundThen, m_widths, m_sizes, m_numbers, m_moved))) (qW none True g.1 (mw g (res, m_kept, m_aside, m_isKept, m_found, m_steps, m_queue, m_lives, m_treads, m_tape, m_taped, m_begins, m_ends, m_sort, m_value, m_isWrong, m_items, m_itemMany, m_seedThen, m_groundThen, m_widths, m_sizes, m_numbers, m_moved)) (mA g)) 0 0 (mA g) := by
  refine Met.ofW (cc := cX7_seasons) (maxL := 3) (ret := none) (by decide) rfl ?_
  intro p e s m args below meth c s₁ B hml hv
  obtain ⟨rfl, hI⟩ := hv
  have hx := B.exec
  have hb := B.bytes
  have hr := B.returns
  have hts := atoms_spec (ws := wsX7_seasons) B.pre
  have hown : s.vm.findClass RX7 = some m.cls := findClass_of_methodNamed B.named
  have hlocks := B.notSynchronized
  have hP := hI.1
  have hB := hI.2
  have hK := hB.1
  have hNW := hB.2.1
  have hS : va_S (mA g) s.heap s.heap [] := va_S.rf
  have hl := lv_entry ([.ref (gm g 0), .int a1]) (n := 3) (Nat.le_of_ble_eq_true rfl)
  rw [lg_entry_eq]
  generalize (lg_sl ([.ref (gm g 0), .int a1]) ++ List.replicate (3 - (lg_sl ([.ref (gm g 0), .int a1])).length) Slot.unset).toArray = ls at hl ⊢
  have hl : lv_has ls 3 [(0, .ref (gm g 0)), (1, .int a1)] := hl
  unfold fX7_seasons at hf
  refine lv_iconst (v := (0 : Int32)) hx hb dX7_seasons_0 (by decide) ?_
  refine lv_istore_n (lv' := [(2, .int (0 : Int32)), (0, .ref (gm g 0)), (1, .int a1)]) hx hb dX7_seasons_1 rfl hl (by decide) rfl (fun ls hl => ?_)
  refine lp_run hf (fun s1 => ∀ (H : Heap) (locs : List Loc) (ls : Array Slot), va_P g.1 vwCl (mw g (s1.2, m_kept, m_aside, m_isKept, m_found, m_steps, m_queue, m_lives, m_treads, m_tape, m_taped, m_begins, m_ends, m_sort, m_value, m_isWrong, m_items, m_itemMany, m_seedThen, m_groundThen, m_widths, m_sizes, m_numbers, m_moved)) H → va_S (mA g) s.heap H locs → lv_has ls 3 [(0, .ref (gm g 0)), (1, .int a1), (2, .int s1.1)] → W p l e (headSpec wsX7_seasons ({ frames := 8, cells := 0, slots := 0, locals := 182 })).room s m ([.ref (gm g 0), .int a1] : List Value).toArray below meth c H locs 0 0 (MQ below (qW none True g.1 (mw g (res, m_kept, m_aside, m_isKept, m_found, m_steps, m_queue, m_lives, m_treads, m_tape, m_taped, m_begins, m_ends, m_sort, m_value, m_isWrong, m_items, m_itemMany, m_seedThen, m_groundThen, m_widths, m_sizes, m_numbers, m_moved)) (mA g)) ([.ref (gm g 0), .int a1] : List Value).toArray s 0 0 (mA g)) (F0 m 2 ls [])) (fun v2 => ∀ (H : Heap) (locs : List Loc) (ls : Array Slot), va_P g.1 vwCl (mw g (v2.2, m_kept, m_aside, m_isKept, m_found, m_steps, m_queue, m_lives, m_treads, m_tape, m_taped, m_begins, m_ends, m_sort, m_value, m_isWrong, m_items, m_itemMany, m_seedThen, m_groundThen, m_widths, m_sizes, m_numbers, m_moved)) H → va_S (mA g) s.heap H locs → lv_has ls 3 [] → W p l e (headSpec wsX7_seasons ({ frames := 8, cells := 0, slots := 0, locals := 182 })).room s m ([.ref (gm g 0), .int a1] : List Value).toArray below meth c H locs 0 0 (MQ below (qW none True g.1 (mw g (res, m_kept, m_aside, m_isKept, m_found, m_steps, m_queue, m_lives, m_treads, m_tape, m_taped, m_begins, m_ends, m_sort, m_value, m_isWrong, m_items, m_itemMany, m_seedThen, m_groundThen, m_widths, m_sizes, m_numbers, m_moved)) (mA g)) ([.ref (gm g 0), .int a1] : List Value).toArray s 0 0 (mA g)) (F0 m 17 ls [])) ?_ ?_ _ _ _ hP hS (lv_sub hl [1, 2, 0] rfl)
  · intro v2 hf H locs ls hP hS hl
    have hres : v2.2 = res := (Option.some.inj hf)
    have hP := w_eq (congrArg (fun z => mw g (z, m_kept, m_aside, m_isKept, m_found, m_steps, m_queue, m_lives, m_treads, m_tape, m_taped, m_begins, m_ends, m_sort, m_value, m_isWrong, m_items, m_itemMany, m_seedThen, m_groundThen, m_widths, m_sizes, m_numbers, m_moved)) hres) hP
    exact W.vret hx hb hr (fun t ht hW => ⟨rfl, trivial, by rw [ht]; exact hP, hS.F ht⟩) hS.2.2 dX7_seasons_17
  · intro s1 r1 hf hback1 hexit1 H locs ls hP hS hl
    refine lv_iload_n hx hb dX7_seasons_2 rfl (lv_at hl 2 rfl) ?_
    refine lv_iload_n hx hb dX7_seasons_3 rfl (lv_at hl 1 rfl) ?_
    refine lv_icmp_ge (tgt := 17) hx hb dX7_seasons_4 (by decide) (fun hc3 => ?_) (fun hc3 => ?_)
    · have hf := (if_pos hc3).symm.trans hf
      exact hexit1 (s1.1, s1.2) (Option.some.inj hf).symm H locs ls hP hS (lv_sub hl [] rfl)
    · have hf := (if_neg hc3).symm.trans hf
      refine lv_aload_n hx hb dX7_seasons_7 rfl (lv_at hl 0 rfl) ?_
      obtain ⟨q4, hq4, hf⟩ := bd_some hf
      refine kr_W (st1 := []) (va_runV (As := []) (rest := []) ⟨hx, hb, hml, hown, hts⟩ (ct_X7_season l n g s1.2 m_kept m_aside m_isKept m_found m_steps m_queue m_lives m_treads m_tape m_taped m_begins m_ends m_sort m_value m_isWrong m_items m_itemMany m_seedThen m_groundThen m_widths m_sizes m_numbers m_moved q4 hq4) (cwV 0 hts gX7_seasons_X7_season rfl rfl rfl hd_X7_season ⟨Nat.le_of_ble_eq_true rfl, Nat.le_of_ble_eq_true rfl⟩) ⟨bl_M, va_recv hK hP (ci := 5) (q0 := 0) rfl k_md, pr_M rfl hB hP hS⟩ rfl rfl hl.1 rfl (lv_room (Nat.le_of_ble_eq_true rfl)) dX7_seasons_8 ⟨Nat.le_refl _, Nat.le_refl _⟩) hS rfl (fun hn5 H locs hP hS => ?_)
      have hP : va_P g.1 vwCl (mw g (q4, m_kept, m_aside, m_isKept, m_found, m_steps, m_queue, m_lives, m_treads, m_tape, m_taped, m_begins, m_ends, m_sort, m_value, m_isWrong, m_items, m_itemMany, m_seedThen, m_groundThen, m_widths, m_sizes, m_numbers, m_moved)) H := hP
      refine lv_iinc (v := (s1.1 + (1 : Int32))) (lv' := [(2, .int (s1.1 + (1 : Int32))), (0, .ref (gm g 0)), (1, .int a1)]) hx hb dX7_seasons_11 hl (k := 2) rfl (congrArg (fun y => s1.1 + y) (by decide : Int32.ofInt (1) = (1 : Int32))) (by decide) rfl (fun ls hl => ?_)
      refine lv_goto (tgt := 2) hx hb dX7_seasons_14 (by decide) ?_
      exact hback1 _ (Option.some.inj hf).symm H locs ls hP hS (lv_sub hl [1, 2, 0] rfl)
set_option maxHeartbeats 4000000 in
set_option maxRecDepth 100000 in
theorem ct_X7_pathsNow (l : Launch) (n : Nat) (g : GM) (m_now : Nat → Int32) (m_kept : Nat → Int32) (m_aside : Nat → Int32) (m_isKept : Int32) (m_found : Nat → Int32) (m_steps : Nat → Int32) (m_queue : Nat → Int32) (m_lives : Nat → Int32) (m_treads : Nat → Int32) (m_tape : Nat → Int32) (m_taped : Int32) (m_begins : Int32) (m_ends : Int32) (m_sort : Int32) (m_value : Int32) (m_isWrong : Int32) (m_items : Nat → Int32) (m_itemMany : Int32) (m_seedThen : Int32) (m_groundThen : Nat → Int32) (m_widths : Nat → Int32) (m_sizes : Nat → Int32) (m_numbers : Nat → Int32) (m_moved : Nat → Int32) (res : Int32) (hf : fX7_pathsNow n m_now = some res) : Met l yX7_pathsNow wsX7_pathsNow ({ frames := 1, cells := 0, slots := 0, locals := 21 }) (va_Pc [.ref (gm g 0)] (mI g (m_now, m_kept, m_aside, m_isKept, m_found, m_steps, m_queue, m_lives, m_treads, m_tape, m_taped, m_begins, m_ends, m_sort, m_value, m_isWrong, m_items, m_itemMany, m_seedThen, m_groundThen, m_widths, m_sizes, m_numbers, m_moved))) (qS (some (.int res)) True) 0 0 (fun _ => False) := by
  refine Met.ofW (cc := cX7_pathsNow) (maxL := 3) (ret := (some .int)) (by decide) rfl ?_
  intro p e s m args below meth c s₁ B hml hv
  obtain ⟨rfl, hI⟩ := hv
  have hx := B.exec
  have hb := B.bytes
  have hr := B.returns
  have hts := atoms_spec (ws := wsX7_pathsNow) B.pre
  have hown : s.vm.findClass RX7 = some m.cls := findClass_of_methodNamed B.named
  have hlocks := B.notSynchronized
  have hP := hI.1
  have hB := hI.2
  have hK := hB.1
  have hNW := hB.2.1
  have hS : va_S (mA g) s.heap s.heap [] := va_S.rf
  have hl := lv_entry ([.ref (gm g 0)]) (n := 3) (Nat.le_of_ble_eq_true rfl)
  rw [lg_entry_eq]
  generalize (lg_sl ([.ref (gm g 0)]) ++ List.replicate (3 - (lg_sl ([.ref (gm g 0)])).length) Slot.unset).toArray = ls at hl ⊢
  have hl : lv_has ls 3 [(0, .ref (gm g 0))] := hl
  unfold fX7_pathsNow at hf
  refine lv_iconst (v := (0 : Int32)) hx hb dX7_pathsNow_0 (by decide) ?_
  refine lv_istore_n (lv' := [(1, .int (0 : Int32)), (0, .ref (gm g 0))]) hx hb dX7_pathsNow_1 rfl hl (by decide) rfl (fun ls hl => ?_)
  refine lv_iconst (v := (0 : Int32)) hx hb dX7_pathsNow_2 (by decide) ?_
  refine lv_istore_n (lv' := [(2, .int (0 : Int32)), (1, .int (0 : Int32)), (0, .ref (gm g 0))]) hx hb dX7_pathsNow_3 rfl hl (by decide) rfl (fun ls hl => ?_)
  refine lp_run hf (fun s1 => ∀ (ls : Array Slot), lv_has ls 3 [(0, .ref (gm g 0)), (1, .int s1.1), (2, .int s1.2)] → W p l e (headSpec wsX7_pathsNow ({ frames := 1, cells := 0, slots := 0, locals := 21 })).room s m ([.ref (gm g 0)] : List Value).toArray below meth c s.heap [] 0 0 (MQ below (qS (some (.int res)) True) ([.ref (gm g 0)] : List Value).toArray s 0 0 (fun _ => False)) (F0 m 4 ls [])) (fun v2 => ∀ (ls : Array Slot), lv_has ls 3 [(1, .int v2.1)] → W p l e (headSpec wsX7_pathsNow ({ frames := 1, cells := 0, slots := 0, locals := 21 })).room s m ([.ref (gm g 0)] : List Value).toArray below meth c s.heap [] 0 0 (MQ below (qS (some (.int res)) True) ([.ref (gm g 0)] : List Value).toArray s 0 0 (fun _ => False)) (F0 m 32 ls [])) ?_ ?_ _ (lv_sub hl [2, 1, 0] rfl)
  · intro v2 hf ls hl
    refine lv_iload_n hx hb dX7_pathsNow_32 rfl (lv_at hl 0 rfl) ?_
    have hres : v2.1 = res := (Option.some.inj hf)
    exact W.iret (v := v2.1) hx hb hr (fun t ht hW => ⟨congrArg (fun z => Outcome.returned (some (Value.int z))) hres, trivial, ht⟩) t_nil dX7_pathsNow_33
  · intro s1 r1 hf hback1 hexit1 ls hl
    refine lv_iload_n hx hb dX7_pathsNow_4 rfl (lv_at hl 2 rfl) ?_
    refine lv_bipush (v := (36 : Int32)) hx hb dX7_pathsNow_5 (by decide) ?_
    refine lv_icmp_ge (tgt := 32) hx hb dX7_pathsNow_7 (by decide) (fun hc3 => ?_) (fun hc3 => ?_)
    · have hf := (if_pos hc3).symm.trans hf
      exact hexit1 (s1.1, s1.2) (Option.some.inj hf).symm ls (lv_sub hl [1] rfl)
    · have hf := (if_neg hc3).symm.trans hf
      refine lv_iload_n hx hb dX7_pathsNow_10 rfl (lv_at hl 1 rfl) ?_
      refine lv_aload_n hx hb dX7_pathsNow_11 rfl (lv_at hl 0 rfl) ?_
      refine lv_iload_n hx hb dX7_pathsNow_12 rfl (lv_at hl 2 rfl) ?_
      obtain ⟨q4, hq4, hf⟩ := bd_some hf
      refine kr_S (st1 := [.int q4, .int s1.1]) (va_runV (As := [.int s1.2]) (rest := [.int s1.1]) ⟨hx, hb, hml, hown, hts⟩ (ct_X7_hasPath l n g m_now m_kept m_aside m_isKept m_found m_steps m_queue m_lives m_treads m_tape m_taped m_begins m_ends m_sort m_value m_isWrong m_items m_itemMany m_seedThen m_groundThen m_widths m_sizes m_numbers m_moved s1.2 q4 hq4) (cwV 1 hts gX7_pathsNow_X7_hasPath rfl rfl rfl hd_X7_hasPath ⟨Nat.le_of_ble_eq_true rfl, Nat.le_of_ble_eq_true rfl⟩) ⟨bl_M, va_recv hK hP (ci := 5) (q0 := 0) rfl k_md, pr_M rfl hB hP hS⟩ rfl rfl hl.1 rfl (lv_room (Nat.le_of_ble_eq_true rfl)) dX7_pathsNow_13 ⟨Nat.le_refl _, Nat.le_refl _⟩) rfl (fun hn5 => ?_)
      refine lv_if_eq (tgt := 23) hx hb dX7_pathsNow_16 (by decide) (fun hc6 => ?_) (fun hc6 => ?_)
      · have hf := (if_pos hc6).symm.trans hf
        refine lv_iconst (v := (0 : Int32)) hx hb dX7_pathsNow_23 (by decide) ?_
        refine lv_iadd hx hb dX7_pathsNow_24 ?_
        refine lv_istore_n (lv' := [(1, .int (s1.1 + (0 : Int32))), (0, .ref (gm g 0)), (2, .int s1.2)]) hx hb dX7_pathsNow_25 rfl hl (by decide) rfl (fun ls hl => ?_)
        refine lv_iinc (v := (s1.2 + (1 : Int32))) (lv' := [(2, .int (s1.2 + (1 : Int32))), (1, .int (s1.1 + (0 : Int32))), (0, .ref (gm g 0))]) hx hb dX7_pathsNow_26 hl (k := 2) rfl (congrArg (fun y => s1.2 + y) (by decide : Int32.ofInt (1) = (1 : Int32))) (by decide) rfl (fun ls hl => ?_)
        refine lv_goto (tgt := 4) hx hb dX7_pathsNow_29 (by decide) ?_
        exact hback1 _ (Option.some.inj hf).symm ls (lv_sub hl [2, 1, 0] rfl)
      · have hf := (if_neg hc6).symm.trans hf
        refine lv_iconst (v := (1 : Int32)) hx hb dX7_pathsNow_19 (by decide) ?_
        refine lv_goto (tgt := 24) hx hb dX7_pathsNow_20 (by decide) ?_
        refine lv_iadd hx hb dX7_pathsNow_24 ?_
        refine lv_istore_n (lv' := [(1, .int (s1.1 + (1 : Int32))), (0, .ref (gm g 0)), (2, .int s1.2)]) hx hb dX7_pathsNow_25 rfl hl (by decide) rfl (fun ls hl => ?_)
        refine lv_iinc (v := (s1.2 + (1 : Int32))) (lv' := [(2, .int (s1.2 + (1 : Int32))), (1, .int (s1.1 + (1 : Int32))), (0, .ref (gm g 0))]) hx hb dX7_pathsNow_26 hl (k := 2) rfl (congrArg (fun y => s1.2 + y) (by decide : Int32.ofInt (1) = (1 : Int32))) (by decide) rfl (fun ls hl => ?_)
        refine lv_goto (tgt := 4) hx hb dX7_pathsNow_29 (by decide) ?_
        exact hback1 _ (Option.some.inj hf).symm ls (lv_sub hl [2, 1, 0] rfl)
set_option maxHeartbeats 4000000 in
set_option maxRecDepth 100000 in
theorem ct_X7_pathSum (l : Launch) (n : Nat) (g : GM) (m_now : Nat → Int32) (m_kept : Nat → Int32) (m_aside : Nat → Int32) (m_isKept : Int32) (m_found : Nat → Int32) (m_steps : Nat → Int32) (m_queue : Nat → Int32) (m_lives : Nat → Int32) (m_treads : Nat → Int32) (m_tape : Nat → Int32) (m_taped : Int32) (m_begins : Int32) (m_ends : Int32) (m_sort : Int32) (m_value : Int32) (m_isWrong : Int32) (m_items : Nat → Int32) (m_itemMany : Int32) (m_seedThen : Int32) (m_groundThen : Nat → Int32) (m_widths : Nat → Int32) (m_sizes : Nat → Int32) (m_numbers : Nat → Int32) (m_moved : Nat → Int32) (res : Int32) (hf : fX7_pathSum n m_now = some res) : Met l yX7_pathSum wsX7_pathSum ({ frames := 0, cells := 0, slots := 0, locals := 0 }) (va_Pc [.ref (gm g 0)] (mI g (m_now, m_kept, m_aside, m_isKept, m_found, m_steps, m_queue, m_lives, m_treads, m_tape, m_taped, m_begins, m_ends, m_sort, m_value, m_isWrong, m_items, m_itemMany, m_seedThen, m_groundThen, m_widths, m_sizes, m_numbers, m_moved))) (qS (some (.int res)) True) 0 0 (fun _ => False) := by
  refine Met.ofW (cc := cX7_pathSum) (maxL := 3) (ret := (some .int)) (by decide) rfl ?_
  intro p e s m args below meth c s₁ B hml hv
  obtain ⟨rfl, hI⟩ := hv
  have hx := B.exec
  have hb := B.bytes
  have hr := B.returns
  have hts := atoms_spec (ws := wsX7_pathSum) B.pre
  have hown : s.vm.findClass RX7 = some m.cls := findClass_of_methodNamed B.named
  have hlocks := B.notSynchronized
  have hP := hI.1
  have hB := hI.2
  have hK := hB.1
  have hNW := hB.2.1
  have hS : va_S (mA g) s.heap s.heap [] := va_S.rf
  have hw0 := hts (.fieldLink RX7 9 "SownPathsModel" "now" "[I") (by decide +kernel)
  have iwX7 : ∀ w ∈ wsX70, w ∈ wsX7_pathSum := fun w h => List.mem_cons_of_mem _ (List.mem_append_right _ h)
  have hl := lv_entry ([.ref (gm g 0)]) (n := 3) (Nat.le_of_ble_eq_true rfl)
  rw [lg_entry_eq]
  generalize (lg_sl ([.ref (gm g 0)]) ++ List.replicate (3 - (lg_sl ([.ref (gm g 0)])).length) Slot.unset).toArray = ls at hl ⊢
  have hl : lv_has ls 3 [(0, .ref (gm g 0))] := hl
  unfold fX7_pathSum at hf
  refine lv_iconst (v := (0 : Int32)) hx hb dX7_pathSum_0 (by decide) ?_
  refine lv_istore_n (lv' := [(1, .int (0 : Int32)), (0, .ref (gm g 0))]) hx hb dX7_pathSum_1 rfl hl (by decide) rfl (fun ls hl => ?_)
  refine lv_iconst (v := (0 : Int32)) hx hb dX7_pathSum_2 (by decide) ?_
  refine lv_istore_n (lv' := [(2, .int (0 : Int32)), (1, .int (0 : Int32)), (0, .ref (gm g 0))]) hx hb dX7_pathSum_3 rfl hl (by decide) rfl (fun ls hl => ?_)
  refine lp_run hf (fun s1 => ∀ (ls : Array Slot), lv_has ls 3 [(0, .ref (gm g 0)), (1, .int s1.1), (2, .int s1.2)] → W p l e (headSpec wsX7_pathSum ({ frames := 0, cells := 0, slots := 0, locals := 0 })).room s m ([.ref (gm g 0)] : List Value).toArray below meth c s.heap [] 0 0 (MQ below (qS (some (.int res)) True) ([.ref (gm g 0)] : List Value).toArray s 0 0 (fun _ => False)) (F0 m 4 ls [])) (fun v2 => ∀ (ls : Array Slot), lv_has ls 3 [(1, .int v2.1)] → W p l e (headSpec wsX7_pathSum ({ frames := 0, cells := 0, slots := 0, locals := 0 })).room s m ([.ref (gm g 0)] : List Value).toArray below meth c s.heap [] 0 0 (MQ below (qS (some (.int res)) True) ([.ref (gm g 0)] : List Value).toArray s 0 0 (fun _ => False)) (F0 m 28 ls [])) ?_ ?_ _ (lv_sub hl [2, 1, 0] rfl)
  · intro v2 hf ls hl
    refine lv_iload_n hx hb dX7_pathSum_28 rfl (lv_at hl 0 rfl) ?_
    have hres : v2.1 = res := (Option.some.inj hf)
    exact W.iret (v := v2.1) hx hb hr (fun t ht hW => ⟨congrArg (fun z => Outcome.returned (some (Value.int z))) hres, trivial, ht⟩) t_nil dX7_pathSum_29
  · intro s1 r1 hf hback1 hexit1 ls hl
    refine lv_iload_n hx hb dX7_pathSum_4 rfl (lv_at hl 2 rfl) ?_
    refine lv_bipush (v := (36 : Int32)) hx hb dX7_pathSum_5 (by decide) ?_
    refine lv_icmp_ge (tgt := 28) hx hb dX7_pathSum_7 (by decide) (fun hc3 => ?_) (fun hc3 => ?_)
    · have hf := (if_pos hc3).symm.trans hf
      exact hexit1 (s1.1, s1.2) (Option.some.inj hf).symm ls (lv_sub hl [1] rfl)
    · have hf := (if_neg hc3).symm.trans hf
      refine lv_iload_n hx hb dX7_pathSum_10 rfl (lv_at hl 1 rfl) ?_
      refine lv_aload_n hx hb dX7_pathSum_11 rfl (lv_at hl 0 rfl) ?_
      refine va_get (D := g.1) (ci := 5) (v := .ref (gm g 1)) (C := RX7) (T := TX7) (N := 27) hx hb hts iwX7 hown hK hP 0 k_md rfl 0 (by decide) hw0 (fun _ h9 => h9) rfl dX7_pathSum_12 ?_
      refine lv_bipush (v := (49 : Int32)) hx hb dX7_pathSum_15 (by decide) ?_
      refine lv_iload_n hx hb dX7_pathSum_17 rfl (lv_at hl 2 rfl) ?_
      refine lv_iadd hx hb dX7_pathSum_18 ?_
      obtain ⟨hg4, hf⟩ := gd_some hf
      refine va_iald (f := m_now) hx hb hK hP 1 0 k_now rfl hg4 dX7_pathSum_19 ?_
      refine lv_iadd hx hb dX7_pathSum_20 ?_
      refine lv_istore_n (lv' := [(1, .int (s1.1 + (m_now ((49 : Int32) + s1.2).toNatClampNeg))), (0, .ref (gm g 0)), (2, .int s1.2)]) hx hb dX7_pathSum_21 rfl hl (by decide) rfl (fun ls hl => ?_)
      refine lv_iinc (v := (s1.2 + (1 : Int32))) (lv' := [(2, .int (s1.2 + (1 : Int32))), (1, .int (s1.1 + (m_now ((49 : Int32) + s1.2).toNatClampNeg))), (0, .ref (gm g 0))]) hx hb dX7_pathSum_22 hl (k := 2) rfl (congrArg (fun y => s1.2 + y) (by decide : Int32.ofInt (1) = (1 : Int32))) (by decide) rfl (fun ls hl => ?_)
      refine lv_goto (tgt := 4) hx hb dX7_pathSum_25 (by decide) ?_
      exact hback1 _ (Option.some.inj hf).symm ls (lv_sub hl [2, 1, 0] rfl)
