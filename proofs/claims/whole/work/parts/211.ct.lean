/-! CONTRACTS, by program -/
set_option maxHeartbeats 4000000 in
set_option maxRecDepth 100000 in
theorem ct_X7_aliveNow (l : Launch) (n : Nat) (g : GM) (m_now : Nat → Int32) (m_kept : Nat → Int32) (m_aside : Nat → Int32) (m_isKept : Int32) (m_found : Nat → Int32) (m_steps : Nat → Int32) (m_queue : Nat → Int32) (m_lives : Nat → Int32) (m_treads : Nat → Int32) (m_tape : Nat → Int32) (m_taped : Int32) (m_begins : Int32) (m_ends : Int32) (m_sort : Int32) (m_value : Int32) (m_isWrong : Int32) (m_items : Nat → Int32) (m_itemMany : Int32) (m_seedThen : Int32) (m_groundThen : Nat → Int32) (m_widths : Nat → Int32) (m_sizes : Nat → Int32) (m_numbers : Nat → Int32) (m_moved : Nat → Int32) (res : Int32) (hf : fX7_aliveNow n m_now m_lives = some res) : Met l yX7_aliveNow wsX7_aliveNow ({ frames := 3, cells := 0, slots := 0, locals := 64 }) (va_Pc [.ref (gm g 0)] (mI g (m_now, m_kept, m_aside, m_isKept, m_found, m_steps, m_queue, m_lives, m_treads, m_tape, m_taped, m_begins, m_ends, m_sort, m_value, m_isWrong, m_items, m_itemMany, m_seedThen, m_groundThen, m_widths, m_sizes, m_numbers, m_moved))) (qS (some (.int res)) True) 0 0 (fun _ => False) := by
  refine Met.ofW (cc := cX7_aliveNow) (maxL := 3) (ret := (some .int)) (by decide) rfl ?_
  intro p e s m args below meth c s₁ B hml hv
  obtain ⟨rfl, hI⟩ := hv
  have hx := B.exec
  have hb := B.bytes
  have hr := B.returns
  have hts := atoms_spec (ws := wsX7_aliveNow) B.pre
  have hown : s.vm.findClass RX7 = some m.cls := findClass_of_methodNamed B.named
  have hlocks := B.notSynchronized
  have hP := hI.1
  have hB := hI.2
  have hK := hB.1
  have hNW := hB.2.1
  have hS : va_S (mA g) s.heap s.heap [] := va_S.rf
  have hw0 := hts (.fieldLink RX7 9 "SownPathsModel" "now" "[I") (by decide +kernel)
  have iwX7 : ∀ w ∈ wsX70, w ∈ wsX7_aliveNow := fun w h => List.mem_cons_of_mem _ (List.mem_append_right _ h)
  have hl := lv_entry ([.ref (gm g 0)]) (n := 3) (Nat.le_of_ble_eq_true rfl)
  rw [lg_entry_eq]
  generalize (lg_sl ([.ref (gm g 0)]) ++ List.replicate (3 - (lg_sl ([.ref (gm g 0)])).length) Slot.unset).toArray = ls at hl ⊢
  have hl : lv_has ls 3 [(0, .ref (gm g 0))] := hl
  unfold fX7_aliveNow at hf
  refine lv_iconst (v := (0 : Int32)) hx hb dX7_aliveNow_0 (by decide) ?_
  refine lv_istore_n (lv' := [(1, .int (0 : Int32)), (0, .ref (gm g 0))]) hx hb dX7_aliveNow_1 rfl hl (by decide) rfl (fun ls hl => ?_)
  refine lv_iconst (v := (0 : Int32)) hx hb dX7_aliveNow_2 (by decide) ?_
  refine lv_istore_n (lv' := [(2, .int (0 : Int32)), (1, .int (0 : Int32)), (0, .ref (gm g 0))]) hx hb dX7_aliveNow_3 rfl hl (by decide) rfl (fun ls hl => ?_)
  refine lp_run hf (fun s1 => ∀ (ls : Array Slot), lv_has ls 3 [(0, .ref (gm g 0)), (1, .int s1.1), (2, .int s1.2)] → W p l e (headSpec wsX7_aliveNow ({ frames := 3, cells := 0, slots := 0, locals := 64 })).room s m ([.ref (gm g 0)] : List Value).toArray below meth c s.heap [] 0 0 (MQ below (qS (some (.int res)) True) ([.ref (gm g 0)] : List Value).toArray s 0 0 (fun _ => False)) (F0 m 4 ls [])) (fun v2 => ∀ (ls : Array Slot), lv_has ls 3 [(1, .int v2.1)] → W p l e (headSpec wsX7_aliveNow ({ frames := 3, cells := 0, slots := 0, locals := 64 })).room s m ([.ref (gm g 0)] : List Value).toArray below meth c s.heap [] 0 0 (MQ below (qS (some (.int res)) True) ([.ref (gm g 0)] : List Value).toArray s 0 0 (fun _ => False)) (F0 m 38 ls [])) ?_ ?_ _ (lv_sub hl [2, 1, 0] rfl)
  · intro v2 hf ls hl
    refine lv_iload_n hx hb dX7_aliveNow_38 rfl (lv_at hl 0 rfl) ?_
    have hres : v2.1 = res := (Option.some.inj hf)
    exact W.iret (v := v2.1) hx hb hr (fun t ht hW => ⟨congrArg (fun z => Outcome.returned (some (Value.int z))) hres, trivial, ht⟩) t_nil dX7_aliveNow_39
  · intro s1 r1 hf hback1 hexit1 ls hl
    refine lv_iload_n hx hb dX7_aliveNow_4 rfl (lv_at hl 2 rfl) ?_
    refine lv_aload_n hx hb dX7_aliveNow_5 rfl (lv_at hl 0 rfl) ?_
    refine va_get (D := g.1) (ci := 5) (v := .ref (gm g 1)) (C := RX7) (T := TX7) (N := 27) hx hb hts iwX7 hown hK hP 0 k_md rfl 0 (by decide) hw0 (fun _ h9 => h9) rfl dX7_aliveNow_6 ?_
    refine lv_iconst (v := (1 : Int32)) hx hb dX7_aliveNow_9 (by decide) ?_
    refine va_iald (f := m_now) hx hb hK hP 1 0 k_now rfl (vi_lit (by decide)) dX7_aliveNow_10 ?_
    refine lv_icmp_ge (tgt := 38) hx hb dX7_aliveNow_11 (by decide) (fun hc3 => ?_) (fun hc3 => ?_)
    · have hf := (if_pos hc3).symm.trans hf
      exact hexit1 (s1.1, s1.2) (Option.some.inj hf).symm ls (lv_sub hl [1] rfl)
    · have hf := (if_neg hc3).symm.trans hf
      refine lv_iload_n hx hb dX7_aliveNow_14 rfl (lv_at hl 1 rfl) ?_
      refine lv_aload_n hx hb dX7_aliveNow_15 rfl (lv_at hl 0 rfl) ?_
      refine lv_iload_n hx hb dX7_aliveNow_16 rfl (lv_at hl 2 rfl) ?_
      obtain ⟨q4, hq4, hf⟩ := bd_some hf
      refine kr_S (st1 := [.int q4, .int s1.1]) (va_runV (As := [.int s1.2]) (rest := [.int s1.1]) ⟨hx, hb, hml, hown, hts⟩ (ct_X7_isAlive l n g m_now m_kept m_aside m_isKept m_found m_steps m_queue m_lives m_treads m_tape m_taped m_begins m_ends m_sort m_value m_isWrong m_items m_itemMany m_seedThen m_groundThen m_widths m_sizes m_numbers m_moved s1.2 q4 hq4) (cwV 1 hts gX7_aliveNow_X7_isAlive rfl rfl rfl hd_X7_isAlive ⟨Nat.le_of_ble_eq_true rfl, Nat.le_of_ble_eq_true rfl⟩) ⟨bl_M, va_recv hK hP (ci := 5) (q0 := 0) rfl k_md, pr_M rfl hB hP hS⟩ rfl rfl hl.1 rfl (lv_room (Nat.le_of_ble_eq_true rfl)) dX7_aliveNow_17 ⟨Nat.le_refl _, Nat.le_refl _⟩) rfl (fun hn5 => ?_)
      refine lv_if_eq (tgt := 29) hx hb dX7_aliveNow_20 (by decide) (fun hc6 => ?_) (fun hc6 => ?_)
      · have hf := (if_pos hc6).symm.trans hf
        refine lv_iconst (v := (0 : Int32)) hx hb dX7_aliveNow_29 (by decide) ?_
        refine lv_ior hx hb dX7_aliveNow_30 ?_
        refine lv_istore_n (lv' := [(1, .int (s1.1 ||| (0 : Int32))), (0, .ref (gm g 0)), (2, .int s1.2)]) hx hb dX7_aliveNow_31 rfl hl (by decide) rfl (fun ls hl => ?_)
        refine lv_iinc (v := (s1.2 + (1 : Int32))) (lv' := [(2, .int (s1.2 + (1 : Int32))), (1, .int (s1.1 ||| (0 : Int32))), (0, .ref (gm g 0))]) hx hb dX7_aliveNow_32 hl (k := 2) rfl (congrArg (fun y => s1.2 + y) (by decide : Int32.ofInt (1) = (1 : Int32))) (by decide) rfl (fun ls hl => ?_)
        refine lv_goto (tgt := 4) hx hb dX7_aliveNow_35 (by decide) ?_
        exact hback1 _ (Option.some.inj hf).symm ls (lv_sub hl [2, 1, 0] rfl)
      · have hf := (if_neg hc6).symm.trans hf
        refine lv_iconst (v := (1 : Int32)) hx hb dX7_aliveNow_23 (by decide) ?_
        refine lv_iload_n hx hb dX7_aliveNow_24 rfl (lv_at hl 2 rfl) ?_
        refine lv_ishl hx hb dX7_aliveNow_25 ?_
        refine lv_goto (tgt := 30) hx hb dX7_aliveNow_26 (by decide) ?_
        refine lv_ior hx hb dX7_aliveNow_30 ?_
        refine lv_istore_n (lv' := [(1, .int (s1.1 ||| ((1 : Int32) <<< (s1.2 &&& 31)))), (0, .ref (gm g 0)), (2, .int s1.2)]) hx hb dX7_aliveNow_31 rfl hl (by decide) rfl (fun ls hl => ?_)
        refine lv_iinc (v := (s1.2 + (1 : Int32))) (lv' := [(2, .int (s1.2 + (1 : Int32))), (1, .int (s1.1 ||| ((1 : Int32) <<< (s1.2 &&& 31)))), (0, .ref (gm g 0))]) hx hb dX7_aliveNow_32 hl (k := 2) rfl (congrArg (fun y => s1.2 + y) (by decide : Int32.ofInt (1) = (1 : Int32))) (by decide) rfl (fun ls hl => ?_)
        refine lv_goto (tgt := 4) hx hb dX7_aliveNow_35 (by decide) ?_
        exact hback1 _ (Option.some.inj hf).symm ls (lv_sub hl [2, 1, 0] rfl)
set_option maxHeartbeats 4000000 in
set_option maxRecDepth 100000 in
theorem ct_X7_isBench (l : Launch) (n : Nat) (g : GM) (m_now : Nat → Int32) (m_kept : Nat → Int32) (m_aside : Nat → Int32) (m_isKept : Int32) (m_found : Nat → Int32) (m_steps : Nat → Int32) (m_queue : Nat → Int32) (m_lives : Nat → Int32) (m_treads : Nat → Int32) (m_tape : Nat → Int32) (m_taped : Int32) (m_begins : Int32) (m_ends : Int32) (m_sort : Int32) (m_value : Int32) (m_isWrong : Int32) (m_items : Nat → Int32) (m_itemMany : Int32) (m_seedThen : Int32) (m_groundThen : Nat → Int32) (m_widths : Nat → Int32) (m_sizes : Nat → Int32) (m_numbers : Nat → Int32) (m_moved : Nat → Int32) (a1 : Int32) (res : Int32) (hf : fX7_isBench n a1 m_now = some res) : Met l yX7_isBench wsX7_isBench ({ frames := 2, cells := 0, slots := 0, locals := 44 }) (va_Pc [.ref (gm g 0), .int a1] (mI g (m_now, m_kept, m_aside, m_isKept, m_found, m_steps, m_queue, m_lives, m_treads, m_tape, m_taped, m_begins, m_ends, m_sort, m_value, m_isWrong, m_items, m_itemMany, m_seedThen, m_groundThen, m_widths, m_sizes, m_numbers, m_moved))) (qS (some (.int res)) (narrow .boolean (.int res) = .int res)) 0 0 (fun _ => False) := by
  refine Met.ofW (cc := cX7_isBench) (maxL := 2) (ret := (some .boolean)) (by decide) rfl ?_
  intro p e s m args below meth c s₁ B hml hv
  obtain ⟨rfl, hI⟩ := hv
  have hx := B.exec
  have hb := B.bytes
  have hr := B.returns
  have hts := atoms_spec (ws := wsX7_isBench) B.pre
  have hown : s.vm.findClass RX7 = some m.cls := findClass_of_methodNamed B.named
  have hlocks := B.notSynchronized
  have hP := hI.1
  have hB := hI.2
  have hK := hB.1
  have hNW := hB.2.1
  have hS : va_S (mA g) s.heap s.heap [] := va_S.rf
  have hl := lv_entry ([.ref (gm g 0), .int a1]) (n := 2) (Nat.le_of_ble_eq_true rfl)
  rw [lg_entry_eq]
  generalize (lg_sl ([.ref (gm g 0), .int a1]) ++ List.replicate (2 - (lg_sl ([.ref (gm g 0), .int a1])).length) Slot.unset).toArray = ls at hl ⊢
  have hl : lv_has ls 2 [(0, .ref (gm g 0)), (1, .int a1)] := hl
  unfold fX7_isBench at hf
  refine lv_aload_n hx hb dX7_isBench_0 rfl (lv_at hl 0 rfl) ?_
  refine lv_iload_n hx hb dX7_isBench_1 rfl (lv_at hl 1 rfl) ?_
  obtain ⟨q1, hq1, hf⟩ := bd_some hf
  refine kr_S (st1 := [.int q1]) (va_runV (As := [.int a1]) (rest := []) ⟨hx, hb, hml, hown, hts⟩ (ct_X7_hasPath l n g m_now m_kept m_aside m_isKept m_found m_steps m_queue m_lives m_treads m_tape m_taped m_begins m_ends m_sort m_value m_isWrong m_items m_itemMany m_seedThen m_groundThen m_widths m_sizes m_numbers m_moved a1 q1 hq1) (cwV 1 hts gX7_isBench_X7_hasPath rfl rfl rfl hd_X7_hasPath ⟨Nat.le_of_ble_eq_true rfl, Nat.le_of_ble_eq_true rfl⟩) ⟨bl_M, va_recv hK hP (ci := 5) (q0 := 0) rfl k_md, pr_M rfl hB hP hS⟩ rfl rfl hl.1 rfl (lv_room (Nat.le_of_ble_eq_true rfl)) dX7_isBench_2 ⟨Nat.le_refl _, Nat.le_refl _⟩) rfl (fun hn2 => ?_)
  refine lv_if_eq (tgt := 21) hx hb dX7_isBench_5 (by decide) (fun hc3 => ?_) (fun hc3 => ?_)
  · have hf := (if_pos hc3).symm.trans hf
    refine lv_iconst (v := (0 : Int32)) hx hb dX7_isBench_21 (by decide) ?_
    have hres : (0 : Int32) = res := (Option.some.inj hf)
    have hnr : narrow .boolean (.int (0 : Int32)) = .int (0 : Int32) := rfl
    exact W.zret (v := (0 : Int32)) hx hb hr hnr (fun t ht hW => ⟨congrArg (fun z => Outcome.returned (some (Value.int z))) hres, Eq.mp (congrArg (fun z => narrow .boolean (.int z) = .int z) hres) hnr, ht⟩) t_nil dX7_isBench_22
  · have hf := (if_neg hc3).symm.trans hf
    refine lv_aload_n hx hb dX7_isBench_8 rfl (lv_at hl 0 rfl) ?_
    refine lv_iload_n hx hb dX7_isBench_9 rfl (lv_at hl 1 rfl) ?_
    obtain ⟨q4, hq4, hf⟩ := bd_some hf
    refine kr_S (st1 := [.int q4]) (va_runV (As := [.int a1]) (rest := []) ⟨hx, hb, hml, hown, hts⟩ (ct_X7_pathsBeside l n g m_now m_kept m_aside m_isKept m_found m_steps m_queue m_lives m_treads m_tape m_taped m_begins m_ends m_sort m_value m_isWrong m_items m_itemMany m_seedThen m_groundThen m_widths m_sizes m_numbers m_moved a1 q4 hq4) (cwV 1 hts gX7_isBench_X7_pathsBeside rfl rfl rfl hd_X7_pathsBeside ⟨Nat.le_of_ble_eq_true rfl, Nat.le_of_ble_eq_true rfl⟩) ⟨bl_M, va_recv hK hP (ci := 5) (q0 := 0) rfl k_md, pr_M rfl hB hP hS⟩ rfl rfl hl.1 rfl (lv_room (Nat.le_of_ble_eq_true rfl)) dX7_isBench_10 ⟨Nat.le_refl _, Nat.le_refl _⟩) rfl (fun hn5 => ?_)
    refine lv_iconst (v := (2 : Int32)) hx hb dX7_isBench_13 (by decide) ?_
    refine lv_icmp_le (tgt := 21) hx hb dX7_isBench_14 (by decide) (fun hc6 => ?_) (fun hc6 => ?_)
    · have hf := (if_pos hc6).symm.trans hf
      refine lv_iconst (v := (0 : Int32)) hx hb dX7_isBench_21 (by decide) ?_
      have hres : (0 : Int32) = res := (Option.some.inj hf)
      have hnr : narrow .boolean (.int (0 : Int32)) = .int (0 : Int32) := rfl
      exact W.zret (v := (0 : Int32)) hx hb hr hnr (fun t ht hW => ⟨congrArg (fun z => Outcome.returned (some (Value.int z))) hres, Eq.mp (congrArg (fun z => narrow .boolean (.int z) = .int z) hres) hnr, ht⟩) t_nil dX7_isBench_22
    · have hf := (if_neg hc6).symm.trans hf
      refine lv_iconst (v := (1 : Int32)) hx hb dX7_isBench_17 (by decide) ?_
      refine lv_goto (tgt := 22) hx hb dX7_isBench_18 (by decide) ?_
      have hres : (1 : Int32) = res := (Option.some.inj hf)
      have hnr : narrow .boolean (.int (1 : Int32)) = .int (1 : Int32) := rfl
      exact W.zret (v := (1 : Int32)) hx hb hr hnr (fun t ht hW => ⟨congrArg (fun z => Outcome.returned (some (Value.int z))) hres, Eq.mp (congrArg (fun z => narrow .boolean (.int z) = .int z) hres) hnr, ht⟩) t_nil dX7_isBench_22
set_option maxHeartbeats 4000000 in
set_option maxRecDepth 100000 in
theorem ct_X7_benches (l : Launch) (n : Nat) (g : GM) (m_now : Nat → Int32) (m_kept : Nat → Int32) (m_aside : Nat → Int32) (m_isKept : Int32) (m_found : Nat → Int32) (m_steps : Nat → Int32) (m_queue : Nat → Int32) (m_lives : Nat → Int32) (m_treads : Nat → Int32) (m_tape : Nat → Int32) (m_taped : Int32) (m_begins : Int32) (m_ends : Int32) (m_sort : Int32) (m_value : Int32) (m_isWrong : Int32) (m_items : Nat → Int32) (m_itemMany : Int32) (m_seedThen : Int32) (m_groundThen : Nat → Int32) (m_widths : Nat → Int32) (m_sizes : Nat → Int32) (m_numbers : Nat → Int32) (m_moved : Nat → Int32) (res : Int32) (hf : fX7_benches n m_now = some res) : Met l yX7_benches wsX7_benches ({ frames := 3, cells := 0, slots := 0, locals := 65 }) (va_Pc [.ref (gm g 0)] (mI g (m_now, m_kept, m_aside, m_isKept, m_found, m_steps, m_queue, m_lives, m_treads, m_tape, m_taped, m_begins, m_ends, m_sort, m_value, m_isWrong, m_items, m_itemMany, m_seedThen, m_groundThen, m_widths, m_sizes, m_numbers, m_moved))) (qS (some (.int res)) True) 0 0 (fun _ => False) := by
  refine Met.ofW (cc := cX7_benches) (maxL := 3) (ret := (some .int)) (by decide) rfl ?_
  intro p e s m args below meth c s₁ B hml hv
  obtain ⟨rfl, hI⟩ := hv
  have hx := B.exec
  have hb := B.bytes
  have hr := B.returns
  have hts := atoms_spec (ws := wsX7_benches) B.pre
  have hown : s.vm.findClass RX7 = some m.cls := findClass_of_methodNamed B.named
  have hlocks := B.notSynchronized
  have hP := hI.1
  have hB := hI.2
  have hK := hB.1
  have hNW := hB.2.1
  have hS : va_S (mA g) s.heap s.heap [] := va_S.rf
  have hl := lv_entry ([.ref (gm g 0)]) (n := 3) (Nat.le_of_ble_eq_true rfl)
  rw [lg_entry_eq]
  generalize (lg_sl ([.ref (gm g 0)]) ++ List.replicate (3 - (lg_sl ([.ref (gm g 0)])).length) Slot.unset).toArray = ls at hl ⊢
  have hl : lv_has ls 3 [(0, .ref (gm g 0))] := hl
  unfold fX7_benches at hf
  refine lv_iconst (v := (0 : Int32)) hx hb dX7_benches_0 (by decide) ?_
  refine lv_istore_n (lv' := [(1, .int (0 : Int32)), (0, .ref (gm g 0))]) hx hb dX7_benches_1 rfl hl (by decide) rfl (fun ls hl => ?_)
  refine lv_iconst (v := (0 : Int32)) hx hb dX7_benches_2 (by decide) ?_
  refine lv_istore_n (lv' := [(2, .int (0 : Int32)), (1, .int (0 : Int32)), (0, .ref (gm g 0))]) hx hb dX7_benches_3 rfl hl (by decide) rfl (fun ls hl => ?_)
  refine lp_run hf (fun s1 => ∀ (ls : Array Slot), lv_has ls 3 [(0, .ref (gm g 0)), (1, .int s1.1), (2, .int s1.2)] → W p l e (headSpec wsX7_benches ({ frames := 3, cells := 0, slots := 0, locals := 65 })).room s m ([.ref (gm g 0)] : List Value).toArray below meth c s.heap [] 0 0 (MQ below (qS (some (.int res)) True) ([.ref (gm g 0)] : List Value).toArray s 0 0 (fun _ => False)) (F0 m 4 ls [])) (fun v2 => ∀ (ls : Array Slot), lv_has ls 3 [(1, .int v2.1)] → W p l e (headSpec wsX7_benches ({ frames := 3, cells := 0, slots := 0, locals := 65 })).room s m ([.ref (gm g 0)] : List Value).toArray below meth c s.heap [] 0 0 (MQ below (qS (some (.int res)) True) ([.ref (gm g 0)] : List Value).toArray s 0 0 (fun _ => False)) (F0 m 32 ls [])) ?_ ?_ _ (lv_sub hl [2, 1, 0] rfl)
  · intro v2 hf ls hl
    refine lv_iload_n hx hb dX7_benches_32 rfl (lv_at hl 0 rfl) ?_
    have hres : v2.1 = res := (Option.some.inj hf)
    exact W.iret (v := v2.1) hx hb hr (fun t ht hW => ⟨congrArg (fun z => Outcome.returned (some (Value.int z))) hres, trivial, ht⟩) t_nil dX7_benches_33
  · intro s1 r1 hf hback1 hexit1 ls hl
    refine lv_iload_n hx hb dX7_benches_4 rfl (lv_at hl 2 rfl) ?_
    refine lv_bipush (v := (36 : Int32)) hx hb dX7_benches_5 (by decide) ?_
    refine lv_icmp_ge (tgt := 32) hx hb dX7_benches_7 (by decide) (fun hc3 => ?_) (fun hc3 => ?_)
    · have hf := (if_pos hc3).symm.trans hf
      exact hexit1 (s1.1, s1.2) (Option.some.inj hf).symm ls (lv_sub hl [1] rfl)
    · have hf := (if_neg hc3).symm.trans hf
      refine lv_iload_n hx hb dX7_benches_10 rfl (lv_at hl 1 rfl) ?_
      refine lv_aload_n hx hb dX7_benches_11 rfl (lv_at hl 0 rfl) ?_
      refine lv_iload_n hx hb dX7_benches_12 rfl (lv_at hl 2 rfl) ?_
      obtain ⟨q4, hq4, hf⟩ := bd_some hf
      refine kr_S (st1 := [.int q4, .int s1.1]) (va_runV (As := [.int s1.2]) (rest := [.int s1.1]) ⟨hx, hb, hml, hown, hts⟩ (ct_X7_isBench l n g m_now m_kept m_aside m_isKept m_found m_steps m_queue m_lives m_treads m_tape m_taped m_begins m_ends m_sort m_value m_isWrong m_items m_itemMany m_seedThen m_groundThen m_widths m_sizes m_numbers m_moved s1.2 q4 hq4) (cwV 1 hts gX7_benches_X7_isBench rfl rfl rfl hd_X7_isBench ⟨Nat.le_of_ble_eq_true rfl, Nat.le_of_ble_eq_true rfl⟩) ⟨bl_M, va_recv hK hP (ci := 5) (q0 := 0) rfl k_md, pr_M rfl hB hP hS⟩ rfl rfl hl.1 rfl (lv_room (Nat.le_of_ble_eq_true rfl)) dX7_benches_13 ⟨Nat.le_refl _, Nat.le_refl _⟩) rfl (fun hn5 => ?_)
      refine lv_if_eq (tgt := 23) hx hb dX7_benches_16 (by decide) (fun hc6 => ?_) (fun hc6 => ?_)
      · have hf := (if_pos hc6).symm.trans hf
        refine lv_iconst (v := (0 : Int32)) hx hb dX7_benches_23 (by decide) ?_
        refine lv_iadd hx hb dX7_benches_24 ?_
        refine lv_istore_n (lv' := [(1, .int (s1.1 + (0 : Int32))), (0, .ref (gm g 0)), (2, .int s1.2)]) hx hb dX7_benches_25 rfl hl (by decide) rfl (fun ls hl => ?_)
        refine lv_iinc (v := (s1.2 + (1 : Int32))) (lv' := [(2, .int (s1.2 + (1 : Int32))), (1, .int (s1.1 + (0 : Int32))), (0, .ref (gm g 0))]) hx hb dX7_benches_26 hl (k := 2) rfl (congrArg (fun y => s1.2 + y) (by decide : Int32.ofInt (1) = (1 : Int32))) (by decide) rfl (fun ls hl => ?_)
        refine lv_goto (tgt := 4) hx hb dX7_benches_29 (by decide) ?_
        exact hback1 _ (Option.some.inj hf).symm ls (lv_sub hl [2, 1, 0] rfl)
      · have hf := (if_neg hc6).symm.trans hf
        refine lv_iconst (v := (1 : Int32)) hx hb dX7_benches_19 (by decide) ?_
        refine lv_goto (tgt := 24) hx hb dX7_benches_20 (by decide) ?_
        refine lv_iadd hx hb dX7_benches_24 ?_
        refine lv_istore_n (lv' := [(1, .int (s1.1 + (1 : Int32))), (0, .ref (gm g 0)), (2, .int s1.2)]) hx hb dX7_benches_25 rfl hl (by decide) rfl (fun ls hl => ?_)
        refine lv_iinc (v := (s1.2 + (1 : Int32))) (lv' := [(2, .int (s1.2 + (1 : Int32))), (1, .int (s1.1 + (1 : Int32))), (0, .ref (gm g 0))]) hx hb dX7_benches_26 hl (k := 2) rfl (congrArg (fun y => s1.2 + y) (by decide : Int32.ofInt (1) = (1 : Int32))) (by decide) rfl (fun ls hl => ?_)
        refine lv_goto (tgt := 4) hx hb dX7_benches_29 (by decide) ?_
        exact hback1 _ (Option.some.inj hf).symm ls (lv_sub hl [2, 1, 0] rfl)
set_option maxHeartbeats 4000000 in
set_option maxRecDepth 100000 in
theorem ct_X7_go (l : Launch) (n : Nat) (g : GM) (m_now : Nat → Int32) (m_kept : Nat → Int32) (m_aside : Nat → Int32) (m_isKept : Int32) (m_found : Nat → Int32) (m_steps : Nat → Int32) (m_queue : Nat → Int32) (m_lives : Nat → Int32) (m_treads : Nat → Int32) (m_tape : Nat → Int32) (m_taped : Int32) (m_begins : Int32) (m_ends : Int32) (m_sort : Int32) (m_value : Int32) (m_isWrong : Int32) (m_items : Nat → Int32) (m_itemMany : Int32) (m_seedThen : Int32) (m_groundThen : Nat → Int32) (m_widths : Nat → Int32) (m_sizes : Nat → Int32) (m_numbers : Nat → Int32) (m_moved : Nat → Int32) (a1 : Int32) (res : Int32 × (Nat → Int32) × (Nat → Int32)) (hf : fX7_go n a1 m_now m_found m_lives m_treads = some res) : Met l yX7_go wsX7_go ({ frames := 9, cells := 0, slots := 0, locals := 204 }) (va_Pc [.ref (gm g 0), .int a1] (mI g (m_now, m_kept, m_aside, m_isKept, m_found, m_steps, m_queue, m_lives, m_treads, m_tape, m_taped, m_begins, m_ends, m_sort, m_value, m_isWrong, m_items, m_itemMany, m_seedThen, m_groundThen, m_widths, m_sizes, m_numbers, m_moved))) (qW (some (.int res.1)) True g.1 (mw g (res.2.1, m_kept, m_aside, m_isKept, res.2.2, m_steps, m_queue, m_lives, m_treads, m_tape, m_taped, m_begins, m_ends, m_sort, m_value, m_isWrong, m_items, m_itemMany, m_seedThen, m_groundThen, m_widths, m_sizes, m_numbers, m_moved)) (mA g)) 0 0 (mA g) := by
  refine Met.ofW (cc := cX7_go) (maxL := 2) (ret := (some .int)) (by decide) rfl ?_
  intro p e s m args below meth c s₁ B hml hv
  obtain ⟨rfl, hI⟩ := hv
  have hx := B.exec
  have hb := B.bytes
  have hr := B.returns
  have hts := atoms_spec (ws := wsX7_go) B.pre
  have hown : s.vm.findClass RX7 = some m.cls := findClass_of_methodNamed B.named
  have hlocks := B.notSynchronized
  have hP := hI.1
  have hB := hI.2
  have hK := hB.1
  have hNW := hB.2.1
  have hS : va_S (mA g) s.heap s.heap [] := va_S.rf
  have hw0 := hts (.fieldLink RX7 9 "SownPathsModel" "now" "[I") (by decide +kernel)
  have hw1 := hts (.constant RX7 205 (99999)) (by decide +kernel)
  have hw2 := hts (.constant RX7 144 (-1000005)) (by decide +kernel)
  have hw3 := hts (.constant RX7 95 (-1000001)) (by decide +kernel)
  have iwX7 : ∀ w ∈ wsX70, w ∈ wsX7_go := fun w h => List.mem_cons_of_mem _ (List.mem_append_right _ h)
  have hl := lv_entry ([.ref (gm g 0), .int a1]) (n := 2) (Nat.le_of_ble_eq_true rfl)
  rw [lg_entry_eq]
  generalize (lg_sl ([.ref (gm g 0), .int a1]) ++ List.replicate (2 - (lg_sl ([.ref (gm g 0), .int a1])).length) Slot.unset).toArray = ls at hl ⊢
  have hl : lv_has ls 2 [(0, .ref (gm g 0)), (1, .int a1)] := hl
  unfold fX7_go at hf
  refine lv_iload_n hx hb dX7_go_0 rfl (lv_at hl 1 rfl) ?_
  refine lv_iconst (v := (1 : Int32)) hx hb dX7_go_1 (by decide) ?_
  refine lv_bipush (v := (40 : Int32)) hx hb dX7_go_2 (by decide) ?_
  obtain ⟨q1, hq1, hf⟩ := bd_some hf
  refine kr_S (st1 := [.int q1]) (va_runS (As := [.int a1, .int (1 : Int32), .int (40 : Int32)]) (rest := []) ⟨hx, hb, hml, hown, hts⟩ (ct_X7_within l n a1 (1 : Int32) (40 : Int32) q1 hq1) (va_cwS 3 hts gX7_go_X7_within rfl rfl rfl hn_X7_within ⟨Nat.le_of_ble_eq_true rfl, Nat.le_of_ble_eq_true rfl⟩) ⟨bl_N, pr_N rfl hNW⟩ rfl rfl hl.1 rfl (lv_room (Nat.le_of_ble_eq_true rfl)) dX7_go_4 ⟨Nat.le_refl _, Nat.le_refl _⟩) rfl (fun hn2 => ?_)
  refine lv_if_ne (tgt := 17) hx hb dX7_go_7 (by decide) (fun hc3 => ?_) (fun hc3 => ?_)
  · have hf := (if_neg hc3).symm.trans hf
    refine lv_aload_n hx hb dX7_go_17 rfl (lv_at hl 0 rfl) ?_
    refine va_get (D := g.1) (ci := 5) (v := .ref (gm g 1)) (C := RX7) (T := TX7) (N := 27) hx hb hts iwX7 hown hK hP 0 k_md rfl 0 (by decide) hw0 (fun _ h9 => h9) rfl dX7_go_18 ?_
    refine lv_iconst (v := (0 : Int32)) hx hb dX7_go_21 (by decide) ?_
    refine va_iald (f := m_now) hx hb hK hP 1 0 k_now rfl (vi_lit (by decide)) dX7_go_22 ?_
    refine lv_iload_n hx hb dX7_go_23 rfl (lv_at hl 1 rfl) ?_
    refine lv_iadd hx hb dX7_go_24 ?_
    refine lv_ldc (v := (99999 : Int32)) hx hb hown hw1 dX7_go_25 ?_
    refine lv_icmp_le (tgt := 37) hx hb dX7_go_27 (by decide) (fun hc4 => ?_) (fun hc4 => ?_)
    · have hf := (if_pos hc4).symm.trans hf
      refine lv_aload_n hx hb dX7_go_37 rfl (lv_at hl 0 rfl) ?_
      refine lv_iload_n hx hb dX7_go_38 rfl (lv_at hl 1 rfl) ?_
      obtain ⟨q5, hq5, hf⟩ := bd_some hf
      refine kr_W (st1 := []) (va_runV (As := [.int a1]) (rest := []) ⟨hx, hb, hml, hown, hts⟩ (ct_X7_seasons l n g m_now m_kept m_aside m_isKept m_found m_steps m_queue m_lives m_treads m_tape m_taped m_begins m_ends m_sort m_value m_isWrong m_items m_itemMany m_seedThen m_groundThen m_widths m_sizes m_numbers m_moved a1 q5 hq5) (cwV 1 hts gX7_go_X7_seasons rfl rfl rfl hd_X7_seasons ⟨Nat.le_of_ble_eq_true rfl, Nat.le_of_ble_eq_true rfl⟩) ⟨bl_M, va_recv hK hP (ci := 5) (q0 := 0) rfl k_md, pr_M rfl hB hP hS⟩ rfl rfl hl.1 rfl (lv_room (Nat.le_of_ble_eq_true rfl)) dX7_go_39 ⟨Nat.le_refl _, Nat.le_refl _⟩) hS rfl (fun hn6 H locs hP hS => ?_)
      have hP : va_P g.1 vwCl (mw g (q5, m_kept, m_aside, m_isKept, m_found, m_steps, m_queue, m_lives, m_treads, m_tape, m_taped, m_begins, m_ends, m_sort, m_value, m_isWrong, m_items, m_itemMany, m_seedThen, m_groundThen, m_widths, m_sizes, m_numbers, m_moved)) H := hP
      refine lv_aload_n hx hb dX7_go_42 rfl (lv_at hl 0 rfl) ?_
      obtain ⟨q7, hq7, hf⟩ := bd_some hf
      refine kr_S (st1 := [.int q7]) (va_runV (As := []) (rest := []) ⟨hx, hb, hml, hown, hts⟩ (ct_X7_pathsNow l n g q5 m_kept m_aside m_isKept m_found m_steps m_queue m_lives m_treads m_tape m_taped m_begins m_ends m_sort m_value m_isWrong m_items m_itemMany m_seedThen m_groundThen m_widths m_sizes m_numbers m_moved q7 hq7) (cwV 0 hts gX7_go_X7_pathsNow rfl rfl rfl hd_X7_pathsNow ⟨Nat.le_of_ble_eq_true rfl, Nat.le_of_ble_eq_true rfl⟩) ⟨bl_M, va_recv hK hP (ci := 5) (q0 := 0) rfl k_md, pr_M rfl hB hP hS⟩ rfl rfl hl.1 rfl (lv_room (Nat.le_of_ble_eq_true rfl)) dX7_go_43 ⟨Nat.le_refl _, Nat.le_refl _⟩) rfl (fun hn8 => ?_)
      have hres : (q7, q5, m_found) = res := (Option.some.inj hf)
      have hP := w_eq (congrArg (fun z => mw g (z.2.1, m_kept, m_aside, m_isKept, z.2.2, m_steps, m_queue, m_lives, m_treads, m_tape, m_taped, m_begins, m_ends, m_sort, m_value, m_isWrong, m_items, m_itemMany, m_seedThen, m_groundThen, m_widths, m_sizes, m_numbers, m_moved)) hres) hP
      exact W.iret (v := q7) hx hb hr (fun t ht hW => ⟨congrArg (fun z => Outcome.returned (some (Value.int z.1))) hres, trivial, by rw [ht]; exact hP, hS.F ht⟩) hS.2.2 dX7_go_46
    · have hf := (if_neg hc4).symm.trans hf
      refine lv_aload_n hx hb dX7_go_30 rfl (lv_at hl 0 rfl) ?_
      refine lv_ldc (v := (-1000005 : Int32)) hx hb hown hw2 dX7_go_31 ?_
      obtain ⟨q9, hq9, hf⟩ := bd_some hf
      refine kr_W (st1 := [.int q9.1]) (va_runV (As := [.int (-1000005 : Int32)]) (rest := []) ⟨hx, hb, hml, hown, hts⟩ (ct_X7_finding l n g m_now m_kept m_aside m_isKept m_found m_steps m_queue m_lives m_treads m_tape m_taped m_begins m_ends m_sort m_value m_isWrong m_items m_itemMany m_seedThen m_groundThen m_widths m_sizes m_numbers m_moved (-1000005 : Int32) q9 hq9) (cwV 1 hts gX7_go_X7_finding rfl rfl rfl hd_X7_finding ⟨Nat.le_of_ble_eq_true rfl, Nat.le_of_ble_eq_true rfl⟩) ⟨bl_M, va_recv hK hP (ci := 5) (q0 := 0) rfl k_md, pr_M rfl hB hP hS⟩ rfl rfl hl.1 rfl (lv_room (Nat.le_of_ble_eq_true rfl)) dX7_go_33 ⟨Nat.le_refl _, Nat.le_refl _⟩) hS rfl (fun hn10 H locs hP hS => ?_)
      have hP : va_P g.1 vwCl (mw g (m_now, m_kept, m_aside, m_isKept, q9.2, m_steps, m_queue, m_lives, m_treads, m_tape, m_taped, m_begins, m_ends, m_sort, m_value, m_isWrong, m_items, m_itemMany, m_seedThen, m_groundThen, m_widths, m_sizes, m_numbers, m_moved)) H := hP
      have hres : (q9.1, m_now, q9.2) = res := (Option.some.inj hf)
      have hP := w_eq (congrArg (fun z => mw g (z.2.1, m_kept, m_aside, m_isKept, z.2.2, m_steps, m_queue, m_lives, m_treads, m_tape, m_taped, m_begins, m_ends, m_sort, m_value, m_isWrong, m_items, m_itemMany, m_seedThen, m_groundThen, m_widths, m_sizes, m_numbers, m_moved)) hres) hP
      exact W.iret (v := q9.1) hx hb hr (fun t ht hW => ⟨congrArg (fun z => Outcome.returned (some (Value.int z.1))) hres, trivial, by rw [ht]; exact hP, hS.F ht⟩) hS.2.2 dX7_go_36
  · have hf := (if_pos hc3).symm.trans hf
    refine lv_aload_n hx hb dX7_go_10 rfl (lv_at hl 0 rfl) ?_
    refine lv_ldc (v := (-1000001 : Int32)) hx hb hown hw3 dX7_go_11 ?_
    obtain ⟨q11, hq11, hf⟩ := bd_some hf
    refine kr_W (st1 := [.int q11.1]) (va_runV (As := [.int (-1000001 : Int32)]) (rest := []) ⟨hx, hb, hml, hown, hts⟩ (ct_X7_finding l n g m_now m_kept m_aside m_isKept m_found m_steps m_queue m_lives m_treads m_tape m_taped m_begins m_ends m_sort m_value m_isWrong m_items m_itemMany m_seedThen m_groundThen m_widths m_sizes m_numbers m_moved (-1000001 : Int32) q11 hq11) (cwV 1 hts gX7_go_X7_finding rfl rfl rfl hd_X7_finding ⟨Nat.le_of_ble_eq_true rfl, Nat.le_of_ble_eq_true rfl⟩) ⟨bl_M, va_recv hK hP (ci := 5) (q0 := 0) rfl k_md, pr_M rfl hB hP hS⟩ rfl rfl hl.1 rfl (lv_room (Nat.le_of_ble_eq_true rfl)) dX7_go_13 ⟨Nat.le_refl _, Nat.le_refl _⟩) hS rfl (fun hn12 H locs hP hS => ?_)
    have hP : va_P g.1 vwCl (mw g (m_now, m_kept, m_aside, m_isKept, q11.2, m_steps, m_queue, m_lives, m_treads, m_tape, m_taped, m_begins, m_ends, m_sort, m_value, m_isWrong, m_items, m_itemMany, m_seedThen, m_groundThen, m_widths, m_sizes, m_numbers, m_moved)) H := hP
    have hres : (q11.1, m_now, q11.2) = res := (Option.some.inj hf)
    have hP := w_eq (congrArg (fun z => mw g (z.2.1, m_kept, m_aside, m_isKept, z.2.2, m_steps, m_queue, m_lives, m_treads, m_tape, m_taped, m_begins, m_ends, m_sort, m_value, m_isWrong, m_items, m_itemMany, m_seedThen, m_groundThen, m_widths, m_sizes, m_numbers, m_moved)) hres) hP
    exact W.iret (v := q11.1) hx hb hr (fun t ht hW => ⟨congrArg (fun z => Outcome.returned (some (Value.int z.1))) hres, trivial, by rw [ht]; exact hP, hS.F ht⟩) hS.2.2 dX7_go_16
set_option maxHeartbeats 4000000 in
set_option maxRecDepth 100000 in
theorem ct_X7_now (l : Launch) (n : Nat) (g : GM) (m_now : Nat → Int32) (m_kept : Nat → Int32) (m_aside : Nat → Int32) (m_isKept : Int32) (m_found : Nat → Int32) (m_steps : Nat → Int32) (m_queue : Nat → Int32) (m_lives : Nat → Int32) (m_treads : Nat → Int32) (m_tape : Nat → Int32) (m_taped : Int32) (m_begins : Int32) (m_ends : Int32) (m_sort : Int32) (m_value : Int32) (m_isWrong : Int32) (m_items : Nat → Int32) (m_itemMany : Int32) (m_seedThen : Int32) (m_groundThen : Nat → Int32) (m_widths : Nat → Int32) (m_sizes : Nat → Int32) (m_numbers : Nat → Int32) (m_moved : Nat → Int32) (a1 : Int32) (res : Int32 × (Nat → Int32)) (hf : fX7_now n a1 m_now m_found m_lives = some res) : Met l yX7_now wsX7_now ({ frames := 4, cells := 0, slots := 0, locals := 87 }) (va_Pc [.ref (gm g 0), .int a1] (mI g (m_now, m_kept, m_aside, m_isKept, m_found, m_steps, m_queue, m_lives, m_treads, m_tape, m_taped, m_begins, m_ends, m_sort, m_value, m_isWrong, m_items, m_itemMany, m_seedThen, m_groundThen, m_widths, m_sizes, m_numbers, m_moved))) (qW (some (.int res.1)) True g.1 (mw g (m_now, m_kept, m_aside, m_isKept, res.2, m_steps, m_queue, m_lives, m_treads, m_tape, m_taped, m_begins, m_ends, m_sort, m_value, m_isWrong, m_items, m_itemMany, m_seedThen, m_groundThen, m_widths, m_sizes, m_numbers, m_moved)) (mA g)) 0 0 (mA g) := by
  refine Met.ofW (cc := cX7_now) (maxL := 2) (ret := (some .int)) (by decide) rfl ?_
  intro p e s m args below meth c s₁ B hml hv
  obtain ⟨rfl, hI⟩ := hv
  have hx := B.exec
  have hb := B.bytes
  have hr := B.returns
  have hts := atoms_spec (ws := wsX7_now) B.pre
  have hown : s.vm.findClass RX7 = some m.cls := findClass_of_methodNamed B.named
  have hlocks := B.notSynchronized
  have hP := hI.1
  have hB := hI.2
  have hK := hB.1
  have hNW := hB.2.1
  have hS : va_S (mA g) s.heap s.heap [] := va_S.rf
  have hw0 := hts (.fieldLink RX7 9 "SownPathsModel" "now" "[I") (by decide +kernel)
  have hw1 := hts (.constant RX7 95 (-1000001)) (by decide +kernel)
  have iwX7 : ∀ w ∈ wsX70, w ∈ wsX7_now := fun w h => List.mem_cons_of_mem _ (List.mem_append_right _ h)
  have hl := lv_entry ([.ref (gm g 0), .int a1]) (n := 2) (Nat.le_of_ble_eq_true rfl)
  rw [lg_entry_eq]
  generalize (lg_sl ([.ref (gm g 0), .int a1]) ++ List.replicate (2 - (lg_sl ([.ref (gm g 0), .int a1])).length) Slot.unset).toArray = ls at hl ⊢
  have hl : lv_has ls 2 [(0, .ref (gm g 0)), (1, .int a1)] := hl
  unfold fX7_now at hf
  refine lv_iload_n hx hb dX7_now_0 rfl (lv_at hl 1 rfl) ?_
  by_cases hc1 : a1 = (0 : Int32)
  · have hf := (if_pos hc1).symm.trans hf
    refine lv_tableIn (tgt := 36) hx hb dX7_now_1 (by rw [hc1]; decide) (by rw [hc1]; decide) (by rw [hc1]; rfl) (by decide) ?_
    refine lv_aload_n hx hb dX7_now_36 rfl (lv_at hl 0 rfl) ?_
    refine va_get (D := g.1) (ci := 5) (v := .ref (gm g 1)) (C := RX7) (T := TX7) (N := 27) hx hb hts iwX7 hown hK hP 0 k_md rfl 0 (by decide) hw0 (fun _ h9 => h9) rfl dX7_now_37 ?_
    refine lv_iconst (v := (0 : Int32)) hx hb dX7_now_40 (by decide) ?_
    refine va_iald (f := m_now) hx hb hK hP 1 0 k_now rfl (vi_lit (by decide)) dX7_now_41 ?_
    have hres : ((m_now (0 : Int32).toNatClampNeg), m_found) = res := (Option.some.inj hf)
    have hP := w_eq (congrArg (fun z => mw g (m_now, m_kept, m_aside, m_isKept, z.2, m_steps, m_queue, m_lives, m_treads, m_tape, m_taped, m_begins, m_ends, m_sort, m_value, m_isWrong, m_items, m_itemMany, m_seedThen, m_groundThen, m_widths, m_sizes, m_numbers, m_moved)) hres) hP
    exact W.iret (v := (m_now (0 : Int32).toNatClampNeg)) hx hb hr (fun t ht hW => ⟨congrArg (fun z => Outcome.returned (some (Value.int z.1))) hres, trivial, by rw [ht]; exact hP, hS.F ht⟩) hS.2.2 dX7_now_42
  · have hf := (if_neg hc1).symm.trans hf
    by_cases hc2 : a1 = (1 : Int32)
    · have hf := (if_pos hc2).symm.trans hf
      refine lv_tableIn (tgt := 43) hx hb dX7_now_1 (by rw [hc2]; decide) (by rw [hc2]; decide) (by rw [hc2]; rfl) (by decide) ?_
      refine lv_aload_n hx hb dX7_now_43 rfl (lv_at hl 0 rfl) ?_
      obtain ⟨q3, hq3, hf⟩ := bd_some hf
      refine kr_S (st1 := [.int q3]) (va_runV (As := []) (rest := []) ⟨hx, hb, hml, hown, hts⟩ (ct_X7_pathsNow l n g m_now m_kept m_aside m_isKept m_found m_steps m_queue m_lives m_treads m_tape m_taped m_begins m_ends m_sort m_value m_isWrong m_items m_itemMany m_seedThen m_groundThen m_widths m_sizes m_numbers m_moved q3 hq3) (cwV 0 hts gX7_now_X7_pathsNow rfl rfl rfl hd_X7_pathsNow ⟨Nat.le_of_ble_eq_true rfl, Nat.le_of_ble_eq_true rfl⟩) ⟨bl_M, va_recv hK hP (ci := 5) (q0 := 0) rfl k_md, pr_M rfl hB hP hS⟩ rfl rfl hl.1 rfl (lv_room (Nat.le_of_ble_eq_true rfl)) dX7_now_44 ⟨Nat.le_refl _, Nat.le_refl _⟩) rfl (fun hn4 => ?_)
      have hres : (q3, m_found) = res := (Option.some.inj hf)
      have hP := w_eq (congrArg (fun z => mw g (m_now, m_kept, m_aside, m_isKept, z.2, m_steps, m_queue, m_lives, m_treads, m_tape, m_taped, m_begins, m_ends, m_sort, m_value, m_isWrong, m_items, m_itemMany, m_seedThen, m_groundThen, m_widths, m_sizes, m_numbers, m_moved)) hres) hP
      exact W.iret (v := q3) hx hb hr (fun t ht hW => ⟨congrArg (fun z => Outcome.returned (some (Value.int z.1))) hres, trivial, by rw [ht]; exact hP, hS.F ht⟩) hS.2.2 dX7_now_47
    · have hf := (if_neg hc2).symm.trans hf
      by_cases hc5 : a1 = (2 : Int32)
      · have hf := (if_pos hc5).symm.trans hf
        refine lv_tableIn (tgt := 48) hx hb dX7_now_1 (by rw [hc5]; decide) (by rw [hc5]; decide) (by rw [hc5]; rfl) (by decide) ?_
        refine lv_aload_n hx hb dX7_now_48 rfl (lv_at hl 0 rfl) ?_
        obtain ⟨q6, hq6, hf⟩ := bd_some hf
        refine kr_S (st1 := [.int q6]) (va_runV (As := []) (rest := []) ⟨hx, hb, hml, hown, hts⟩ (ct_X7_aliveNow l n g m_now m_kept m_aside m_isKept m_found m_steps m_queue m_lives m_treads m_tape m_taped m_begins m_ends m_sort m_value m_isWrong m_items m_itemMany m_seedThen m_groundThen m_widths m_sizes m_numbers m_moved q6 hq6) (cwV 0 hts gX7_now_X7_aliveNow rfl rfl rfl hd_X7_aliveNow ⟨Nat.le_of_ble_eq_true rfl, Nat.le_of_ble_eq_true rfl⟩) ⟨bl_M, va_recv hK hP (ci := 5) (q0 := 0) rfl k_md, pr_M rfl hB hP hS⟩ rfl rfl hl.1 rfl (lv_room (Nat.le_of_ble_eq_true rfl)) dX7_now_49 ⟨Nat.le_refl _, Nat.le_refl _⟩) rfl (fun hn7 => ?_)
        have hres : (q6, m_found) = res := (Option.some.inj hf)
        have hP := w_eq (congrArg (fun z => mw g (m_now, m_kept, m_aside, m_isKept, z.2, m_steps, m_queue, m_lives, m_treads, m_tape, m_taped, m_begins, m_ends, m_sort, m_value, m_isWrong, m_items, m_itemMany, m_seedThen, m_groundThen, m_widths, m_sizes, m_numbers, m_moved)) hres) hP
        exact W.iret (v := q6) hx hb hr (fun t ht hW => ⟨congrArg (fun z => Outcome.returned (some (Value.int z.1))) hres, trivial, by rw [ht]; exact hP, hS.F ht⟩) hS.2.2 dX7_now_52
      · have hf := (if_neg hc5).symm.trans hf
        by_cases hc8 : a1 = (3 : Int32)
        · have hf := (if_pos hc8).symm.trans hf
          refine lv_tableIn (tgt := 53) hx hb dX7_now_1 (by rw [hc8]; decide) (by rw [hc8]; decide) (by rw [hc8]; rfl) (by decide) ?_
          refine lv_aload_n hx hb dX7_now_53 rfl (lv_at hl 0 rfl) ?_
          obtain ⟨q9, hq9, hf⟩ := bd_some hf
          refine kr_S (st1 := [.int q9]) (va_runV (As := []) (rest := []) ⟨hx, hb, hml, hown, hts⟩ (ct_X7_pathSum l n g m_now m_kept m_aside m_isKept m_found m_steps m_queue m_lives m_treads m_tape m_taped m_begins m_ends m_sort m_value m_isWrong m_items m_itemMany m_seedThen m_groundThen m_widths m_sizes m_numbers m_moved q9 hq9) (cwV 0 hts gX7_now_X7_pathSum rfl rfl rfl hd_X7_pathSum ⟨Nat.le_of_ble_eq_true rfl, Nat.le_of_ble_eq_true rfl⟩) ⟨bl_M, va_recv hK hP (ci := 5) (q0 := 0) rfl k_md, pr_M rfl hB hP hS⟩ rfl rfl hl.1 rfl (lv_room (Nat.le_of_ble_eq_true rfl)) dX7_now_54 ⟨Nat.le_refl _, Nat.le_refl _⟩) rfl (fun hn10 => ?_)
          have hres : (q9, m_found) = res := (Option.some.inj hf)
          have hP := w_eq (congrArg (fun z => mw g (m_now, m_kept, m_aside, m_isKept, z.2, m_steps, m_queue, m_lives, m_treads, m_tape, m_taped, m_begins, m_ends, m_sort, m_value, m_isWrong, m_items, m_itemMany, m_seedThen, m_groundThen, m_widths, m_sizes, m_numbers, m_moved)) hres) hP
          exact W.iret (v := q9) hx hb hr (fun t ht hW => ⟨congrArg (fun z => Outcome.returned (some (Value.int z.1))) hres, trivial, by rw [ht]; exact hP, hS.F ht⟩) hS.2.2 dX7_now_57
        · have hf := (if_neg hc8).symm.trans hf
          by_cases hc11 : a1 = (4 : Int32)
          · have hf := (if_pos hc11).symm.trans hf
            refine lv_tableIn (tgt := 58) hx hb dX7_now_1 (by rw [hc11]; decide) (by rw [hc11]; decide) (by rw [hc11]; rfl) (by decide) ?_
            refine lv_aload_n hx hb dX7_now_58 rfl (lv_at hl 0 rfl) ?_
            obtain ⟨q12, hq12, hf⟩ := bd_some hf
            refine kr_S (st1 := [.int q12]) (va_runV (As := []) (rest := []) ⟨hx, hb, hml, hown, hts⟩ (ct_X7_benches l n g m_now m_kept m_aside m_isKept m_found m_steps m_queue m_lives m_treads m_tape m_taped m_begins m_ends m_sort m_value m_isWrong m_items m_itemMany m_seedThen m_groundThen m_widths m_sizes m_numbers m_moved q12 hq12) (cwV 0 hts gX7_now_X7_benches rfl rfl rfl hd_X7_benches ⟨Nat.le_of_ble_eq_true rfl, Nat.le_of_ble_eq_true rfl⟩) ⟨bl_M, va_recv hK hP (ci := 5) (q0 := 0) rfl k_md, pr_M rfl hB hP hS⟩ rfl rfl hl.1 rfl (lv_room (Nat.le_of_ble_eq_true rfl)) dX7_now_59 ⟨Nat.le_refl _, Nat.le_refl _⟩) rfl (fun hn13 => ?_)
            have hres : (q12, m_found) = res := (Option.some.inj hf)
            have hP := w_eq (congrArg (fun z => mw g (m_now, m_kept, m_aside, m_isKept, z.2, m_steps, m_queue, m_lives, m_treads, m_tape, m_taped, m_begins, m_ends, m_sort, m_value, m_isWrong, m_items, m_itemMany, m_seedThen, m_groundThen, m_widths, m_sizes, m_numbers, m_moved)) hres) hP
            exact W.iret (v := q12) hx hb hr (fun t ht hW => ⟨congrArg (fun z => Outcome.returned (some (Value.int z.1))) hres, trivial, by rw [ht]; exact hP, hS.F ht⟩) hS.2.2 dX7_now_62
          · have hf := (if_neg hc11).symm.trans hf
            refine lv_tableOut (tgt := 63) hx hb dX7_now_1 (by have := lv_neT (a := 0) hc1 rfl; have := lv_neT (a := 1) hc2 rfl; have := lv_neT (a := 2) hc5 rfl; have := lv_neT (a := 3) hc8 rfl; have := lv_neT (a := 4) hc11 rfl; omega) (by decide) ?_
            refine lv_aload_n hx hb dX7_now_63 rfl (lv_at hl 0 rfl) ?_
            refine lv_ldc (v := (-1000001 : Int32)) hx hb hown hw1 dX7_now_64 ?_
            obtain ⟨q14, hq14, hf⟩ := bd_some hf
            refine kr_W (st1 := [.int q14.1]) (va_runV (As := [.int (-1000001 : Int32)]) (rest := []) ⟨hx, hb, hml, hown, hts⟩ (ct_X7_finding l n g m_now m_kept m_aside m_isKept m_found m_steps m_queue m_lives m_treads m_tape m_taped m_begins m_ends m_sort m_value m_isWrong m_items m_itemMany m_seedThen m_groundThen m_widths m_sizes m_numbers m_moved (-1000001 : Int32) q14 hq14) (cwV 1 hts gX7_now_X7_finding rfl rfl rfl hd_X7_finding ⟨Nat.le_of_ble_eq_true rfl, Nat.le_of_ble_eq_true rfl⟩) ⟨bl_M, va_recv hK hP (ci := 5) (q0 := 0) rfl k_md, pr_M rfl hB hP hS⟩ rfl rfl hl.1 rfl (lv_room (Nat.le_of_ble_eq_true rfl)) dX7_now_66 ⟨Nat.le_refl _, Nat.le_refl _⟩) hS rfl (fun hn15 H locs hP hS => ?_)
            have hP : va_P g.1 vwCl (mw g (m_now, m_kept, m_aside, m_isKept, q14.2, m_steps, m_queue, m_lives, m_treads, m_tape, m_taped, m_begins, m_ends, m_sort, m_value, m_isWrong, m_items, m_itemMany, m_seedThen, m_groundThen, m_widths, m_sizes, m_numbers, m_moved)) H := hP
            have hres : (q14.1, q14.2) = res := (Option.some.inj hf)
            have hP := w_eq (congrArg (fun z => mw g (m_now, m_kept, m_aside, m_isKept, z.2, m_steps, m_queue, m_lives, m_treads, m_tape, m_taped, m_begins, m_ends, m_sort, m_value, m_isWrong, m_items, m_itemMany, m_seedThen, m_groundThen, m_widths, m_sizes, m_numbers, m_moved)) hres) hP
            exact W.iret (v := q14.1) hx hb hr (fun t ht hW => ⟨congrArg (fun z => Outcome.returned (some (Value.int z.1))) hres, trivial, by rw [ht]; exact hP, hS.F ht⟩) hS.2.2 dX7_now_69
set_option maxHeartbeats 4000000 in
set_option maxRecDepth 100000 in
theorem ct_X7_pathSet (l : Launch) (n : Nat) (g : GM) (m_now : Nat → Int32) (m_kept : Nat → Int32) (m_aside : Nat → Int32) (m_isKept : Int32) (m_found : Nat → Int32) (m_steps : Nat → Int32) (m_queue : Nat → Int32) (m_lives : Nat → Int32) (m_treads : Nat → Int32) (m_tape : Nat → Int32) (m_taped : Int32) (m_begins : Int32) (m_ends : Int32) (m_sort : Int32) (m_value : Int32) (m_isWrong : Int32) (m_items : Nat → Int32) (m_itemMany : Int32) (m_seedThen : Int32) (m_groundThen : Nat → Int32) (m_widths : Nat → Int32) (m_sizes : Nat → Int32) (m_numbers : Nat → Int32) (m_moved : Nat → Int32) (res : Int64) (hf : fX7_pathSet n m_now = some res) : Met l yX7_pathSet wsX7_pathSet ({ frames := 1, cells := 0, slots := 0, locals := 21 }) (va_Pc [.ref (gm g 0)] (mI g (m_now, m_kept, m_aside, m_isKept, m_found, m_steps, m_queue, m_lives, m_treads, m_tape, m_taped, m_begins, m_ends, m_sort, m_value, m_isWrong, m_items, m_itemMany, m_seedThen, m_groundThen, m_widths, m_sizes, m_numbers, m_moved))) (qS (some (.long res)) True) 0 0 (fun _ => False) := by
  refine Met.ofW (cc := cX7_pathSet) (maxL := 4) (ret := (some .long)) (by decide) rfl ?_
  intro p e s m args below meth c s₁ B hml hv
  obtain ⟨rfl, hI⟩ := hv
  have hx := B.exec
  have hb := B.bytes
  have hr := B.returns
  have hts := atoms_spec (ws := wsX7_pathSet) B.pre
  have hown : s.vm.findClass RX7 = some m.cls := findClass_of_methodNamed B.named
  have hlocks := B.notSynchronized
  have hP := hI.1
  have hB := hI.2
  have hK := hB.1
  have hNW := hB.2.1
  have hS : va_S (mA g) s.heap s.heap [] := va_S.rf
  have hl := lv_entry ([.ref (gm g 0)]) (n := 4) (Nat.le_of_ble_eq_true rfl)
  rw [lg_entry_eq]
  generalize (lg_sl ([.ref (gm g 0)]) ++ List.replicate (4 - (lg_sl ([.ref (gm g 0)])).length) Slot.unset).toArray = ls at hl ⊢
  have hl : lv_has ls 4 [(0, .ref (gm g 0))] := hl
  unfold fX7_pathSet at hf
  refine lv_lconst (v := (0 : Int64)) hx hb dX7_pathSet_0 (by decide) ?_
  refine lv_lstore_n (lv' := [(1, .long (0 : Int64)), (0, .ref (gm g 0))]) hx hb dX7_pathSet_1 rfl hl (by decide) rfl (fun ls hl => ?_)
  refine lv_iconst (v := (0 : Int32)) hx hb dX7_pathSet_2 (by decide) ?_
  refine lv_istore_n (lv' := [(3, .int (0 : Int32)), (1, .long (0 : Int64)), (0, .ref (gm g 0))]) hx hb dX7_pathSet_3 rfl hl (by decide) rfl (fun ls hl => ?_)
  refine lp_run hf (fun s1 => ∀ (ls : Array Slot), lv_has ls 4 [(0, .ref (gm g 0)), (1, .long s1.1), (3, .int s1.2)] → W p l e (headSpec wsX7_pathSet ({ frames := 1, cells := 0, slots := 0, locals := 21 })).room s m ([.ref (gm g 0)] : List Value).toArray below meth c s.heap [] 0 0 (MQ below (qS (some (.long res)) True) ([.ref (gm g 0)] : List Value).toArray s 0 0 (fun _ => False)) (F0 m 4 ls [])) (fun v2 => ∀ (ls : Array Slot), lv_has ls 4 [(1, .long v2.1)] → W p l e (headSpec wsX7_pathSet ({ frames := 1, cells := 0, slots := 0, locals := 21 })).room s m ([.ref (gm g 0)] : List Value).toArray below meth c s.heap [] 0 0 (MQ below (qS (some (.long res)) True) ([.ref (gm g 0)] : List Value).toArray s 0 0 (fun _ => False)) (F0 m 34 ls [])) ?_ ?_ _ (lv_sub hl [2, 1, 0] rfl)
  · intro v2 hf ls hl
    refine lv_lload_n hx hb dX7_pathSet_34 rfl (lv_at hl 0 rfl) ?_
    have hres : v2.1 = res := (Option.some.inj hf)
    exact W.lret (v := v2.1) hx hb hr (fun t ht hW => ⟨congrArg (fun z => Outcome.returned (some (Value.long z))) hres, trivial, ht⟩) t_nil dX7_pathSet_35
  · intro s1 r1 hf hback1 hexit1 ls hl
    refine lv_iload_n hx hb dX7_pathSet_4 rfl (lv_at hl 2 rfl) ?_
    refine lv_bipush (v := (36 : Int32)) hx hb dX7_pathSet_5 (by decide) ?_
    refine lv_icmp_ge (tgt := 34) hx hb dX7_pathSet_7 (by decide) (fun hc3 => ?_) (fun hc3 => ?_)
    · have hf := (if_pos hc3).symm.trans hf
      exact hexit1 (s1.1, s1.2) (Option.some.inj hf).symm ls (lv_sub hl [1] rfl)
    · have hf := (if_neg hc3).symm.trans hf
      refine lv_lload_n hx hb dX7_pathSet_10 rfl (lv_at hl 1 rfl) ?_
      refine lv_aload_n hx hb dX7_pathSet_11 rfl (lv_at hl 0 rfl) ?_
      refine lv_iload_n hx hb dX7_pathSet_12 rfl (lv_at hl 2 rfl) ?_
      obtain ⟨q4, hq4, hf⟩ := bd_some hf
      refine kr_S (st1 := [.int q4, .long s1.1]) (va_runV (As := [.int s1.2]) (rest := [.long s1.1]) ⟨hx, hb, hml, hown, hts⟩ (ct_X7_hasPath l n g m_now m_kept m_aside m_isKept m_found m_steps m_queue m_lives m_treads m_tape m_taped m_begins m_ends m_sort m_value m_isWrong m_items m_itemMany m_seedThen m_groundThen m_widths m_sizes m_numbers m_moved s1.2 q4 hq4) (cwV 1 hts gX7_pathSet_X7_hasPath rfl rfl rfl hd_X7_hasPath ⟨Nat.le_of_ble_eq_true rfl, Nat.le_of_ble_eq_true rfl⟩) ⟨bl_M, va_recv hK hP (ci := 5) (q0 := 0) rfl k_md, pr_M rfl hB hP hS⟩ rfl rfl hl.1 rfl (lv_room (Nat.le_of_ble_eq_true rfl)) dX7_pathSet_13 ⟨Nat.le_refl _, Nat.le_refl _⟩) rfl (fun hn5 => ?_)
      refine lv_if_eq (tgt := 25) hx hb dX7_pathSet_16 (by decide) (fun hc6 => ?_) (fun hc6 => ?_)
      · have hf := (if_pos hc6).symm.trans hf
        refine lv_lconst (v := (0 : Int64)) hx hb dX7_pathSet_25 (by decide) ?_
        refine lv_lor hx hb dX7_pathSet_26 ?_
        refine lv_lstore_n (lv' := [(1, .long (s1.1 ||| (0 : Int64))), (0, .ref (gm g 0)), (3, .int s1.2)]) hx hb dX7_pathSet_27 rfl hl (by decide) rfl (fun ls hl => ?_)
        refine lv_iinc (v := (s1.2 + (1 : Int32))) (lv' := [(3, .int (s1.2 + (1 : Int32))), (1, .long (s1.1 ||| (0 : Int64))), (0, .ref (gm g 0))]) hx hb dX7_pathSet_28 hl (k := 2) rfl (congrArg (fun y => s1.2 + y) (by decide : Int32.ofInt (1) = (1 : Int32))) (by decide) rfl (fun ls hl => ?_)
        refine lv_goto (tgt := 4) hx hb dX7_pathSet_31 (by decide) ?_
        exact hback1 _ (Option.some.inj hf).symm ls (lv_sub hl [2, 1, 0] rfl)
      · have hf := (if_neg hc6).symm.trans hf
        refine lv_lconst (v := (1 : Int64)) hx hb dX7_pathSet_19 (by decide) ?_
        refine lv_iload_n hx hb dX7_pathSet_20 rfl (lv_at hl 2 rfl) ?_
        refine lv_lshl (v := ((1 : Int64) <<< (s1.2.toInt64 &&& 63))) hx hb dX7_pathSet_21 rfl ?_
        refine lv_goto (tgt := 26) hx hb dX7_pathSet_22 (by decide) ?_
        refine lv_lor hx hb dX7_pathSet_26 ?_
        refine lv_lstore_n (lv' := [(1, .long (s1.1 ||| ((1 : Int64) <<< (s1.2.toInt64 &&& 63)))), (0, .ref (gm g 0)), (3, .int s1.2)]) hx hb dX7_pathSet_27 rfl hl (by decide) rfl (fun ls hl => ?_)
        refine lv_iinc (v := (s1.2 + (1 : Int32))) (lv' := [(3, .int (s1.2 + (1 : Int32))), (1, .long (s1.1 ||| ((1 : Int64) <<< (s1.2.toInt64 &&& 63)))), (0, .ref (gm g 0))]) hx hb dX7_pathSet_28 hl (k := 2) rfl (congrArg (fun y => s1.2 + y) (by decide : Int32.ofInt (1) = (1 : Int32))) (by decide) rfl (fun ls hl => ?_)
        refine lv_goto (tgt := 4) hx hb dX7_pathSet_31 (by decide) ?_
        exact hback1 _ (Option.some.inj hf).symm ls (lv_sub hl [2, 1, 0] rfl)
set_option maxHeartbeats 4000000 in
set_option maxRecDepth 100000 in
theorem ct_X7_where (l : Launch) (n : Nat) (g : GM) (m_now : Nat → Int32) (m_kept : Nat → Int32) (m_aside : Nat → Int32) (m_isKept : Int32) (m_found : Nat → Int32) (m_steps : Nat → Int32) (m_queue : Nat → Int32) (m_lives : Nat → Int32) (m_treads : Nat → Int32) (m_tape : Nat → Int32) (m_taped : Int32) (m_begins : Int32) (m_ends : Int32) (m_sort : Int32) (m_value : Int32) (m_isWrong : Int32) (m_items : Nat → Int32) (m_itemMany : Int32) (m_seedThen : Int32) (m_groundThen : Nat → Int32) (m_widths : Nat → Int32) (m_sizes : Nat → Int32) (m_numbers : Nat → Int32) (m_moved : Nat → Int32) (a1 : Int32) (res : Int64 × (Nat → Int32)) (hf : fX7_where n a1 m_now m_found = some res) : Met l yX7_where wsX7_where ({ frames := 3, cells := 0, slots := 0, locals := 65 }) (va_Pc [.ref (gm g 0), .int a1] (mI g (m_now, m_kept, m_aside, m_isKept, m_found, m_steps, m_queue, m_lives, m_treads, m_tape, m_taped, m_begins, m_ends, m_sort, m_value, m_isWrong, m_items, m_itemMany, m_seedThen, m_groundThen, m_widths, m_sizes, m_numbers, m_moved))) (qW (some (.long res.1)) True g.1 (mw g (m_now, m_kept, m_aside, m_isKept, res.2, m_steps, m_queue, m_lives, m_treads, m_tape, m_taped, m_begins, m_ends, m_sort, m_value, m_isWrong, m_items, m_itemMany, m_seedThen, m_groundThen, m_widths, m_sizes, m_numbers, m_moved)) (mA g)) 0 0 (mA g) := by
  refine Met.ofW (cc := cX7_where) (maxL := 6) (ret := (some .long)) (by decide) rfl ?_
  intro p e s m args below meth c s₁ B hml hv
  obtain ⟨rfl, hI⟩ := hv
  have hx := B.exec
  have hb := B.bytes
  have hr := B.returns
  have hts := atoms_spec (ws := wsX7_where) B.pre
  have hown : s.vm.findClass RX7 = some m.cls := findClass_of_methodNamed B.named
  have hlocks := B.notSynchronized
  have hP := hI.1
  have hB := hI.2
  have hK := hB.1
  have hNW := hB.2.1
  have hS : va_S (mA g) s.heap s.heap [] := va_S.rf
  have hw0 := hts (.fieldLink RX7 9 "SownPathsModel" "now" "[I") (by decide +kernel)
  have hw1 := hts (.constant RX7 95 (-1000001)) (by decide +kernel)
  have iwX7 : ∀ w ∈ wsX70, w ∈ wsX7_where := fun w h => List.mem_cons_of_mem _ (List.mem_append_right _ h)
  have hl := lv_entry ([.ref (gm g 0), .int a1]) (n := 6) (Nat.le_of_ble_eq_true rfl)
  rw [lg_entry_eq]
  generalize (lg_sl ([.ref (gm g 0), .int a1]) ++ List.replicate (6 - (lg_sl ([.ref (gm g 0), .int a1])).length) Slot.unset).toArray = ls at hl ⊢
  have hl : lv_has ls 6 [(0, .ref (gm g 0)), (1, .int a1)] := hl
  unfold fX7_where at hf
  refine lv_iload_n hx hb dX7_where_0 rfl (lv_at hl 1 rfl) ?_
  refine lv_iconst (v := (0 : Int32)) hx hb dX7_where_1 (by decide) ?_
  refine lv_iconst (v := (3 : Int32)) hx hb dX7_where_2 (by decide) ?_
  obtain ⟨q1, hq1, hf⟩ := bd_some hf
  refine kr_S (st1 := [.int q1]) (va_runS (As := [.int a1, .int (0 : Int32), .int (3 : Int32)]) (rest := []) ⟨hx, hb, hml, hown, hts⟩ (ct_X7_within l n a1 (0 : Int32) (3 : Int32) q1 hq1) (va_cwS 3 hts gX7_where_X7_within rfl rfl rfl hn_X7_within ⟨Nat.le_of_ble_eq_true rfl, Nat.le_of_ble_eq_true rfl⟩) ⟨bl_N, pr_N rfl hNW⟩ rfl rfl hl.1 rfl (lv_room (Nat.le_of_ble_eq_true rfl)) dX7_where_3 ⟨Nat.le_refl _, Nat.le_refl _⟩) rfl (fun hn2 => ?_)
  refine lv_if_ne (tgt := 17) hx hb dX7_where_6 (by decide) (fun hc3 => ?_) (fun hc3 => ?_)
  · have hf := (if_neg hc3).symm.trans hf
    refine lv_lconst (v := (0 : Int64)) hx hb dX7_where_17 (by decide) ?_
    refine lv_lstore_n (lv' := [(2, .long (0 : Int64)), (0, .ref (gm g 0)), (1, .int a1)]) hx hb dX7_where_18 rfl hl (by decide) rfl (fun ls hl => ?_)
    refine lv_iconst (v := (0 : Int32)) hx hb dX7_where_19 (by decide) ?_
    refine lv_istore (lv' := [(4, .int (0 : Int32)), (2, .long (0 : Int64)), (0, .ref (gm g 0)), (1, .int a1)]) hx hb dX7_where_20 hl (by decide) rfl (fun ls hl => ?_)
    refine lp_run hf (fun s4 => ∀ (H : Heap) (locs : List Loc) (ls : Array Slot), va_P g.1 vwCl (mw g (m_now, m_kept, m_aside, m_isKept, m_found, m_steps, m_queue, m_lives, m_treads, m_tape, m_taped, m_begins, m_ends, m_sort, m_value, m_isWrong, m_items, m_itemMany, m_seedThen, m_groundThen, m_widths, m_sizes, m_numbers, m_moved)) H → va_S (mA g) s.heap H locs → lv_has ls 6 [(0, .ref (gm g 0)), (1, .int a1), (2, .long s4.1), (4, .int s4.2)] → W p l e (headSpec wsX7_where ({ frames := 3, cells := 0, slots := 0, locals := 65 })).room s m ([.ref (gm g 0), .int a1] : List Value).toArray below meth c H locs 0 0 (MQ below (qW (some (.long res.1)) True g.1 (mw g (m_now, m_kept, m_aside, m_isKept, res.2, m_steps, m_queue, m_lives, m_treads, m_tape, m_taped, m_begins, m_ends, m_sort, m_value, m_isWrong, m_items, m_itemMany, m_seedThen, m_groundThen, m_widths, m_sizes, m_numbers, m_moved)) (mA g)) ([.ref (gm g 0), .int a1] : List Value).toArray s 0 0 (mA g)) (F0 m 22 ls [])) (fun v5 => ∀ (H : Heap) (locs : List Loc) (ls : Array Slot), va_P g.1 vwCl (mw g (m_now, m_kept, m_aside, m_isKept, m_found, m_steps, m_queue, m_lives, m_treads, m_tape, m_taped, m_begins, m_ends, m_sort, m_value, m_isWrong, m_items, m_itemMany, m_seedThen, m_groundThen, m_widths, m_sizes, m_numbers, m_moved)) H → va_S (mA g) s.heap H locs → lv_has ls 6 [(2, .long v5.1)] → W p l e (headSpec wsX7_where ({ frames := 3, cells := 0, slots := 0, locals := 65 })).room s m ([.ref (gm g 0), .int a1] : List Value).toArray below meth c H locs 0 0 (MQ below (qW (some (.long res.1)) True g.1 (mw g (m_now, m_kept, m_aside, m_isKept, res.2, m_steps, m_queue, m_lives, m_treads, m_tape, m_taped, m_begins, m_ends, m_sort, m_value, m_isWrong, m_items, m_itemMany, m_seedThen, m_groundThen, m_widths, m_sizes, m_numbers, m_moved)) (mA g)) ([.ref (gm g 0), .int a1] : List Value).toArray s 0 0 (mA g)) (F0 m 99 ls [])) ?_ ?_ _ _ _ hP hS (lv_sub hl [2, 3, 1, 0] rfl)
    · intro v5 hf H locs ls hP hS hl
      refine lv_lload_n hx hb dX7_where_99 rfl (lv_at hl 0 rfl) ?_
      have hres : (v5.1, m_found) = res := (Option.some.inj hf)
      have hP := w_eq (congrArg (fun z => mw g (m_now, m_kept, m_aside, m_isKept, z.2, m_steps, m_queue, m_lives, m_treads, m_tape, m_taped, m_begins, m_ends, m_sort, m_value, m_isWrong, m_items, m_itemMany, m_seedThen, m_groundThen, m_widths, m_sizes, m_numbers, m_moved)) hres) hP
      exact W.lret (v := v5.1) hx hb hr (fun t ht hW => ⟨congrArg (fun z => Outcome.returned (some (Value.long z.1))) hres, trivial, by rw [ht]; exact hP, hS.F ht⟩) hS.2.2 dX7_where_100
    · intro s4 r1 hf hback1 hexit1 H locs ls hP hS hl
      refine lv_iload hx hb dX7_where_22 (lv_at hl 3 rfl) ?_
      refine lv_bipush (v := (36 : Int32)) hx hb dX7_where_24 (by decide) ?_
      refine lv_icmp_ge (tgt := 99) hx hb dX7_where_26 (by decide) (fun hc6 => ?_) (fun hc6 => ?_)
      · have hf := (if_pos hc6).symm.trans hf
        exact hexit1 (s4.1, s4.2) (Option.some.inj hf).symm H locs ls hP hS (lv_sub hl [2] rfl)
      · have hf := (if_neg hc6).symm.trans hf
        refine lv_iload_n hx hb dX7_where_29 rfl (lv_at hl 1 rfl) ?_
        refine lv_if_ne (tgt := 42) hx hb dX7_where_30 (by decide) (fun hc7 => ?_) (fun hc7 => ?_)
        · have hf := (if_neg hc7).symm.trans hf
          refine lv_iload_n hx hb dX7_where_42 rfl (lv_at hl 1 rfl) ?_
          refine lv_iconst (v := (3 : Int32)) hx hb dX7_where_43 (by decide) ?_
          refine lv_icmp_ne (tgt := 56) hx hb dX7_where_44 (by decide) (fun hc8 => ?_) (fun hc8 => ?_)
          · have hf := (if_neg hc8).symm.trans hf
            refine lv_aload_n hx hb dX7_where_56 rfl (lv_at hl 0 rfl) ?_
            refine va_get (D := g.1) (ci := 5) (v := .ref (gm g 1)) (C := RX7) (T := TX7) (N := 27) hx hb hts iwX7 hown hK hP 0 k_md rfl 0 (by decide) hw0 (fun _ h9 => h9) rfl dX7_where_57 ?_
            refine lv_bipush (v := (13 : Int32)) hx hb dX7_where_60 (by decide) ?_
            refine lv_iload hx hb dX7_where_62 (lv_at hl 3 rfl) ?_
            refine lv_iadd hx hb dX7_where_64 ?_
            obtain ⟨hg9, hf⟩ := gd_some hf
            refine va_iald (f := m_now) hx hb hK hP 1 0 k_now rfl hg9 dX7_where_65 ?_
            refine lv_iload_n hx hb dX7_where_66 rfl (lv_at hl 1 rfl) ?_
            refine lv_icmp_ne (tgt := 74) hx hb dX7_where_67 (by decide) (fun hc10 => ?_) (fun hc10 => ?_)
            · have hf := (if_neg hc10).symm.trans hf
              refine lv_iconst (v := (0 : Int32)) hx hb dX7_where_74 (by decide) ?_
              refine lv_istore (lv' := [(5, .int (0 : Int32)), (0, .ref (gm g 0)), (1, .int a1), (2, .long s4.1), (4, .int s4.2)]) hx hb dX7_where_75 hl (by decide) rfl (fun ls hl => ?_)
              refine lv_lload_n hx hb dX7_where_77 rfl (lv_at hl 3 rfl) ?_
              refine lv_iload hx hb dX7_where_78 (lv_at hl 0 rfl) ?_
              refine lv_if_eq (tgt := 90) hx hb dX7_where_80 (by decide) (fun _ => ?_) (fun hc => absurd hc (by decide))
              refine lv_lconst (v := (0 : Int64)) hx hb dX7_where_90 (by decide) ?_
              refine lv_lor hx hb dX7_where_91 ?_
              refine lv_lstore_n (lv' := [(2, .long (s4.1 ||| (0 : Int64))), (5, .int (0 : Int32)), (0, .ref (gm g 0)), (1, .int a1), (4, .int s4.2)]) hx hb dX7_where_92 rfl hl (by decide) rfl (fun ls hl => ?_)
              refine lv_iinc (v := (s4.2 + (1 : Int32))) (lv' := [(4, .int (s4.2 + (1 : Int32))), (2, .long (s4.1 ||| (0 : Int64))), (5, .int (0 : Int32)), (0, .ref (gm g 0)), (1, .int a1)]) hx hb dX7_where_93 hl (k := 4) rfl (congrArg (fun y => s4.2 + y) (by decide : Int32.ofInt (1) = (1 : Int32))) (by decide) rfl (fun ls hl => ?_)
              refine lv_goto (tgt := 22) hx hb dX7_where_96 (by decide) ?_
              exact hback1 _ (Option.some.inj hf).symm H locs ls hP hS (lv_sub hl [3, 4, 1, 0] rfl)
            · have hf := (if_pos hc10).symm.trans hf
              refine lv_iconst (v := (1 : Int32)) hx hb dX7_where_70 (by decide) ?_
              refine lv_goto (tgt := 75) hx hb dX7_where_71 (by decide) ?_
              refine lv_istore (lv' := [(5, .int (1 : Int32)), (0, .ref (gm g 0)), (1, .int a1), (2, .long s4.1), (4, .int s4.2)]) hx hb dX7_where_75 hl (by decide) rfl (fun ls hl => ?_)
              refine lv_lload_n hx hb dX7_where_77 rfl (lv_at hl 3 rfl) ?_
              refine lv_iload hx hb dX7_where_78 (lv_at hl 0 rfl) ?_
              refine lv_if_eq (tgt := 90) hx hb dX7_where_80 (by decide) (fun hc => absurd hc (by decide)) (fun _ => ?_)
              refine lv_lconst (v := (1 : Int64)) hx hb dX7_where_83 (by decide) ?_
              refine lv_iload hx hb dX7_where_84 (lv_at hl 4 rfl) ?_
              refine lv_lshl (v := ((1 : Int64) <<< (s4.2.toInt64 &&& 63))) hx hb dX7_where_86 rfl ?_
              refine lv_goto (tgt := 91) hx hb dX7_where_87 (by decide) ?_
              refine lv_lor hx hb dX7_where_91 ?_
              refine lv_lstore_n (lv' := [(2, .long (s4.1 ||| ((1 : Int64) <<< (s4.2.toInt64 &&& 63)))), (5, .int (1 : Int32)), (0, .ref (gm g 0)), (1, .int a1), (4, .int s4.2)]) hx hb dX7_where_92 rfl hl (by decide) rfl (fun ls hl => ?_)
              refine lv_iinc (v := (s4.2 + (1 : Int32))) (lv' := [(4, .int (s4.2 + (1 : Int32))), (2, .long (s4.1 ||| ((1 : Int64) <<< (s4.2.toInt64 &&& 63)))), (5, .int (1 : Int32)), (0, .ref (gm g 0)), (1, .int a1)]) hx hb dX7_where_93 hl (k := 4) rfl (congrArg (fun y => s4.2 + y) (by decide : Int32.ofInt (1) = (1 : Int32))) (by decide) rfl (fun ls hl => ?_)
              refine lv_goto (tgt := 22) hx hb dX7_where_96 (by decide) ?_
              exact hback1 _ (Option.some.inj hf).symm H locs ls hP hS (lv_sub hl [3, 4, 1, 0] rfl)
          · have hf := (if_pos hc8).symm.trans hf
            refine lv_aload_n hx hb dX7_where_47 rfl (lv_at hl 0 rfl) ?_
            refine lv_iload hx hb dX7_where_48 (lv_at hl 3 rfl) ?_
            obtain ⟨q11, hq11, hf⟩ := bd_some hf
            refine kr_S (st1 := [.int q11]) (va_runV (As := [.int s4.2]) (rest := []) ⟨hx, hb, hml, hown, hts⟩ (ct_X7_isBench l n g m_now m_kept m_aside m_isKept m_found m_steps m_queue m_lives m_treads m_tape m_taped m_begins m_ends m_sort m_value m_isWrong m_items m_itemMany m_seedThen m_groundThen m_widths m_sizes m_numbers m_moved s4.2 q11 hq11) (cwV 1 hts gX7_where_X7_isBench rfl rfl rfl hd_X7_isBench ⟨Nat.le_of_ble_eq_true rfl, Nat.le_of_ble_eq_true rfl⟩) ⟨bl_M, va_recv hK hP (ci := 5) (q0 := 0) rfl k_md, pr_M rfl hB hP hS⟩ rfl rfl hl.1 rfl (lv_room (Nat.le_of_ble_eq_true rfl)) dX7_where_50 ⟨Nat.le_refl _, Nat.le_refl _⟩) rfl (fun hn12 => ?_)
            refine lv_goto (tgt := 75) hx hb dX7_where_53 (by decide) ?_
            refine lv_istore (lv' := [(5, .int q11), (0, .ref (gm g 0)), (1, .int a1), (2, .long s4.1), (4, .int s4.2)]) hx hb dX7_where_75 hl (by decide) rfl (fun ls hl => ?_)
            refine lv_lload_n hx hb dX7_where_77 rfl (lv_at hl 3 rfl) ?_
            refine lv_iload hx hb dX7_where_78 (lv_at hl 0 rfl) ?_
            refine lv_if_eq (tgt := 90) hx hb dX7_where_80 (by decide) (fun hc13 => ?_) (fun hc13 => ?_)
            · have hf := (if_pos hc13).symm.trans hf
              refine lv_lconst (v := (0 : Int64)) hx hb dX7_where_90 (by decide) ?_
              refine lv_lor hx hb dX7_where_91 ?_
              refine lv_lstore_n (lv' := [(2, .long (s4.1 ||| (0 : Int64))), (5, .int q11), (0, .ref (gm g 0)), (1, .int a1), (4, .int s4.2)]) hx hb dX7_where_92 rfl hl (by decide) rfl (fun ls hl => ?_)
              refine lv_iinc (v := (s4.2 + (1 : Int32))) (lv' := [(4, .int (s4.2 + (1 : Int32))), (2, .long (s4.1 ||| (0 : Int64))), (5, .int q11), (0, .ref (gm g 0)), (1, .int a1)]) hx hb dX7_where_93 hl (k := 4) rfl (congrArg (fun y => s4.2 + y) (by decide : Int32.ofInt (1) = (1 : Int32))) (by decide) rfl (fun ls hl => ?_)
              refine lv_goto (tgt := 22) hx hb dX7_where_96 (by decide) ?_
              exact hback1 _ (Option.some.inj hf).symm H locs ls hP hS (lv_sub hl [3, 4, 1, 0] rfl)
            · have hf := (if_neg hc13).symm.trans hf
              refine lv_lconst (v := (1 : Int64)) hx hb dX7_where_83 (by decide) ?_
              refine lv_iload hx hb dX7_where_84 (lv_at hl 4 rfl) ?_
              refine lv_lshl (v := ((1 : Int64) <<< (s4.2.toInt64 &&& 63))) hx hb dX7_where_86 rfl ?_
              refine lv_goto (tgt := 91) hx hb dX7_where_87 (by decide) ?_
              refine lv_lor hx hb dX7_where_91 ?_
              refine lv_lstore_n (lv' := [(2, .long (s4.1 ||| ((1 : Int64) <<< (s4.2.toInt64 &&& 63)))), (5, .int q11), (0, .ref (gm g 0)), (1, .int a1), (4, .int s4.2)]) hx hb dX7_where_92 rfl hl (by decide) rfl (fun ls hl => ?_)
              refine lv_iinc (v := (s4.2 + (1 : Int32))) (lv' := [(4, .int (s4.2 + (1 : Int32))), (2, .long (s4.1 ||| ((1 : Int64) <<< (s4.2.toInt64 &&& 63)))), (5, .int q11), (0, .ref (gm g 0)), (1, .int a1)]) hx hb dX7_where_93 hl (k := 4) rfl (congrArg (fun y => s4.2 + y) (by decide : Int32.ofInt (1) = (1 : Int32))) (by decide) rfl (fun ls hl => ?_)
              refine lv_goto (tgt := 22) hx hb dX7_where_96 (by decide) ?_
              exact hback1 _ (Option.some.inj hf).symm H locs ls hP hS (lv_sub hl [3, 4, 1, 0] rfl)
        · have hf := (if_pos hc7).symm.trans hf
          refine lv_aload_n hx hb dX7_where_33 rfl (lv_at hl 0 rfl) ?_
          refine lv_iload hx hb dX7_where_34 (lv_at hl 3 rfl) ?_
          obtain ⟨q14, hq14, hf⟩ := bd_some hf
          refine kr_S (st1 := [.int q14]) (va_runV (As := [.int s4.2]) (rest := []) ⟨hx, hb, hml, hown, hts⟩ (ct_X7_hasPath l n g m_now m_kept m_aside m_isKept m_found m_steps m_queue m_lives m_treads m_tape m_taped m_begins m_ends m_sort m_value m_isWrong m_items m_itemMany m_seedThen m_groundThen m_widths m_sizes m_numbers m_moved s4.2 q14 hq14) (cwV 1 hts gX7_where_X7_hasPath rfl rfl rfl hd_X7_hasPath ⟨Nat.le_of_ble_eq_true rfl, Nat.le_of_ble_eq_true rfl⟩) ⟨bl_M, va_recv hK hP (ci := 5) (q0 := 0) rfl k_md, pr_M rfl hB hP hS⟩ rfl rfl hl.1 rfl (lv_room (Nat.le_of_ble_eq_true rfl)) dX7_where_36 ⟨Nat.le_refl _, Nat.le_refl _⟩) rfl (fun hn15 => ?_)
          refine lv_goto (tgt := 75) hx hb dX7_where_39 (by decide) ?_
          refine lv_istore (lv' := [(5, .int q14), (0, .ref (gm g 0)), (1, .int a1), (2, .long s4.1), (4, .int s4.2)]) hx hb dX7_where_75 hl (by decide) rfl (fun ls hl => ?_)
          refine lv_lload_n hx hb dX7_where_77 rfl (lv_at hl 3 rfl) ?_
          refine lv_iload hx hb dX7_where_78 (lv_at hl 0 rfl) ?_
          refine lv_if_eq (tgt := 90) hx hb dX7_where_80 (by decide) (fun hc16 => ?_) (fun hc16 => ?_)
          · have hf := (if_pos hc16).symm.trans hf
            refine lv_lconst (v := (0 : Int64)) hx hb dX7_where_90 (by decide) ?_
            refine lv_lor hx hb dX7_where_91 ?_
            refine lv_lstore_n (lv' := [(2, .long (s4.1 ||| (0 : Int64))), (5, .int q14), (0, .ref (gm g 0)), (1, .int a1), (4, .int s4.2)]) hx hb dX7_where_92 rfl hl (by decide) rfl (fun ls hl => ?_)
            refine lv_iinc (v := (s4.2 + (1 : Int32))) (lv' := [(4, .int (s4.2 + (1 : Int32))), (2, .long (s4.1 ||| (0 : Int64))), (5, .int q14), (0, .ref (gm g 0)), (1, .int a1)]) hx hb dX7_where_93 hl (k := 4) rfl (congrArg (fun y => s4.2 + y) (by decide : Int32.ofInt (1) = (1 : Int32))) (by decide) rfl (fun ls hl => ?_)
            refine lv_goto (tgt := 22) hx hb dX7_where_96 (by decide) ?_
            exact hback1 _ (Option.some.inj hf).symm H locs ls hP hS (lv_sub hl [3, 4, 1, 0] rfl)
          · have hf := (if_neg hc16).symm.trans hf
            refine lv_lconst (v := (1 : Int64)) hx hb dX7_where_83 (by decide) ?_
            refine lv_iload hx hb dX7_where_84 (lv_at hl 4 rfl) ?_
            refine lv_lshl (v := ((1 : Int64) <<< (s4.2.toInt64 &&& 63))) hx hb dX7_where_86 rfl ?_
            refine lv_goto (tgt := 91) hx hb dX7_where_87 (by decide) ?_
            refine lv_lor hx hb dX7_where_91 ?_
            refine lv_lstore_n (lv' := [(2, .long (s4.1 ||| ((1 : Int64) <<< (s4.2.toInt64 &&& 63)))), (5, .int q14), (0, .ref (gm g 0)), (1, .int a1), (4, .int s4.2)]) hx hb dX7_where_92 rfl hl (by decide) rfl (fun ls hl => ?_)
            refine lv_iinc (v := (s4.2 + (1 : Int32))) (lv' := [(4, .int (s4.2 + (1 : Int32))), (2, .long (s4.1 ||| ((1 : Int64) <<< (s4.2.toInt64 &&& 63)))), (5, .int q14), (0, .ref (gm g 0)), (1, .int a1)]) hx hb dX7_where_93 hl (k := 4) rfl (congrArg (fun y => s4.2 + y) (by decide : Int32.ofInt (1) = (1 : Int32))) (by decide) rfl (fun ls hl => ?_)
            refine lv_goto (tgt := 22) hx hb dX7_where_96 (by decide) ?_
            exact hback1 _ (Option.some.inj hf).symm H locs ls hP hS (lv_sub hl [3, 4, 1, 0] rfl)
  · have hf := (if_pos hc3).symm.trans hf
    refine lv_aload_n hx hb dX7_where_9 rfl (lv_at hl 0 rfl) ?_
    refine lv_ldc (v := (-1000001 : Int32)) hx hb hown hw1 dX7_where_10 ?_
    obtain ⟨q17, hq17, hf⟩ := bd_some hf
    refine kr_W (st1 := [.int q17.1]) (va_runV (As := [.int (-1000001 : Int32)]) (rest := []) ⟨hx, hb, hml, hown, hts⟩ (ct_X7_finding l n g m_now m_kept m_aside m_isKept m_found m_steps m_queue m_lives m_treads m_tape m_taped m_begins m_ends m_sort m_value m_isWrong m_items m_itemMany m_seedThen m_groundThen m_widths m_sizes m_numbers m_moved (-1000001 : Int32) q17 hq17) (cwV 1 hts gX7_where_X7_finding rfl rfl rfl hd_X7_finding ⟨Nat.le_of_ble_eq_true rfl, Nat.le_of_ble_eq_true rfl⟩) ⟨bl_M, va_recv hK hP (ci := 5) (q0 := 0) rfl k_md, pr_M rfl hB hP hS⟩ rfl rfl hl.1 rfl (lv_room (Nat.le_of_ble_eq_true rfl)) dX7_where_12 ⟨Nat.le_refl _, Nat.le_refl _⟩) hS rfl (fun hn18 H locs hP hS => ?_)
    have hP : va_P g.1 vwCl (mw g (m_now, m_kept, m_aside, m_isKept, q17.2, m_steps, m_queue, m_lives, m_treads, m_tape, m_taped, m_begins, m_ends, m_sort, m_value, m_isWrong, m_items, m_itemMany, m_seedThen, m_groundThen, m_widths, m_sizes, m_numbers, m_moved)) H := hP
    refine lv_i2l (v := q17.1.toInt64) hx hb dX7_where_15 rfl ?_
    have hres : (q17.1.toInt64, q17.2) = res := (Option.some.inj hf)
    have hP := w_eq (congrArg (fun z => mw g (m_now, m_kept, m_aside, m_isKept, z.2, m_steps, m_queue, m_lives, m_treads, m_tape, m_taped, m_begins, m_ends, m_sort, m_value, m_isWrong, m_items, m_itemMany, m_seedThen, m_groundThen, m_widths, m_sizes, m_numbers, m_moved)) hres) hP
    exact W.lret (v := q17.1.toInt64) hx hb hr (fun t ht hW => ⟨congrArg (fun z => Outcome.returned (some (Value.long z.1))) hres, trivial, by rw [ht]; exact hP, hS.F ht⟩) hS.2.2 dX7_where_16
set_option maxHeartbeats 4000000 in
set_option maxRecDepth 100000 in
theorem ct_X7_walk (l : Launch) (n : Nat) (g : GM) (m_now : Nat → Int32) (m_kept : Nat → Int32) (m_aside : Nat → Int32) (m_isKept : Int32) (m_found : Nat → Int32) (m_steps : Nat → Int32) (m_queue : Nat → Int32) (m_lives : Nat → Int32) (m_treads : Nat → Int32) (m_tape : Nat → Int32) (m_taped : Int32) (m_begins : Int32) (m_ends : Int32) (m_sort : Int32) (m_value : Int32) (m_isWrong : Int32) (m_items : Nat → Int32) (m_itemMany : Int32) (m_seedThen : Int32) (m_groundThen : Nat → Int32) (m_widths : Nat → Int32) (m_sizes : Nat → Int32) (m_numbers : Nat → Int32) (m_moved : Nat → Int32) (a1 : Int32) (res : (Nat → Int32) × (Nat → Int32)) (hf : fX7_walk n a1 m_now m_steps m_queue = some res) : Met l yX7_walk wsX7_walk ({ frames := 1, cells := 0, slots := 0, locals := 21 }) (va_Pc [.ref (gm g 0), .int a1] (mI g (m_now, m_kept, m_aside, m_isKept, m_found, m_steps, m_queue, m_lives, m_treads, m_tape, m_taped, m_begins, m_ends, m_sort, m_value, m_isWrong, m_items, m_itemMany, m_seedThen, m_groundThen, m_widths, m_sizes, m_numbers, m_moved))) (qW none True g.1 (mw g (m_now, m_kept, m_aside, m_isKept, m_found, res.1, res.2, m_lives, m_treads, m_tape, m_taped, m_begins, m_ends, m_sort, m_value, m_isWrong, m_items, m_itemMany, m_seedThen, m_groundThen, m_widths, m_sizes, m_numbers, m_moved)) (mA g)) 0 0 (mA g) := by
  refine Met.ofW (cc := cX7_walk) (maxL := 6) (ret := none) (by decide) rfl ?_
  intro p e s m args below meth c s₁ B hml hv
  obtain ⟨rfl, hI⟩ := hv
  have hx := B.exec
  have hb := B.bytes
  have hr := B.returns
  have hts := atoms_spec (ws := wsX7_walk) B.pre
  have hown : s.vm.findClass RX7 = some m.cls := findClass_of_methodNamed B.named
  have hlocks := B.notSynchronized
  have hP := hI.1
  have hB := hI.2
  have hK := hB.1
  have hNW := hB.2.1
  have hS : va_S (mA g) s.heap s.heap [] := va_S.rf
  have hw0 := hts (.fieldLink RX7 22 "SownPathsModel" "steps" "[I") (by decide +kernel)
  have hw1 := hts (.fieldLink RX7 25 "SownPathsModel" "queue" "[I") (by decide +kernel)
  have iwX7 : ∀ w ∈ wsX70, w ∈ wsX7_walk := fun w h => List.mem_cons_of_mem _ (List.mem_append_right _ h)
  have hl := lv_entry ([.ref (gm g 0), .int a1]) (n := 6) (Nat.le_of_ble_eq_true rfl)
  rw [lg_entry_eq]
  generalize (lg_sl ([.ref (gm g 0), .int a1]) ++ List.replicate (6 - (lg_sl ([.ref (gm g 0), .int a1])).length) Slot.unset).toArray = ls at hl ⊢
  have hl : lv_has ls 6 [(0, .ref (gm g 0)), (1, .int a1)] := hl
  unfold fX7_walk at hf
  refine lv_iconst (v := (0 : Int32)) hx hb dX7_walk_0 (by decide) ?_
  refine lv_istore_n (lv' := [(2, .int (0 : Int32)), (0, .ref (gm g 0)), (1, .int a1)]) hx hb dX7_walk_1 rfl hl (by decide) rfl (fun ls hl => ?_)
  refine lp_run hf (fun s1 => ∀ (H : Heap) (locs : List Loc) (ls : Array Slot), va_P g.1 vwCl (mw g (m_now, m_kept, m_aside, m_isKept, m_found, s1.2, m_queue, m_lives, m_treads, m_tape, m_taped, m_begins, m_ends, m_sort, m_value, m_isWrong, m_items, m_itemMany, m_seedThen, m_groundThen, m_widths, m_sizes, m_numbers, m_moved)) H → va_S (mA g) s.heap H locs → lv_has ls 6 [(0, .ref (gm g 0)), (1, .int a1), (2, .int s1.1)] → W p l e (headSpec wsX7_walk ({ frames := 1, cells := 0, slots := 0, locals := 21 })).room s m ([.ref (gm g 0), .int a1] : List Value).toArray below meth c H locs 0 0 (MQ below (qW none True g.1 (mw g (m_now, m_kept, m_aside, m_isKept, m_found, res.1, res.2, m_lives, m_treads, m_tape, m_taped, m_begins, m_ends, m_sort, m_value, m_isWrong, m_items, m_itemMany, m_seedThen, m_groundThen, m_widths, m_sizes, m_numbers, m_moved)) (mA g)) ([.ref (gm g 0), .int a1] : List Value).toArray s 0 0 (mA g)) (F0 m 2 ls [])) (fun v2 => ∀ (H : Heap) (locs : List Loc) (ls : Array Slot), va_P g.1 vwCl (mw g (m_now, m_kept, m_aside, m_isKept, m_found, v2.2, m_queue, m_lives, m_treads, m_tape, m_taped, m_begins, m_ends, m_sort, m_value, m_isWrong, m_items, m_itemMany, m_seedThen, m_groundThen, m_widths, m_sizes, m_numbers, m_moved)) H → va_S (mA g) s.heap H locs → lv_has ls 6 [(0, .ref (gm g 0)), (1, .int a1)] → W p l e (headSpec wsX7_walk ({ frames := 1, cells := 0, slots := 0, locals := 21 })).room s m ([.ref (gm g 0), .int a1] : List Value).toArray below meth c H locs 0 0 (MQ below (qW none True g.1 (mw g (m_now, m_kept, m_aside, m_isKept, m_found, res.1, res.2, m_lives, m_treads, m_tape, m_taped, m_begins, m_ends, m_sort, m_value, m_isWrong, m_items, m_itemMany, m_seedThen, m_groundThen, m_widths, m_sizes, m_numbers, m_moved)) (mA g)) ([.ref (gm g 0), .int a1] : List Value).toArray s 0 0 (mA g)) (F0 m 21 ls [])) ?_ ?_ _ _ _ hP hS (lv_sub hl [1, 2, 0] rfl)
  · intro v2 hf H locs ls hP hS hl
    refine lv_iconst (v := (0 : Int32)) hx hb dX7_walk_21 (by decide) ?_
    refine lv_istore_n (lv' := [(2, .int (0 : Int32)), (0, .ref (gm g 0)), (1, .int a1)]) hx hb dX7_walk_22 rfl hl (by decide) rfl (fun ls hl => ?_)
    refine lv_aload_n hx hb dX7_walk_23 rfl (lv_at hl 1 rfl) ?_
    refine lv_iload_n hx hb dX7_walk_24 rfl (lv_at hl 2 rfl) ?_
    obtain ⟨q5, hq5, hf⟩ := bd_some hf
    refine kr_S (st1 := [.int q5]) (va_runV (As := [.int a1]) (rest := []) ⟨hx, hb, hml, hown, hts⟩ (ct_X7_hasPath l n g m_now m_kept m_aside m_isKept m_found v2.2 m_queue m_lives m_treads m_tape m_taped m_begins m_ends m_sort m_value m_isWrong m_items m_itemMany m_seedThen m_groundThen m_widths m_sizes m_numbers m_moved a1 q5 hq5) (cwV 1 hts gX7_walk_X7_hasPath rfl rfl rfl hd_X7_hasPath ⟨Nat.le_of_ble_eq_true rfl, Nat.le_of_ble_eq_true rfl⟩) ⟨bl_M, va_recv hK hP (ci := 5) (q0 := 0) rfl k_md, pr_M rfl hB hP hS⟩ rfl rfl hl.1 rfl (lv_room (Nat.le_of_ble_eq_true rfl)) dX7_walk_25 ⟨Nat.le_refl _, Nat.le_refl _⟩) rfl (fun hn6 => ?_)
    refine lv_if_eq (tgt := 47) hx hb dX7_walk_28 (by decide) (fun hc7 => ?_) (fun hc7 => ?_)
    · have hf := (if_pos hc7).symm.trans hf
      refine lv_iconst (v := (0 : Int32)) hx hb dX7_walk_47 (by decide) ?_
      refine lv_istore_n (lv' := [(3, .int (0 : Int32)), (2, .int (0 : Int32)), (0, .ref (gm g 0)), (1, .int a1)]) hx hb dX7_walk_48 rfl hl (by decide) rfl (fun ls hl => ?_)
      refine lp_run hf (fun s8 => ∀ (H : Heap) (locs : List Loc) (ls : Array Slot), va_P g.1 vwCl (mw g (m_now, m_kept, m_aside, m_isKept, m_found, s8.2.2.1, s8.2.2.2, m_lives, m_treads, m_tape, m_taped, m_begins, m_ends, m_sort, m_value, m_isWrong, m_items, m_itemMany, m_seedThen, m_groundThen, m_widths, m_sizes, m_numbers, m_moved)) H → va_S (mA g) s.heap H locs → lv_has ls 6 [(0, .ref (gm g 0)), (2, .int s8.1), (3, .int s8.2.1)] → W p l e (headSpec wsX7_walk ({ frames := 1, cells := 0, slots := 0, locals := 21 })).room s m ([.ref (gm g 0), .int a1] : List Value).toArray below meth c H locs 0 0 (MQ below (qW none True g.1 (mw g (m_now, m_kept, m_aside, m_isKept, m_found, res.1, res.2, m_lives, m_treads, m_tape, m_taped, m_begins, m_ends, m_sort, m_value, m_isWrong, m_items, m_itemMany, m_seedThen, m_groundThen, m_widths, m_sizes, m_numbers, m_moved)) (mA g)) ([.ref (gm g 0), .int a1] : List Value).toArray s 0 0 (mA g)) (F0 m 49 ls [])) (fun v9 => ∀ (H : Heap) (locs : List Loc) (ls : Array Slot), va_P g.1 vwCl (mw g (m_now, m_kept, m_aside, m_isKept, m_found, v9.2.2.1, v9.2.2.2, m_lives, m_treads, m_tape, m_taped, m_begins, m_ends, m_sort, m_value, m_isWrong, m_items, m_itemMany, m_seedThen, m_groundThen, m_widths, m_sizes, m_numbers, m_moved)) H → va_S (mA g) s.heap H locs → lv_has ls 6 [] → W p l e (headSpec wsX7_walk ({ frames := 1, cells := 0, slots := 0, locals := 21 })).room s m ([.ref (gm g 0), .int a1] : List Value).toArray below meth c H locs 0 0 (MQ below (qW none True g.1 (mw g (m_now, m_kept, m_aside, m_isKept, m_found, res.1, res.2, m_lives, m_treads, m_tape, m_taped, m_begins, m_ends, m_sort, m_value, m_isWrong, m_items, m_itemMany, m_seedThen, m_groundThen, m_widths, m_sizes, m_numbers, m_moved)) (mA g)) ([.ref (gm g 0), .int a1] : List Value).toArray s 0 0 (mA g)) (F0 m 143 ls [])) ?_ ?_ _ _ _ hP hS (lv_sub hl [2, 1, 0] rfl)
      · intro v9 hf H locs ls hP hS hl
        have hres : (v9.2.2.1, v9.2.2.2) = res := (Option.some.inj hf)
        have hP := w_eq (congrArg (fun z => mw g (m_now, m_kept, m_aside, m_isKept, m_found, z.1, z.2, m_lives, m_treads, m_tape, m_taped, m_begins, m_ends, m_sort, m_value, m_isWrong, m_items, m_itemMany, m_seedThen, m_groundThen, m_widths, m_sizes, m_numbers, m_moved)) hres) hP
        exact W.vret hx hb hr (fun t ht hW => ⟨rfl, trivial, by rw [ht]; exact hP, hS.F ht⟩) hS.2.2 dX7_walk_143
      · intro s8 r1 hf hback1 hexit1 H locs ls hP hS hl
        refine lv_iload_n hx hb dX7_walk_49 rfl (lv_at hl 2 rfl) ?_
        refine lv_iload_n hx hb dX7_walk_50 rfl (lv_at hl 1 rfl) ?_
        refine lv_icmp_ge (tgt := 143) hx hb dX7_walk_51 (by decide) (fun hc10 => ?_) (fun hc10 => ?_)
        · have hf := (if_pos hc10).symm.trans hf
          exact hexit1 (s8.1, s8.2.1, s8.2.2.1, s8.2.2.2) (Option.some.inj hf).symm H locs ls hP hS (lv_sub hl [] rfl)
        · have hf := (if_neg hc10).symm.trans hf
          refine lv_iconst (v := (0 : Int32)) hx hb dX7_walk_54 (by decide) ?_
          refine lv_istore (lv' := [(4, .int (0 : Int32)), (0, .ref (gm g 0)), (2, .int s8.1), (3, .int s8.2.1)]) hx hb dX7_walk_55 hl (by decide) rfl (fun ls hl => ?_)
          refine lp_run hf (fun s11 => ∀ (H : Heap) (locs : List Loc) (ls : Array Slot), va_P g.1 vwCl (mw g (m_now, m_kept, m_aside, m_isKept, m_found, s11.2.2.1, s11.2.2.2, m_lives, m_treads, m_tape, m_taped, m_begins, m_ends, m_sort, m_value, m_isWrong, m_items, m_itemMany, m_seedThen, m_groundThen, m_widths, m_sizes, m_numbers, m_moved)) H → va_S (mA g) s.heap H locs → lv_has ls 6 [(0, .ref (gm g 0)), (2, .int s11.1), (3, .int s8.2.1), (4, .int s11.2.1)] → W p l e (headSpec wsX7_walk ({ frames := 1, cells := 0, slots := 0, locals := 21 })).room s m ([.ref (gm g 0), .int a1] : List Value).toArray below meth c H locs 0 0 (MQ below (qW none True g.1 (mw g (m_now, m_kept, m_aside, m_isKept, m_found, res.1, res.2, m_lives, m_treads, m_tape, m_taped, m_begins, m_ends, m_sort, m_value, m_isWrong, m_items, m_itemMany, m_seedThen, m_groundThen, m_widths, m_sizes, m_numbers, m_moved)) (mA g)) ([.ref (gm g 0), .int a1] : List Value).toArray s 0 0 (mA g)) (F0 m 57 ls [])) (fun v12 => ∀ (H : Heap) (locs : List Loc) (ls : Array Slot), va_P g.1 vwCl (mw g (m_now, m_kept, m_aside, m_isKept, m_found, v12.2.2.1, v12.2.2.2, m_lives, m_treads, m_tape, m_taped, m_begins, m_ends, m_sort, m_value, m_isWrong, m_items, m_itemMany, m_seedThen, m_groundThen, m_widths, m_sizes, m_numbers, m_moved)) H → va_S (mA g) s.heap H locs → lv_has ls 6 [(0, .ref (gm g 0)), (2, .int v12.1), (3, .int s8.2.1)] → W p l e (headSpec wsX7_walk ({ frames := 1, cells := 0, slots := 0, locals := 21 })).room s m ([.ref (gm g 0), .int a1] : List Value).toArray below meth c H locs 0 0 (MQ below (qW none True g.1 (mw g (m_now, m_kept, m_aside, m_isKept, m_found, res.1, res.2, m_lives, m_treads, m_tape, m_taped, m_begins, m_ends, m_sort, m_value, m_isWrong, m_items, m_itemMany, m_seedThen, m_groundThen, m_widths, m_sizes, m_numbers, m_moved)) (mA g)) ([.ref (gm g 0), .int a1] : List Value).toArray s 0 0 (mA g)) (F0 m 137 ls [])) ?_ ?_ _ _ _ hP hS (lv_sub hl [1, 2, 3, 0] rfl)
          · intro v12 hf H locs ls hP hS hl
            refine lv_iinc (v := (s8.2.1 + (1 : Int32))) (lv' := [(3, .int (s8.2.1 + (1 : Int32))), (0, .ref (gm g 0)), (2, .int v12.1)]) hx hb dX7_walk_137 hl (k := 2) rfl (congrArg (fun y => s8.2.1 + y) (by decide : Int32.ofInt (1) = (1 : Int32))) (by decide) rfl (fun ls hl => ?_)
            refine lv_goto (tgt := 49) hx hb dX7_walk_140 (by decide) ?_
            exact hback1 _ (Option.some.inj hf).symm H locs ls hP hS (lv_sub hl [1, 2, 0] rfl)
          · intro s11 r2 hf hback2 hexit2 H locs ls hP hS hl
            refine lv_iload hx hb dX7_walk_57 (lv_at hl 3 rfl) ?_
            refine lv_iconst (v := (4 : Int32)) hx hb dX7_walk_59 (by decide) ?_
            refine lv_icmp_ge (tgt := 137) hx hb dX7_walk_60 (by decide) (fun hc13 => ?_) (fun hc13 => ?_)
            · have hf := (if_pos hc13).symm.trans hf
              exact hexit2 (s11.1, s11.2.1, s11.2.2.1, s11.2.2.2) (Option.some.inj hf).symm H locs ls hP hS (lv_sub hl [0, 1, 2] rfl)
            · have hf := (if_neg hc13).symm.trans hf
              refine lv_aload_n hx hb dX7_walk_63 rfl (lv_at hl 0 rfl) ?_
              refine va_get (D := g.1) (ci := 5) (v := .ref (gm g 6)) (C := RX7) (T := TX7) (N := 27) hx hb hts iwX7 hown hK hP 0 k_md rfl 6 (by decide) hw1 (fun _ h9 => h9) rfl dX7_walk_64 ?_
              refine lv_iload_n hx hb dX7_walk_67 rfl (lv_at hl 2 rfl) ?_
              obtain ⟨hg14, hf⟩ := gd_some hf
              refine va_iald (f := s11.2.2.2) hx hb hK hP 6 0 k_queue rfl hg14 dX7_walk_68 ?_
              refine lv_iload hx hb dX7_walk_69 (lv_at hl 3 rfl) ?_
              obtain ⟨q15, hq15, hf⟩ := bd_some hf
              refine kr_S (st1 := [.int q15]) (va_runS (As := [.int (s11.2.2.2 s8.2.1.toNatClampNeg), .int s11.2.1]) (rest := []) ⟨hx, hb, hml, hown, hts⟩ (ct_X7_beside l n (s11.2.2.2 s8.2.1.toNatClampNeg) s11.2.1 q15 hq15) (va_cwS 2 hts gX7_walk_X7_beside rfl rfl rfl hn_X7_beside ⟨Nat.le_of_ble_eq_true rfl, Nat.le_of_ble_eq_true rfl⟩) ⟨bl_N, pr_N rfl hNW⟩ rfl rfl hl.1 rfl (lv_room (Nat.le_of_ble_eq_true rfl)) dX7_walk_71 ⟨Nat.le_refl _, Nat.le_refl _⟩) rfl (fun hn16 => ?_)
              refine lv_istore (lv' := [(5, .int q15), (0, .ref (gm g 0)), (2, .int s11.1), (3, .int s8.2.1), (4, .int s11.2.1)]) hx hb dX7_walk_74 hl (by decide) rfl (fun ls hl => ?_)
              refine lv_iload hx hb dX7_walk_76 (lv_at hl 0 rfl) ?_
              refine lv_if_lt (tgt := 131) hx hb dX7_walk_78 (by decide) (fun hc17 => ?_) (fun hc17 => ?_)
              · have hf := (if_pos hc17).symm.trans hf
                refine lv_iinc (v := (s11.2.1 + (1 : Int32))) (lv' := [(4, .int (s11.2.1 + (1 : Int32))), (5, .int q15), (0, .ref (gm g 0)), (2, .int s11.1), (3, .int s8.2.1)]) hx hb dX7_walk_131 hl (k := 4) rfl (congrArg (fun y => s11.2.1 + y) (by decide : Int32.ofInt (1) = (1 : Int32))) (by decide) rfl (fun ls hl => ?_)
                refine lv_goto (tgt := 57) hx hb dX7_walk_134 (by decide) ?_
                exact hback2 _ (Option.some.inj hf).symm H locs ls hP hS (lv_sub hl [2, 3, 4, 0] rfl)
              · have hf := (if_neg hc17).symm.trans hf
                refine lv_aload_n hx hb dX7_walk_81 rfl (lv_at hl 1 rfl) ?_
                refine lv_iload hx hb dX7_walk_82 (lv_at hl 0 rfl) ?_
                obtain ⟨q18, hq18, hf⟩ := bd_some hf
                refine kr_S (st1 := [.int q18]) (va_runV (As := [.int q15]) (rest := []) ⟨hx, hb, hml, hown, hts⟩ (ct_X7_hasPath l n g m_now m_kept m_aside m_isKept m_found s11.2.2.1 s11.2.2.2 m_lives m_treads m_tape m_taped m_begins m_ends m_sort m_value m_isWrong m_items m_itemMany m_seedThen m_groundThen m_widths m_sizes m_numbers m_moved q15 q18 hq18) (cwV 1 hts gX7_walk_X7_hasPath rfl rfl rfl hd_X7_hasPath ⟨Nat.le_of_ble_eq_true rfl, Nat.le_of_ble_eq_true rfl⟩) ⟨bl_M, va_recv hK hP (ci := 5) (q0 := 0) rfl k_md, pr_M rfl hB hP hS⟩ rfl rfl hl.1 rfl (lv_room (Nat.le_of_ble_eq_true rfl)) dX7_walk_84 ⟨Nat.le_refl _, Nat.le_refl _⟩) rfl (fun hn19 => ?_)
                refine lv_if_eq (tgt := 131) hx hb dX7_walk_87 (by decide) (fun hc20 => ?_) (fun hc20 => ?_)
                · have hf := (if_pos hc20).symm.trans hf
                  refine lv_iinc (v := (s11.2.1 + (1 : Int32))) (lv' := [(4, .int (s11.2.1 + (1 : Int32))), (5, .int q15), (0, .ref (gm g 0)), (2, .int s11.1), (3, .int s8.2.1)]) hx hb dX7_walk_131 hl (k := 4) rfl (congrArg (fun y => s11.2.1 + y) (by decide : Int32.ofInt (1) = (1 : Int32))) (by decide) rfl (fun ls hl => ?_)
                  refine lv_goto (tgt := 57) hx hb dX7_walk_134 (by decide) ?_
                  exact hback2 _ (Option.some.inj hf).symm H locs ls hP hS (lv_sub hl [2, 3, 4, 0] rfl)
                · have hf := (if_neg hc20).symm.trans hf
                  refine lv_aload_n hx hb dX7_walk_90 rfl (lv_at hl 1 rfl) ?_
                  refine va_get (D := g.1) (ci := 5) (v := .ref (gm g 5)) (C := RX7) (T := TX7) (N := 27) hx hb hts iwX7 hown hK hP 0 k_md rfl 5 (by decide) hw0 (fun _ h9 => h9) rfl dX7_walk_91 ?_
                  refine lv_iload hx hb dX7_walk_94 (lv_at hl 0 rfl) ?_
                  obtain ⟨hg21, hf⟩ := gd_some hf
                  refine va_iald (f := s11.2.2.1) hx hb hK hP 5 0 k_steps rfl hg21 dX7_walk_96 ?_
                  refine lv_if_ge (tgt := 131) hx hb dX7_walk_97 (by decide) (fun hc22 => ?_) (fun hc22 => ?_)
                  · have hf := (if_pos hc22).symm.trans hf
                    refine lv_iinc (v := (s11.2.1 + (1 : Int32))) (lv' := [(4, .int (s11.2.1 + (1 : Int32))), (5, .int q15), (0, .ref (gm g 0)), (2, .int s11.1), (3, .int s8.2.1)]) hx hb dX7_walk_131 hl (k := 4) rfl (congrArg (fun y => s11.2.1 + y) (by decide : Int32.ofInt (1) = (1 : Int32))) (by decide) rfl (fun ls hl => ?_)
                    refine lv_goto (tgt := 57) hx hb dX7_walk_134 (by decide) ?_
                    exact hback2 _ (Option.some.inj hf).symm H locs ls hP hS (lv_sub hl [2, 3, 4, 0] rfl)
                  · have hf := (if_neg hc22).symm.trans hf
                    refine lv_aload_n hx hb dX7_walk_100 rfl (lv_at hl 1 rfl) ?_
                    refine va_get (D := g.1) (ci := 5) (v := .ref (gm g 5)) (C := RX7) (T := TX7) (N := 27) hx hb hts iwX7 hown hK hP 0 k_md rfl 5 (by decide) hw0 (fun _ h9 => h9) rfl dX7_walk_101 ?_
                    refine lv_iload hx hb dX7_walk_104 (lv_at hl 0 rfl) ?_
                    refine lv_aload_n hx hb dX7_walk_106 rfl (lv_at hl 1 rfl) ?_
                    refine va_get (D := g.1) (ci := 5) (v := .ref (gm g 5)) (C := RX7) (T := TX7) (N := 27) hx hb hts iwX7 hown hK hP 0 k_md rfl 5 (by decide) hw0 (fun _ h9 => h9) rfl dX7_walk_107 ?_
                    refine lv_aload_n hx hb dX7_walk_110 rfl (lv_at hl 1 rfl) ?_
                    refine va_get (D := g.1) (ci := 5) (v := .ref (gm g 6)) (C := RX7) (T := TX7) (N := 27) hx hb hts iwX7 hown hK hP 0 k_md rfl 6 (by decide) hw1 (fun _ h9 => h9) rfl dX7_walk_111 ?_
                    refine lv_iload_n hx hb dX7_walk_114 rfl (lv_at hl 3 rfl) ?_
                    obtain ⟨hg23, hf⟩ := gd_some hf
                    refine va_iald (f := s11.2.2.2) hx hb hK hP 6 0 k_queue rfl hg23 dX7_walk_115 ?_
                    obtain ⟨hg24, hf⟩ := gd_some hf
                    refine va_iald (f := s11.2.2.1) hx hb hK hP 5 0 k_steps rfl hg24 dX7_walk_116 ?_
                    refine lv_iconst (v := (1 : Int32)) hx hb dX7_walk_117 (by decide) ?_
                    refine lv_iadd hx hb dX7_walk_118 ?_
                    obtain ⟨hg25, hf⟩ := gd_some hf
                    refine va_iast (f := s11.2.2.1) hx hb hK hP (mD hB.2.2.1 _) hS 5 0 k_steps rfl hg25 dX7_walk_119 (fun H locs hP _ hS => ?_)
                    have hP : va_P g.1 vwCl (mw g (m_now, m_kept, m_aside, m_isKept, m_found, (upd s11.2.2.1 q15.toNatClampNeg ((s11.2.2.1 (s11.2.2.2 s8.2.1.toNatClampNeg).toNatClampNeg) + (1 : Int32))), s11.2.2.2, m_lives, m_treads, m_tape, m_taped, m_begins, m_ends, m_sort, m_value, m_isWrong, m_items, m_itemMany, m_seedThen, m_groundThen, m_widths, m_sizes, m_numbers, m_moved)) H := w_eq (k_set_steps (upd s11.2.2.1 q15.toNatClampNeg ((s11.2.2.1 (s11.2.2.2 s8.2.1.toNatClampNeg).toNatClampNeg) + (1 : Int32)))) hP
                    refine lv_aload_n hx hb dX7_walk_120 rfl (lv_at hl 1 rfl) ?_
                    refine va_get (D := g.1) (ci := 5) (v := .ref (gm g 6)) (C := RX7) (T := TX7) (N := 27) hx hb hts iwX7 hown hK hP 0 k_md rfl 6 (by decide) hw1 (fun _ h9 => h9) rfl dX7_walk_121 ?_
                    refine lv_iload_n hx hb dX7_walk_124 rfl (lv_at hl 2 rfl) ?_
                    refine lv_iload hx hb dX7_walk_125 (lv_at hl 0 rfl) ?_
                    obtain ⟨hg26, hf⟩ := gd_some hf
                    refine va_iast (f := s11.2.2.2) hx hb hK hP (mD hB.2.2.1 _) hS 6 0 k_queue rfl hg26 dX7_walk_127 (fun H locs hP _ hS => ?_)
                    have hP : va_P g.1 vwCl (mw g (m_now, m_kept, m_aside, m_isKept, m_found, (upd s11.2.2.1 q15.toNatClampNeg ((s11.2.2.1 (s11.2.2.2 s8.2.1.toNatClampNeg).toNatClampNeg) + (1 : Int32))), (upd s11.2.2.2 s11.1.toNatClampNeg q15), m_lives, m_treads, m_tape, m_taped, m_begins, m_ends, m_sort, m_value, m_isWrong, m_items, m_itemMany, m_seedThen, m_groundThen, m_widths, m_sizes, m_numbers, m_moved)) H := w_eq (k_set_queue (upd s11.2.2.2 s11.1.toNatClampNeg q15)) hP
                    refine lv_iinc (v := (s11.1 + (1 : Int32))) (lv' := [(2, .int (s11.1 + (1 : Int32))), (5, .int q15), (0, .ref (gm g 0)), (3, .int s8.2.1), (4, .int s11.2.1)]) hx hb dX7_walk_128 hl (k := 2) rfl (congrArg (fun y => s11.1 + y) (by decide : Int32.ofInt (1) = (1 : Int32))) (by decide) rfl (fun ls hl => ?_)
                    refine lv_iinc (v := (s11.2.1 + (1 : Int32))) (lv' := [(4, .int (s11.2.1 + (1 : Int32))), (2, .int (s11.1 + (1 : Int32))), (5, .int q15), (0, .ref (gm g 0)), (3, .int s8.2.1)]) hx hb dX7_walk_131 hl (k := 4) rfl (congrArg (fun y => s11.2.1 + y) (by decide : Int32.ofInt (1) = (1 : Int32))) (by decide) rfl (fun ls hl => ?_)
                    refine lv_goto (tgt := 57) hx hb dX7_walk_134 (by decide) ?_
                    exact hback2 _ (Option.some.inj hf).symm H locs ls hP hS (lv_sub hl [3, 1, 4, 0] rfl)
    · have hf := (if_neg hc7).symm.trans hf
      refine lv_aload_n hx hb dX7_walk_31 rfl (lv_at hl 1 rfl) ?_
      refine va_get (D := g.1) (ci := 5) (v := .ref (gm g 5)) (C := RX7) (T := TX7) (N := 27) hx hb hts iwX7 hown hK hP 0 k_md rfl 5 (by decide) hw0 (fun _ h9 => h9) rfl dX7_walk_32 ?_
      refine lv_iload_n hx hb dX7_walk_35 rfl (lv_at hl 2 rfl) ?_
      refine lv_iconst (v := (0 : Int32)) hx hb dX7_walk_36 (by decide) ?_
      obtain ⟨hg27, hf⟩ := gd_some hf
      refine va_iast (f := v2.2) hx hb hK hP (mD hB.2.2.1 _) hS 5 0 k_steps rfl hg27 dX7_walk_37 (fun H locs hP _ hS => ?_)
      have hP : va_P g.1 vwCl (mw g (m_now, m_kept, m_aside, m_isKept, m_found, (upd v2.2 a1.toNatClampNeg (0 : Int32)), m_queue, m_lives, m_treads, m_tape, m_taped, m_begins, m_ends, m_sort, m_value, m_isWrong, m_items, m_itemMany, m_seedThen, m_groundThen, m_widths, m_sizes, m_numbers, m_moved)) H := w_eq (k_set_steps (upd v2.2 a1.toNatClampNeg (0 : Int32))) hP
      refine lv_aload_n hx hb dX7_walk_38 rfl (lv_at hl 1 rfl) ?_
      refine va_get (D := g.1) (ci := 5) (v := .ref (gm g 6)) (C := RX7) (T := TX7) (N := 27) hx hb hts iwX7 hown hK hP 0 k_md rfl 6 (by decide) hw1 (fun _ h9 => h9) rfl dX7_walk_39 ?_
      refine lv_iconst (v := (0 : Int32)) hx hb dX7_walk_42 (by decide) ?_
      refine lv_iload_n hx hb dX7_walk_43 rfl (lv_at hl 2 rfl) ?_
      refine va_iast (f := m_queue) hx hb hK hP (mD hB.2.2.1 _) hS 6 0 k_queue rfl (vi_lit (by decide)) dX7_walk_44 (fun H locs hP _ hS => ?_)
      have hP : va_P g.1 vwCl (mw g (m_now, m_kept, m_aside, m_isKept, m_found, (upd v2.2 a1.toNatClampNeg (0 : Int32)), (upd m_queue (0 : Int32).toNatClampNeg a1), m_lives, m_treads, m_tape, m_taped, m_begins, m_ends, m_sort, m_value, m_isWrong, m_items, m_itemMany, m_seedThen, m_groundThen, m_widths, m_sizes, m_numbers, m_moved)) H := w_eq (k_set_queue (upd m_queue (0 : Int32).toNatClampNeg a1)) hP
      refine lv_iconst (v := (1 : Int32)) hx hb dX7_walk_45 (by decide) ?_
      refine lv_istore_n (lv' := [(2, .int (1 : Int32)), (0, .ref (gm g 0)), (1, .int a1)]) hx hb dX7_walk_46 rfl hl (by decide) rfl (fun ls hl => ?_)
      refine lv_iconst (v := (0 : Int32)) hx hb dX7_walk_47 (by decide) ?_
      refine lv_istore_n (lv' := [(3, .int (0 : Int32)), (2, .int (1 : Int32)), (0, .ref (gm g 0)), (1, .int a1)]) hx hb dX7_walk_48 rfl hl (by decide) rfl (fun ls hl => ?_)
      refine lp_run hf (fun s28 => ∀ (H : Heap) (locs : List Loc) (ls : Array Slot), va_P g.1 vwCl (mw g (m_now, m_kept, m_aside, m_isKept, m_found, s28.2.2.1, s28.2.2.2, m_lives, m_treads, m_tape, m_taped, m_begins, m_ends, m_sort, m_value, m_isWrong, m_items, m_itemMany, m_seedThen, m_groundThen, m_widths, m_sizes, m_numbers, m_moved)) H → va_S (mA g) s.heap H locs → lv_has ls 6 [(0, .ref (gm g 0)), (2, .int s28.1), (3, .int s28.2.1)] → W p l e (headSpec wsX7_walk ({ frames := 1, cells := 0, slots := 0, locals := 21 })).room s m ([.ref (gm g 0), .int a1] : List Value).toArray below meth c H locs 0 0 (MQ below (qW none True g.1 (mw g (m_now, m_kept, m_aside, m_isKept, m_found, res.1, res.2, m_lives, m_treads, m_tape, m_taped, m_begins, m_ends, m_sort, m_value, m_isWrong, m_items, m_itemMany, m_seedThen, m_groundThen, m_widths, m_sizes, m_numbers, m_moved)) (mA g)) ([.ref (gm g 0), .int a1] : List Value).toArray s 0 0 (mA g)) (F0 m 49 ls [])) (fun v29 => ∀ (H : Heap) (locs : List Loc) (ls : Array Slot), va_P g.1 vwCl (mw g (m_now, m_kept, m_aside, m_isKept, m_found, v29.2.2.1, v29.2.2.2, m_lives, m_treads, m_tape, m_taped, m_begins, m_ends, m_sort, m_value, m_isWrong, m_items, m_itemMany, m_seedThen, m_groundThen, m_widths, m_sizes, m_numbers, m_moved)) H → va_S (mA g) s.heap H locs → lv_has ls 6 [] → W p l e (headSpec wsX7_walk ({ frames := 1, cells := 0, slots := 0, locals := 21 })).room s m ([.ref (gm g 0), .int a1] : List Value).toArray below meth c H locs 0 0 (MQ below (qW none True g.1 (mw g (m_now, m_kept, m_aside, m_isKept, m_found, res.1, res.2, m_lives, m_treads, m_tape, m_taped, m_begins, m_ends, m_sort, m_value, m_isWrong, m_items, m_itemMany, m_seedThen, m_groundThen, m_widths, m_sizes, m_numbers, m_moved)) (mA g)) ([.ref (gm g 0), .int a1] : List Value).toArray s 0 0 (mA g)) (F0 m 143 ls [])) ?_ ?_ _ _ _ hP hS (lv_sub hl [2, 1, 0] rfl)
      · intro v29 hf H locs ls hP hS hl
        have hres : (v29.2.2.1, v29.2.2.2) = res := (Option.some.inj hf)
        have hP := w_eq (congrArg (fun z => mw g (m_now, m_kept, m_aside, m_isKept, m_found, z.1, z.2, m_lives, m_treads, m_tape, m_taped, m_begins, m_ends, m_sort, m_value, m_isWrong, m_items, m_itemMany, m_seedThen, m_groundThen, m_widths, m_sizes, m_numbers, m_moved)) hres) hP
        exact W.vret hx hb hr (fun t ht hW => ⟨rfl, trivial, by rw [ht]; exact hP, hS.F ht⟩) hS.2.2 dX7_walk_143
      · intro s28 r1 hf hback1 hexit1 H locs ls hP hS hl
        refine lv_iload_n hx hb dX7_walk_49 rfl (lv_at hl 2 rfl) ?_
        refine lv_iload_n hx hb dX7_walk_50 rfl (lv_at hl 1 rfl) ?_
        refine lv_icmp_ge (tgt := 143) hx hb dX7_walk_51 (by decide) (fun hc30 => ?_) (fun hc30 => ?_)
        · have hf := (if_pos hc30).symm.trans hf
          exact hexit1 (s28.1, s28.2.1, s28.2.2.1, s28.2.2.2) (Option.some.inj hf).symm H locs ls hP hS (lv_sub hl [] rfl)
        · have hf := (if_neg hc30).symm.trans hf
          refine lv_iconst (v := (0 : Int32)) hx hb dX7_walk_54 (by decide) ?_
          refine lv_istore (lv' := [(4, .int (0 : Int32)), (0, .ref (gm g 0)), (2, .int s28.1), (3, .int s28.2.1)]) hx hb dX7_walk_55 hl (by decide) rfl (fun ls hl => ?_)
          refine lp_run hf (fun s31 => ∀ (H : Heap) (locs : List Loc) (ls : Array Slot), va_P g.1 vwCl (mw g (m_now, m_kept, m_aside, m_isKept, m_found, s31.2.2.1, s31.2.2.2, m_lives, m_treads, m_tape, m_taped, m_begins, m_ends, m_sort, m_value, m_isWrong, m_items, m_itemMany, m_seedThen, m_groundThen, m_widths, m_sizes, m_numbers, m_moved)) H → va_S (mA g) s.heap H locs → lv_has ls 6 [(0, .ref (gm g 0)), (2, .int s31.1), (3, .int s28.2.1), (4, .int s31.2.1)] → W p l e (headSpec wsX7_walk ({ frames := 1, cells := 0, slots := 0, locals := 21 })).room s m ([.ref (gm g 0), .int a1] : List Value).toArray below meth c H locs 0 0 (MQ below (qW none True g.1 (mw g (m_now, m_kept, m_aside, m_isKept, m_found, res.1, res.2, m_lives, m_treads, m_tape, m_taped, m_begins, m_ends, m_sort, m_value, m_isWrong, m_items, m_itemMany, m_seedThen, m_groundThen, m_widths, m_sizes, m_numbers, m_moved)) (mA g)) ([.ref (gm g 0), .int a1] : List Value).toArray s 0 0 (mA g)) (F0 m 57 ls [])) (fun v32 => ∀ (H : Heap) (locs : List Loc) (ls : Array Slot), va_P g.1 vwCl (mw g (m_now, m_kept, m_aside, m_isKept, m_found, v32.2.2.1, v32.2.2.2, m_lives, m_treads, m_tape, m_taped, m_begins, m_ends, m_sort, m_value, m_isWrong, m_items, m_itemMany, m_seedThen, m_groundThen, m_widths, m_sizes, m_numbers, m_moved)) H → va_S (mA g) s.heap H locs → lv_has ls 6 [(0, .ref (gm g 0)), (2, .int v32.1), (3, .int s28.2.1)] → W p l e (headSpec wsX7_walk ({ frames := 1, cells := 0, slots := 0, locals := 21 })).room s m ([.ref (gm g 0), .int a1] : List Value).toArray below meth c H locs 0 0 (MQ below (qW none True g.1 (mw g (m_now, m_kept, m_aside, m_isKept, m_found, res.1, res.2, m_lives, m_treads, m_tape, m_taped, m_begins, m_ends, m_sort, m_value, m_isWrong, m_items, m_itemMany, m_seedThen, m_groundThen, m_widths, m_sizes, m_numbers, m_moved)) (mA g)) ([.ref (gm g 0), .int a1] : List Value).toArray s 0 0 (mA g)) (F0 m 137 ls [])) ?_ ?_ _ _ _ hP hS (lv_sub hl [1, 2, 3, 0] rfl)
          · intro v32 hf H locs ls hP hS hl
            refine lv_iinc (v := (s28.2.1 + (1 : Int32))) (lv' := [(3, .int (s28.2.1 + (1 : Int32))), (0, .ref (gm g 0)), (2, .int v32.1)]) hx hb dX7_walk_137 hl (k := 2) rfl (congrArg (fun y => s28.2.1 + y) (by decide : Int32.ofInt (1) = (1 : Int32))) (by decide) rfl (fun ls hl => ?_)
            refine lv_goto (tgt := 49) hx hb dX7_walk_140 (by decide) ?_
            exact hback1 _ (Option.some.inj hf).symm H locs ls hP hS (lv_sub hl [1, 2, 0] rfl)
          · intro s31 r2 hf hback2 hexit2 H locs ls hP hS hl
            refine lv_iload hx hb dX7_walk_57 (lv_at hl 3 rfl) ?_
            refine lv_iconst (v := (4 : Int32)) hx hb dX7_walk_59 (by decide) ?_
            refine lv_icmp_ge (tgt := 137) hx hb dX7_walk_60 (by decide) (fun hc33 => ?_) (fun hc33 => ?_)
            · have hf := (if_pos hc33).symm.trans hf
              exact hexit2 (s31.1, s31.2.1, s31.2.2.1, s31.2.2.2) (Option.some.inj hf).symm H locs ls hP hS (lv_sub hl [0, 1, 2] rfl)
            · have hf := (if_neg hc33).symm.trans hf
              refine lv_aload_n hx hb dX7_walk_63 rfl (lv_at hl 0 rfl) ?_
              refine va_get (D := g.1) (ci := 5) (v := .ref (gm g 6)) (C := RX7) (T := TX7) (N := 27) hx hb hts iwX7 hown hK hP 0 k_md rfl 6 (by decide) hw1 (fun _ h9 => h9) rfl dX7_walk_64 ?_
              refine lv_iload_n hx hb dX7_walk_67 rfl (lv_at hl 2 rfl) ?_
              obtain ⟨hg34, hf⟩ := gd_some hf
              refine va_iald (f := s31.2.2.2) hx hb hK hP 6 0 k_queue rfl hg34 dX7_walk_68 ?_
              refine lv_iload hx hb dX7_walk_69 (lv_at hl 3 rfl) ?_
              obtain ⟨q35, hq35, hf⟩ := bd_some hf
              refine kr_S (st1 := [.int q35]) (va_runS (As := [.int (s31.2.2.2 s28.2.1.toNatClampNeg), .int s31.2.1]) (rest := []) ⟨hx, hb, hml, hown, hts⟩ (ct_X7_beside l n (s31.2.2.2 s28.2.1.toNatClampNeg) s31.2.1 q35 hq35) (va_cwS 2 hts gX7_walk_X7_beside rfl rfl rfl hn_X7_beside ⟨Nat.le_of_ble_eq_true rfl, Nat.le_of_ble_eq_true rfl⟩) ⟨bl_N, pr_N rfl hNW⟩ rfl rfl hl.1 rfl (lv_room (Nat.le_of_ble_eq_true rfl)) dX7_walk_71 ⟨Nat.le_refl _, Nat.le_refl _⟩) rfl (fun hn36 => ?_)
              refine lv_istore (lv' := [(5, .int q35), (0, .ref (gm g 0)), (2, .int s31.1), (3, .int s28.2.1), (4, .int s31.2.1)]) hx hb dX7_walk_74 hl (by decide) rfl (fun ls hl => ?_)
              refine lv_iload hx hb dX7_walk_76 (lv_at hl 0 rfl) ?_
              refine lv_if_lt (tgt := 131) hx hb dX7_walk_78 (by decide) (fun hc37 => ?_) (fun hc37 => ?_)
              · have hf := (if_pos hc37).symm.trans hf
                refine lv_iinc (v := (s31.2.1 + (1 : Int32))) (lv' := [(4, .int (s31.2.1 + (1 : Int32))), (5, .int q35), (0, .ref (gm g 0)), (2, .int s31.1), (3, .int s28.2.1)]) hx hb dX7_walk_131 hl (k := 4) rfl (congrArg (fun y => s31.2.1 + y) (by decide : Int32.ofInt (1) = (1 : Int32))) (by decide) rfl (fun ls hl => ?_)
                refine lv_goto (tgt := 57) hx hb dX7_walk_134 (by decide) ?_
                exact hback2 _ (Option.some.inj hf).symm H locs ls hP hS (lv_sub hl [2, 3, 4, 0] rfl)
              · have hf := (if_neg hc37).symm.trans hf
                refine lv_aload_n hx hb dX7_walk_81 rfl (lv_at hl 1 rfl) ?_
                refine lv_iload hx hb dX7_walk_82 (lv_at hl 0 rfl) ?_
                obtain ⟨q38, hq38, hf⟩ := bd_some hf
                refine kr_S (st1 := [.int q38]) (va_runV (As := [.int q35]) (rest := []) ⟨hx, hb, hml, hown, hts⟩ (ct_X7_hasPath l n g m_now m_kept m_aside m_isKept m_found s31.2.2.1 s31.2.2.2 m_lives m_treads m_tape m_taped m_begins m_ends m_sort m_value m_isWrong m_items m_itemMany m_seedThen m_groundThen m_widths m_sizes m_numbers m_moved q35 q38 hq38) (cwV 1 hts gX7_walk_X7_hasPath rfl rfl rfl hd_X7_hasPath ⟨Nat.le_of_ble_eq_true rfl, Nat.le_of_ble_eq_true rfl⟩) ⟨bl_M, va_recv hK hP (ci := 5) (q0 := 0) rfl k_md, pr_M rfl hB hP hS⟩ rfl rfl hl.1 rfl (lv_room (Nat.le_of_ble_eq_true rfl)) dX7_walk_84 ⟨Nat.le_refl _, Nat.le_refl _⟩) rfl (fun hn39 => ?_)
                refine lv_if_eq (tgt := 131) hx hb dX7_walk_87 (by decide) (fun hc40 => ?_) (fun hc40 => ?_)
                · have hf := (if_pos hc40).symm.trans hf
                  refine lv_iinc (v := (s31.2.1 + (1 : Int32))) (lv' := [(4, .int (s31.2.1 + (1 : Int32))), (5, .int q35), (0, .ref (gm g 0)), (2, .int s31.1), (3, .int s28.2.1)]) hx hb dX7_walk_131 hl (k := 4) rfl (congrArg (fun y => s31.2.1 + y) (by decide : Int32.ofInt (1) = (1 : Int32))) (by decide) rfl (fun ls hl => ?_)
                  refine lv_goto (tgt := 57) hx hb dX7_walk_134 (by decide) ?_
                  exact hback2 _ (Option.some.inj hf).symm H locs ls hP hS (lv_sub hl [2, 3, 4, 0] rfl)
                · have hf := (if_neg hc40).symm.trans hf
                  refine lv_aload_n hx hb dX7_walk_90 rfl (lv_at hl 1 rfl) ?_
                  refine va_get (D := g.1) (ci := 5) (v := .ref (gm g 5)) (C := RX7) (T := TX7) (N := 27) hx hb hts iwX7 hown hK hP 0 k_md rfl 5 (by decide) hw0 (fun _ h9 => h9) rfl dX7_walk_91 ?_
                  refine lv_iload hx hb dX7_walk_94 (lv_at hl 0 rfl) ?_
                  obtain ⟨hg41, hf⟩ := gd_some hf
                  refine va_iald (f := s31.2.2.1) hx hb hK hP 5 0 k_steps rfl hg41 dX7_walk_96 ?_
                  refine lv_if_ge (tgt := 131) hx hb dX7_walk_97 (by decide) (fun hc42 => ?_) (fun hc42 => ?_)
                  · have hf := (if_pos hc42).symm.trans hf
                    refine lv_iinc (v := (s31.2.1 + (1 : Int32))) (lv' := [(4, .int (s31.2.1 + (1 : Int32))), (5, .int q35), (0, .ref (gm g 0)), (2, .int s31.1), (3, .int s28.2.1)]) hx hb dX7_walk_131 hl (k := 4) rfl (congrArg (fun y => s31.2.1 + y) (by decide : Int32.ofInt (1) = (1 : Int32))) (by decide) rfl (fun ls hl => ?_)
                    refine lv_goto (tgt := 57) hx hb dX7_walk_134 (by decide) ?_
                    exact hback2 _ (Option.some.inj hf).symm H locs ls hP hS (lv_sub hl [2, 3, 4, 0] rfl)
                  · have hf := (if_neg hc42).symm.trans hf
                    refine lv_aload_n hx hb dX7_walk_100 rfl (lv_at hl 1 rfl) ?_
                    refine va_get (D := g.1) (ci := 5) (v := .ref (gm g 5)) (C := RX7) (T := TX7) (N := 27) hx hb hts iwX7 hown hK hP 0 k_md rfl 5 (by decide) hw0 (fun _ h9 => h9) rfl dX7_walk_101 ?_
                    refine lv_iload hx hb dX7_walk_104 (lv_at hl 0 rfl) ?_
                    refine lv_aload_n hx hb dX7_walk_106 rfl (lv_at hl 1 rfl) ?_
                    refine va_get (D := g.1) (ci := 5) (v := .ref (gm g 5)) (C := RX7) (T := TX7) (N := 27) hx hb hts iwX7 hown hK hP 0 k_md rfl 5 (by decide) hw0 (fun _ h9 => h9) rfl dX7_walk_107 ?_
                    refine lv_aload_n hx hb dX7_walk_110 rfl (lv_at hl 1 rfl) ?_
                    refine va_get (D := g.1) (ci := 5) (v := .ref (gm g 6)) (C := RX7) (T := TX7) (N := 27) hx hb hts iwX7 hown hK hP 0 k_md rfl 6 (by decide) hw1 (fun _ h9 => h9) rfl dX7_walk_111 ?_
                    refine lv_iload_n hx hb dX7_walk_114 rfl (lv_at hl 3 rfl) ?_
                    obtain ⟨hg43, hf⟩ := gd_some hf
                    refine va_iald (f := s31.2.2.2) hx hb hK hP 6 0 k_queue rfl hg43 dX7_walk_115 ?_
                    obtain ⟨hg44, hf⟩ := gd_some hf
                    refine va_iald (f := s31.2.2.1) hx hb hK hP 5 0 k_steps rfl hg44 dX7_walk_116 ?_
                    refine lv_iconst (v := (1 : Int32)) hx hb dX7_walk_117 (by decide) ?_
                    refine lv_iadd hx hb dX7_walk_118 ?_
                    obtain ⟨hg45, hf⟩ := gd_some hf
                    refine va_iast (f := s31.2.2.1) hx hb hK hP (mD hB.2.2.1 _) hS 5 0 k_steps rfl hg45 dX7_walk_119 (fun H locs hP _ hS => ?_)
                    have hP : va_P g.1 vwCl (mw g (m_now, m_kept, m_aside, m_isKept, m_found, (upd s31.2.2.1 q35.toNatClampNeg ((s31.2.2.1 (s31.2.2.2 s28.2.1.toNatClampNeg).toNatClampNeg) + (1 : Int32))), s31.2.2.2, m_lives, m_treads, m_tape, m_taped, m_begins, m_ends, m_sort, m_value, m_isWrong, m_items, m_itemMany, m_seedThen, m_groundThen, m_widths, m_sizes, m_numbers, m_moved)) H := w_eq (k_set_steps (upd s31.2.2.1 q35.toNatClampNeg ((s31.2.2.1 (s31.2.2.2 s28.2.1.toNatClampNeg).toNatClampNeg) + (1 : Int32)))) hP
                    refine lv_aload_n hx hb dX7_walk_120 rfl (lv_at hl 1 rfl) ?_
                    refine va_get (D := g.1) (ci := 5) (v := .ref (gm g 6)) (C := RX7) (T := TX7) (N := 27) hx hb hts iwX7 hown hK hP 0 k_md rfl 6 (by decide) hw1 (fun _ h9 => h9) rfl dX7_walk_121 ?_
                    refine lv_iload_n hx hb dX7_walk_124 rfl (lv_at hl 2 rfl) ?_
                    refine lv_iload hx hb dX7_walk_125 (lv_at hl 0 rfl) ?_
                    obtain ⟨hg46, hf⟩ := gd_some hf
                    refine va_iast (f := s31.2.2.2) hx hb hK hP (mD hB.2.2.1 _) hS 6 0 k_queue rfl hg46 dX7_walk_127 (fun H locs hP _ hS => ?_)
                    have hP : va_P g.1 vwCl (mw g (m_now, m_kept, m_aside, m_isKept, m_found, (upd s31.2.2.1 q35.toNatClampNeg ((s31.2.2.1 (s31.2.2.2 s28.2.1.toNatClampNeg).toNatClampNeg) + (1 : Int32))), (upd s31.2.2.2 s31.1.toNatClampNeg q35), m_lives, m_treads, m_tape, m_taped, m_begins, m_ends, m_sort, m_value, m_isWrong, m_items, m_itemMany, m_seedThen, m_groundThen, m_widths, m_sizes, m_numbers, m_moved)) H := w_eq (k_set_queue (upd s31.2.2.2 s31.1.toNatClampNeg q35)) hP
                    refine lv_iinc (v := (s31.1 + (1 : Int32))) (lv' := [(2, .int (s31.1 + (1 : Int32))), (5, .int q35), (0, .ref (gm g 0)), (3, .int s28.2.1), (4, .int s31.2.1)]) hx hb dX7_walk_128 hl (k := 2) rfl (congrArg (fun y => s31.1 + y) (by decide : Int32.ofInt (1) = (1 : Int32))) (by decide) rfl (fun ls hl => ?_)
                    refine lv_iinc (v := (s31.2.1 + (1 : Int32))) (lv' := [(4, .int (s31.2.1 + (1 : Int32))), (2, .int (s31.1 + (1 : Int32))), (5, .int q35), (0, .ref (gm g 0)), (3, .int s28.2.1)]) hx hb dX7_walk_131 hl (k := 4) rfl (congrArg (fun y => s31.2.1 + y) (by decide : Int32.ofInt (1) = (1 : Int32))) (by decide) rfl (fun ls hl => ?_)
                    refine lv_goto (tgt := 57) hx hb dX7_walk_134 (by decide) ?_
                    exact hback2 _ (Option.some.inj hf).symm H locs ls hP hS (lv_sub hl [3, 1, 4, 0] rfl)
  · intro s1 r1 hf hback1 hexit1 H locs ls hP hS hl
    refine lv_iload_n hx hb dX7_walk_2 rfl (lv_at hl 2 rfl) ?_
    refine lv_bipush (v := (36 : Int32)) hx hb dX7_walk_3 (by decide) ?_
    refine lv_icmp_ge (tgt := 21) hx hb dX7_walk_5 (by decide) (fun hc3 => ?_) (fun hc3 => ?_)
    · have hf := (if_pos hc3).symm.trans hf
      exact hexit1 (s1.1, s1.2) (Option.some.inj hf).symm H locs ls hP hS (lv_sub hl [0, 1] rfl)
    · have hf := (if_neg hc3).symm.trans hf
      refine lv_aload_n hx hb dX7_walk_8 rfl (lv_at hl 0 rfl) ?_
      refine va_get (D := g.1) (ci := 5) (v := .ref (gm g 5)) (C := RX7) (T := TX7) (N := 27) hx hb hts iwX7 hown hK hP 0 k_md rfl 5 (by decide) hw0 (fun _ h9 => h9) rfl dX7_walk_9 ?_
      refine lv_iload_n hx hb dX7_walk_12 rfl (lv_at hl 2 rfl) ?_
      refine lv_iconst (v := (-1 : Int32)) hx hb dX7_walk_13 (by decide) ?_
      obtain ⟨hg4, hf⟩ := gd_some hf
      refine va_iast (f := s1.2) hx hb hK hP (mD hB.2.2.1 _) hS 5 0 k_steps rfl hg4 dX7_walk_14 (fun H locs hP _ hS => ?_)
      have hP : va_P g.1 vwCl (mw g (m_now, m_kept, m_aside, m_isKept, m_found, (upd s1.2 s1.1.toNatClampNeg (-1 : Int32)), m_queue, m_lives, m_treads, m_tape, m_taped, m_begins, m_ends, m_sort, m_value, m_isWrong, m_items, m_itemMany, m_seedThen, m_groundThen, m_widths, m_sizes, m_numbers, m_moved)) H := w_eq (k_set_steps (upd s1.2 s1.1.toNatClampNeg (-1 : Int32))) hP
      refine lv_iinc (v := (s1.1 + (1 : Int32))) (lv' := [(2, .int (s1.1 + (1 : Int32))), (0, .ref (gm g 0)), (1, .int a1)]) hx hb dX7_walk_15 hl (k := 2) rfl (congrArg (fun y => s1.1 + y) (by decide : Int32.ofInt (1) = (1 : Int32))) (by decide) rfl (fun ls hl => ?_)
      refine lv_goto (tgt := 2) hx hb dX7_walk_18 (by decide) ?_
      exact hback1 _ (Option.some.inj hf).symm H locs ls hP hS (lv_sub hl [1, 2, 0] rfl)
set_option maxHeartbeats 4000000 in
set_option maxRecDepth 100000 in
theorem ct_X7_areJoined (l : Launch) (n : Nat) (g : GM) (m_now : Nat → Int32) (m_kept : Nat → Int32) (m_aside : Nat → Int32) (m_isKept : Int32) (m_found : Nat → Int32) (m_steps : Nat → Int32) (m_queue : Nat → Int32) (m_lives : Nat → Int32) (m_treads : Nat → Int32) (m_tape : Nat → Int32) (m_taped : Int32) (m_begins : Int32) (m_ends : Int32) (m_sort : Int32) (m_value : Int32) (m_isWrong : Int32) (m_items : Nat → Int32) (m_itemMany : Int32) (m_seedThen : Int32) (m_groundThen : Nat → Int32) (m_widths : Nat → Int32) (m_sizes : Nat → Int32) (m_numbers : Nat → Int32) (m_moved : Nat → Int32) (a1 : Int32) (a2 : Int32) (res : Int32 × (Nat → Int32) × (Nat → Int32)) (hf : fX7_areJoined n a1 a2 m_now m_steps m_queue = some res) : Met l yX7_areJoined wsX7_areJoined ({ frames := 2, cells := 0, slots := 0, locals := 46 }) (va_Pc [.ref (gm g 0), .int a1, .int a2] (mI g (m_now, m_kept, m_aside, m_isKept, m_found, m_steps, m_queue, m_lives, m_treads, m_tape, m_taped, m_begins, m_ends, m_sort, m_value, m_isWrong, m_items, m_itemMany, m_seedThen, m_groundThen, m_widths, m_sizes, m_numbers, m_moved))) (qW (some (.int res.1)) (narrow .boolean (.int res.1) = .int res.1) g.1 (mw g (m_now, m_kept, m_aside, m_isKept, m_found, res.2.1, res.2.2, m_lives, m_treads, m_tape, m_taped, m_begins, m_ends, m_sort, m_value, m_isWrong, m_items, m_itemMany, m_seedThen, m_groundThen, m_widths, m_sizes, m_numbers, m_moved)) (mA g)) 0 0 (mA g) := by
  refine Met.ofW (cc := cX7_areJoined) (maxL := 3) (ret := (some .boolean)) (by decide) rfl ?_
  intro p e s m args below meth c s₁ B hml hv
  obtain ⟨rfl, hI⟩ := hv
  have hx := B.exec
  have hb := B.bytes
  have hr := B.returns
  have hts := atoms_spec (ws := wsX7_areJoined) B.pre
  have hown : s.vm.findClass RX7 = some m.cls := findClass_of_methodNamed B.named
  have hlocks := B.notSynchronized
  have hP := hI.1
  have hB := hI.2
  have hK := hB.1
  have hNW := hB.2.1
  have hS : va_S (mA g) s.heap s.heap [] := va_S.rf
  have hw0 := hts (.fieldLink RX7 22 "SownPathsModel" "steps" "[I") (by decide +kernel)
  have iwX7 : ∀ w ∈ wsX70, w ∈ wsX7_areJoined := fun w h => List.mem_cons_of_mem _ (List.mem_append_right _ h)
  have hl := lv_entry ([.ref (gm g 0), .int a1, .int a2]) (n := 3) (Nat.le_of_ble_eq_true rfl)
  rw [lg_entry_eq]
  generalize (lg_sl ([.ref (gm g 0), .int a1, .int a2]) ++ List.replicate (3 - (lg_sl ([.ref (gm g 0), .int a1, .int a2])).length) Slot.unset).toArray = ls at hl ⊢
  have hl : lv_has ls 3 [(0, .ref (gm g 0)), (1, .int a1), (2, .int a2)] := hl
  unfold fX7_areJoined at hf
  refine lv_aload_n hx hb dX7_areJoined_0 rfl (lv_at hl 0 rfl) ?_
  refine lv_iload_n hx hb dX7_areJoined_1 rfl (lv_at hl 1 rfl) ?_
  obtain ⟨q1, hq1, hf⟩ := bd_some hf
  refine kr_W (st1 := []) (va_runV (As := [.int a1]) (rest := []) ⟨hx, hb, hml, hown, hts⟩ (ct_X7_walk l n g m_now m_kept m_aside m_isKept m_found m_steps m_queue m_lives m_treads m_tape m_taped m_begins m_ends m_sort m_value m_isWrong m_items m_itemMany m_seedThen m_groundThen m_widths m_sizes m_numbers m_moved a1 q1 hq1) (cwV 1 hts gX7_areJoined_X7_walk rfl rfl rfl hd_X7_walk ⟨Nat.le_of_ble_eq_true rfl, Nat.le_of_ble_eq_true rfl⟩) ⟨bl_M, va_recv hK hP (ci := 5) (q0 := 0) rfl k_md, pr_M rfl hB hP hS⟩ rfl rfl hl.1 rfl (lv_room (Nat.le_of_ble_eq_true rfl)) dX7_areJoined_2 ⟨Nat.le_refl _, Nat.le_refl _⟩) hS rfl (fun hn2 H locs hP hS => ?_)
  have hP : va_P g.1 vwCl (mw g (m_now, m_kept, m_aside, m_isKept, m_found, q1.1, q1.2, m_lives, m_treads, m_tape, m_taped, m_begins, m_ends, m_sort, m_value, m_isWrong, m_items, m_itemMany, m_seedThen, m_groundThen, m_widths, m_sizes, m_numbers, m_moved)) H := hP
  refine lv_aload_n hx hb dX7_areJoined_5 rfl (lv_at hl 0 rfl) ?_
  refine va_get (D := g.1) (ci := 5) (v := .ref (gm g 5)) (C := RX7) (T := TX7) (N := 27) hx hb hts iwX7 hown hK hP 0 k_md rfl 5 (by decide) hw0 (fun _ h9 => h9) rfl dX7_areJoined_6 ?_
  refine lv_iload_n hx hb dX7_areJoined_9 rfl (lv_at hl 2 rfl) ?_
  obtain ⟨hg3, hf⟩ := gd_some hf
  refine va_iald (f := q1.1) hx hb hK hP 5 0 k_steps rfl hg3 dX7_areJoined_10 ?_
  refine lv_if_lt (tgt := 18) hx hb dX7_areJoined_11 (by decide) (fun hc4 => ?_) (fun hc4 => ?_)
  · have hf := (if_pos hc4).symm.trans hf
    refine lv_iconst (v := (0 : Int32)) hx hb dX7_areJoined_18 (by decide) ?_
    have hres : ((0 : Int32), q1.1, q1.2) = res := (Option.some.inj hf)
    have hnr : narrow .boolean (.int (0 : Int32)) = .int (0 : Int32) := rfl
    have hP := w_eq (congrArg (fun z => mw g (m_now, m_kept, m_aside, m_isKept, m_found, z.2.1, z.2.2, m_lives, m_treads, m_tape, m_taped, m_begins, m_ends, m_sort, m_value, m_isWrong, m_items, m_itemMany, m_seedThen, m_groundThen, m_widths, m_sizes, m_numbers, m_moved)) hres) hP
    exact W.zret (v := (0 : Int32)) hx hb hr hnr (fun t ht hW => ⟨congrArg (fun z => Outcome.returned (some (Value.int z.1))) hres, Eq.mp (congrArg (fun z => narrow .boolean (.int z.1) = .int z.1) hres) hnr, by rw [ht]; exact hP, hS.F ht⟩) hS.2.2 dX7_areJoined_19
  · have hf := (if_neg hc4).symm.trans hf
    refine lv_iconst (v := (1 : Int32)) hx hb dX7_areJoined_14 (by decide) ?_
    refine lv_goto (tgt := 19) hx hb dX7_areJoined_15 (by decide) ?_
    have hres : ((1 : Int32), q1.1, q1.2) = res := (Option.some.inj hf)
    have hnr : narrow .boolean (.int (1 : Int32)) = .int (1 : Int32) := rfl
    have hP := w_eq (congrArg (fun z => mw g (m_now, m_kept, m_aside, m_isKept, m_found, z.2.1, z.2.2, m_lives, m_treads, m_tape, m_taped, m_begins, m_ends, m_sort, m_value, m_isWrong, m_items, m_itemMany, m_seedThen, m_groundThen, m_widths, m_sizes, m_numbers, m_moved)) hres) hP
    exact W.zret (v := (1 : Int32)) hx hb hr hnr (fun t ht hW => ⟨congrArg (fun z => Outcome.returned (some (Value.int z.1))) hres, Eq.mp (congrArg (fun z => narrow .boolean (.int z.1) = .int z.1) hres) hnr, by rw [ht]; exact hP, hS.F ht⟩) hS.2.2 dX7_areJoined_19
set_option maxHeartbeats 4000000 in
set_option maxRecDepth 100000 in
theorem ct_X7_areCells (l : Launch) (n : Nat) (a0 : Int32) (a1 : Int32) (res : Int32) (hf : fX7_areCells n a0 a1 = some res) : Met l yX7_areCells wsX7_areCells ({ frames := 2, cells := 0, slots := 0, locals := 42 }) (va_Pc [.int a0, .int a1] NW) (qS (some (.int res)) (narrow .boolean (.int res) = .int res)) 0 0 (fun _ => False) := by
  refine Met.ofW (cc := cX7_areCells) (maxL := 2) (ret := (some .boolean)) (by decide) rfl ?_
  intro p e s m args below meth c s₁ B hml hv
  obtain ⟨rfl, hI⟩ := hv
  have hx := B.exec
  have hb := B.bytes
  have hr := B.returns
  have hts := atoms_spec (ws := wsX7_areCells) B.pre
  have hown : s.vm.findClass RX7 = some m.cls := findClass_of_methodNamed B.named
  have hlocks := B.notSynchronized
  have hNW : NW s := hI
  have hl := lv_entry ([.int a0, .int a1]) (n := 2) (Nat.le_of_ble_eq_true rfl)
  rw [lg_entry_eq]
  generalize (lg_sl ([.int a0, .int a1]) ++ List.replicate (2 - (lg_sl ([.int a0, .int a1])).length) Slot.unset).toArray = ls at hl ⊢
  have hl : lv_has ls 2 [(0, .int a0), (1, .int a1)] := hl
  unfold fX7_areCells at hf
  refine lv_iload_n hx hb dX7_areCells_0 rfl (lv_at hl 0 rfl) ?_
  obtain ⟨q1, hq1, hf⟩ := bd_some hf
  refine kr_S (st1 := [.int q1]) (va_runS (As := [.int a0]) (rest := []) ⟨hx, hb, hml, hown, hts⟩ (ct_X7_isCell l n a0 q1 hq1) (va_cwS 1 hts gX7_areCells_X7_isCell rfl rfl rfl hn_X7_isCell ⟨Nat.le_of_ble_eq_true rfl, Nat.le_of_ble_eq_true rfl⟩) ⟨bl_N, pr_N rfl hNW⟩ rfl rfl hl.1 rfl (lv_room (Nat.le_of_ble_eq_true rfl)) dX7_areCells_1 ⟨Nat.le_refl _, Nat.le_refl _⟩) rfl (fun hn2 => ?_)
  refine lv_if_eq (tgt := 18) hx hb dX7_areCells_4 (by decide) (fun hc3 => ?_) (fun hc3 => ?_)
  · have hf := (if_pos hc3).symm.trans hf
    refine lv_iconst (v := (0 : Int32)) hx hb dX7_areCells_18 (by decide) ?_
    have hres : (0 : Int32) = res := (Option.some.inj hf)
    have hnr : narrow .boolean (.int (0 : Int32)) = .int (0 : Int32) := rfl
    exact W.zret (v := (0 : Int32)) hx hb hr hnr (fun t ht hW => ⟨congrArg (fun z => Outcome.returned (some (Value.int z))) hres, Eq.mp (congrArg (fun z => narrow .boolean (.int z) = .int z) hres) hnr, ht⟩) t_nil dX7_areCells_19
  · have hf := (if_neg hc3).symm.trans hf
    refine lv_iload_n hx hb dX7_areCells_7 rfl (lv_at hl 1 rfl) ?_
    obtain ⟨q4, hq4, hf⟩ := bd_some hf
    refine kr_S (st1 := [.int q4]) (va_runS (As := [.int a1]) (rest := []) ⟨hx, hb, hml, hown, hts⟩ (ct_X7_isCell l n a1 q4 hq4) (va_cwS 1 hts gX7_areCells_X7_isCell rfl rfl rfl hn_X7_isCell ⟨Nat.le_of_ble_eq_true rfl, Nat.le_of_ble_eq_true rfl⟩) ⟨bl_N, pr_N rfl hNW⟩ rfl rfl hl.1 rfl (lv_room (Nat.le_of_ble_eq_true rfl)) dX7_areCells_8 ⟨Nat.le_refl _, Nat.le_refl _⟩) rfl (fun hn5 => ?_)
    refine lv_if_eq (tgt := 18) hx hb dX7_areCells_11 (by decide) (fun hc6 => ?_) (fun hc6 => ?_)
    · have hf := (if_pos hc6).symm.trans hf
      refine lv_iconst (v := (0 : Int32)) hx hb dX7_areCells_18 (by decide) ?_
      have hres : (0 : Int32) = res := (Option.some.inj hf)
      have hnr : narrow .boolean (.int (0 : Int32)) = .int (0 : Int32) := rfl
      exact W.zret (v := (0 : Int32)) hx hb hr hnr (fun t ht hW => ⟨congrArg (fun z => Outcome.returned (some (Value.int z))) hres, Eq.mp (congrArg (fun z => narrow .boolean (.int z) = .int z) hres) hnr, ht⟩) t_nil dX7_areCells_19
    · have hf := (if_neg hc6).symm.trans hf
      refine lv_iconst (v := (1 : Int32)) hx hb dX7_areCells_14 (by decide) ?_
      refine lv_goto (tgt := 19) hx hb dX7_areCells_15 (by decide) ?_
      have hres : (1 : Int32) = res := (Option.some.inj hf)
      have hnr : narrow .boolean (.int (1 : Int32)) = .int (1 : Int32) := rfl
      exact W.zret (v := (1 : Int32)) hx hb hr hnr (fun t ht hW => ⟨congrArg (fun z => Outcome.returned (some (Value.int z))) hres, Eq.mp (congrArg (fun z => narrow .boolean (.int z) = .int z) hres) hnr, ht⟩) t_nil dX7_areCells_19
set_option maxHeartbeats 4000000 in
set_option maxRecDepth 100000 in
theorem ct_X7_way (l : Launch) (n : Nat) (g : GM) (m_now : Nat → Int32) (m_kept : Nat → Int32) (m_aside : Nat → Int32) (m_isKept : Int32) (m_found : Nat → Int32) (m_steps : Nat → Int32) (m_queue : Nat → Int32) (m_lives : Nat → Int32) (m_treads : Nat → Int32) (m_tape : Nat → Int32) (m_taped : Int32) (m_begins : Int32) (m_ends : Int32) (m_sort : Int32) (m_value : Int32) (m_isWrong : Int32) (m_items : Nat → Int32) (m_itemMany : Int32) (m_seedThen : Int32) (m_groundThen : Nat → Int32) (m_widths : Nat → Int32) (m_sizes : Nat → Int32) (m_numbers : Nat → Int32) (m_moved : Nat → Int32) (a1 : Int32) (a2 : Int32) (res : Int32 × (Nat → Int32) × (Nat → Int32) × (Nat → Int32)) (hf : fX7_way n a1 a2 m_now m_found m_steps m_queue = some res) : Met l yX7_way wsX7_way ({ frames := 3, cells := 0, slots := 0, locals := 63 }) (va_Pc [.ref (gm g 0), .int a1, .int a2] (mI g (m_now, m_kept, m_aside, m_isKept, m_found, m_steps, m_queue, m_lives, m_treads, m_tape, m_taped, m_begins, m_ends, m_sort, m_value, m_isWrong, m_items, m_itemMany, m_seedThen, m_groundThen, m_widths, m_sizes, m_numbers, m_moved))) (qW (some (.int res.1)) True g.1 (mw g (m_now, m_kept, m_aside, m_isKept, res.2.1, res.2.2.1, res.2.2.2, m_lives, m_treads, m_tape, m_taped, m_begins, m_ends, m_sort, m_value, m_isWrong, m_items, m_itemMany, m_seedThen, m_groundThen, m_widths, m_sizes, m_numbers, m_moved)) (mA g)) 0 0 (mA g) := by
  refine Met.ofW (cc := cX7_way) (maxL := 3) (ret := (some .int)) (by decide) rfl ?_
  intro p e s m args below meth c s₁ B hml hv
  obtain ⟨rfl, hI⟩ := hv
  have hx := B.exec
  have hb := B.bytes
  have hr := B.returns
  have hts := atoms_spec (ws := wsX7_way) B.pre
  have hown : s.vm.findClass RX7 = some m.cls := findClass_of_methodNamed B.named
  have hlocks := B.notSynchronized
  have hP := hI.1
  have hB := hI.2
  have hK := hB.1
  have hNW := hB.2.1
  have hS : va_S (mA g) s.heap s.heap [] := va_S.rf
  have hw0 := hts (.fieldLink RX7 22 "SownPathsModel" "steps" "[I") (by decide +kernel)
  have hw1 := hts (.constant RX7 95 (-1000001)) (by decide +kernel)
  have iwX7 : ∀ w ∈ wsX70, w ∈ wsX7_way := fun w h => List.mem_cons_of_mem _ (List.mem_append_right _ h)
  have hl := lv_entry ([.ref (gm g 0), .int a1, .int a2]) (n := 3) (Nat.le_of_ble_eq_true rfl)
  rw [lg_entry_eq]
  generalize (lg_sl ([.ref (gm g 0), .int a1, .int a2]) ++ List.replicate (3 - (lg_sl ([.ref (gm g 0), .int a1, .int a2])).length) Slot.unset).toArray = ls at hl ⊢
  have hl : lv_has ls 3 [(0, .ref (gm g 0)), (1, .int a1), (2, .int a2)] := hl
  unfold fX7_way at hf
  refine lv_iload_n hx hb dX7_way_0 rfl (lv_at hl 1 rfl) ?_
  refine lv_iload_n hx hb dX7_way_1 rfl (lv_at hl 2 rfl) ?_
  obtain ⟨q1, hq1, hf⟩ := bd_some hf
  refine kr_S (st1 := [.int q1]) (va_runS (As := [.int a1, .int a2]) (rest := []) ⟨hx, hb, hml, hown, hts⟩ (ct_X7_areCells l n a1 a2 q1 hq1) (va_cwS 2 hts gX7_way_X7_areCells rfl rfl rfl hn_X7_areCells ⟨Nat.le_of_ble_eq_true rfl, Nat.le_of_ble_eq_true rfl⟩) ⟨bl_N, pr_N rfl hNW⟩ rfl rfl hl.1 rfl (lv_room (Nat.le_of_ble_eq_true rfl)) dX7_way_2 ⟨Nat.le_refl _, Nat.le_refl _⟩) rfl (fun hn2 => ?_)
  refine lv_if_ne (tgt := 15) hx hb dX7_way_5 (by decide) (fun hc3 => ?_) (fun hc3 => ?_)
  · have hf := (if_neg hc3).symm.trans hf
    refine lv_aload_n hx hb dX7_way_15 rfl (lv_at hl 0 rfl) ?_
    refine lv_iload_n hx hb dX7_way_16 rfl (lv_at hl 1 rfl) ?_
    obtain ⟨q4, hq4, hf⟩ := bd_some hf
    refine kr_W (st1 := []) (va_runV (As := [.int a1]) (rest := []) ⟨hx, hb, hml, hown, hts⟩ (ct_X7_walk l n g m_now m_kept m_aside m_isKept m_found m_steps m_queue m_lives m_treads m_tape m_taped m_begins m_ends m_sort m_value m_isWrong m_items m_itemMany m_seedThen m_groundThen m_widths m_sizes m_numbers m_moved a1 q4 hq4) (cwV 1 hts gX7_way_X7_walk rfl rfl rfl hd_X7_walk ⟨Nat.le_of_ble_eq_true rfl, Nat.le_of_ble_eq_true rfl⟩) ⟨bl_M, va_recv hK hP (ci := 5) (q0 := 0) rfl k_md, pr_M rfl hB hP hS⟩ rfl rfl hl.1 rfl (lv_room (Nat.le_of_ble_eq_true rfl)) dX7_way_17 ⟨Nat.le_refl _, Nat.le_refl _⟩) hS rfl (fun hn5 H locs hP hS => ?_)
    have hP : va_P g.1 vwCl (mw g (m_now, m_kept, m_aside, m_isKept, m_found, q4.1, q4.2, m_lives, m_treads, m_tape, m_taped, m_begins, m_ends, m_sort, m_value, m_isWrong, m_items, m_itemMany, m_seedThen, m_groundThen, m_widths, m_sizes, m_numbers, m_moved)) H := hP
    refine lv_aload_n hx hb dX7_way_20 rfl (lv_at hl 0 rfl) ?_
    refine lv_aload_n hx hb dX7_way_21 rfl (lv_at hl 0 rfl) ?_
    refine va_get (D := g.1) (ci := 5) (v := .ref (gm g 5)) (C := RX7) (T := TX7) (N := 27) hx hb hts iwX7 hown hK hP 0 k_md rfl 5 (by decide) hw0 (fun _ h9 => h9) rfl dX7_way_22 ?_
    refine lv_iload_n hx hb dX7_way_25 rfl (lv_at hl 2 rfl) ?_
    obtain ⟨hg6, hf⟩ := gd_some hf
    refine va_iald (f := q4.1) hx hb hK hP 5 0 k_steps rfl hg6 dX7_way_26 ?_
    obtain ⟨q7, hq7, hf⟩ := bd_some hf
    refine kr_W (st1 := [.int q7.1]) (va_runV (As := [.int (q4.1 a2.toNatClampNeg)]) (rest := []) ⟨hx, hb, hml, hown, hts⟩ (ct_X7_orNone l n g m_now m_kept m_aside m_isKept m_found q4.1 q4.2 m_lives m_treads m_tape m_taped m_begins m_ends m_sort m_value m_isWrong m_items m_itemMany m_seedThen m_groundThen m_widths m_sizes m_numbers m_moved (q4.1 a2.toNatClampNeg) q7 hq7) (cwV 1 hts gX7_way_X7_orNone rfl rfl rfl hd_X7_orNone ⟨Nat.le_of_ble_eq_true rfl, Nat.le_of_ble_eq_true rfl⟩) ⟨bl_M, va_recv hK hP (ci := 5) (q0 := 0) rfl k_md, pr_M rfl hB hP hS⟩ rfl rfl hl.1 rfl (lv_room (Nat.le_of_ble_eq_true rfl)) dX7_way_27 ⟨Nat.le_refl _, Nat.le_refl _⟩) hS rfl (fun hn8 H locs hP hS => ?_)
    have hP : va_P g.1 vwCl (mw g (m_now, m_kept, m_aside, m_isKept, q7.2, q4.1, q4.2, m_lives, m_treads, m_tape, m_taped, m_begins, m_ends, m_sort, m_value, m_isWrong, m_items, m_itemMany, m_seedThen, m_groundThen, m_widths, m_sizes, m_numbers, m_moved)) H := hP
    have hres : (q7.1, q7.2, q4.1, q4.2) = res := (Option.some.inj hf)
    have hP := w_eq (congrArg (fun z => mw g (m_now, m_kept, m_aside, m_isKept, z.2.1, z.2.2.1, z.2.2.2, m_lives, m_treads, m_tape, m_taped, m_begins, m_ends, m_sort, m_value, m_isWrong, m_items, m_itemMany, m_seedThen, m_groundThen, m_widths, m_sizes, m_numbers, m_moved)) hres) hP
    exact W.iret (v := q7.1) hx hb hr (fun t ht hW => ⟨congrArg (fun z => Outcome.returned (some (Value.int z.1))) hres, trivial, by rw [ht]; exact hP, hS.F ht⟩) hS.2.2 dX7_way_30
  · have hf := (if_pos hc3).symm.trans hf
    refine lv_aload_n hx hb dX7_way_8 rfl (lv_at hl 0 rfl) ?_
    refine lv_ldc (v := (-1000001 : Int32)) hx hb hown hw1 dX7_way_9 ?_
    obtain ⟨q9, hq9, hf⟩ := bd_some hf
    refine kr_W (st1 := [.int q9.1]) (va_runV (As := [.int (-1000001 : Int32)]) (rest := []) ⟨hx, hb, hml, hown, hts⟩ (ct_X7_finding l n g m_now m_kept m_aside m_isKept m_found m_steps m_queue m_lives m_treads m_tape m_taped m_begins m_ends m_sort m_value m_isWrong m_items m_itemMany m_seedThen m_groundThen m_widths m_sizes m_numbers m_moved (-1000001 : Int32) q9 hq9) (cwV 1 hts gX7_way_X7_finding rfl rfl rfl hd_X7_finding ⟨Nat.le_of_ble_eq_true rfl, Nat.le_of_ble_eq_true rfl⟩) ⟨bl_M, va_recv hK hP (ci := 5) (q0 := 0) rfl k_md, pr_M rfl hB hP hS⟩ rfl rfl hl.1 rfl (lv_room (Nat.le_of_ble_eq_true rfl)) dX7_way_11 ⟨Nat.le_refl _, Nat.le_refl _⟩) hS rfl (fun hn10 H locs hP hS => ?_)
    have hP : va_P g.1 vwCl (mw g (m_now, m_kept, m_aside, m_isKept, q9.2, m_steps, m_queue, m_lives, m_treads, m_tape, m_taped, m_begins, m_ends, m_sort, m_value, m_isWrong, m_items, m_itemMany, m_seedThen, m_groundThen, m_widths, m_sizes, m_numbers, m_moved)) H := hP
    have hres : (q9.1, q9.2, m_steps, m_queue) = res := (Option.some.inj hf)
    have hP := w_eq (congrArg (fun z => mw g (m_now, m_kept, m_aside, m_isKept, z.2.1, z.2.2.1, z.2.2.2, m_lives, m_treads, m_tape, m_taped, m_begins, m_ends, m_sort, m_value, m_isWrong, m_items, m_itemMany, m_seedThen, m_groundThen, m_widths, m_sizes, m_numbers, m_moved)) hres) hP
    exact W.iret (v := q9.1) hx hb hr (fun t ht hW => ⟨congrArg (fun z => Outcome.returned (some (Value.int z.1))) hres, trivial, by rw [ht]; exact hP, hS.F ht⟩) hS.2.2 dX7_way_14
set_option maxHeartbeats 4000000 in
set_option maxRecDepth 100000 in
theorem ct_X7_joined (l : Launch) (n : Nat) (g : GM) (m_now : Nat → Int32) (m_kept : Nat → Int32) (m_aside : Nat → Int32) (m_isKept : Int32) (m_found : Nat → Int32) (m_steps : Nat → Int32) (m_queue : Nat → Int32) (m_lives : Nat → Int32) (m_treads : Nat → Int32) (m_tape : Nat → Int32) (m_taped : Int32) (m_begins : Int32) (m_ends : Int32) (m_sort : Int32) (m_value : Int32) (m_isWrong : Int32) (m_items : Nat → Int32) (m_itemMany : Int32) (m_seedThen : Int32) (m_groundThen : Nat → Int32) (m_widths : Nat → Int32) (m_sizes : Nat → Int32) (m_numbers : Nat → Int32) (m_moved : Nat → Int32) (a1 : Int32) (res : Int64 × (Nat → Int32) × (Nat → Int32) × (Nat → Int32)) (hf : fX7_joined n a1 m_now m_found m_steps m_queue = some res) : Met l yX7_joined wsX7_joined ({ frames := 2, cells := 0, slots := 0, locals := 46 }) (va_Pc [.ref (gm g 0), .int a1] (mI g (m_now, m_kept, m_aside, m_isKept, m_found, m_steps, m_queue, m_lives, m_treads, m_tape, m_taped, m_begins, m_ends, m_sort, m_value, m_isWrong, m_items, m_itemMany, m_seedThen, m_groundThen, m_widths, m_sizes, m_numbers, m_moved))) (qW (some (.long res.1)) True g.1 (mw g (m_now, m_kept, m_aside, m_isKept, res.2.1, res.2.2.1, res.2.2.2, m_lives, m_treads, m_tape, m_taped, m_begins, m_ends, m_sort, m_value, m_isWrong, m_items, m_itemMany, m_seedThen, m_groundThen, m_widths, m_sizes, m_numbers, m_moved)) (mA g)) 0 0 (mA g) := by
  refine Met.ofW (cc := cX7_joined) (maxL := 5) (ret := (some .long)) (by decide) rfl ?_
  intro p e s m args below meth c s₁ B hml hv
  obtain ⟨rfl, hI⟩ := hv
  have hx := B.exec
  have hb := B.bytes
  have hr := B.returns
  have hts := atoms_spec (ws := wsX7_joined) B.pre
  have hown : s.vm.findClass RX7 = some m.cls := findClass_of_methodNamed B.named
  have hlocks := B.notSynchronized
  have hP := hI.1
  have hB := hI.2
  have hK := hB.1
  have hNW := hB.2.1
  have hS : va_S (mA g) s.heap s.heap [] := va_S.rf
  have hw0 := hts (.fieldLink RX7 22 "SownPathsModel" "steps" "[I") (by decide +kernel)
  have hw1 := hts (.constant RX7 95 (-1000001)) (by decide +kernel)
  have iwX7 : ∀ w ∈ wsX70, w ∈ wsX7_joined := fun w h => List.mem_cons_of_mem _ (List.mem_append_right _ h)
  have hl := lv_entry ([.ref (gm g 0), .int a1]) (n := 5) (Nat.le_of_ble_eq_true rfl)
  rw [lg_entry_eq]
  generalize (lg_sl ([.ref (gm g 0), .int a1]) ++ List.replicate (5 - (lg_sl ([.ref (gm g 0), .int a1])).length) Slot.unset).toArray = ls at hl ⊢
  have hl : lv_has ls 5 [(0, .ref (gm g 0)), (1, .int a1)] := hl
  unfold fX7_joined at hf
  refine lv_iload_n hx hb dX7_joined_0 rfl (lv_at hl 1 rfl) ?_
  obtain ⟨q1, hq1, hf⟩ := bd_some hf
  refine kr_S (st1 := [.int q1]) (va_runS (As := [.int a1]) (rest := []) ⟨hx, hb, hml, hown, hts⟩ (ct_X7_isCell l n a1 q1 hq1) (va_cwS 1 hts gX7_joined_X7_isCell rfl rfl rfl hn_X7_isCell ⟨Nat.le_of_ble_eq_true rfl, Nat.le_of_ble_eq_true rfl⟩) ⟨bl_N, pr_N rfl hNW⟩ rfl rfl hl.1 rfl (lv_room (Nat.le_of_ble_eq_true rfl)) dX7_joined_1 ⟨Nat.le_refl _, Nat.le_refl _⟩) rfl (fun hn2 => ?_)
  refine lv_if_ne (tgt := 15) hx hb dX7_joined_4 (by decide) (fun hc3 => ?_) (fun hc3 => ?_)
  · have hf := (if_neg hc3).symm.trans hf
    refine lv_aload_n hx hb dX7_joined_15 rfl (lv_at hl 0 rfl) ?_
    refine lv_iload_n hx hb dX7_joined_16 rfl (lv_at hl 1 rfl) ?_
    obtain ⟨q4, hq4, hf⟩ := bd_some hf
    refine kr_W (st1 := []) (va_runV (As := [.int a1]) (rest := []) ⟨hx, hb, hml, hown, hts⟩ (ct_X7_walk l n g m_now m_kept m_aside m_isKept m_found m_steps m_queue m_lives m_treads m_tape m_taped m_begins m_ends m_sort m_value m_isWrong m_items m_itemMany m_seedThen m_groundThen m_widths m_sizes m_numbers m_moved a1 q4 hq4) (cwV 1 hts gX7_joined_X7_walk rfl rfl rfl hd_X7_walk ⟨Nat.le_of_ble_eq_true rfl, Nat.le_of_ble_eq_true rfl⟩) ⟨bl_M, va_recv hK hP (ci := 5) (q0 := 0) rfl k_md, pr_M rfl hB hP hS⟩ rfl rfl hl.1 rfl (lv_room (Nat.le_of_ble_eq_true rfl)) dX7_joined_17 ⟨Nat.le_refl _, Nat.le_refl _⟩) hS rfl (fun hn5 H locs hP hS => ?_)
    have hP : va_P g.1 vwCl (mw g (m_now, m_kept, m_aside, m_isKept, m_found, q4.1, q4.2, m_lives, m_treads, m_tape, m_taped, m_begins, m_ends, m_sort, m_value, m_isWrong, m_items, m_itemMany, m_seedThen, m_groundThen, m_widths, m_sizes, m_numbers, m_moved)) H := hP
    refine lv_lconst (v := (0 : Int64)) hx hb dX7_joined_20 (by decide) ?_
    refine lv_lstore_n (lv' := [(2, .long (0 : Int64)), (0, .ref (gm g 0)), (1, .int a1)]) hx hb dX7_joined_21 rfl hl (by decide) rfl (fun ls hl => ?_)
    refine lv_iconst (v := (0 : Int32)) hx hb dX7_joined_22 (by decide) ?_
    refine lv_istore (lv' := [(4, .int (0 : Int32)), (2, .long (0 : Int64)), (0, .ref (gm g 0)), (1, .int a1)]) hx hb dX7_joined_23 hl (by decide) rfl (fun ls hl => ?_)
    refine lp_run hf (fun s6 => ∀ (H : Heap) (locs : List Loc) (ls : Array Slot), va_P g.1 vwCl (mw g (m_now, m_kept, m_aside, m_isKept, m_found, q4.1, q4.2, m_lives, m_treads, m_tape, m_taped, m_begins, m_ends, m_sort, m_value, m_isWrong, m_items, m_itemMany, m_seedThen, m_groundThen, m_widths, m_sizes, m_numbers, m_moved)) H → va_S (mA g) s.heap H locs → lv_has ls 5 [(0, .ref (gm g 0)), (2, .long s6.1), (4, .int s6.2)] → W p l e (headSpec wsX7_joined ({ frames := 2, cells := 0, slots := 0, locals := 46 })).room s m ([.ref (gm g 0), .int a1] : List Value).toArray below meth c H locs 0 0 (MQ below (qW (some (.long res.1)) True g.1 (mw g (m_now, m_kept, m_aside, m_isKept, res.2.1, res.2.2.1, res.2.2.2, m_lives, m_treads, m_tape, m_taped, m_begins, m_ends, m_sort, m_value, m_isWrong, m_items, m_itemMany, m_seedThen, m_groundThen, m_widths, m_sizes, m_numbers, m_moved)) (mA g)) ([.ref (gm g 0), .int a1] : List Value).toArray s 0 0 (mA g)) (F0 m 25 ls [])) (fun v7 => ∀ (H : Heap) (locs : List Loc) (ls : Array Slot), va_P g.1 vwCl (mw g (m_now, m_kept, m_aside, m_isKept, m_found, q4.1, q4.2, m_lives, m_treads, m_tape, m_taped, m_begins, m_ends, m_sort, m_value, m_isWrong, m_items, m_itemMany, m_seedThen, m_groundThen, m_widths, m_sizes, m_numbers, m_moved)) H → va_S (mA g) s.heap H locs → lv_has ls 5 [(2, .long v7.1)] → W p l e (headSpec wsX7_joined ({ frames := 2, cells := 0, slots := 0, locals := 46 })).room s m ([.ref (gm g 0), .int a1] : List Value).toArray below meth c H locs 0 0 (MQ below (qW (some (.long res.1)) True g.1 (mw g (m_now, m_kept, m_aside, m_isKept, res.2.1, res.2.2.1, res.2.2.2, m_lives, m_treads, m_tape, m_taped, m_begins, m_ends, m_sort, m_value, m_isWrong, m_items, m_itemMany, m_seedThen, m_groundThen, m_widths, m_sizes, m_numbers, m_moved)) (mA g)) ([.ref (gm g 0), .int a1] : List Value).toArray s 0 0 (mA g)) (F0 m 59 ls [])) ?_ ?_ _ _ _ hP hS (lv_sub hl [2, 1, 0] rfl)
    · intro v7 hf H locs ls hP hS hl
      refine lv_lload_n hx hb dX7_joined_59 rfl (lv_at hl 0 rfl) ?_
      have hres : (v7.1, m_found, q4.1, q4.2) = res := (Option.some.inj hf)
      have hP := w_eq (congrArg (fun z => mw g (m_now, m_kept, m_aside, m_isKept, z.2.1, z.2.2.1, z.2.2.2, m_lives, m_treads, m_tape, m_taped, m_begins, m_ends, m_sort, m_value, m_isWrong, m_items, m_itemMany, m_seedThen, m_groundThen, m_widths, m_sizes, m_numbers, m_moved)) hres) hP
      exact W.lret (v := v7.1) hx hb hr (fun t ht hW => ⟨congrArg (fun z => Outcome.returned (some (Value.long z.1))) hres, trivial, by rw [ht]; exact hP, hS.F ht⟩) hS.2.2 dX7_joined_60
    · intro s6 r1 hf hback1 hexit1 H locs ls hP hS hl
      refine lv_iload hx hb dX7_joined_25 (lv_at hl 2 rfl) ?_
      refine lv_bipush (v := (36 : Int32)) hx hb dX7_joined_27 (by decide) ?_
      refine lv_icmp_ge (tgt := 59) hx hb dX7_joined_29 (by decide) (fun hc8 => ?_) (fun hc8 => ?_)
      · have hf := (if_pos hc8).symm.trans hf
        exact hexit1 (s6.1, s6.2) (Option.some.inj hf).symm H locs ls hP hS (lv_sub hl [1] rfl)
      · have hf := (if_neg hc8).symm.trans hf
        refine lv_lload_n hx hb dX7_joined_32 rfl (lv_at hl 1 rfl) ?_
        refine lv_aload_n hx hb dX7_joined_33 rfl (lv_at hl 0 rfl) ?_
        refine va_get (D := g.1) (ci := 5) (v := .ref (gm g 5)) (C := RX7) (T := TX7) (N := 27) hx hb hts iwX7 hown hK hP 0 k_md rfl 5 (by decide) hw0 (fun _ h9 => h9) rfl dX7_joined_34 ?_
        refine lv_iload hx hb dX7_joined_37 (lv_at hl 2 rfl) ?_
        obtain ⟨hg9, hf⟩ := gd_some hf
        refine va_iald (f := q4.1) hx hb hK hP 5 0 k_steps rfl hg9 dX7_joined_39 ?_
        refine lv_if_lt (tgt := 50) hx hb dX7_joined_40 (by decide) (fun hc10 => ?_) (fun hc10 => ?_)
        · have hf := (if_pos hc10).symm.trans hf
          refine lv_lconst (v := (0 : Int64)) hx hb dX7_joined_50 (by decide) ?_
          refine lv_lor hx hb dX7_joined_51 ?_
          refine lv_lstore_n (lv' := [(2, .long (s6.1 ||| (0 : Int64))), (0, .ref (gm g 0)), (4, .int s6.2)]) hx hb dX7_joined_52 rfl hl (by decide) rfl (fun ls hl => ?_)
          refine lv_iinc (v := (s6.2 + (1 : Int32))) (lv' := [(4, .int (s6.2 + (1 : Int32))), (2, .long (s6.1 ||| (0 : Int64))), (0, .ref (gm g 0))]) hx hb dX7_joined_53 hl (k := 2) rfl (congrArg (fun y => s6.2 + y) (by decide : Int32.ofInt (1) = (1 : Int32))) (by decide) rfl (fun ls hl => ?_)
          refine lv_goto (tgt := 25) hx hb dX7_joined_56 (by decide) ?_
          exact hback1 _ (Option.some.inj hf).symm H locs ls hP hS (lv_sub hl [2, 1, 0] rfl)
        · have hf := (if_neg hc10).symm.trans hf
          refine lv_lconst (v := (1 : Int64)) hx hb dX7_joined_43 (by decide) ?_
          refine lv_iload hx hb dX7_joined_44 (lv_at hl 2 rfl) ?_
          refine lv_lshl (v := ((1 : Int64) <<< (s6.2.toInt64 &&& 63))) hx hb dX7_joined_46 rfl ?_
          refine lv_goto (tgt := 51) hx hb dX7_joined_47 (by decide) ?_
          refine lv_lor hx hb dX7_joined_51 ?_
          refine lv_lstore_n (lv' := [(2, .long (s6.1 ||| ((1 : Int64) <<< (s6.2.toInt64 &&& 63)))), (0, .ref (gm g 0)), (4, .int s6.2)]) hx hb dX7_joined_52 rfl hl (by decide) rfl (fun ls hl => ?_)
          refine lv_iinc (v := (s6.2 + (1 : Int32))) (lv' := [(4, .int (s6.2 + (1 : Int32))), (2, .long (s6.1 ||| ((1 : Int64) <<< (s6.2.toInt64 &&& 63)))), (0, .ref (gm g 0))]) hx hb dX7_joined_53 hl (k := 2) rfl (congrArg (fun y => s6.2 + y) (by decide : Int32.ofInt (1) = (1 : Int32))) (by decide) rfl (fun ls hl => ?_)
          refine lv_goto (tgt := 25) hx hb dX7_joined_56 (by decide) ?_
          exact hback1 _ (Option.some.inj hf).symm H locs ls hP hS (lv_sub hl [2, 1, 0] rfl)
  · have hf := (if_pos hc3).symm.trans hf
    refine lv_aload_n hx hb dX7_joined_7 rfl (lv_at hl 0 rfl) ?_
    refine lv_ldc (v := (-1000001 : Int32)) hx hb hown hw1 dX7_joined_8 ?_
    obtain ⟨q11, hq11, hf⟩ := bd_some hf
    refine kr_W (st1 := [.int q11.1]) (va_runV (As := [.int (-1000001 : Int32)]) (rest := []) ⟨hx, hb, hml, hown, hts⟩ (ct_X7_finding l n g m_now m_kept m_aside m_isKept m_found m_steps m_queue m_lives m_treads m_tape m_taped m_begins m_ends m_sort m_value m_isWrong m_items m_itemMany m_seedThen m_groundThen m_widths m_sizes m_numbers m_moved (-1000001 : Int32) q11 hq11) (cwV 1 hts gX7_joined_X7_finding rfl rfl rfl hd_X7_finding ⟨Nat.le_of_ble_eq_true rfl, Nat.le_of_ble_eq_true rfl⟩) ⟨bl_M, va_recv hK hP (ci := 5) (q0 := 0) rfl k_md, pr_M rfl hB hP hS⟩ rfl rfl hl.1 rfl (lv_room (Nat.le_of_ble_eq_true rfl)) dX7_joined_10 ⟨Nat.le_refl _, Nat.le_refl _⟩) hS rfl (fun hn12 H locs hP hS => ?_)
    have hP : va_P g.1 vwCl (mw g (m_now, m_kept, m_aside, m_isKept, q11.2, m_steps, m_queue, m_lives, m_treads, m_tape, m_taped, m_begins, m_ends, m_sort, m_value, m_isWrong, m_items, m_itemMany, m_seedThen, m_groundThen, m_widths, m_sizes, m_numbers, m_moved)) H := hP
    refine lv_i2l (v := q11.1.toInt64) hx hb dX7_joined_13 rfl ?_
    have hres : (q11.1.toInt64, q11.2, m_steps, m_queue) = res := (Option.some.inj hf)
    have hP := w_eq (congrArg (fun z => mw g (m_now, m_kept, m_aside, m_isKept, z.2.1, z.2.2.1, z.2.2.2, m_lives, m_treads, m_tape, m_taped, m_begins, m_ends, m_sort, m_value, m_isWrong, m_items, m_itemMany, m_seedThen, m_groundThen, m_widths, m_sizes, m_numbers, m_moved)) hres) hP
    exact W.lret (v := q11.1.toInt64) hx hb hr (fun t ht hW => ⟨congrArg (fun z => Outcome.returned (some (Value.long z.1))) hres, trivial, by rw [ht]; exact hP, hS.F ht⟩) hS.2.2 dX7_joined_14
set_option maxHeartbeats 4000000 in
set_option maxRecDepth 100000 in
theorem ct_X7_groupsNow (l : Launch) (n : Nat) (g : GM) (m_now : Nat → Int32) (m_kept : Nat → Int32) (m_aside : Nat → Int32) (m_isKept : Int32) (m_found : Nat → Int32) (m_steps : Nat → Int32) (m_queue : Nat → Int32) (m_lives : Nat → Int32) (m_treads : Nat → Int32) (m_tape : Nat → Int32) (m_taped : Int32) (m_begins : Int32) (m_ends : Int32) (m_sort : Int32) (m_value : Int32) (m_isWrong : Int32) (m_items : Nat → Int32) (m_itemMany : Int32) (m_seedThen : Int32) (m_groundThen : Nat → Int32) (m_widths : Nat → Int32) (m_sizes : Nat → Int32) (m_numbers : Nat → Int32) (m_moved : Nat → Int32) (res : Int32 × (Nat → Int32) × (Nat → Int32)) (hf : fX7_groupsNow n m_now m_steps m_queue = some res) : Met l yX7_groupsNow wsX7_groupsNow ({ frames := 2, cells := 0, slots := 0, locals := 46 }) (va_Pc [.ref (gm g 0)] (mI g (m_now, m_kept, m_aside, m_isKept, m_found, m_steps, m_queue, m_lives, m_treads, m_tape, m_taped, m_begins, m_ends, m_sort, m_value, m_isWrong, m_items, m_itemMany, m_seedThen, m_groundThen, m_widths, m_sizes, m_numbers, m_moved))) (qW (some (.int res.1)) True g.1 (mw g (m_now, m_kept, m_aside, m_isKept, m_found, res.2.1, res.2.2, m_lives, m_treads, m_tape, m_taped, m_begins, m_ends, m_sort, m_value, m_isWrong, m_items, m_itemMany, m_seedThen, m_groundThen, m_widths, m_sizes, m_numbers, m_moved)) (mA g)) 0 0 (mA g) := by
  refine Met.ofW (cc := cX7_groupsNow) (maxL := 6) (ret := (some .int)) (by decide) rfl ?_
  intro p e s m args below meth c s₁ B hml hv
  obtain ⟨rfl, hI⟩ := hv
  have hx := B.exec
  have hb := B.bytes
  have hr := B.returns
  have hts := atoms_spec (ws := wsX7_groupsNow) B.pre
  have hown : s.vm.findClass RX7 = some m.cls := findClass_of_methodNamed B.named
  have hlocks := B.notSynchronized
  have hP := hI.1
  have hB := hI.2
  have hK := hB.1
  have hNW := hB.2.1
  have hS : va_S (mA g) s.heap s.heap [] := va_S.rf
  have hw0 := hts (.fieldLink RX7 22 "SownPathsModel" "steps" "[I") (by decide +kernel)
  have hw1 := hts (.constantLong RX7 235 (-1)) (by decide +kernel)
  have iwX7 : ∀ w ∈ wsX70, w ∈ wsX7_groupsNow := fun w h => List.mem_cons_of_mem _ (List.mem_append_right _ h)
  have hl := lv_entry ([.ref (gm g 0)]) (n := 6) (Nat.le_of_ble_eq_true rfl)
  rw [lg_entry_eq]
  generalize (lg_sl ([.ref (gm g 0)]) ++ List.replicate (6 - (lg_sl ([.ref (gm g 0)])).length) Slot.unset).toArray = ls at hl ⊢
  have hl : lv_has ls 6 [(0, .ref (gm g 0))] := hl
  unfold fX7_groupsNow at hf
  refine lv_aload_n hx hb dX7_groupsNow_0 rfl (lv_at hl 0 rfl) ?_
  obtain ⟨q1, hq1, hf⟩ := bd_some hf
  refine kr_S (st1 := [.long q1]) (va_runV (As := []) (rest := []) ⟨hx, hb, hml, hown, hts⟩ (ct_X7_pathSet l n g m_now m_kept m_aside m_isKept m_found m_steps m_queue m_lives m_treads m_tape m_taped m_begins m_ends m_sort m_value m_isWrong m_items m_itemMany m_seedThen m_groundThen m_widths m_sizes m_numbers m_moved q1 hq1) (cwV 0 hts gX7_groupsNow_X7_pathSet rfl rfl rfl hd_X7_pathSet ⟨Nat.le_of_ble_eq_true rfl, Nat.le_of_ble_eq_true rfl⟩) ⟨bl_M, va_recv hK hP (ci := 5) (q0 := 0) rfl k_md, pr_M rfl hB hP hS⟩ rfl rfl hl.1 rfl (lv_room (Nat.le_of_ble_eq_true rfl)) dX7_groupsNow_1 ⟨Nat.le_refl _, Nat.le_refl _⟩) rfl (fun hn2 => ?_)
  refine lv_lstore_n (lv' := [(1, .long q1), (0, .ref (gm g 0))]) hx hb dX7_groupsNow_4 rfl hl (by decide) rfl (fun ls hl => ?_)
  refine lv_iconst (v := (0 : Int32)) hx hb dX7_groupsNow_5 (by decide) ?_
  refine lv_istore_n (lv' := [(3, .int (0 : Int32)), (1, .long q1), (0, .ref (gm g 0))]) hx hb dX7_groupsNow_6 rfl hl (by decide) rfl (fun ls hl => ?_)
  refine lv_iconst (v := (0 : Int32)) hx hb dX7_groupsNow_7 (by decide) ?_
  refine lv_istore (lv' := [(4, .int (0 : Int32)), (3, .int (0 : Int32)), (1, .long q1), (0, .ref (gm g 0))]) hx hb dX7_groupsNow_8 hl (by decide) rfl (fun ls hl => ?_)
  refine lp_run hf (fun s3 => ∀ (H : Heap) (locs : List Loc) (ls : Array Slot), va_P g.1 vwCl (mw g (m_now, m_kept, m_aside, m_isKept, m_found, s3.2.2.2.1, s3.2.2.2.2, m_lives, m_treads, m_tape, m_taped, m_begins, m_ends, m_sort, m_value, m_isWrong, m_items, m_itemMany, m_seedThen, m_groundThen, m_widths, m_sizes, m_numbers, m_moved)) H → va_S (mA g) s.heap H locs → lv_has ls 6 [(0, .ref (gm g 0)), (1, .long s3.1), (3, .int s3.2.1), (4, .int s3.2.2.1)] → W p l e (headSpec wsX7_groupsNow ({ frames := 2, cells := 0, slots := 0, locals := 46 })).room s m ([.ref (gm g 0)] : List Value).toArray below meth c H locs 0 0 (MQ below (qW (some (.int res.1)) True g.1 (mw g (m_now, m_kept, m_aside, m_isKept, m_found, res.2.1, res.2.2, m_lives, m_treads, m_tape, m_taped, m_begins, m_ends, m_sort, m_value, m_isWrong, m_items, m_itemMany, m_seedThen, m_groundThen, m_widths, m_sizes, m_numbers, m_moved)) (mA g)) ([.ref (gm g 0)] : List Value).toArray s 0 0 (mA g)) (F0 m 10 ls [])) (fun v4 => ∀ (H : Heap) (locs : List Loc) (ls : Array Slot), va_P g.1 vwCl (mw g (m_now, m_kept, m_aside, m_isKept, m_found, v4.2.2.2.1, v4.2.2.2.2, m_lives, m_treads, m_tape, m_taped, m_begins, m_ends, m_sort, m_value, m_isWrong, m_items, m_itemMany, m_seedThen, m_groundThen, m_widths, m_sizes, m_numbers, m_moved)) H → va_S (mA g) s.heap H locs → lv_has ls 6 [(3, .int v4.2.1)] → W p l e (headSpec wsX7_groupsNow ({ frames := 2, cells := 0, slots := 0, locals := 46 })).room s m ([.ref (gm g 0)] : List Value).toArray below meth c H locs 0 0 (MQ below (qW (some (.int res.1)) True g.1 (mw g (m_now, m_kept, m_aside, m_isKept, m_found, res.2.1, res.2.2, m_lives, m_treads, m_tape, m_taped, m_begins, m_ends, m_sort, m_value, m_isWrong, m_items, m_itemMany, m_seedThen, m_groundThen, m_widths, m_sizes, m_numbers, m_moved)) (mA g)) ([.ref (gm g 0)] : List Value).toArray s 0 0 (mA g)) (F0 m 86 ls [])) ?_ ?_ _ _ _ hP hS (lv_sub hl [3, 2, 1, 0] rfl)
  · intro v4 hf H locs ls hP hS hl
    refine lv_iload_n hx hb dX7_groupsNow_86 rfl (lv_at hl 0 rfl) ?_
    have hres : (v4.2.1, v4.2.2.2.1, v4.2.2.2.2) = res := (Option.some.inj hf)
    have hP := w_eq (congrArg (fun z => mw g (m_now, m_kept, m_aside, m_isKept, m_found, z.2.1, z.2.2, m_lives, m_treads, m_tape, m_taped, m_begins, m_ends, m_sort, m_value, m_isWrong, m_items, m_itemMany, m_seedThen, m_groundThen, m_widths, m_sizes, m_numbers, m_moved)) hres) hP
    exact W.iret (v := v4.2.1) hx hb hr (fun t ht hW => ⟨congrArg (fun z => Outcome.returned (some (Value.int z.1))) hres, trivial, by rw [ht]; exact hP, hS.F ht⟩) hS.2.2 dX7_groupsNow_87
  · intro s3 r1 hf hback1 hexit1 H locs ls hP hS hl
    refine lv_iload hx hb dX7_groupsNow_10 (lv_at hl 3 rfl) ?_
    refine lv_bipush (v := (36 : Int32)) hx hb dX7_groupsNow_12 (by decide) ?_
    refine lv_icmp_ge (tgt := 86) hx hb dX7_groupsNow_14 (by decide) (fun hc5 => ?_) (fun hc5 => ?_)
    · have hf := (if_pos hc5).symm.trans hf
      exact hexit1 (s3.1, s3.2.1, s3.2.2.1, s3.2.2.2.1, s3.2.2.2.2) (Option.some.inj hf).symm H locs ls hP hS (lv_sub hl [2] rfl)
    · have hf := (if_neg hc5).symm.trans hf
      refine lv_lload_n hx hb dX7_groupsNow_17 rfl (lv_at hl 1 rfl) ?_
      refine lv_iload hx hb dX7_groupsNow_18 (lv_at hl 3 rfl) ?_
      refine lv_lshr (v := (s3.1 >>> (s3.2.2.1.toInt64 &&& 63))) hx hb dX7_groupsNow_20 rfl ?_
      refine lv_lconst (v := (1 : Int64)) hx hb dX7_groupsNow_21 (by decide) ?_
      refine lv_land hx hb dX7_groupsNow_22 ?_
      refine lv_lconst (v := (1 : Int64)) hx hb dX7_groupsNow_23 (by decide) ?_
      refine W.lcmp hx hb dX7_groupsNow_24 ?_
      refine lv_if_ne (tgt := 80) hx hb dX7_groupsNow_25 (by decide) (fun hc6 => ?_) (fun hc6 => ?_)
      · have hc6 : ¬ (((s3.1 >>> (s3.2.2.1.toInt64 &&& 63)) &&& (1 : Int64)) = (1 : Int64)) := fun h => hc6 ((lg_cmp_eq ((s3.1 >>> (s3.2.2.1.toInt64 &&& 63)) &&& (1 : Int64)) (1 : Int64)).mpr h)
        have hf := (if_neg hc6).symm.trans hf
        refine lv_iinc (v := (s3.2.2.1 + (1 : Int32))) (lv' := [(4, .int (s3.2.2.1 + (1 : Int32))), (0, .ref (gm g 0)), (1, .long s3.1), (3, .int s3.2.1)]) hx hb dX7_groupsNow_80 hl (k := 3) rfl (congrArg (fun y => s3.2.2.1 + y) (by decide : Int32.ofInt (1) = (1 : Int32))) (by decide) rfl (fun ls hl => ?_)
        refine lv_goto (tgt := 10) hx hb dX7_groupsNow_83 (by decide) ?_
        exact hback1 _ (Option.some.inj hf).symm H locs ls hP hS (lv_sub hl [1, 2, 3, 0] rfl)
      · have hc6 := (lg_cmp_eq ((s3.1 >>> (s3.2.2.1.toInt64 &&& 63)) &&& (1 : Int64)) (1 : Int64)).mp hc6
        have hf := (if_pos hc6).symm.trans hf
        refine lv_iinc (v := (s3.2.1 + (1 : Int32))) (lv' := [(3, .int (s3.2.1 + (1 : Int32))), (0, .ref (gm g 0)), (1, .long s3.1), (4, .int s3.2.2.1)]) hx hb dX7_groupsNow_28 hl (k := 2) rfl (congrArg (fun y => s3.2.1 + y) (by decide : Int32.ofInt (1) = (1 : Int32))) (by decide) rfl (fun ls hl => ?_)
        refine lv_aload_n hx hb dX7_groupsNow_31 rfl (lv_at hl 1 rfl) ?_
        refine lv_iload hx hb dX7_groupsNow_32 (lv_at hl 3 rfl) ?_
        obtain ⟨q7, hq7, hf⟩ := bd_some hf
        refine kr_W (st1 := []) (va_runV (As := [.int s3.2.2.1]) (rest := []) ⟨hx, hb, hml, hown, hts⟩ (ct_X7_walk l n g m_now m_kept m_aside m_isKept m_found s3.2.2.2.1 s3.2.2.2.2 m_lives m_treads m_tape m_taped m_begins m_ends m_sort m_value m_isWrong m_items m_itemMany m_seedThen m_groundThen m_widths m_sizes m_numbers m_moved s3.2.2.1 q7 hq7) (cwV 1 hts gX7_groupsNow_X7_walk rfl rfl rfl hd_X7_walk ⟨Nat.le_of_ble_eq_true rfl, Nat.le_of_ble_eq_true rfl⟩) ⟨bl_M, va_recv hK hP (ci := 5) (q0 := 0) rfl k_md, pr_M rfl hB hP hS⟩ rfl rfl hl.1 rfl (lv_room (Nat.le_of_ble_eq_true rfl)) dX7_groupsNow_34 ⟨Nat.le_refl _, Nat.le_refl _⟩) hS rfl (fun hn8 H locs hP hS => ?_)
        have hP : va_P g.1 vwCl (mw g (m_now, m_kept, m_aside, m_isKept, m_found, q7.1, q7.2, m_lives, m_treads, m_tape, m_taped, m_begins, m_ends, m_sort, m_value, m_isWrong, m_items, m_itemMany, m_seedThen, m_groundThen, m_widths, m_sizes, m_numbers, m_moved)) H := hP
        refine lv_iconst (v := (0 : Int32)) hx hb dX7_groupsNow_37 (by decide) ?_
        refine lv_istore (lv' := [(5, .int (0 : Int32)), (3, .int (s3.2.1 + (1 : Int32))), (0, .ref (gm g 0)), (1, .long s3.1), (4, .int s3.2.2.1)]) hx hb dX7_groupsNow_38 hl (by decide) rfl (fun ls hl => ?_)
        refine lp_run hf (fun s9 => ∀ (H : Heap) (locs : List Loc) (ls : Array Slot), va_P g.1 vwCl (mw g (m_now, m_kept, m_aside, m_isKept, m_found, q7.1, q7.2, m_lives, m_treads, m_tape, m_taped, m_begins, m_ends, m_sort, m_value, m_isWrong, m_items, m_itemMany, m_seedThen, m_groundThen, m_widths, m_sizes, m_numbers, m_moved)) H → va_S (mA g) s.heap H locs → lv_has ls 6 [(0, .ref (gm g 0)), (1, .long s9.1), (3, .int (s3.2.1 + (1 : Int32))), (4, .int s3.2.2.1), (5, .int s9.2)] → W p l e (headSpec wsX7_groupsNow ({ frames := 2, cells := 0, slots := 0, locals := 46 })).room s m ([.ref (gm g 0)] : List Value).toArray below meth c H locs 0 0 (MQ below (qW (some (.int res.1)) True g.1 (mw g (m_now, m_kept, m_aside, m_isKept, m_found, res.2.1, res.2.2, m_lives, m_treads, m_tape, m_taped, m_begins, m_ends, m_sort, m_value, m_isWrong, m_items, m_itemMany, m_seedThen, m_groundThen, m_widths, m_sizes, m_numbers, m_moved)) (mA g)) ([.ref (gm g 0)] : List Value).toArray s 0 0 (mA g)) (F0 m 40 ls [])) (fun v10 => ∀ (H : Heap) (locs : List Loc) (ls : Array Slot), va_P g.1 vwCl (mw g (m_now, m_kept, m_aside, m_isKept, m_found, q7.1, q7.2, m_lives, m_treads, m_tape, m_taped, m_begins, m_ends, m_sort, m_value, m_isWrong, m_items, m_itemMany, m_seedThen, m_groundThen, m_widths, m_sizes, m_numbers, m_moved)) H → va_S (mA g) s.heap H locs → lv_has ls 6 [(0, .ref (gm g 0)), (1, .long v10.1), (3, .int (s3.2.1 + (1 : Int32))), (4, .int s3.2.2.1)] → W p l e (headSpec wsX7_groupsNow ({ frames := 2, cells := 0, slots := 0, locals := 46 })).room s m ([.ref (gm g 0)] : List Value).toArray below meth c H locs 0 0 (MQ below (qW (some (.int res.1)) True g.1 (mw g (m_now, m_kept, m_aside, m_isKept, m_found, res.2.1, res.2.2, m_lives, m_treads, m_tape, m_taped, m_begins, m_ends, m_sort, m_value, m_isWrong, m_items, m_itemMany, m_seedThen, m_groundThen, m_widths, m_sizes, m_numbers, m_moved)) (mA g)) ([.ref (gm g 0)] : List Value).toArray s 0 0 (mA g)) (F0 m 80 ls [])) ?_ ?_ _ _ _ hP hS (lv_sub hl [2, 3, 1, 4, 0] rfl)
        · intro v10 hf H locs ls hP hS hl
          refine lv_iinc (v := (s3.2.2.1 + (1 : Int32))) (lv' := [(4, .int (s3.2.2.1 + (1 : Int32))), (0, .ref (gm g 0)), (1, .long v10.1), (3, .int (s3.2.1 + (1 : Int32)))]) hx hb dX7_groupsNow_80 hl (k := 3) rfl (congrArg (fun y => s3.2.2.1 + y) (by decide : Int32.ofInt (1) = (1 : Int32))) (by decide) rfl (fun ls hl => ?_)
          refine lv_goto (tgt := 10) hx hb dX7_groupsNow_83 (by decide) ?_
          exact hback1 _ (Option.some.inj hf).symm H locs ls hP hS (lv_sub hl [1, 2, 3, 0] rfl)
        · intro s9 r2 hf hback2 hexit2 H locs ls hP hS hl
          refine lv_iload hx hb dX7_groupsNow_40 (lv_at hl 4 rfl) ?_
          refine lv_bipush (v := (36 : Int32)) hx hb dX7_groupsNow_42 (by decide) ?_
          refine lv_icmp_ge (tgt := 80) hx hb dX7_groupsNow_44 (by decide) (fun hc11 => ?_) (fun hc11 => ?_)
          · have hf := (if_pos hc11).symm.trans hf
            exact hexit2 (s9.1, s9.2) (Option.some.inj hf).symm H locs ls hP hS (lv_sub hl [0, 1, 2, 3] rfl)
          · have hf := (if_neg hc11).symm.trans hf
            refine lv_lload_n hx hb dX7_groupsNow_47 rfl (lv_at hl 1 rfl) ?_
            refine lv_aload_n hx hb dX7_groupsNow_48 rfl (lv_at hl 0 rfl) ?_
            refine va_get (D := g.1) (ci := 5) (v := .ref (gm g 5)) (C := RX7) (T := TX7) (N := 27) hx hb hts iwX7 hown hK hP 0 k_md rfl 5 (by decide) hw0 (fun _ h9 => h9) rfl dX7_groupsNow_49 ?_
            refine lv_iload hx hb dX7_groupsNow_52 (lv_at hl 4 rfl) ?_
            obtain ⟨hg12, hf⟩ := gd_some hf
            refine va_iald (f := q7.1) hx hb hK hP 5 0 k_steps rfl hg12 dX7_groupsNow_54 ?_
            refine lv_if_lt (tgt := 69) hx hb dX7_groupsNow_55 (by decide) (fun hc13 => ?_) (fun hc13 => ?_)
            · have hf := (if_pos hc13).symm.trans hf
              refine lv_ldc2 (v := (-1 : Int64)) hx hb hown hw1 dX7_groupsNow_69 ?_
              refine lv_land hx hb dX7_groupsNow_72 ?_
              refine lv_lstore_n (lv' := [(1, .long (s9.1 &&& (-1 : Int64))), (0, .ref (gm g 0)), (3, .int (s3.2.1 + (1 : Int32))), (4, .int s3.2.2.1), (5, .int s9.2)]) hx hb dX7_groupsNow_73 rfl hl (by decide) rfl (fun ls hl => ?_)
              refine lv_iinc (v := (s9.2 + (1 : Int32))) (lv' := [(5, .int (s9.2 + (1 : Int32))), (1, .long (s9.1 &&& (-1 : Int64))), (0, .ref (gm g 0)), (3, .int (s3.2.1 + (1 : Int32))), (4, .int s3.2.2.1)]) hx hb dX7_groupsNow_74 hl (k := 4) rfl (congrArg (fun y => s9.2 + y) (by decide : Int32.ofInt (1) = (1 : Int32))) (by decide) rfl (fun ls hl => ?_)
              refine lv_goto (tgt := 40) hx hb dX7_groupsNow_77 (by decide) ?_
              exact hback2 _ (Option.some.inj hf).symm H locs ls hP hS (lv_sub hl [2, 1, 3, 4, 0] rfl)
            · have hf := (if_neg hc13).symm.trans hf
              refine lv_lconst (v := (1 : Int64)) hx hb dX7_groupsNow_58 (by decide) ?_
              refine lv_iload hx hb dX7_groupsNow_59 (lv_at hl 4 rfl) ?_
              refine lv_lshl (v := ((1 : Int64) <<< (s9.2.toInt64 &&& 63))) hx hb dX7_groupsNow_61 rfl ?_
              refine lv_ldc2 (v := (-1 : Int64)) hx hb hown hw1 dX7_groupsNow_62 ?_
              refine lv_lxor hx hb dX7_groupsNow_65 ?_
              refine lv_goto (tgt := 72) hx hb dX7_groupsNow_66 (by decide) ?_
              refine lv_land hx hb dX7_groupsNow_72 ?_
              refine lv_lstore_n (lv' := [(1, .long (s9.1 &&& (((1 : Int64) <<< (s9.2.toInt64 &&& 63)) ^^^ (-1 : Int64)))), (0, .ref (gm g 0)), (3, .int (s3.2.1 + (1 : Int32))), (4, .int s3.2.2.1), (5, .int s9.2)]) hx hb dX7_groupsNow_73 rfl hl (by decide) rfl (fun ls hl => ?_)
              refine lv_iinc (v := (s9.2 + (1 : Int32))) (lv' := [(5, .int (s9.2 + (1 : Int32))), (1, .long (s9.1 &&& (((1 : Int64) <<< (s9.2.toInt64 &&& 63)) ^^^ (-1 : Int64)))), (0, .ref (gm g 0)), (3, .int (s3.2.1 + (1 : Int32))), (4, .int s3.2.2.1)]) hx hb dX7_groupsNow_74 hl (k := 4) rfl (congrArg (fun y => s9.2 + y) (by decide : Int32.ofInt (1) = (1 : Int32))) (by decide) rfl (fun ls hl => ?_)
              refine lv_goto (tgt := 40) hx hb dX7_groupsNow_77 (by decide) ?_
              exact hback2 _ (Option.some.inj hf).symm H locs ls hP hS (lv_sub hl [2, 1, 3, 4, 0] rfl)
set_option maxHeartbeats 4000000 in
set_option maxRecDepth 100000 in
theorem ct_X7_groups (l : Launch) (n : Nat) (g : GM) (m_now : Nat → Int32) (m_kept : Nat → Int32) (m_aside : Nat → Int32) (m_isKept : Int32) (m_found : Nat → Int32) (m_steps : Nat → Int32) (m_queue : Nat → Int32) (m_lives : Nat → Int32) (m_treads : Nat → Int32) (m_tape : Nat → Int32) (m_taped : Int32) (m_begins : Int32) (m_ends : Int32) (m_sort : Int32) (m_value : Int32) (m_isWrong : Int32) (m_items : Nat → Int32) (m_itemMany : Int32) (m_seedThen : Int32) (m_groundThen : Nat → Int32) (m_widths : Nat → Int32) (m_sizes : Nat → Int32) (m_numbers : Nat → Int32) (m_moved : Nat → Int32) (res : Int32 × (Nat → Int32) × (Nat → Int32)) (hf : fX7_groups n m_now m_steps m_queue = some res) : Met l yX7_groups wsX7_groups ({ frames := 3, cells := 0, slots := 0, locals := 71 }) (va_Pc [.ref (gm g 0)] (mI g (m_now, m_kept, m_aside, m_isKept, m_found, m_steps, m_queue, m_lives, m_treads, m_tape, m_taped, m_begins, m_ends, m_sort, m_value, m_isWrong, m_items, m_itemMany, m_seedThen, m_groundThen, m_widths, m_sizes, m_numbers, m_moved))) (qW (some (.int res.1)) True g.1 (mw g (m_now, m_kept, m_aside, m_isKept, m_found, res.2.1, res.2.2, m_lives, m_treads, m_tape, m_taped, m_begins, m_ends, m_sort, m_value, m_isWrong, m_items, m_itemMany, m_seedThen, m_groundThen, m_widths, m_sizes, m_numbers, m_moved)) (mA g)) 0 0 (mA g) := by
  refine Met.ofW (cc := cX7_groups) (maxL := 1) (ret := (some .int)) (by decide) rfl ?_
  intro p e s m args below meth c s₁ B hml hv
  obtain ⟨rfl, hI⟩ := hv
  have hx := B.exec
  have hb := B.bytes
  have hr := B.returns
  have hts := atoms_spec (ws := wsX7_groups) B.pre
  have hown : s.vm.findClass RX7 = some m.cls := findClass_of_methodNamed B.named
  have hlocks := B.notSynchronized
  have hP := hI.1
  have hB := hI.2
  have hK := hB.1
  have hNW := hB.2.1
  have hS : va_S (mA g) s.heap s.heap [] := va_S.rf
  have hl := lv_entry ([.ref (gm g 0)]) (n := 1) (Nat.le_of_ble_eq_true rfl)
  rw [lg_entry_eq]
  generalize (lg_sl ([.ref (gm g 0)]) ++ List.replicate (1 - (lg_sl ([.ref (gm g 0)])).length) Slot.unset).toArray = ls at hl ⊢
  have hl : lv_has ls 1 [(0, .ref (gm g 0))] := hl
  unfold fX7_groups at hf
  refine lv_aload_n hx hb dX7_groups_0 rfl (lv_at hl 0 rfl) ?_
  obtain ⟨q1, hq1, hf⟩ := bd_some hf
  refine kr_W (st1 := [.int q1.1]) (va_runV (As := []) (rest := []) ⟨hx, hb, hml, hown, hts⟩ (ct_X7_groupsNow l n g m_now m_kept m_aside m_isKept m_found m_steps m_queue m_lives m_treads m_tape m_taped m_begins m_ends m_sort m_value m_isWrong m_items m_itemMany m_seedThen m_groundThen m_widths m_sizes m_numbers m_moved q1 hq1) (cwV 0 hts gX7_groups_X7_groupsNow rfl rfl rfl hd_X7_groupsNow ⟨Nat.le_of_ble_eq_true rfl, Nat.le_of_ble_eq_true rfl⟩) ⟨bl_M, va_recv hK hP (ci := 5) (q0 := 0) rfl k_md, pr_M rfl hB hP hS⟩ rfl rfl hl.1 rfl (lv_room (Nat.le_of_ble_eq_true rfl)) dX7_groups_1 ⟨Nat.le_refl _, Nat.le_refl _⟩) hS rfl (fun hn2 H locs hP hS => ?_)
  have hP : va_P g.1 vwCl (mw g (m_now, m_kept, m_aside, m_isKept, m_found, q1.2.1, q1.2.2, m_lives, m_treads, m_tape, m_taped, m_begins, m_ends, m_sort, m_value, m_isWrong, m_items, m_itemMany, m_seedThen, m_groundThen, m_widths, m_sizes, m_numbers, m_moved)) H := hP
  have hres : (q1.1, q1.2.1, q1.2.2) = res := (Option.some.inj hf)
  have hP := w_eq (congrArg (fun z => mw g (m_now, m_kept, m_aside, m_isKept, m_found, z.2.1, z.2.2, m_lives, m_treads, m_tape, m_taped, m_begins, m_ends, m_sort, m_value, m_isWrong, m_items, m_itemMany, m_seedThen, m_groundThen, m_widths, m_sizes, m_numbers, m_moved)) hres) hP
  exact W.iret (v := q1.1) hx hb hr (fun t ht hW => ⟨congrArg (fun z => Outcome.returned (some (Value.int z.1))) hres, trivial, by rw [ht]; exact hP, hS.F ht⟩) hS.2.2 dX7_groups_4
