/-! CONTRACTS, by program -/
set_option maxHeartbeats 4000000 in
set_option maxRecDepth 100000 in
theorem ct_X5_next (l : Launch) (n : Nat) (g : GC) (S : TP → CS) (hL : zT S) (t_bytes : Nat → Int32) (t_length : Int32) (t_sort : Int32) (t_start : Int32) (t_end : Int32) (t_value : Int32) (res : Int32 × Int32 × Int32 × Int32) (hf : fX5_next n t_bytes t_length t_sort t_start t_end t_value = some res) : Met l yX5_next wsX5_next ({ frames := 2, cells := 0, slots := 0, locals := 44 }) (va_Pc [.ref (ga g 4)] (cI g (S (t_bytes, t_length, t_sort, t_start, t_end, t_value)))) (qW none True g.1 (cw g (S (t_bytes, t_length, res.1, res.2.1, res.2.2.1, res.2.2.2))) (gA g)) 0 0 (gA g) := by
  refine Met.ofW (cc := cX5_next) (maxL := 1) (ret := none) (by decide) rfl ?_
  intro p e s m args below meth c s₁ B hml hv
  obtain ⟨rfl, hI⟩ := hv
  have hx := B.exec
  have hb := B.bytes
  have hr := B.returns
  have hts := atoms_spec (ws := wsX5_next) B.pre
  have hown : s.vm.findClass RX5 = some m.cls := findClass_of_methodNamed B.named
  have hlocks := B.notSynchronized
  have hP := hI.1
  have hB := hI.2
  have hK := hB.1
  have hNW := hB.2.1
  have hS : va_S (gA g) s.heap s.heap [] := va_S.rf
  have hw0 := hts (.fieldLink RX5 19 "SownPaths$Tape" "end" "I") (by decide +kernel)
  have hw1 := hts (.fieldLink RX5 25 "SownPaths$Tape" "start" "I") (by decide +kernel)
  have hw2 := hts (.fieldLink RX5 15 "SownPaths$Tape" "length" "I") (by decide +kernel)
  have hw3 := hts (.fieldLink RX5 9 "SownPaths$Tape" "bytes" "[I") (by decide +kernel)
  have hw4 := hts (.initialized RX6) (by decide +kernel)
  have hw5 := hts (.static yX6_at) (by decide +kernel)
  have hw6 := hts (.fieldLink RX5 32 "SownPaths$Tape" "value" "I") (by decide +kernel)
  have hw7 := hts (.fieldLink RX5 35 "SownPaths$Tape" "sort" "I") (by decide +kernel)
  have iwX5 : ∀ w ∈ wsX50, w ∈ wsX5_next := fun w h => List.mem_cons_of_mem _ (List.mem_append_right _ h)
  have hl := lv_entry ([.ref (ga g 4)]) (n := 1) (Nat.le_of_ble_eq_true rfl)
  rw [lg_entry_eq]
  generalize (lg_sl ([.ref (ga g 4)]) ++ List.replicate (1 - (lg_sl ([.ref (ga g 4)])).length) Slot.unset).toArray = ls at hl ⊢
  have hl : lv_has ls 1 [(0, .ref (ga g 4))] := hl
  unfold fX5_next at hf
  refine lv_aload_n hx hb dX5_next_0 rfl (lv_at hl 0 rfl) ?_
  refine lv_aload_n hx hb dX5_next_1 rfl (lv_at hl 0 rfl) ?_
  refine va_get (D := g.1) (ci := 3) (v := .int t_end) (C := RX5) (T := TX5) (N := 6) hx hb hts iwX5 hown hK hP 4 (e_tp (zT.at hL (t_bytes, t_length, t_sort, t_start, t_end, t_value)) (T := (t_bytes, t_length, t_sort, t_start, t_end, t_value))) rfl 4 (by decide) hw0 (fun _ h9 => h9) rfl dX5_next_2 ?_
  refine va_put (D := g.1) (ci := 3) (v := .int t_end) (ty := .int) (C := RX5) (T := TX5) (N := 6) hx hb hts iwX5 tyX5 tyX5_ok nmX5 hown hK hP (cD hB.2.2.1 _) hS 4 (e_tp (zT.at hL (t_bytes, t_length, t_sort, t_start, t_end, t_value)) (T := (t_bytes, t_length, t_sort, t_start, t_end, t_value))) rfl 3 (by decide) hw1 (fun _ h9 => h9) rfl (tyX5_ok 3 (by decide)) rfl rfl (Nat.le_of_ble_eq_true rfl) dX5_next_5 (fun H locs hP _ hS => ?_)
  have hP : va_P g.1 vwCl (cw g (S (t_bytes, t_length, t_sort, t_end, t_end, t_value))) H := w_eq (s_start (S := S) (T := (t_bytes, t_length, t_sort, t_start, t_end, t_value)) t_end hL) hP
  refine lp_run hf (fun s1 => ∀ (H : Heap) (locs : List Loc) (ls : Array Slot), va_P g.1 vwCl (cw g (S (t_bytes, t_length, t_sort, s1, t_end, t_value))) H → va_S (gA g) s.heap H locs → lv_has ls 1 [(0, .ref (ga g 4))] → W p l e (headSpec wsX5_next ({ frames := 2, cells := 0, slots := 0, locals := 44 })).room s m ([.ref (ga g 4)] : List Value).toArray below meth c H locs 0 0 (MQ below (qW none True g.1 (cw g (S (t_bytes, t_length, res.1, res.2.1, res.2.2.1, res.2.2.2))) (gA g)) ([.ref (ga g 4)] : List Value).toArray s 0 0 (gA g)) (F0 m 8 ls [])) (fun v2 => ∀ (H : Heap) (locs : List Loc) (ls : Array Slot), va_P g.1 vwCl (cw g (S (t_bytes, t_length, t_sort, v2, t_end, t_value))) H → va_S (gA g) s.heap H locs → lv_has ls 1 [(0, .ref (ga g 4))] → W p l e (headSpec wsX5_next ({ frames := 2, cells := 0, slots := 0, locals := 44 })).room s m ([.ref (ga g 4)] : List Value).toArray below meth c H locs 0 0 (MQ below (qW none True g.1 (cw g (S (t_bytes, t_length, res.1, res.2.1, res.2.2.1, res.2.2.2))) (gA g)) ([.ref (ga g 4)] : List Value).toArray s 0 0 (gA g)) (F0 m 48 ls [])) ?_ ?_ _ _ _ hP hS (lv_sub hl [0] rfl)
  · intro v2 hf H locs ls hP hS hl
    refine lv_aload_n hx hb dX5_next_48 rfl (lv_at hl 0 rfl) ?_
    refine lv_aload_n hx hb dX5_next_49 rfl (lv_at hl 0 rfl) ?_
    refine va_get (D := g.1) (ci := 3) (v := .int v2) (C := RX5) (T := TX5) (N := 6) hx hb hts iwX5 hown hK hP 4 (e_tp (zT.at hL (t_bytes, t_length, t_sort, v2, t_end, t_value)) (T := (t_bytes, t_length, t_sort, v2, t_end, t_value))) rfl 3 (by decide) hw1 (fun _ h9 => h9) rfl dX5_next_50 ?_
    refine va_put (D := g.1) (ci := 3) (v := .int v2) (ty := .int) (C := RX5) (T := TX5) (N := 6) hx hb hts iwX5 tyX5 tyX5_ok nmX5 hown hK hP (cD hB.2.2.1 _) hS 4 (e_tp (zT.at hL (t_bytes, t_length, t_sort, v2, t_end, t_value)) (T := (t_bytes, t_length, t_sort, v2, t_end, t_value))) rfl 4 (by decide) hw0 (fun _ h9 => h9) rfl (tyX5_ok 4 (by decide)) rfl rfl (Nat.le_of_ble_eq_true rfl) dX5_next_53 (fun H locs hP _ hS => ?_)
    have hP : va_P g.1 vwCl (cw g (S (t_bytes, t_length, t_sort, v2, v2, t_value))) H := w_eq (s_end (S := S) (T := (t_bytes, t_length, t_sort, v2, t_end, t_value)) v2 hL) hP
    refine lv_aload_n hx hb dX5_next_56 rfl (lv_at hl 0 rfl) ?_
    refine lv_iconst (v := (-1 : Int32)) hx hb dX5_next_57 (by decide) ?_
    refine va_put (D := g.1) (ci := 3) (v := .int (-1 : Int32)) (ty := .int) (C := RX5) (T := TX5) (N := 6) hx hb hts iwX5 tyX5 tyX5_ok nmX5 hown hK hP (cD hB.2.2.1 _) hS 4 (e_tp (zT.at hL (t_bytes, t_length, t_sort, v2, v2, t_value)) (T := (t_bytes, t_length, t_sort, v2, v2, t_value))) rfl 5 (by decide) hw6 (fun _ h9 => h9) rfl (tyX5_ok 5 (by decide)) rfl rfl (Nat.le_of_ble_eq_true rfl) dX5_next_58 (fun H locs hP _ hS => ?_)
    have hP : va_P g.1 vwCl (cw g (S (t_bytes, t_length, t_sort, v2, v2, (-1 : Int32)))) H := w_eq (s_value (S := S) (T := (t_bytes, t_length, t_sort, v2, v2, t_value)) (-1 : Int32) hL) hP
    refine lv_aload_n hx hb dX5_next_61 rfl (lv_at hl 0 rfl) ?_
    refine va_get (D := g.1) (ci := 3) (v := .int v2) (C := RX5) (T := TX5) (N := 6) hx hb hts iwX5 hown hK hP 4 (e_tp (zT.at hL (t_bytes, t_length, t_sort, v2, v2, (-1 : Int32))) (T := (t_bytes, t_length, t_sort, v2, v2, (-1 : Int32)))) rfl 3 (by decide) hw1 (fun _ h9 => h9) rfl dX5_next_62 ?_
    refine lv_aload_n hx hb dX5_next_65 rfl (lv_at hl 0 rfl) ?_
    refine va_get (D := g.1) (ci := 3) (v := .int t_length) (C := RX5) (T := TX5) (N := 6) hx hb hts iwX5 hown hK hP 4 (e_tp (zT.at hL (t_bytes, t_length, t_sort, v2, v2, (-1 : Int32))) (T := (t_bytes, t_length, t_sort, v2, v2, (-1 : Int32)))) rfl 1 (by decide) hw2 (fun _ h9 => h9) rfl dX5_next_66 ?_
    refine lv_icmp_lt (tgt := 80) hx hb dX5_next_69 (by decide) (fun hc7 => ?_) (fun hc7 => ?_)
    · have hf := (if_pos hc7).symm.trans hf
      refine lv_aload_n hx hb dX5_next_80 rfl (lv_at hl 0 rfl) ?_
      refine va_get (D := g.1) (ci := 3) (v := .ref (ga g 7)) (C := RX5) (T := TX5) (N := 6) hx hb hts iwX5 hown hK hP 4 (e_tp (zT.at hL (t_bytes, t_length, t_sort, v2, v2, (-1 : Int32))) (T := (t_bytes, t_length, t_sort, v2, v2, (-1 : Int32)))) rfl 0 (by decide) hw3 (fun _ h9 => h9) rfl dX5_next_81 ?_
      refine lv_aload_n hx hb dX5_next_84 rfl (lv_at hl 0 rfl) ?_
      refine va_get (D := g.1) (ci := 3) (v := .int v2) (C := RX5) (T := TX5) (N := 6) hx hb hts iwX5 hown hK hP 4 (e_tp (zT.at hL (t_bytes, t_length, t_sort, v2, v2, (-1 : Int32))) (T := (t_bytes, t_length, t_sort, v2, v2, (-1 : Int32)))) rfl 3 (by decide) hw1 (fun _ h9 => h9) rfl dX5_next_85 ?_
      obtain ⟨q8, hq8, hf⟩ := bd_some hf
      refine kr_S (st1 := [.int q8]) (va_runSN (As := [.ref (ga g 7), .int v2]) (rest := []) ⟨hx, hb, hml, hown, hts⟩ (ct_X6_at l n g (S (t_bytes, t_length, t_sort, v2, v2, (-1 : Int32))) 7 120 t_bytes (e_by (zT.at hL (t_bytes, t_length, t_sort, v2, v2, (-1 : Int32))) (T := (t_bytes, t_length, t_sort, v2, v2, (-1 : Int32)))) v2 q8 hq8) (⟨va_cnB 2 hts gX5_next_X6_at_n28 rfl rfl rfl (ml_X5_28 hNW) hw4 hn_X6_at ⟨Nat.le_of_ble_eq_true rfl, Nat.le_of_ble_eq_true rfl⟩, hw5, trivial⟩) ⟨bl_C, pr_C rfl hB hP hS⟩ rfl rfl hl.1 rfl (lv_room (Nat.le_of_ble_eq_true rfl)) dX5_next_88 ⟨Nat.le_refl _, Nat.le_refl _⟩) rfl (fun hn9 => ?_)
      obtain ⟨q10, hq10, hf⟩ := bd_some hf
      refine kr_S (st1 := [.int q10]) (va_runS (As := [.int q8]) (rest := []) ⟨hx, hb, hml, hown, hts⟩ (ct_X5_isLetter l n q8 q10 hq10) (va_cwS 1 hts gX5_next_X5_isLetter rfl rfl rfl hn_X5_isLetter ⟨Nat.le_of_ble_eq_true rfl, Nat.le_of_ble_eq_true rfl⟩) ⟨bl_N, pr_N rfl hNW⟩ rfl rfl hl.1 rfl (lv_room (Nat.le_of_ble_eq_true rfl)) dX5_next_91 ⟨Nat.le_refl _, Nat.le_refl _⟩) rfl (fun hn11 => ?_)
      refine lv_if_eq (tgt := 143) hx hb dX5_next_94 (by decide) (fun hc12 => ?_) (fun hc12 => ?_)
      · have hf := (if_pos hc12).symm.trans hf
        refine lv_aload_n hx hb dX5_next_143 rfl (lv_at hl 0 rfl) ?_
        refine va_get (D := g.1) (ci := 3) (v := .ref (ga g 7)) (C := RX5) (T := TX5) (N := 6) hx hb hts iwX5 hown hK hP 4 (e_tp (zT.at hL (t_bytes, t_length, t_sort, v2, v2, (-1 : Int32))) (T := (t_bytes, t_length, t_sort, v2, v2, (-1 : Int32)))) rfl 0 (by decide) hw3 (fun _ h9 => h9) rfl dX5_next_144 ?_
        refine lv_aload_n hx hb dX5_next_147 rfl (lv_at hl 0 rfl) ?_
        refine va_get (D := g.1) (ci := 3) (v := .int v2) (C := RX5) (T := TX5) (N := 6) hx hb hts iwX5 hown hK hP 4 (e_tp (zT.at hL (t_bytes, t_length, t_sort, v2, v2, (-1 : Int32))) (T := (t_bytes, t_length, t_sort, v2, v2, (-1 : Int32)))) rfl 3 (by decide) hw1 (fun _ h9 => h9) rfl dX5_next_148 ?_
        obtain ⟨q13, hq13, hf⟩ := bd_some hf
        refine kr_S (st1 := [.int q13]) (va_runSN (As := [.ref (ga g 7), .int v2]) (rest := []) ⟨hx, hb, hml, hown, hts⟩ (ct_X6_at l n g (S (t_bytes, t_length, t_sort, v2, v2, (-1 : Int32))) 7 120 t_bytes (e_by (zT.at hL (t_bytes, t_length, t_sort, v2, v2, (-1 : Int32))) (T := (t_bytes, t_length, t_sort, v2, v2, (-1 : Int32)))) v2 q13 hq13) (⟨va_cnB 2 hts gX5_next_X6_at_n28 rfl rfl rfl (ml_X5_28 hNW) hw4 hn_X6_at ⟨Nat.le_of_ble_eq_true rfl, Nat.le_of_ble_eq_true rfl⟩, hw5, trivial⟩) ⟨bl_C, pr_C rfl hB hP hS⟩ rfl rfl hl.1 rfl (lv_room (Nat.le_of_ble_eq_true rfl)) dX5_next_151 ⟨Nat.le_refl _, Nat.le_refl _⟩) rfl (fun hn14 => ?_)
        obtain ⟨q15, hq15, hf⟩ := bd_some hf
        refine kr_S (st1 := [.int q15]) (va_runS (As := [.int q13]) (rest := []) ⟨hx, hb, hml, hown, hts⟩ (ct_X5_isDigit l n q13 q15 hq15) (va_cwS 1 hts gX5_next_X5_isDigit rfl rfl rfl hn_X5_isDigit ⟨Nat.le_of_ble_eq_true rfl, Nat.le_of_ble_eq_true rfl⟩) ⟨bl_N, pr_N rfl hNW⟩ rfl rfl hl.1 rfl (lv_room (Nat.le_of_ble_eq_true rfl)) dX5_next_154 ⟨Nat.le_refl _, Nat.le_refl _⟩) rfl (fun hn16 => ?_)
        refine lv_if_eq (tgt := 172) hx hb dX5_next_157 (by decide) (fun hc17 => ?_) (fun hc17 => ?_)
        · have hf := (if_pos hc17).symm.trans hf
          refine lv_aload_n hx hb dX5_next_172 rfl (lv_at hl 0 rfl) ?_
          refine lv_aload_n hx hb dX5_next_173 rfl (lv_at hl 0 rfl) ?_
          refine va_get (D := g.1) (ci := 3) (v := .ref (ga g 7)) (C := RX5) (T := TX5) (N := 6) hx hb hts iwX5 hown hK hP 4 (e_tp (zT.at hL (t_bytes, t_length, t_sort, v2, v2, (-1 : Int32))) (T := (t_bytes, t_length, t_sort, v2, v2, (-1 : Int32)))) rfl 0 (by decide) hw3 (fun _ h9 => h9) rfl dX5_next_174 ?_
          refine lv_aload_n hx hb dX5_next_177 rfl (lv_at hl 0 rfl) ?_
          refine va_get (D := g.1) (ci := 3) (v := .int v2) (C := RX5) (T := TX5) (N := 6) hx hb hts iwX5 hown hK hP 4 (e_tp (zT.at hL (t_bytes, t_length, t_sort, v2, v2, (-1 : Int32))) (T := (t_bytes, t_length, t_sort, v2, v2, (-1 : Int32)))) rfl 3 (by decide) hw1 (fun _ h9 => h9) rfl dX5_next_178 ?_
          obtain ⟨q18, hq18, hf⟩ := bd_some hf
          refine kr_S (st1 := [.int q18, .ref (ga g 4)]) (va_runSN (As := [.ref (ga g 7), .int v2]) (rest := [.ref (ga g 4)]) ⟨hx, hb, hml, hown, hts⟩ (ct_X6_at l n g (S (t_bytes, t_length, t_sort, v2, v2, (-1 : Int32))) 7 120 t_bytes (e_by (zT.at hL (t_bytes, t_length, t_sort, v2, v2, (-1 : Int32))) (T := (t_bytes, t_length, t_sort, v2, v2, (-1 : Int32)))) v2 q18 hq18) (⟨va_cnB 2 hts gX5_next_X6_at_n28 rfl rfl rfl (ml_X5_28 hNW) hw4 hn_X6_at ⟨Nat.le_of_ble_eq_true rfl, Nat.le_of_ble_eq_true rfl⟩, hw5, trivial⟩) ⟨bl_C, pr_C rfl hB hP hS⟩ rfl rfl hl.1 rfl (lv_room (Nat.le_of_ble_eq_true rfl)) dX5_next_181 ⟨Nat.le_refl _, Nat.le_refl _⟩) rfl (fun hn19 => ?_)
          refine lv_bipush (v := (59 : Int32)) hx hb dX5_next_184 (by decide) ?_
          refine lv_icmp_ne (tgt := 193) hx hb dX5_next_186 (by decide) (fun hc20 => ?_) (fun hc20 => ?_)
          · have hf := (if_neg hc20).symm.trans hf
            refine lv_iconst (v := (4 : Int32)) hx hb dX5_next_193 (by decide) ?_
            refine va_put (D := g.1) (ci := 3) (v := .int (4 : Int32)) (ty := .int) (C := RX5) (T := TX5) (N := 6) hx hb hts iwX5 tyX5 tyX5_ok nmX5 hown hK hP (cD hB.2.2.1 _) hS 4 (e_tp (zT.at hL (t_bytes, t_length, t_sort, v2, v2, (-1 : Int32))) (T := (t_bytes, t_length, t_sort, v2, v2, (-1 : Int32)))) rfl 2 (by decide) hw7 (fun _ h9 => h9) rfl (tyX5_ok 2 (by decide)) rfl rfl (Nat.le_of_ble_eq_true rfl) dX5_next_194 (fun H locs hP _ hS => ?_)
            have hP : va_P g.1 vwCl (cw g (S (t_bytes, t_length, (4 : Int32), v2, v2, (-1 : Int32)))) H := w_eq (s_sort (S := S) (T := (t_bytes, t_length, t_sort, v2, v2, (-1 : Int32))) (4 : Int32) hL) hP
            refine lv_aload_n hx hb dX5_next_197 rfl (lv_at hl 0 rfl) ?_
            refine lv_dup hx hb dX5_next_198 rfl ?_
            refine va_get (D := g.1) (ci := 3) (v := .int v2) (C := RX5) (T := TX5) (N := 6) hx hb hts iwX5 hown hK hP 4 (e_tp (zT.at hL (t_bytes, t_length, (4 : Int32), v2, v2, (-1 : Int32))) (T := (t_bytes, t_length, (4 : Int32), v2, v2, (-1 : Int32)))) rfl 4 (by decide) hw0 (fun _ h9 => h9) rfl dX5_next_199 ?_
            refine lv_iconst (v := (1 : Int32)) hx hb dX5_next_202 (by decide) ?_
            refine lv_iadd hx hb dX5_next_203 ?_
            refine va_put (D := g.1) (ci := 3) (v := .int (v2 + (1 : Int32))) (ty := .int) (C := RX5) (T := TX5) (N := 6) hx hb hts iwX5 tyX5 tyX5_ok nmX5 hown hK hP (cD hB.2.2.1 _) hS 4 (e_tp (zT.at hL (t_bytes, t_length, (4 : Int32), v2, v2, (-1 : Int32))) (T := (t_bytes, t_length, (4 : Int32), v2, v2, (-1 : Int32)))) rfl 4 (by decide) hw0 (fun _ h9 => h9) rfl (tyX5_ok 4 (by decide)) rfl rfl (Nat.le_of_ble_eq_true rfl) dX5_next_204 (fun H locs hP _ hS => ?_)
            have hP : va_P g.1 vwCl (cw g (S (t_bytes, t_length, (4 : Int32), v2, (v2 + (1 : Int32)), (-1 : Int32)))) H := w_eq (s_end (S := S) (T := (t_bytes, t_length, (4 : Int32), v2, v2, (-1 : Int32))) (v2 + (1 : Int32)) hL) hP
            have hres : ((4 : Int32), v2, (v2 + (1 : Int32)), (-1 : Int32)) = res := (Option.some.inj hf)
            have hP := w_eq (congrArg (fun z => cw g (S (t_bytes, t_length, z.1, z.2.1, z.2.2.1, z.2.2.2))) hres) hP
            exact W.vret hx hb hr (fun t ht hW => ⟨rfl, trivial, by rw [ht]; exact hP, hS.F ht⟩) hS.2.2 dX5_next_207
          · have hf := (if_pos hc20).symm.trans hf
            refine lv_iconst (v := (3 : Int32)) hx hb dX5_next_189 (by decide) ?_
            refine lv_goto (tgt := 194) hx hb dX5_next_190 (by decide) ?_
            refine va_put (D := g.1) (ci := 3) (v := .int (3 : Int32)) (ty := .int) (C := RX5) (T := TX5) (N := 6) hx hb hts iwX5 tyX5 tyX5_ok nmX5 hown hK hP (cD hB.2.2.1 _) hS 4 (e_tp (zT.at hL (t_bytes, t_length, t_sort, v2, v2, (-1 : Int32))) (T := (t_bytes, t_length, t_sort, v2, v2, (-1 : Int32)))) rfl 2 (by decide) hw7 (fun _ h9 => h9) rfl (tyX5_ok 2 (by decide)) rfl rfl (Nat.le_of_ble_eq_true rfl) dX5_next_194 (fun H locs hP _ hS => ?_)
            have hP : va_P g.1 vwCl (cw g (S (t_bytes, t_length, (3 : Int32), v2, v2, (-1 : Int32)))) H := w_eq (s_sort (S := S) (T := (t_bytes, t_length, t_sort, v2, v2, (-1 : Int32))) (3 : Int32) hL) hP
            refine lv_aload_n hx hb dX5_next_197 rfl (lv_at hl 0 rfl) ?_
            refine lv_dup hx hb dX5_next_198 rfl ?_
            refine va_get (D := g.1) (ci := 3) (v := .int v2) (C := RX5) (T := TX5) (N := 6) hx hb hts iwX5 hown hK hP 4 (e_tp (zT.at hL (t_bytes, t_length, (3 : Int32), v2, v2, (-1 : Int32))) (T := (t_bytes, t_length, (3 : Int32), v2, v2, (-1 : Int32)))) rfl 4 (by decide) hw0 (fun _ h9 => h9) rfl dX5_next_199 ?_
            refine lv_iconst (v := (1 : Int32)) hx hb dX5_next_202 (by decide) ?_
            refine lv_iadd hx hb dX5_next_203 ?_
            refine va_put (D := g.1) (ci := 3) (v := .int (v2 + (1 : Int32))) (ty := .int) (C := RX5) (T := TX5) (N := 6) hx hb hts iwX5 tyX5 tyX5_ok nmX5 hown hK hP (cD hB.2.2.1 _) hS 4 (e_tp (zT.at hL (t_bytes, t_length, (3 : Int32), v2, v2, (-1 : Int32))) (T := (t_bytes, t_length, (3 : Int32), v2, v2, (-1 : Int32)))) rfl 4 (by decide) hw0 (fun _ h9 => h9) rfl (tyX5_ok 4 (by decide)) rfl rfl (Nat.le_of_ble_eq_true rfl) dX5_next_204 (fun H locs hP _ hS => ?_)
            have hP : va_P g.1 vwCl (cw g (S (t_bytes, t_length, (3 : Int32), v2, (v2 + (1 : Int32)), (-1 : Int32)))) H := w_eq (s_end (S := S) (T := (t_bytes, t_length, (3 : Int32), v2, v2, (-1 : Int32))) (v2 + (1 : Int32)) hL) hP
            have hres : ((3 : Int32), v2, (v2 + (1 : Int32)), (-1 : Int32)) = res := (Option.some.inj hf)
            have hP := w_eq (congrArg (fun z => cw g (S (t_bytes, t_length, z.1, z.2.1, z.2.2.1, z.2.2.2))) hres) hP
            exact W.vret hx hb hr (fun t ht hW => ⟨rfl, trivial, by rw [ht]; exact hP, hS.F ht⟩) hS.2.2 dX5_next_207
        · have hf := (if_neg hc17).symm.trans hf
          refine lv_aload_n hx hb dX5_next_160 rfl (lv_at hl 0 rfl) ?_
          refine lv_iconst (v := (2 : Int32)) hx hb dX5_next_161 (by decide) ?_
          refine va_put (D := g.1) (ci := 3) (v := .int (2 : Int32)) (ty := .int) (C := RX5) (T := TX5) (N := 6) hx hb hts iwX5 tyX5 tyX5_ok nmX5 hown hK hP (cD hB.2.2.1 _) hS 4 (e_tp (zT.at hL (t_bytes, t_length, t_sort, v2, v2, (-1 : Int32))) (T := (t_bytes, t_length, t_sort, v2, v2, (-1 : Int32)))) rfl 2 (by decide) hw7 (fun _ h9 => h9) rfl (tyX5_ok 2 (by decide)) rfl rfl (Nat.le_of_ble_eq_true rfl) dX5_next_162 (fun H locs hP _ hS => ?_)
          have hP : va_P g.1 vwCl (cw g (S (t_bytes, t_length, (2 : Int32), v2, v2, (-1 : Int32)))) H := w_eq (s_sort (S := S) (T := (t_bytes, t_length, t_sort, v2, v2, (-1 : Int32))) (2 : Int32) hL) hP
          refine lv_aload_n hx hb dX5_next_165 rfl (lv_at hl 0 rfl) ?_
          obtain ⟨q21, hq21, hf⟩ := bd_some hf
          refine kr_W (st1 := []) (va_runV (As := []) (rest := []) ⟨hx, hb, hml, hown, hts⟩ (ct_X5_readNumber l n g S hL t_bytes t_length (2 : Int32) v2 v2 (-1 : Int32) q21 hq21) (cwV 0 hts gX5_next_X5_readNumber rfl rfl rfl hd_X5_readNumber ⟨Nat.le_of_ble_eq_true rfl, Nat.le_of_ble_eq_true rfl⟩) ⟨bl_C, va_recv hK hP (ci := 3) (q0 := 4) rfl (e_tp (zT.at hL (t_bytes, t_length, (2 : Int32), v2, v2, (-1 : Int32))) (T := (t_bytes, t_length, (2 : Int32), v2, v2, (-1 : Int32)))), pr_C rfl hB hP hS⟩ rfl rfl hl.1 rfl (lv_room (Nat.le_of_ble_eq_true rfl)) dX5_next_166 ⟨Nat.le_refl _, Nat.le_refl _⟩) hS rfl (fun hn22 H locs hP hS => ?_)
          have hP : va_P g.1 vwCl (cw g (S (t_bytes, t_length, (2 : Int32), v2, q21.1, q21.2))) H := hP
          refine lv_goto (tgt := 207) hx hb dX5_next_169 (by decide) ?_
          have hres : ((2 : Int32), v2, q21.1, q21.2) = res := (Option.some.inj hf)
          have hP := w_eq (congrArg (fun z => cw g (S (t_bytes, t_length, z.1, z.2.1, z.2.2.1, z.2.2.2))) hres) hP
          exact W.vret hx hb hr (fun t ht hW => ⟨rfl, trivial, by rw [ht]; exact hP, hS.F ht⟩) hS.2.2 dX5_next_207
      · have hf := (if_neg hc12).symm.trans hf
        refine lv_aload_n hx hb dX5_next_97 rfl (lv_at hl 0 rfl) ?_
        refine lv_iconst (v := (1 : Int32)) hx hb dX5_next_98 (by decide) ?_
        refine va_put (D := g.1) (ci := 3) (v := .int (1 : Int32)) (ty := .int) (C := RX5) (T := TX5) (N := 6) hx hb hts iwX5 tyX5 tyX5_ok nmX5 hown hK hP (cD hB.2.2.1 _) hS 4 (e_tp (zT.at hL (t_bytes, t_length, t_sort, v2, v2, (-1 : Int32))) (T := (t_bytes, t_length, t_sort, v2, v2, (-1 : Int32)))) rfl 2 (by decide) hw7 (fun _ h9 => h9) rfl (tyX5_ok 2 (by decide)) rfl rfl (Nat.le_of_ble_eq_true rfl) dX5_next_99 (fun H locs hP _ hS => ?_)
        have hP : va_P g.1 vwCl (cw g (S (t_bytes, t_length, (1 : Int32), v2, v2, (-1 : Int32)))) H := w_eq (s_sort (S := S) (T := (t_bytes, t_length, t_sort, v2, v2, (-1 : Int32))) (1 : Int32) hL) hP
        refine lp_run hf (fun s23 => ∀ (H : Heap) (locs : List Loc) (ls : Array Slot), va_P g.1 vwCl (cw g (S (t_bytes, t_length, (1 : Int32), v2, s23, (-1 : Int32)))) H → va_S (gA g) s.heap H locs → lv_has ls 1 [(0, .ref (ga g 4))] → W p l e (headSpec wsX5_next ({ frames := 2, cells := 0, slots := 0, locals := 44 })).room s m ([.ref (ga g 4)] : List Value).toArray below meth c H locs 0 0 (MQ below (qW none True g.1 (cw g (S (t_bytes, t_length, res.1, res.2.1, res.2.2.1, res.2.2.2))) (gA g)) ([.ref (ga g 4)] : List Value).toArray s 0 0 (gA g)) (F0 m 102 ls [])) (fun v24 => ∀ (H : Heap) (locs : List Loc) (ls : Array Slot), va_P g.1 vwCl (cw g (S (t_bytes, t_length, (1 : Int32), v2, v24, (-1 : Int32)))) H → va_S (gA g) s.heap H locs → lv_has ls 1 [] → W p l e (headSpec wsX5_next ({ frames := 2, cells := 0, slots := 0, locals := 44 })).room s m ([.ref (ga g 4)] : List Value).toArray below meth c H locs 0 0 (MQ below (qW none True g.1 (cw g (S (t_bytes, t_length, res.1, res.2.1, res.2.2.1, res.2.2.2))) (gA g)) ([.ref (ga g 4)] : List Value).toArray s 0 0 (gA g)) (F0 m 207 ls [])) ?_ ?_ _ _ _ hP hS (lv_sub hl [0] rfl)
        · intro v24 hf H locs ls hP hS hl
          have hres : ((1 : Int32), v2, v24, (-1 : Int32)) = res := (Option.some.inj hf)
          have hP := w_eq (congrArg (fun z => cw g (S (t_bytes, t_length, z.1, z.2.1, z.2.2.1, z.2.2.2))) hres) hP
          exact W.vret hx hb hr (fun t ht hW => ⟨rfl, trivial, by rw [ht]; exact hP, hS.F ht⟩) hS.2.2 dX5_next_207
        · intro s23 r1 hf hback1 hexit1 H locs ls hP hS hl
          refine lv_aload_n hx hb dX5_next_102 rfl (lv_at hl 0 rfl) ?_
          refine va_get (D := g.1) (ci := 3) (v := .int s23) (C := RX5) (T := TX5) (N := 6) hx hb hts iwX5 hown hK hP 4 (e_tp (zT.at hL (t_bytes, t_length, (1 : Int32), v2, s23, (-1 : Int32))) (T := (t_bytes, t_length, (1 : Int32), v2, s23, (-1 : Int32)))) rfl 4 (by decide) hw0 (fun _ h9 => h9) rfl dX5_next_103 ?_
          refine lv_aload_n hx hb dX5_next_106 rfl (lv_at hl 0 rfl) ?_
          refine va_get (D := g.1) (ci := 3) (v := .int t_length) (C := RX5) (T := TX5) (N := 6) hx hb hts iwX5 hown hK hP 4 (e_tp (zT.at hL (t_bytes, t_length, (1 : Int32), v2, s23, (-1 : Int32))) (T := (t_bytes, t_length, (1 : Int32), v2, s23, (-1 : Int32)))) rfl 1 (by decide) hw2 (fun _ h9 => h9) rfl dX5_next_107 ?_
          refine lv_icmp_ge (tgt := 207) hx hb dX5_next_110 (by decide) (fun hc25 => ?_) (fun hc25 => ?_)
          · have hf := (if_pos hc25).symm.trans hf
            exact hexit1 s23 (Option.some.inj hf).symm H locs ls hP hS (lv_sub hl [] rfl)
          · have hf := (if_neg hc25).symm.trans hf
            refine lv_aload_n hx hb dX5_next_113 rfl (lv_at hl 0 rfl) ?_
            refine va_get (D := g.1) (ci := 3) (v := .ref (ga g 7)) (C := RX5) (T := TX5) (N := 6) hx hb hts iwX5 hown hK hP 4 (e_tp (zT.at hL (t_bytes, t_length, (1 : Int32), v2, s23, (-1 : Int32))) (T := (t_bytes, t_length, (1 : Int32), v2, s23, (-1 : Int32)))) rfl 0 (by decide) hw3 (fun _ h9 => h9) rfl dX5_next_114 ?_
            refine lv_aload_n hx hb dX5_next_117 rfl (lv_at hl 0 rfl) ?_
            refine va_get (D := g.1) (ci := 3) (v := .int s23) (C := RX5) (T := TX5) (N := 6) hx hb hts iwX5 hown hK hP 4 (e_tp (zT.at hL (t_bytes, t_length, (1 : Int32), v2, s23, (-1 : Int32))) (T := (t_bytes, t_length, (1 : Int32), v2, s23, (-1 : Int32)))) rfl 4 (by decide) hw0 (fun _ h9 => h9) rfl dX5_next_118 ?_
            obtain ⟨q26, hq26, hf⟩ := bd_some hf
            refine kr_S (st1 := [.int q26]) (va_runSN (As := [.ref (ga g 7), .int s23]) (rest := []) ⟨hx, hb, hml, hown, hts⟩ (ct_X6_at l n g (S (t_bytes, t_length, (1 : Int32), v2, s23, (-1 : Int32))) 7 120 t_bytes (e_by (zT.at hL (t_bytes, t_length, (1 : Int32), v2, s23, (-1 : Int32))) (T := (t_bytes, t_length, (1 : Int32), v2, s23, (-1 : Int32)))) s23 q26 hq26) (⟨va_cnB 2 hts gX5_next_X6_at_n28 rfl rfl rfl (ml_X5_28 hNW) hw4 hn_X6_at ⟨Nat.le_of_ble_eq_true rfl, Nat.le_of_ble_eq_true rfl⟩, hw5, trivial⟩) ⟨bl_C, pr_C rfl hB hP hS⟩ rfl rfl hl.1 rfl (lv_room (Nat.le_of_ble_eq_true rfl)) dX5_next_121 ⟨Nat.le_refl _, Nat.le_refl _⟩) rfl (fun hn27 => ?_)
            obtain ⟨q28, hq28, hf⟩ := bd_some hf
            refine kr_S (st1 := [.int q28]) (va_runS (As := [.int q26]) (rest := []) ⟨hx, hb, hml, hown, hts⟩ (ct_X5_isLetter l n q26 q28 hq28) (va_cwS 1 hts gX5_next_X5_isLetter rfl rfl rfl hn_X5_isLetter ⟨Nat.le_of_ble_eq_true rfl, Nat.le_of_ble_eq_true rfl⟩) ⟨bl_N, pr_N rfl hNW⟩ rfl rfl hl.1 rfl (lv_room (Nat.le_of_ble_eq_true rfl)) dX5_next_124 ⟨Nat.le_refl _, Nat.le_refl _⟩) rfl (fun hn29 => ?_)
            refine lv_if_eq (tgt := 207) hx hb dX5_next_127 (by decide) (fun hc30 => ?_) (fun hc30 => ?_)
            · have hf := (if_pos hc30).symm.trans hf
              exact hexit1 s23 (Option.some.inj hf).symm H locs ls hP hS (lv_sub hl [] rfl)
            · have hf := (if_neg hc30).symm.trans hf
              refine lv_aload_n hx hb dX5_next_130 rfl (lv_at hl 0 rfl) ?_
              refine lv_dup hx hb dX5_next_131 rfl ?_
              refine va_get (D := g.1) (ci := 3) (v := .int s23) (C := RX5) (T := TX5) (N := 6) hx hb hts iwX5 hown hK hP 4 (e_tp (zT.at hL (t_bytes, t_length, (1 : Int32), v2, s23, (-1 : Int32))) (T := (t_bytes, t_length, (1 : Int32), v2, s23, (-1 : Int32)))) rfl 4 (by decide) hw0 (fun _ h9 => h9) rfl dX5_next_132 ?_
              refine lv_iconst (v := (1 : Int32)) hx hb dX5_next_135 (by decide) ?_
              refine lv_iadd hx hb dX5_next_136 ?_
              refine va_put (D := g.1) (ci := 3) (v := .int (s23 + (1 : Int32))) (ty := .int) (C := RX5) (T := TX5) (N := 6) hx hb hts iwX5 tyX5 tyX5_ok nmX5 hown hK hP (cD hB.2.2.1 _) hS 4 (e_tp (zT.at hL (t_bytes, t_length, (1 : Int32), v2, s23, (-1 : Int32))) (T := (t_bytes, t_length, (1 : Int32), v2, s23, (-1 : Int32)))) rfl 4 (by decide) hw0 (fun _ h9 => h9) rfl (tyX5_ok 4 (by decide)) rfl rfl (Nat.le_of_ble_eq_true rfl) dX5_next_137 (fun H locs hP _ hS => ?_)
              have hP : va_P g.1 vwCl (cw g (S (t_bytes, t_length, (1 : Int32), v2, (s23 + (1 : Int32)), (-1 : Int32)))) H := w_eq (s_end (S := S) (T := (t_bytes, t_length, (1 : Int32), v2, s23, (-1 : Int32))) (s23 + (1 : Int32)) hL) hP
              refine lv_goto (tgt := 102) hx hb dX5_next_140 (by decide) ?_
              exact hback1 _ (Option.some.inj hf).symm H locs ls hP hS (lv_sub hl [0] rfl)
    · have hf := (if_neg hc7).symm.trans hf
      refine lv_aload_n hx hb dX5_next_72 rfl (lv_at hl 0 rfl) ?_
      refine lv_iconst (v := (0 : Int32)) hx hb dX5_next_73 (by decide) ?_
      refine va_put (D := g.1) (ci := 3) (v := .int (0 : Int32)) (ty := .int) (C := RX5) (T := TX5) (N := 6) hx hb hts iwX5 tyX5 tyX5_ok nmX5 hown hK hP (cD hB.2.2.1 _) hS 4 (e_tp (zT.at hL (t_bytes, t_length, t_sort, v2, v2, (-1 : Int32))) (T := (t_bytes, t_length, t_sort, v2, v2, (-1 : Int32)))) rfl 2 (by decide) hw7 (fun _ h9 => h9) rfl (tyX5_ok 2 (by decide)) rfl rfl (Nat.le_of_ble_eq_true rfl) dX5_next_74 (fun H locs hP _ hS => ?_)
      have hP : va_P g.1 vwCl (cw g (S (t_bytes, t_length, (0 : Int32), v2, v2, (-1 : Int32)))) H := w_eq (s_sort (S := S) (T := (t_bytes, t_length, t_sort, v2, v2, (-1 : Int32))) (0 : Int32) hL) hP
      refine lv_goto (tgt := 207) hx hb dX5_next_77 (by decide) ?_
      have hres : ((0 : Int32), v2, v2, (-1 : Int32)) = res := (Option.some.inj hf)
      have hP := w_eq (congrArg (fun z => cw g (S (t_bytes, t_length, z.1, z.2.1, z.2.2.1, z.2.2.2))) hres) hP
      exact W.vret hx hb hr (fun t ht hW => ⟨rfl, trivial, by rw [ht]; exact hP, hS.F ht⟩) hS.2.2 dX5_next_207
  · intro s1 r1 hf hback1 hexit1 H locs ls hP hS hl
    refine lv_aload_n hx hb dX5_next_8 rfl (lv_at hl 0 rfl) ?_
    refine va_get (D := g.1) (ci := 3) (v := .int s1) (C := RX5) (T := TX5) (N := 6) hx hb hts iwX5 hown hK hP 4 (e_tp (zT.at hL (t_bytes, t_length, t_sort, s1, t_end, t_value)) (T := (t_bytes, t_length, t_sort, s1, t_end, t_value))) rfl 3 (by decide) hw1 (fun _ h9 => h9) rfl dX5_next_9 ?_
    refine lv_aload_n hx hb dX5_next_12 rfl (lv_at hl 0 rfl) ?_
    refine va_get (D := g.1) (ci := 3) (v := .int t_length) (C := RX5) (T := TX5) (N := 6) hx hb hts iwX5 hown hK hP 4 (e_tp (zT.at hL (t_bytes, t_length, t_sort, s1, t_end, t_value)) (T := (t_bytes, t_length, t_sort, s1, t_end, t_value))) rfl 1 (by decide) hw2 (fun _ h9 => h9) rfl dX5_next_13 ?_
    refine lv_icmp_ge (tgt := 48) hx hb dX5_next_16 (by decide) (fun hc3 => ?_) (fun hc3 => ?_)
    · have hf := (if_pos hc3).symm.trans hf
      exact hexit1 s1 (Option.some.inj hf).symm H locs ls hP hS (lv_sub hl [0] rfl)
    · have hf := (if_neg hc3).symm.trans hf
      refine lv_aload_n hx hb dX5_next_19 rfl (lv_at hl 0 rfl) ?_
      refine va_get (D := g.1) (ci := 3) (v := .ref (ga g 7)) (C := RX5) (T := TX5) (N := 6) hx hb hts iwX5 hown hK hP 4 (e_tp (zT.at hL (t_bytes, t_length, t_sort, s1, t_end, t_value)) (T := (t_bytes, t_length, t_sort, s1, t_end, t_value))) rfl 0 (by decide) hw3 (fun _ h9 => h9) rfl dX5_next_20 ?_
      refine lv_aload_n hx hb dX5_next_23 rfl (lv_at hl 0 rfl) ?_
      refine va_get (D := g.1) (ci := 3) (v := .int s1) (C := RX5) (T := TX5) (N := 6) hx hb hts iwX5 hown hK hP 4 (e_tp (zT.at hL (t_bytes, t_length, t_sort, s1, t_end, t_value)) (T := (t_bytes, t_length, t_sort, s1, t_end, t_value))) rfl 3 (by decide) hw1 (fun _ h9 => h9) rfl dX5_next_24 ?_
      obtain ⟨q4, hq4, hf⟩ := bd_some hf
      refine kr_S (st1 := [.int q4]) (va_runSN (As := [.ref (ga g 7), .int s1]) (rest := []) ⟨hx, hb, hml, hown, hts⟩ (ct_X6_at l n g (S (t_bytes, t_length, t_sort, s1, t_end, t_value)) 7 120 t_bytes (e_by (zT.at hL (t_bytes, t_length, t_sort, s1, t_end, t_value)) (T := (t_bytes, t_length, t_sort, s1, t_end, t_value))) s1 q4 hq4) (⟨va_cnB 2 hts gX5_next_X6_at_n28 rfl rfl rfl (ml_X5_28 hNW) hw4 hn_X6_at ⟨Nat.le_of_ble_eq_true rfl, Nat.le_of_ble_eq_true rfl⟩, hw5, trivial⟩) ⟨bl_C, pr_C rfl hB hP hS⟩ rfl rfl hl.1 rfl (lv_room (Nat.le_of_ble_eq_true rfl)) dX5_next_27 ⟨Nat.le_refl _, Nat.le_refl _⟩) rfl (fun hn5 => ?_)
      refine lv_bipush (v := (32 : Int32)) hx hb dX5_next_30 (by decide) ?_
      refine lv_icmp_ne (tgt := 48) hx hb dX5_next_32 (by decide) (fun hc6 => ?_) (fun hc6 => ?_)
      · have hf := (if_neg hc6).symm.trans hf
        exact hexit1 s1 (Option.some.inj hf).symm H locs ls hP hS (lv_sub hl [0] rfl)
      · have hf := (if_pos hc6).symm.trans hf
        refine lv_aload_n hx hb dX5_next_35 rfl (lv_at hl 0 rfl) ?_
        refine lv_dup hx hb dX5_next_36 rfl ?_
        refine va_get (D := g.1) (ci := 3) (v := .int s1) (C := RX5) (T := TX5) (N := 6) hx hb hts iwX5 hown hK hP 4 (e_tp (zT.at hL (t_bytes, t_length, t_sort, s1, t_end, t_value)) (T := (t_bytes, t_length, t_sort, s1, t_end, t_value))) rfl 3 (by decide) hw1 (fun _ h9 => h9) rfl dX5_next_37 ?_
        refine lv_iconst (v := (1 : Int32)) hx hb dX5_next_40 (by decide) ?_
        refine lv_iadd hx hb dX5_next_41 ?_
        refine va_put (D := g.1) (ci := 3) (v := .int (s1 + (1 : Int32))) (ty := .int) (C := RX5) (T := TX5) (N := 6) hx hb hts iwX5 tyX5 tyX5_ok nmX5 hown hK hP (cD hB.2.2.1 _) hS 4 (e_tp (zT.at hL (t_bytes, t_length, t_sort, s1, t_end, t_value)) (T := (t_bytes, t_length, t_sort, s1, t_end, t_value))) rfl 3 (by decide) hw1 (fun _ h9 => h9) rfl (tyX5_ok 3 (by decide)) rfl rfl (Nat.le_of_ble_eq_true rfl) dX5_next_42 (fun H locs hP _ hS => ?_)
        have hP : va_P g.1 vwCl (cw g (S (t_bytes, t_length, t_sort, (s1 + (1 : Int32)), t_end, t_value))) H := w_eq (s_start (S := S) (T := (t_bytes, t_length, t_sort, s1, t_end, t_value)) (s1 + (1 : Int32)) hL) hP
        refine lv_goto (tgt := 8) hx hb dX5_next_45 (by decide) ?_
        exact hback1 _ (Option.some.inj hf).symm H locs ls hP hS (lv_sub hl [0] rfl)
set_option maxHeartbeats 4000000 in
set_option maxRecDepth 100000 in
theorem ct_X5_begin (l : Launch) (n : Nat) (g : GC) (S : TP → CS) (hL : zT S) (t_bytes : Nat → Int32) (t_length : Int32) (t_sort : Int32) (t_start : Int32) (t_end : Int32) (t_value : Int32) (res : Int32 × Int32 × Int32 × Int32) (hf : fX5_begin n t_bytes t_length t_sort t_start t_end t_value = some res) : Met l yX5_begin wsX5_begin ({ frames := 3, cells := 0, slots := 0, locals := 64 }) (va_Pc [.ref (ga g 4)] (cI g (S (t_bytes, t_length, t_sort, t_start, t_end, t_value)))) (qW none True g.1 (cw g (S (t_bytes, t_length, res.1, res.2.1, res.2.2.1, res.2.2.2))) (gA g)) 0 0 (gA g) := by
  refine Met.ofW (cc := cX5_begin) (maxL := 1) (ret := none) (by decide) rfl ?_
  intro p e s m args below meth c s₁ B hml hv
  obtain ⟨rfl, hI⟩ := hv
  have hx := B.exec
  have hb := B.bytes
  have hr := B.returns
  have hts := atoms_spec (ws := wsX5_begin) B.pre
  have hown : s.vm.findClass RX5 = some m.cls := findClass_of_methodNamed B.named
  have hlocks := B.notSynchronized
  have hP := hI.1
  have hB := hI.2
  have hK := hB.1
  have hNW := hB.2.1
  have hS : va_S (gA g) s.heap s.heap [] := va_S.rf
  have hw0 := hts (.fieldLink RX5 19 "SownPaths$Tape" "end" "I") (by decide +kernel)
  have iwX5 : ∀ w ∈ wsX50, w ∈ wsX5_begin := fun w h => List.mem_cons_of_mem _ (List.mem_append_right _ h)
  have hl := lv_entry ([.ref (ga g 4)]) (n := 1) (Nat.le_of_ble_eq_true rfl)
  rw [lg_entry_eq]
  generalize (lg_sl ([.ref (ga g 4)]) ++ List.replicate (1 - (lg_sl ([.ref (ga g 4)])).length) Slot.unset).toArray = ls at hl ⊢
  have hl : lv_has ls 1 [(0, .ref (ga g 4))] := hl
  unfold fX5_begin at hf
  refine lv_aload_n hx hb dX5_begin_0 rfl (lv_at hl 0 rfl) ?_
  refine lv_iconst (v := (0 : Int32)) hx hb dX5_begin_1 (by decide) ?_
  refine va_put (D := g.1) (ci := 3) (v := .int (0 : Int32)) (ty := .int) (C := RX5) (T := TX5) (N := 6) hx hb hts iwX5 tyX5 tyX5_ok nmX5 hown hK hP (cD hB.2.2.1 _) hS 4 (e_tp (zT.at hL (t_bytes, t_length, t_sort, t_start, t_end, t_value)) (T := (t_bytes, t_length, t_sort, t_start, t_end, t_value))) rfl 4 (by decide) hw0 (fun _ h9 => h9) rfl (tyX5_ok 4 (by decide)) rfl rfl (Nat.le_of_ble_eq_true rfl) dX5_begin_2 (fun H locs hP _ hS => ?_)
  have hP : va_P g.1 vwCl (cw g (S (t_bytes, t_length, t_sort, t_start, (0 : Int32), t_value))) H := w_eq (s_end (S := S) (T := (t_bytes, t_length, t_sort, t_start, t_end, t_value)) (0 : Int32) hL) hP
  refine lv_aload_n hx hb dX5_begin_5 rfl (lv_at hl 0 rfl) ?_
  obtain ⟨q1, hq1, hf⟩ := bd_some hf
  refine kr_W (st1 := []) (va_runV (As := []) (rest := []) ⟨hx, hb, hml, hown, hts⟩ (ct_X5_next l n g S hL t_bytes t_length t_sort t_start (0 : Int32) t_value q1 hq1) (cwV 0 hts gX5_begin_X5_next rfl rfl rfl hd_X5_next ⟨Nat.le_of_ble_eq_true rfl, Nat.le_of_ble_eq_true rfl⟩) ⟨bl_C, va_recv hK hP (ci := 3) (q0 := 4) rfl (e_tp (zT.at hL (t_bytes, t_length, t_sort, t_start, (0 : Int32), t_value)) (T := (t_bytes, t_length, t_sort, t_start, (0 : Int32), t_value))), pr_C rfl hB hP hS⟩ rfl rfl hl.1 rfl (lv_room (Nat.le_of_ble_eq_true rfl)) dX5_begin_6 ⟨Nat.le_refl _, Nat.le_refl _⟩) hS rfl (fun hn2 H locs hP hS => ?_)
  have hP : va_P g.1 vwCl (cw g (S (t_bytes, t_length, q1.1, q1.2.1, q1.2.2.1, q1.2.2.2))) H := hP
  have hres : (q1.1, q1.2.1, q1.2.2.1, q1.2.2.2) = res := (Option.some.inj hf)
  have hP := w_eq (congrArg (fun z => cw g (S (t_bytes, t_length, z.1, z.2.1, z.2.2.1, z.2.2.2))) hres) hP
  exact W.vret hx hb hr (fun t ht hW => ⟨rfl, trivial, by rw [ht]; exact hP, hS.F ht⟩) hS.2.2 dX5_begin_9
set_option maxHeartbeats 4000000 in
set_option maxRecDepth 100000 in
theorem ct_X1_nameOfKind (l : Launch) (n : Nat) (g : GC) (σ : CS) (a0 : Int32) (res : Nat) (hf : fX1_nameOfKind n a0 = some res) : Met l yX1_nameOfKind wsX1_nameOfKind ({ frames := 0, cells := 0, slots := 0, locals := 0 }) (va_Pc [.int a0] (cI g σ)) (qS (some (Value.ref (gK g res))) (res < 16)) 0 0 (fun _ => False) := by
  refine Met.ofW (cc := cX1_nameOfKind) (maxL := 1) (ret := (some (.object "java/lang/String"))) (by decide) rfl ?_
  intro p e s m args below meth c s₁ B hml hv
  obtain ⟨rfl, hI⟩ := hv
  have hx := B.exec
  have hb := B.bytes
  have hr := B.returns
  have hts := atoms_spec (ws := wsX1_nameOfKind) B.pre
  have hown : s.vm.findClass RX1 = some m.cls := findClass_of_methodNamed B.named
  have hlocks := B.notSynchronized
  have hP := hI.1
  have hB := hI.2
  have hK := hB.1
  have hNW := hB.2.1
  have hS : va_S (gA g) s.heap s.heap [] := va_S.rf
  have hl := lv_entry ([.int a0]) (n := 1) (Nat.le_of_ble_eq_true rfl)
  rw [lg_entry_eq]
  generalize (lg_sl ([.int a0]) ++ List.replicate (1 - (lg_sl ([.int a0])).length) Slot.unset).toArray = ls at hl ⊢
  have hl : lv_has ls 1 [(0, .int a0)] := hl
  unfold fX1_nameOfKind at hf
  refine lv_iload_n hx hb dX1_nameOfKind_0 rfl (lv_at hl 0 rfl) ?_
  by_cases hc1 : a0 = (1 : Int32)
  · have hf := (if_pos hc1).symm.trans hf
    refine lv_tableIn (tgt := 40) hx hb dX1_nameOfKind_1 (by rw [hc1]; decide) (by rw [hc1]; decide) (by rw [hc1]; rfl) (by decide) ?_
    refine va_ldcS hx hb hown (q := gK g 1) (hB.2.2.2.1 ("SownPaths$Grammar", 95, "annual", 1) (by decide +kernel)) dX1_nameOfKind_40 ?_
    have hres : 1 = res := (Option.some.inj hf)
    exact W.aret (v := .ref (gK g 1)) hx hb hr (Or.inl ⟨_, rfl⟩) (Or.inr ⟨_, rfl⟩) (fun t ht hW => ⟨congrArg (fun z => Outcome.returned (some (Value.ref (gK g z)))) hres, Eq.mp (congrArg (fun z => z < 16) hres) (by decide), ht⟩) t_nil dX1_nameOfKind_42
  · have hf := (if_neg hc1).symm.trans hf
    by_cases hc2 : a0 = (2 : Int32)
    · have hf := (if_pos hc2).symm.trans hf
      refine lv_tableIn (tgt := 43) hx hb dX1_nameOfKind_1 (by rw [hc2]; decide) (by rw [hc2]; decide) (by rw [hc2]; rfl) (by decide) ?_
      refine va_ldcS hx hb hown (q := gK g 2) (hB.2.2.2.1 ("SownPaths$Grammar", 97, "bulb", 2) (by decide +kernel)) dX1_nameOfKind_43 ?_
      have hres : 2 = res := (Option.some.inj hf)
      exact W.aret (v := .ref (gK g 2)) hx hb hr (Or.inl ⟨_, rfl⟩) (Or.inr ⟨_, rfl⟩) (fun t ht hW => ⟨congrArg (fun z => Outcome.returned (some (Value.ref (gK g z)))) hres, Eq.mp (congrArg (fun z => z < 16) hres) (by decide), ht⟩) t_nil dX1_nameOfKind_45
    · have hf := (if_neg hc2).symm.trans hf
      by_cases hc3 : a0 = (3 : Int32)
      · have hf := (if_pos hc3).symm.trans hf
        refine lv_tableIn (tgt := 46) hx hb dX1_nameOfKind_1 (by rw [hc3]; decide) (by rw [hc3]; decide) (by rw [hc3]; rfl) (by decide) ?_
        refine va_ldcS hx hb hown (q := gK g 3) (hB.2.2.2.1 ("SownPaths$Grammar", 99, "runner", 3) (by decide +kernel)) dX1_nameOfKind_46 ?_
        have hres : 3 = res := (Option.some.inj hf)
        exact W.aret (v := .ref (gK g 3)) hx hb hr (Or.inl ⟨_, rfl⟩) (Or.inr ⟨_, rfl⟩) (fun t ht hW => ⟨congrArg (fun z => Outcome.returned (some (Value.ref (gK g z)))) hres, Eq.mp (congrArg (fun z => z < 16) hres) (by decide), ht⟩) t_nil dX1_nameOfKind_48
      · have hf := (if_neg hc3).symm.trans hf
        by_cases hc4 : a0 = (4 : Int32)
        · have hf := (if_pos hc4).symm.trans hf
          refine lv_tableIn (tgt := 49) hx hb dX1_nameOfKind_1 (by rw [hc4]; decide) (by rw [hc4]; decide) (by rw [hc4]; rfl) (by decide) ?_
          refine va_ldcS hx hb hown (q := gK g 4) (hB.2.2.2.1 ("SownPaths$Grammar", 101, "straggler", 4) (by decide +kernel)) dX1_nameOfKind_49 ?_
          have hres : 4 = res := (Option.some.inj hf)
          exact W.aret (v := .ref (gK g 4)) hx hb hr (Or.inl ⟨_, rfl⟩) (Or.inr ⟨_, rfl⟩) (fun t ht hW => ⟨congrArg (fun z => Outcome.returned (some (Value.ref (gK g z)))) hres, Eq.mp (congrArg (fun z => z < 16) hres) (by decide), ht⟩) t_nil dX1_nameOfKind_51
        · have hf := (if_neg hc4).symm.trans hf
          by_cases hc5 : a0 = (5 : Int32)
          · have hf := (if_pos hc5).symm.trans hf
            refine lv_tableIn (tgt := 52) hx hb dX1_nameOfKind_1 (by rw [hc5]; decide) (by rw [hc5]; decide) (by rw [hc5]; rfl) (by decide) ?_
            refine va_ldcS hx hb hown (q := gK g 5) (hB.2.2.2.1 ("SownPaths$Grammar", 103, "twiner", 5) (by decide +kernel)) dX1_nameOfKind_52 ?_
            have hres : 5 = res := (Option.some.inj hf)
            exact W.aret (v := .ref (gK g 5)) hx hb hr (Or.inl ⟨_, rfl⟩) (Or.inr ⟨_, rfl⟩) (fun t ht hW => ⟨congrArg (fun z => Outcome.returned (some (Value.ref (gK g z)))) hres, Eq.mp (congrArg (fun z => z < 16) hres) (by decide), ht⟩) t_nil dX1_nameOfKind_54
          · have hf := (if_neg hc5).symm.trans hf
            by_cases hc6 : a0 = (6 : Int32)
            · have hf := (if_pos hc6).symm.trans hf
              refine lv_tableIn (tgt := 55) hx hb dX1_nameOfKind_1 (by rw [hc6]; decide) (by rw [hc6]; decide) (by rw [hc6]; rfl) (by decide) ?_
              refine va_ldcS hx hb hown (q := gK g 6) (hB.2.2.2.1 ("SownPaths$Grammar", 105, "creeper", 6) (by decide +kernel)) dX1_nameOfKind_55 ?_
              have hres : 6 = res := (Option.some.inj hf)
              exact W.aret (v := .ref (gK g 6)) hx hb hr (Or.inl ⟨_, rfl⟩) (Or.inr ⟨_, rfl⟩) (fun t ht hW => ⟨congrArg (fun z => Outcome.returned (some (Value.ref (gK g z)))) hres, Eq.mp (congrArg (fun z => z < 16) hres) (by decide), ht⟩) t_nil dX1_nameOfKind_57
            · have hf := (if_neg hc6).symm.trans hf
              refine lv_tableOut (tgt := 58) hx hb dX1_nameOfKind_1 (by have := lv_neT (a := 1) hc1 rfl; have := lv_neT (a := 2) hc2 rfl; have := lv_neT (a := 3) hc3 rfl; have := lv_neT (a := 4) hc4 rfl; have := lv_neT (a := 5) hc5 rfl; have := lv_neT (a := 6) hc6 rfl; omega) (by decide) ?_
              refine va_ldcS hx hb hown (q := gK g 0) (hB.2.2.2.1 ("SownPaths$Grammar", 107, "seed", 0) (by decide +kernel)) dX1_nameOfKind_58 ?_
              have hres : 0 = res := (Option.some.inj hf)
              exact W.aret (v := .ref (gK g 0)) hx hb hr (Or.inl ⟨_, rfl⟩) (Or.inr ⟨_, rfl⟩) (fun t ht hW => ⟨congrArg (fun z => Outcome.returned (some (Value.ref (gK g z)))) hres, Eq.mp (congrArg (fun z => z < 16) hres) (by decide), ht⟩) t_nil dX1_nameOfKind_60
set_option maxHeartbeats 4000000 in
set_option maxRecDepth 100000 in
theorem ct_X5_isWord (l : Launch) (n : Nat) (g : GC) (σ : CS) (t_bytes : Nat → Int32) (t_length : Int32) (t_sort : Int32) (t_start : Int32) (t_end : Int32) (t_value : Int32) (he : σ.2.2.1 = (t_bytes, t_length, t_sort, t_start, t_end, t_value)) (i : Nat) (hi : i < 16) (res : Int32) (hf : fX5_isWord n i t_bytes t_sort t_start t_end = some res) : Met l yX5_isWord wsX5_isWord ({ frames := 5, cells := 0, slots := 0, locals := 141 }) (va_Pc [.ref (ga g 4), .ref (gK g i)] (cI g σ)) (qS (some (.int res)) (narrow .boolean (.int res) = .int res)) 0 0 (fun _ => False) := by
  refine Met.ofW (cc := cX5_isWord) (maxL := 3) (ret := (some .boolean)) (by decide) rfl ?_
  intro p e s m args below meth c s₁ B hml hv
  obtain ⟨rfl, hI⟩ := hv
  have hx := B.exec
  have hb := B.bytes
  have hr := B.returns
  have hts := atoms_spec (ws := wsX5_isWord) B.pre
  have hown : s.vm.findClass RX5 = some m.cls := findClass_of_methodNamed B.named
  have hlocks := B.notSynchronized
  have hP := hI.1
  have hB := hI.2
  have hK := hB.1
  have hNW := hB.2.1
  have hS : va_S (gA g) s.heap s.heap [] := va_S.rf
  have hw0 := hts (.fieldLink RX5 35 "SownPaths$Tape" "sort" "I") (by decide +kernel)
  have hw1 := hts (.fieldLink RX5 19 "SownPaths$Tape" "end" "I") (by decide +kernel)
  have hw2 := hts (.fieldLink RX5 25 "SownPaths$Tape" "start" "I") (by decide +kernel)
  have hw3 := hts (.fieldLink RX5 9 "SownPaths$Tape" "bytes" "[I") (by decide +kernel)
  have hw4 := hts (.initialized RX6) (by decide +kernel)
  have hw5 := hts (.static yX6_at) (by decide +kernel)
  have iwX5 : ∀ w ∈ wsX50, w ∈ wsX5_isWord := fun w h => List.mem_cons_of_mem _ (List.mem_append_right _ h)
  have hl := lv_entry ([.ref (ga g 4), .ref (gK g i)]) (n := 3) (Nat.le_of_ble_eq_true rfl)
  rw [lg_entry_eq]
  generalize (lg_sl ([.ref (ga g 4), .ref (gK g i)]) ++ List.replicate (3 - (lg_sl ([.ref (ga g 4), .ref (gK g i)])).length) Slot.unset).toArray = ls at hl ⊢
  have hl : lv_has ls 3 [(0, .ref (ga g 4)), (1, .ref (gK g i))] := hl
  unfold fX5_isWord at hf
  refine lv_aload_n hx hb dX5_isWord_0 rfl (lv_at hl 0 rfl) ?_
  refine va_get (D := g.1) (ci := 3) (v := .int t_sort) (C := RX5) (T := TX5) (N := 6) hx hb hts iwX5 hown hK hP 4 (e_tp he (T := (t_bytes, t_length, t_sort, t_start, t_end, t_value))) rfl 2 (by decide) hw0 (fun _ h9 => h9) rfl dX5_isWord_1 ?_
  refine lv_iconst (v := (1 : Int32)) hx hb dX5_isWord_4 (by decide) ?_
  refine lv_icmp_ne (tgt := 24) hx hb dX5_isWord_5 (by decide) (fun hc1 => ?_) (fun hc1 => ?_)
  · have hf := (if_neg hc1).symm.trans hf
    refine lv_iconst (v := (0 : Int32)) hx hb dX5_isWord_24 (by decide) ?_
    have hres : (0 : Int32) = res := (Option.some.inj hf)
    have hnr : narrow .boolean (.int (0 : Int32)) = .int (0 : Int32) := rfl
    exact W.zret (v := (0 : Int32)) hx hb hr hnr (fun t ht hW => ⟨congrArg (fun z => Outcome.returned (some (Value.int z))) hres, Eq.mp (congrArg (fun z => narrow .boolean (.int z) = .int z) hres) hnr, ht⟩) t_nil dX5_isWord_25
  · have hf := (if_pos hc1).symm.trans hf
    refine lv_aload_n hx hb dX5_isWord_8 rfl (lv_at hl 1 rfl) ?_
    obtain ⟨q2, hq2, hf⟩ := bd_some hf
    refine kr_S (st1 := [.int q2]) (va_runV (As := []) (rest := []) ⟨hx, hb, hml, hown, hts⟩ (ct_J0_length_8abf5 l n (gK g) (gV g) (gA g) i hi q2 hq2) (cwV 0 hts gX5_isWord_J0_length_8abf5 rfl rfl rfl hd_J0_length_8abf5 ⟨Nat.le_of_ble_eq_true rfl, Nat.le_of_ble_eq_true rfl⟩) ⟨bl_St, vk_recv hB.2.2.2.2.1 hi hS, pr_St rfl hB.2.2.2.2 hS⟩ rfl rfl hl.1 rfl (lv_room (Nat.le_of_ble_eq_true rfl)) dX5_isWord_9 ⟨Nat.le_refl _, Nat.le_refl _⟩) rfl (fun hn => ?_)
    refine lv_aload_n hx hb dX5_isWord_12 rfl (lv_at hl 0 rfl) ?_
    refine va_get (D := g.1) (ci := 3) (v := .int t_end) (C := RX5) (T := TX5) (N := 6) hx hb hts iwX5 hown hK hP 4 (e_tp he (T := (t_bytes, t_length, t_sort, t_start, t_end, t_value))) rfl 4 (by decide) hw1 (fun _ h9 => h9) rfl dX5_isWord_13 ?_
    refine lv_aload_n hx hb dX5_isWord_16 rfl (lv_at hl 0 rfl) ?_
    refine va_get (D := g.1) (ci := 3) (v := .int t_start) (C := RX5) (T := TX5) (N := 6) hx hb hts iwX5 hown hK hP 4 (e_tp he (T := (t_bytes, t_length, t_sort, t_start, t_end, t_value))) rfl 3 (by decide) hw2 (fun _ h9 => h9) rfl dX5_isWord_17 ?_
    refine lv_isub hx hb dX5_isWord_20 ?_
    refine lv_icmp_eq (tgt := 26) hx hb dX5_isWord_21 (by decide) (fun hc3 => ?_) (fun hc3 => ?_)
    · have hf := (if_pos hc3).symm.trans hf
      refine lv_iconst (v := (0 : Int32)) hx hb dX5_isWord_26 (by decide) ?_
      refine lv_istore_n (lv' := [(2, .int (0 : Int32)), (0, .ref (ga g 4)), (1, .ref (gK g i))]) hx hb dX5_isWord_27 rfl hl (by decide) rfl (fun ls hl => ?_)
      refine lp_run hf (fun s4 => ∀ (ls : Array Slot), lv_has ls 3 [(0, .ref (ga g 4)), (1, .ref (gK g i)), (2, .int s4)] → W p l e (headSpec wsX5_isWord ({ frames := 5, cells := 0, slots := 0, locals := 141 })).room s m ([.ref (ga g 4), .ref (gK g i)] : List Value).toArray below meth c s.heap [] 0 0 (MQ below (qS (some (.int res)) (narrow .boolean (.int res) = .int res)) ([.ref (ga g 4), .ref (gK g i)] : List Value).toArray s 0 0 (fun _ => False)) (F0 m 28 ls [])) (fun v => Sum.elim (fun v5 => ∀ (ls : Array Slot), lv_has ls 3 [] → W p l e (headSpec wsX5_isWord ({ frames := 5, cells := 0, slots := 0, locals := 141 })).room s m ([.ref (ga g 4), .ref (gK g i)] : List Value).toArray below meth c s.heap [] 0 0 (MQ below (qS (some (.int res)) (narrow .boolean (.int res) = .int res)) ([.ref (ga g 4), .ref (gK g i)] : List Value).toArray s 0 0 (fun _ => False)) (F0 m 65 ls [])) (fun x => x = res) v) ?_ ?_ _ (lv_sub hl [1, 2, 0] rfl)
      · intro v5 hf
        rcases v5 with v5 | v5
        · have hf := el_l hf
          intro ls hl
          refine lv_iconst (v := (1 : Int32)) hx hb dX5_isWord_65 (by decide) ?_
          have hres : (1 : Int32) = res := (Option.some.inj hf)
          have hnr : narrow .boolean (.int (1 : Int32)) = .int (1 : Int32) := rfl
          exact W.zret (v := (1 : Int32)) hx hb hr hnr (fun t ht hW => ⟨congrArg (fun z => Outcome.returned (some (Value.int z))) hres, Eq.mp (congrArg (fun z => narrow .boolean (.int z) = .int z) hres) hnr, ht⟩) t_nil dX5_isWord_66
        · exact Option.some.inj hf
      · intro s4 r1 hf hback1 hexit1 ls hl
        refine lv_iload_n hx hb dX5_isWord_28 rfl (lv_at hl 2 rfl) ?_
        refine lv_aload_n hx hb dX5_isWord_29 rfl (lv_at hl 1 rfl) ?_
        obtain ⟨q6, hq6, hf⟩ := bd_some hf
        refine kr_S (st1 := [.int q6, .int s4]) (va_runV (As := []) (rest := [.int s4]) ⟨hx, hb, hml, hown, hts⟩ (ct_J0_length_8abf5 l n (gK g) (gV g) (gA g) i hi q6 hq6) (cwV 0 hts gX5_isWord_J0_length_8abf5 rfl rfl rfl hd_J0_length_8abf5 ⟨Nat.le_of_ble_eq_true rfl, Nat.le_of_ble_eq_true rfl⟩) ⟨bl_St, vk_recv hB.2.2.2.2.1 hi hS, pr_St rfl hB.2.2.2.2 hS⟩ rfl rfl hl.1 rfl (lv_room (Nat.le_of_ble_eq_true rfl)) dX5_isWord_30 ⟨Nat.le_refl _, Nat.le_refl _⟩) rfl (fun hn => ?_)
        refine lv_icmp_ge (tgt := 65) hx hb dX5_isWord_33 (by decide) (fun hc7 => ?_) (fun hc7 => ?_)
        · have hf := (if_pos hc7).symm.trans hf
          exact hexit1 (.inl s4) (Option.some.inj hf).symm ls (lv_sub hl [] rfl)
        · have hf := (if_neg hc7).symm.trans hf
          refine lv_aload_n hx hb dX5_isWord_36 rfl (lv_at hl 0 rfl) ?_
          refine va_get (D := g.1) (ci := 3) (v := .ref (ga g 7)) (C := RX5) (T := TX5) (N := 6) hx hb hts iwX5 hown hK hP 4 (e_tp he (T := (t_bytes, t_length, t_sort, t_start, t_end, t_value))) rfl 0 (by decide) hw3 (fun _ h9 => h9) rfl dX5_isWord_37 ?_
          refine lv_aload_n hx hb dX5_isWord_40 rfl (lv_at hl 0 rfl) ?_
          refine va_get (D := g.1) (ci := 3) (v := .int t_start) (C := RX5) (T := TX5) (N := 6) hx hb hts iwX5 hown hK hP 4 (e_tp he (T := (t_bytes, t_length, t_sort, t_start, t_end, t_value))) rfl 3 (by decide) hw2 (fun _ h9 => h9) rfl dX5_isWord_41 ?_
          refine lv_iload_n hx hb dX5_isWord_44 rfl (lv_at hl 2 rfl) ?_
          refine lv_iadd hx hb dX5_isWord_45 ?_
          obtain ⟨q8, hq8, hf⟩ := bd_some hf
          refine kr_S (st1 := [.int q8]) (va_runSN (As := [.ref (ga g 7), .int (t_start + s4)]) (rest := []) ⟨hx, hb, hml, hown, hts⟩ (ct_X6_at l n g σ 7 120 t_bytes (e_by he (T := (t_bytes, t_length, t_sort, t_start, t_end, t_value))) (t_start + s4) q8 hq8) (⟨va_cnB 2 hts gX5_isWord_X6_at_n28 rfl rfl rfl (ml_X5_28 hNW) hw4 hn_X6_at ⟨Nat.le_of_ble_eq_true rfl, Nat.le_of_ble_eq_true rfl⟩, hw5, trivial⟩) ⟨bl_C, pr_C rfl hB hP hS⟩ rfl rfl hl.1 rfl (lv_room (Nat.le_of_ble_eq_true rfl)) dX5_isWord_46 ⟨Nat.le_refl _, Nat.le_refl _⟩) rfl (fun hn9 => ?_)
          refine lv_aload_n hx hb dX5_isWord_49 rfl (lv_at hl 1 rfl) ?_
          refine lv_iload_n hx hb dX5_isWord_50 rfl (lv_at hl 2 rfl) ?_
          obtain ⟨q10, hq10, hf⟩ := bd_some hf
          refine kr_S (st1 := [.int q10, .int q8]) (va_runV (As := [.int s4]) (rest := [.int q8]) ⟨hx, hb, hml, hown, hts⟩ (ct_J0_charAt_5068e l n (gK g) (gV g) (gA g) i hi s4 q10 hq10) (cwV 1 hts gX5_isWord_J0_charAt_5068e rfl rfl rfl hd_J0_charAt_5068e ⟨Nat.le_of_ble_eq_true rfl, Nat.le_of_ble_eq_true rfl⟩) ⟨bl_St, vk_recv hB.2.2.2.2.1 hi hS, pr_St rfl hB.2.2.2.2 hS⟩ rfl rfl hl.1 rfl (lv_room (Nat.le_of_ble_eq_true rfl)) dX5_isWord_51 ⟨Nat.le_refl _, Nat.le_refl _⟩) rfl (fun hn => ?_)
          refine lv_icmp_eq (tgt := 59) hx hb dX5_isWord_54 (by decide) (fun hc11 => ?_) (fun hc11 => ?_)
          · have hf := (if_pos hc11).symm.trans hf
            refine lv_iinc (v := (s4 + (1 : Int32))) (lv' := [(2, .int (s4 + (1 : Int32))), (0, .ref (ga g 4)), (1, .ref (gK g i))]) hx hb dX5_isWord_59 hl (k := 2) rfl (congrArg (fun y => s4 + y) (by decide : Int32.ofInt (1) = (1 : Int32))) (by decide) rfl (fun ls hl => ?_)
            refine lv_goto (tgt := 28) hx hb dX5_isWord_62 (by decide) ?_
            exact hback1 _ (Option.some.inj hf).symm ls (lv_sub hl [1, 2, 0] rfl)
          · have hf := (if_neg hc11).symm.trans hf
            refine lv_iconst (v := (0 : Int32)) hx hb dX5_isWord_57 (by decide) ?_
            have hres : (0 : Int32) = res := (hexit1 _ ((Option.some.inj hf)).symm)
            have hnr : narrow .boolean (.int (0 : Int32)) = .int (0 : Int32) := rfl
            exact W.zret (v := (0 : Int32)) hx hb hr hnr (fun t ht hW => ⟨congrArg (fun z => Outcome.returned (some (Value.int z))) hres, Eq.mp (congrArg (fun z => narrow .boolean (.int z) = .int z) hres) hnr, ht⟩) t_nil dX5_isWord_58
    · have hf := (if_neg hc3).symm.trans hf
      refine lv_iconst (v := (0 : Int32)) hx hb dX5_isWord_24 (by decide) ?_
      have hres : (0 : Int32) = res := (Option.some.inj hf)
      have hnr : narrow .boolean (.int (0 : Int32)) = .int (0 : Int32) := rfl
      exact W.zret (v := (0 : Int32)) hx hb hr hnr (fun t ht hW => ⟨congrArg (fun z => Outcome.returned (some (Value.int z))) hres, Eq.mp (congrArg (fun z => narrow .boolean (.int z) = .int z) hres) hnr, ht⟩) t_nil dX5_isWord_25
set_option maxHeartbeats 4000000 in
set_option maxRecDepth 100000 in
theorem ct_X1_kindOf (l : Launch) (n : Nat) (g : GC) (σ : CS) (t_bytes : Nat → Int32) (t_length : Int32) (t_sort : Int32) (t_start : Int32) (t_end : Int32) (t_value : Int32) (he : σ.2.2.1 = (t_bytes, t_length, t_sort, t_start, t_end, t_value)) (res : Int32) (hf : fX1_kindOf n t_bytes t_sort t_start t_end = some res) : Met l yX1_kindOf wsX1_kindOf ({ frames := 6, cells := 0, slots := 0, locals := 163 }) (va_Pc [.ref (ga g 4)] (cI g σ)) (qS (some (.int res)) True) 0 0 (fun _ => False) := by
  refine Met.ofW (cc := cX1_kindOf) (maxL := 2) (ret := (some .int)) (by decide) rfl ?_
  intro p e s m args below meth c s₁ B hml hv
  obtain ⟨rfl, hI⟩ := hv
  have hx := B.exec
  have hb := B.bytes
  have hr := B.returns
  have hts := atoms_spec (ws := wsX1_kindOf) B.pre
  have hown : s.vm.findClass RX1 = some m.cls := findClass_of_methodNamed B.named
  have hlocks := B.notSynchronized
  have hP := hI.1
  have hB := hI.2
  have hK := hB.1
  have hNW := hB.2.1
  have hS : va_S (gA g) s.heap s.heap [] := va_S.rf
  have hl := lv_entry ([.ref (ga g 4)]) (n := 2) (Nat.le_of_ble_eq_true rfl)
  rw [lg_entry_eq]
  generalize (lg_sl ([.ref (ga g 4)]) ++ List.replicate (2 - (lg_sl ([.ref (ga g 4)])).length) Slot.unset).toArray = ls at hl ⊢
  have hl : lv_has ls 2 [(0, .ref (ga g 4))] := hl
  unfold fX1_kindOf at hf
  refine lv_iconst (v := (0 : Int32)) hx hb dX1_kindOf_0 (by decide) ?_
  refine lv_istore_n (lv' := [(1, .int (0 : Int32)), (0, .ref (ga g 4))]) hx hb dX1_kindOf_1 rfl hl (by decide) rfl (fun ls hl => ?_)
  refine lp_run hf (fun s1 => ∀ (ls : Array Slot), lv_has ls 2 [(0, .ref (ga g 4)), (1, .int s1)] → W p l e (headSpec wsX1_kindOf ({ frames := 6, cells := 0, slots := 0, locals := 163 })).room s m ([.ref (ga g 4)] : List Value).toArray below meth c s.heap [] 0 0 (MQ below (qS (some (.int res)) True) ([.ref (ga g 4)] : List Value).toArray s 0 0 (fun _ => False)) (F0 m 2 ls [])) (fun v => Sum.elim (fun v2 => ∀ (ls : Array Slot), lv_has ls 2 [] → W p l e (headSpec wsX1_kindOf ({ frames := 6, cells := 0, slots := 0, locals := 163 })).room s m ([.ref (ga g 4)] : List Value).toArray below meth c s.heap [] 0 0 (MQ below (qS (some (.int res)) True) ([.ref (ga g 4)] : List Value).toArray s 0 0 (fun _ => False)) (F0 m 27 ls [])) (fun x => x = res) v) ?_ ?_ _ (lv_sub hl [1, 0] rfl)
  · intro v2 hf
    rcases v2 with v2 | v2
    · have hf := el_l hf
      intro ls hl
      refine lv_iconst (v := (-1 : Int32)) hx hb dX1_kindOf_27 (by decide) ?_
      have hres : (-1 : Int32) = res := (Option.some.inj hf)
      exact W.iret (v := (-1 : Int32)) hx hb hr (fun t ht hW => ⟨congrArg (fun z => Outcome.returned (some (Value.int z))) hres, trivial, ht⟩) t_nil dX1_kindOf_28
    · exact Option.some.inj hf
  · intro s1 r1 hf hback1 hexit1 ls hl
    refine lv_iload_n hx hb dX1_kindOf_2 rfl (lv_at hl 1 rfl) ?_
    refine lv_bipush (v := (7 : Int32)) hx hb dX1_kindOf_3 (by decide) ?_
    refine lv_icmp_ge (tgt := 27) hx hb dX1_kindOf_5 (by decide) (fun hc3 => ?_) (fun hc3 => ?_)
    · have hf := (if_pos hc3).symm.trans hf
      exact hexit1 (.inl s1) (Option.some.inj hf).symm ls (lv_sub hl [] rfl)
    · have hf := (if_neg hc3).symm.trans hf
      refine lv_aload_n hx hb dX1_kindOf_8 rfl (lv_at hl 0 rfl) ?_
      refine lv_iload_n hx hb dX1_kindOf_9 rfl (lv_at hl 1 rfl) ?_
      obtain ⟨q4, hq4, hf⟩ := bd_some hf
      refine kr_S (st1 := [.ref (gK g q4), .ref (ga g 4)]) (va_runS (As := [.int s1]) (rest := [.ref (ga g 4)]) ⟨hx, hb, hml, hown, hts⟩ (ct_X1_nameOfKind l n g σ s1 q4 hq4) (va_cwS 1 hts gX1_kindOf_X1_nameOfKind rfl rfl rfl hn_X1_nameOfKind ⟨Nat.le_of_ble_eq_true rfl, Nat.le_of_ble_eq_true rfl⟩) ⟨bl_C, pr_C rfl hB hP hS⟩ rfl rfl hl.1 rfl (lv_room (Nat.le_of_ble_eq_true rfl)) dX1_kindOf_10 ⟨Nat.le_refl _, Nat.le_refl _⟩) rfl (fun hn5 => ?_)
      have hj6 := hn5
      obtain ⟨q7, hq7, hf⟩ := bd_some hf
      refine kr_S (st1 := [.int q7]) (va_runV (As := [.ref (gK g q4)]) (rest := []) ⟨hx, hb, hml, hown, hts⟩ (ct_X5_isWord l n g σ t_bytes t_length t_sort t_start t_end t_value he q4 hj6 q7 hq7) (cwV 1 hts gX1_kindOf_X5_isWord rfl rfl rfl hd_X5_isWord ⟨Nat.le_of_ble_eq_true rfl, Nat.le_of_ble_eq_true rfl⟩) ⟨bl_C, va_recv hK hP (ci := 3) (q0 := 4) rfl (e_tp he (T := (t_bytes, t_length, t_sort, t_start, t_end, t_value))), pr_C rfl hB hP hS⟩ rfl rfl hl.1 rfl (lv_room (Nat.le_of_ble_eq_true rfl)) dX1_kindOf_13 ⟨Nat.le_refl _, Nat.le_refl _⟩) rfl (fun hn8 => ?_)
      refine lv_if_eq (tgt := 21) hx hb dX1_kindOf_16 (by decide) (fun hc9 => ?_) (fun hc9 => ?_)
      · have hf := (if_pos hc9).symm.trans hf
        refine lv_iinc (v := (s1 + (1 : Int32))) (lv' := [(1, .int (s1 + (1 : Int32))), (0, .ref (ga g 4))]) hx hb dX1_kindOf_21 hl (k := 1) rfl (congrArg (fun y => s1 + y) (by decide : Int32.ofInt (1) = (1 : Int32))) (by decide) rfl (fun ls hl => ?_)
        refine lv_goto (tgt := 2) hx hb dX1_kindOf_24 (by decide) ?_
        exact hback1 _ (Option.some.inj hf).symm ls (lv_sub hl [1, 0] rfl)
      · have hf := (if_neg hc9).symm.trans hf
        refine lv_iload_n hx hb dX1_kindOf_19 rfl (lv_at hl 1 rfl) ?_
        have hres : s1 = res := (hexit1 _ ((Option.some.inj hf)).symm)
        exact W.iret (v := s1) hx hb hr (fun t ht hW => ⟨congrArg (fun z => Outcome.returned (some (Value.int z))) hres, trivial, ht⟩) t_nil dX1_kindOf_20
set_option maxHeartbeats 4000000 in
set_option maxRecDepth 100000 in
theorem ct_X5_isNumber (l : Launch) (n : Nat) (g : GC) (σ : CS) (t_bytes : Nat → Int32) (t_length : Int32) (t_sort : Int32) (t_start : Int32) (t_end : Int32) (t_value : Int32) (he : σ.2.2.1 = (t_bytes, t_length, t_sort, t_start, t_end, t_value)) (a1 : Int32) (res : Int32) (hf : fX5_isNumber n a1 t_sort t_value = some res) : Met l yX5_isNumber wsX5_isNumber ({ frames := 0, cells := 0, slots := 0, locals := 0 }) (va_Pc [.ref (ga g 4), .int a1] (cI g σ)) (qS (some (.int res)) (narrow .boolean (.int res) = .int res)) 0 0 (fun _ => False) := by
  refine Met.ofW (cc := cX5_isNumber) (maxL := 2) (ret := (some .boolean)) (by decide) rfl ?_
  intro p e s m args below meth c s₁ B hml hv
  obtain ⟨rfl, hI⟩ := hv
  have hx := B.exec
  have hb := B.bytes
  have hr := B.returns
  have hts := atoms_spec (ws := wsX5_isNumber) B.pre
  have hown : s.vm.findClass RX5 = some m.cls := findClass_of_methodNamed B.named
  have hlocks := B.notSynchronized
  have hP := hI.1
  have hB := hI.2
  have hK := hB.1
  have hNW := hB.2.1
  have hS : va_S (gA g) s.heap s.heap [] := va_S.rf
  have hw0 := hts (.fieldLink RX5 35 "SownPaths$Tape" "sort" "I") (by decide +kernel)
  have hw1 := hts (.fieldLink RX5 32 "SownPaths$Tape" "value" "I") (by decide +kernel)
  have iwX5 : ∀ w ∈ wsX50, w ∈ wsX5_isNumber := fun w h => List.mem_cons_of_mem _ (List.mem_append_right _ h)
  have hl := lv_entry ([.ref (ga g 4), .int a1]) (n := 2) (Nat.le_of_ble_eq_true rfl)
  rw [lg_entry_eq]
  generalize (lg_sl ([.ref (ga g 4), .int a1]) ++ List.replicate (2 - (lg_sl ([.ref (ga g 4), .int a1])).length) Slot.unset).toArray = ls at hl ⊢
  have hl : lv_has ls 2 [(0, .ref (ga g 4)), (1, .int a1)] := hl
  unfold fX5_isNumber at hf
  refine lv_aload_n hx hb dX5_isNumber_0 rfl (lv_at hl 0 rfl) ?_
  refine va_get (D := g.1) (ci := 3) (v := .int t_sort) (C := RX5) (T := TX5) (N := 6) hx hb hts iwX5 hown hK hP 4 (e_tp he (T := (t_bytes, t_length, t_sort, t_start, t_end, t_value))) rfl 2 (by decide) hw0 (fun _ h9 => h9) rfl dX5_isNumber_1 ?_
  refine lv_iconst (v := (2 : Int32)) hx hb dX5_isNumber_4 (by decide) ?_
  refine lv_icmp_ne (tgt := 20) hx hb dX5_isNumber_5 (by decide) (fun hc1 => ?_) (fun hc1 => ?_)
  · have hf := (if_neg hc1).symm.trans hf
    refine lv_iconst (v := (0 : Int32)) hx hb dX5_isNumber_20 (by decide) ?_
    have hres : (0 : Int32) = res := (Option.some.inj hf)
    have hnr : narrow .boolean (.int (0 : Int32)) = .int (0 : Int32) := rfl
    exact W.zret (v := (0 : Int32)) hx hb hr hnr (fun t ht hW => ⟨congrArg (fun z => Outcome.returned (some (Value.int z))) hres, Eq.mp (congrArg (fun z => narrow .boolean (.int z) = .int z) hres) hnr, ht⟩) t_nil dX5_isNumber_21
  · have hf := (if_pos hc1).symm.trans hf
    refine lv_aload_n hx hb dX5_isNumber_8 rfl (lv_at hl 0 rfl) ?_
    refine va_get (D := g.1) (ci := 3) (v := .int t_value) (C := RX5) (T := TX5) (N := 6) hx hb hts iwX5 hown hK hP 4 (e_tp he (T := (t_bytes, t_length, t_sort, t_start, t_end, t_value))) rfl 5 (by decide) hw1 (fun _ h9 => h9) rfl dX5_isNumber_9 ?_
    refine lv_iload_n hx hb dX5_isNumber_12 rfl (lv_at hl 1 rfl) ?_
    refine lv_icmp_gt (tgt := 20) hx hb dX5_isNumber_13 (by decide) (fun hc2 => ?_) (fun hc2 => ?_)
    · have hf := (if_pos hc2).symm.trans hf
      refine lv_iconst (v := (0 : Int32)) hx hb dX5_isNumber_20 (by decide) ?_
      have hres : (0 : Int32) = res := (Option.some.inj hf)
      have hnr : narrow .boolean (.int (0 : Int32)) = .int (0 : Int32) := rfl
      exact W.zret (v := (0 : Int32)) hx hb hr hnr (fun t ht hW => ⟨congrArg (fun z => Outcome.returned (some (Value.int z))) hres, Eq.mp (congrArg (fun z => narrow .boolean (.int z) = .int z) hres) hnr, ht⟩) t_nil dX5_isNumber_21
    · have hf := (if_neg hc2).symm.trans hf
      refine lv_iconst (v := (1 : Int32)) hx hb dX5_isNumber_16 (by decide) ?_
      refine lv_goto (tgt := 21) hx hb dX5_isNumber_17 (by decide) ?_
      have hres : (1 : Int32) = res := (Option.some.inj hf)
      have hnr : narrow .boolean (.int (1 : Int32)) = .int (1 : Int32) := rfl
      exact W.zret (v := (1 : Int32)) hx hb hr hnr (fun t ht hW => ⟨congrArg (fun z => Outcome.returned (some (Value.int z))) hres, Eq.mp (congrArg (fun z => narrow .boolean (.int z) = .int z) hres) hnr, ht⟩) t_nil dX5_isNumber_21
set_option maxHeartbeats 4000000 in
set_option maxRecDepth 100000 in
theorem ct_X1_nameOfHeading (l : Launch) (n : Nat) (g : GC) (σ : CS) (a0 : Int32) (res : Nat) (hf : fX1_nameOfHeading n a0 = some res) : Met l yX1_nameOfHeading wsX1_nameOfHeading ({ frames := 0, cells := 0, slots := 0, locals := 0 }) (va_Pc [.int a0] (cI g σ)) (qS (some (Value.ref (gK g res))) (res < 16)) 0 0 (fun _ => False) := by
  refine Met.ofW (cc := cX1_nameOfHeading) (maxL := 1) (ret := (some (.object "java/lang/String"))) (by decide) rfl ?_
  intro p e s m args below meth c s₁ B hml hv
  obtain ⟨rfl, hI⟩ := hv
  have hx := B.exec
  have hb := B.bytes
  have hr := B.returns
  have hts := atoms_spec (ws := wsX1_nameOfHeading) B.pre
  have hown : s.vm.findClass RX1 = some m.cls := findClass_of_methodNamed B.named
  have hlocks := B.notSynchronized
  have hP := hI.1
  have hB := hI.2
  have hK := hB.1
  have hNW := hB.2.1
  have hS : va_S (gA g) s.heap s.heap [] := va_S.rf
  have hl := lv_entry ([.int a0]) (n := 1) (Nat.le_of_ble_eq_true rfl)
  rw [lg_entry_eq]
  generalize (lg_sl ([.int a0]) ++ List.replicate (1 - (lg_sl ([.int a0])).length) Slot.unset).toArray = ls at hl ⊢
  have hl : lv_has ls 1 [(0, .int a0)] := hl
  unfold fX1_nameOfHeading at hf
  refine lv_iload_n hx hb dX1_nameOfHeading_0 rfl (lv_at hl 0 rfl) ?_
  by_cases hc1 : a0 = (0 : Int32)
  · have hf := (if_pos hc1).symm.trans hf
    refine lv_tableIn (tgt := 28) hx hb dX1_nameOfHeading_1 (by rw [hc1]; decide) (by rw [hc1]; decide) (by rw [hc1]; rfl) (by decide) ?_
    refine va_ldcS hx hb hown (q := gK g 10) (hB.2.2.2.1 ("SownPaths$Grammar", 115, "up", 10) (by decide +kernel)) dX1_nameOfHeading_28 ?_
    have hres : 10 = res := (Option.some.inj hf)
    exact W.aret (v := .ref (gK g 10)) hx hb hr (Or.inl ⟨_, rfl⟩) (Or.inr ⟨_, rfl⟩) (fun t ht hW => ⟨congrArg (fun z => Outcome.returned (some (Value.ref (gK g z)))) hres, Eq.mp (congrArg (fun z => z < 16) hres) (by decide), ht⟩) t_nil dX1_nameOfHeading_30
  · have hf := (if_neg hc1).symm.trans hf
    by_cases hc2 : a0 = (1 : Int32)
    · have hf := (if_pos hc2).symm.trans hf
      refine lv_tableIn (tgt := 31) hx hb dX1_nameOfHeading_1 (by rw [hc2]; decide) (by rw [hc2]; decide) (by rw [hc2]; rfl) (by decide) ?_
      refine va_ldcS hx hb hown (q := gK g 11) (hB.2.2.2.1 ("SownPaths$Grammar", 117, "right", 11) (by decide +kernel)) dX1_nameOfHeading_31 ?_
      have hres : 11 = res := (Option.some.inj hf)
      exact W.aret (v := .ref (gK g 11)) hx hb hr (Or.inl ⟨_, rfl⟩) (Or.inr ⟨_, rfl⟩) (fun t ht hW => ⟨congrArg (fun z => Outcome.returned (some (Value.ref (gK g z)))) hres, Eq.mp (congrArg (fun z => z < 16) hres) (by decide), ht⟩) t_nil dX1_nameOfHeading_33
    · have hf := (if_neg hc2).symm.trans hf
      by_cases hc3 : a0 = (2 : Int32)
      · have hf := (if_pos hc3).symm.trans hf
        refine lv_tableIn (tgt := 34) hx hb dX1_nameOfHeading_1 (by rw [hc3]; decide) (by rw [hc3]; decide) (by rw [hc3]; rfl) (by decide) ?_
        refine va_ldcS hx hb hown (q := gK g 12) (hB.2.2.2.1 ("SownPaths$Grammar", 119, "down", 12) (by decide +kernel)) dX1_nameOfHeading_34 ?_
        have hres : 12 = res := (Option.some.inj hf)
        exact W.aret (v := .ref (gK g 12)) hx hb hr (Or.inl ⟨_, rfl⟩) (Or.inr ⟨_, rfl⟩) (fun t ht hW => ⟨congrArg (fun z => Outcome.returned (some (Value.ref (gK g z)))) hres, Eq.mp (congrArg (fun z => z < 16) hres) (by decide), ht⟩) t_nil dX1_nameOfHeading_36
      · have hf := (if_neg hc3).symm.trans hf
        refine lv_tableOut (tgt := 37) hx hb dX1_nameOfHeading_1 (by have := lv_neT (a := 0) hc1 rfl; have := lv_neT (a := 1) hc2 rfl; have := lv_neT (a := 2) hc3 rfl; omega) (by decide) ?_
        refine va_ldcS hx hb hown (q := gK g 13) (hB.2.2.2.1 ("SownPaths$Grammar", 121, "left", 13) (by decide +kernel)) dX1_nameOfHeading_37 ?_
        have hres : 13 = res := (Option.some.inj hf)
        exact W.aret (v := .ref (gK g 13)) hx hb hr (Or.inl ⟨_, rfl⟩) (Or.inr ⟨_, rfl⟩) (fun t ht hW => ⟨congrArg (fun z => Outcome.returned (some (Value.ref (gK g z)))) hres, Eq.mp (congrArg (fun z => z < 16) hres) (by decide), ht⟩) t_nil dX1_nameOfHeading_39
set_option maxHeartbeats 4000000 in
set_option maxRecDepth 100000 in
theorem ct_X1_headingOf (l : Launch) (n : Nat) (g : GC) (σ : CS) (t_bytes : Nat → Int32) (t_length : Int32) (t_sort : Int32) (t_start : Int32) (t_end : Int32) (t_value : Int32) (he : σ.2.2.1 = (t_bytes, t_length, t_sort, t_start, t_end, t_value)) (res : Int32) (hf : fX1_headingOf n t_bytes t_sort t_start t_end = some res) : Met l yX1_headingOf wsX1_headingOf ({ frames := 6, cells := 0, slots := 0, locals := 163 }) (va_Pc [.ref (ga g 4)] (cI g σ)) (qS (some (.int res)) True) 0 0 (fun _ => False) := by
  refine Met.ofW (cc := cX1_headingOf) (maxL := 2) (ret := (some .int)) (by decide) rfl ?_
  intro p e s m args below meth c s₁ B hml hv
  obtain ⟨rfl, hI⟩ := hv
  have hx := B.exec
  have hb := B.bytes
  have hr := B.returns
  have hts := atoms_spec (ws := wsX1_headingOf) B.pre
  have hown : s.vm.findClass RX1 = some m.cls := findClass_of_methodNamed B.named
  have hlocks := B.notSynchronized
  have hP := hI.1
  have hB := hI.2
  have hK := hB.1
  have hNW := hB.2.1
  have hS : va_S (gA g) s.heap s.heap [] := va_S.rf
  have hl := lv_entry ([.ref (ga g 4)]) (n := 2) (Nat.le_of_ble_eq_true rfl)
  rw [lg_entry_eq]
  generalize (lg_sl ([.ref (ga g 4)]) ++ List.replicate (2 - (lg_sl ([.ref (ga g 4)])).length) Slot.unset).toArray = ls at hl ⊢
  have hl : lv_has ls 2 [(0, .ref (ga g 4))] := hl
  unfold fX1_headingOf at hf
  refine lv_iconst (v := (0 : Int32)) hx hb dX1_headingOf_0 (by decide) ?_
  refine lv_istore_n (lv' := [(1, .int (0 : Int32)), (0, .ref (ga g 4))]) hx hb dX1_headingOf_1 rfl hl (by decide) rfl (fun ls hl => ?_)
  refine lp_run hf (fun s1 => ∀ (ls : Array Slot), lv_has ls 2 [(0, .ref (ga g 4)), (1, .int s1)] → W p l e (headSpec wsX1_headingOf ({ frames := 6, cells := 0, slots := 0, locals := 163 })).room s m ([.ref (ga g 4)] : List Value).toArray below meth c s.heap [] 0 0 (MQ below (qS (some (.int res)) True) ([.ref (ga g 4)] : List Value).toArray s 0 0 (fun _ => False)) (F0 m 2 ls [])) (fun v => Sum.elim (fun v2 => ∀ (ls : Array Slot), lv_has ls 2 [] → W p l e (headSpec wsX1_headingOf ({ frames := 6, cells := 0, slots := 0, locals := 163 })).room s m ([.ref (ga g 4)] : List Value).toArray below meth c s.heap [] 0 0 (MQ below (qS (some (.int res)) True) ([.ref (ga g 4)] : List Value).toArray s 0 0 (fun _ => False)) (F0 m 26 ls [])) (fun x => x = res) v) ?_ ?_ _ (lv_sub hl [1, 0] rfl)
  · intro v2 hf
    rcases v2 with v2 | v2
    · have hf := el_l hf
      intro ls hl
      refine lv_iconst (v := (-1 : Int32)) hx hb dX1_headingOf_26 (by decide) ?_
      have hres : (-1 : Int32) = res := (Option.some.inj hf)
      exact W.iret (v := (-1 : Int32)) hx hb hr (fun t ht hW => ⟨congrArg (fun z => Outcome.returned (some (Value.int z))) hres, trivial, ht⟩) t_nil dX1_headingOf_27
    · exact Option.some.inj hf
  · intro s1 r1 hf hback1 hexit1 ls hl
    refine lv_iload_n hx hb dX1_headingOf_2 rfl (lv_at hl 1 rfl) ?_
    refine lv_iconst (v := (4 : Int32)) hx hb dX1_headingOf_3 (by decide) ?_
    refine lv_icmp_ge (tgt := 26) hx hb dX1_headingOf_4 (by decide) (fun hc3 => ?_) (fun hc3 => ?_)
    · have hf := (if_pos hc3).symm.trans hf
      exact hexit1 (.inl s1) (Option.some.inj hf).symm ls (lv_sub hl [] rfl)
    · have hf := (if_neg hc3).symm.trans hf
      refine lv_aload_n hx hb dX1_headingOf_7 rfl (lv_at hl 0 rfl) ?_
      refine lv_iload_n hx hb dX1_headingOf_8 rfl (lv_at hl 1 rfl) ?_
      obtain ⟨q4, hq4, hf⟩ := bd_some hf
      refine kr_S (st1 := [.ref (gK g q4), .ref (ga g 4)]) (va_runS (As := [.int s1]) (rest := [.ref (ga g 4)]) ⟨hx, hb, hml, hown, hts⟩ (ct_X1_nameOfHeading l n g σ s1 q4 hq4) (va_cwS 1 hts gX1_headingOf_X1_nameOfHeading rfl rfl rfl hn_X1_nameOfHeading ⟨Nat.le_of_ble_eq_true rfl, Nat.le_of_ble_eq_true rfl⟩) ⟨bl_C, pr_C rfl hB hP hS⟩ rfl rfl hl.1 rfl (lv_room (Nat.le_of_ble_eq_true rfl)) dX1_headingOf_9 ⟨Nat.le_refl _, Nat.le_refl _⟩) rfl (fun hn5 => ?_)
      have hj6 := hn5
      obtain ⟨q7, hq7, hf⟩ := bd_some hf
      refine kr_S (st1 := [.int q7]) (va_runV (As := [.ref (gK g q4)]) (rest := []) ⟨hx, hb, hml, hown, hts⟩ (ct_X5_isWord l n g σ t_bytes t_length t_sort t_start t_end t_value he q4 hj6 q7 hq7) (cwV 1 hts gX1_headingOf_X5_isWord rfl rfl rfl hd_X5_isWord ⟨Nat.le_of_ble_eq_true rfl, Nat.le_of_ble_eq_true rfl⟩) ⟨bl_C, va_recv hK hP (ci := 3) (q0 := 4) rfl (e_tp he (T := (t_bytes, t_length, t_sort, t_start, t_end, t_value))), pr_C rfl hB hP hS⟩ rfl rfl hl.1 rfl (lv_room (Nat.le_of_ble_eq_true rfl)) dX1_headingOf_12 ⟨Nat.le_refl _, Nat.le_refl _⟩) rfl (fun hn8 => ?_)
      refine lv_if_eq (tgt := 20) hx hb dX1_headingOf_15 (by decide) (fun hc9 => ?_) (fun hc9 => ?_)
      · have hf := (if_pos hc9).symm.trans hf
        refine lv_iinc (v := (s1 + (1 : Int32))) (lv' := [(1, .int (s1 + (1 : Int32))), (0, .ref (ga g 4))]) hx hb dX1_headingOf_20 hl (k := 1) rfl (congrArg (fun y => s1 + y) (by decide : Int32.ofInt (1) = (1 : Int32))) (by decide) rfl (fun ls hl => ?_)
        refine lv_goto (tgt := 2) hx hb dX1_headingOf_23 (by decide) ?_
        exact hback1 _ (Option.some.inj hf).symm ls (lv_sub hl [1, 0] rfl)
      · have hf := (if_neg hc9).symm.trans hf
        refine lv_iload_n hx hb dX1_headingOf_18 rfl (lv_at hl 1 rfl) ?_
        have hres : s1 = res := (hexit1 _ ((Option.some.inj hf)).symm)
        exact W.iret (v := s1) hx hb hr (fun t ht hW => ⟨congrArg (fun z => Outcome.returned (some (Value.int z))) hres, trivial, ht⟩) t_nil dX1_headingOf_19
set_option maxHeartbeats 4000000 in
set_option maxRecDepth 100000 in
theorem ct_X1_readSeed (l : Launch) (n : Nat) (g : GC) (S : TP → PK → CS) (k : Nat) (hk : k < 3) (hT : ∀ P, zT (fun T => S T P)) (hL : ∀ T, zP k (fun P => S T P)) (t_bytes : Nat → Int32) (t_length : Int32) (t_sort : Int32) (t_start : Int32) (t_end : Int32) (t_value : Int32) (f_paths : Nat → Int32) (f_water : Int64) (f_wall : Int64) (f_kind : Nat → Int32) (f_place : Nat → Int32) (f_facing : Nat → Int32) (f_age : Nat → Int32) (f_seeds : Int32) (f_season : Int32) (f_z : Int32) (f_spots : Nat → Int32) (a2 : Int32) (res : Int32 × (Nat → Int32) × (Nat → Int32) × (Nat → Int32) × (Nat → Int32) × Int32 × Int32 × Int32 × Int32 × Int32) (hf : fX1_readSeed n a2 f_kind f_place f_facing f_age f_seeds t_bytes t_length t_sort t_start t_end t_value = some res) : Met l yX1_readSeed wsX1_readSeed ({ frames := 7, cells := 0, slots := 0, locals := 184 }) (va_Pc [.ref (ga g 4), .ref (ga g (1 + k)), .int a2] (cI g (S (t_bytes, t_length, t_sort, t_start, t_end, t_value) (f_paths, f_water, f_wall, f_kind, f_place, f_facing, f_age, f_seeds, f_season, f_z, f_spots)))) (qW (some (.int res.1)) (narrow .boolean (.int res.1) = .int res.1) g.1 (cw g (S (t_bytes, t_length, res.2.2.2.2.2.2.1, res.2.2.2.2.2.2.2.1, res.2.2.2.2.2.2.2.2.1, res.2.2.2.2.2.2.2.2.2) (f_paths, f_water, f_wall, res.2.1, res.2.2.1, res.2.2.2.1, res.2.2.2.2.1, res.2.2.2.2.2.1, f_season, f_z, f_spots))) (gA g)) 0 0 (gA g) := by
  refine Met.ofW (cc := cX1_readSeed) (maxL := 6) (ret := (some .boolean)) (by decide) rfl ?_
  intro p e s m args below meth c s₁ B hml hv
  obtain ⟨rfl, hI⟩ := hv
  have hx := B.exec
  have hb := B.bytes
  have hr := B.returns
  have hts := atoms_spec (ws := wsX1_readSeed) B.pre
  have hown : s.vm.findClass RX1 = some m.cls := findClass_of_methodNamed B.named
  have hlocks := B.notSynchronized
  have hP := hI.1
  have hB := hI.2
  have hK := hB.1
  have hNW := hB.2.1
  have hS : va_S (gA g) s.heap s.heap [] := va_S.rf
  have iwX5 : ∀ w ∈ wsX50, w ∈ wsX1_readSeed := fun w h => List.mem_cons_of_mem _ (List.mem_append_left _ (List.mem_append_left _ (List.mem_append_right _ h)))
  have hl := lv_entry ([.ref (ga g 4), .ref (ga g (1 + k)), .int a2]) (n := 6) (Nat.le_of_ble_eq_true rfl)
  rw [lg_entry_eq]
  generalize (lg_sl ([.ref (ga g 4), .ref (ga g (1 + k)), .int a2]) ++ List.replicate (6 - (lg_sl ([.ref (ga g 4), .ref (ga g (1 + k)), .int a2])).length) Slot.unset).toArray = ls at hl ⊢
  have hl : lv_has ls 6 [(0, .ref (ga g 4)), (1, .ref (ga g (1 + k))), (2, .int a2)] := hl
  unfold fX1_readSeed at hf
  refine lv_aload_n hx hb dX1_readSeed_0 rfl (lv_at hl 1 rfl) ?_
  obtain ⟨q1, hq1, hf⟩ := bd_some hf
  refine kr_S (st1 := [.int q1]) (va_runV (As := []) (rest := []) ⟨hx, hb, hml, hown, hts⟩ (ct_X2_isFull l n g (S (t_bytes, t_length, t_sort, t_start, t_end, t_value) (f_paths, f_water, f_wall, f_kind, f_place, f_facing, f_age, f_seeds, f_season, f_z, f_spots)) k hk f_paths f_water f_wall f_kind f_place f_facing f_age f_seeds f_season f_z f_spots ((hL (t_bytes, t_length, t_sort, t_start, t_end, t_value)).1 (f_paths, f_water, f_wall, f_kind, f_place, f_facing, f_age, f_seeds, f_season, f_z, f_spots)) q1 hq1) (cwV 0 hts gX1_readSeed_X2_isFull rfl rfl rfl hd_X2_isFull ⟨Nat.le_of_ble_eq_true rfl, Nat.le_of_ble_eq_true rfl⟩) ⟨bl_C, va_recv hK hP (ci := 0) (q0 := (1 + k)) rfl (e_pk hk ((hL (t_bytes, t_length, t_sort, t_start, t_end, t_value)).1 (f_paths, f_water, f_wall, f_kind, f_place, f_facing, f_age, f_seeds, f_season, f_z, f_spots)) (Q := (f_paths, f_water, f_wall, f_kind, f_place, f_facing, f_age, f_seeds, f_season, f_z, f_spots))), pr_C rfl hB hP hS⟩ rfl rfl hl.1 rfl (lv_room (Nat.le_of_ble_eq_true rfl)) dX1_readSeed_1 ⟨Nat.le_refl _, Nat.le_refl _⟩) rfl (fun hn2 => ?_)
  refine lv_if_eq (tgt := 9) hx hb dX1_readSeed_4 (by decide) (fun hc3 => ?_) (fun hc3 => ?_)
  · have hf := (if_pos hc3).symm.trans hf
    refine lv_aload_n hx hb dX1_readSeed_9 rfl (lv_at hl 0 rfl) ?_
    obtain ⟨q4, hq4, hf⟩ := bd_some hf
    refine kr_W (st1 := []) (va_runV (As := []) (rest := []) ⟨hx, hb, hml, hown, hts⟩ (ct_X5_next l n g (fun T => S T (f_paths, f_water, f_wall, f_kind, f_place, f_facing, f_age, f_seeds, f_season, f_z, f_spots)) (hT (f_paths, f_water, f_wall, f_kind, f_place, f_facing, f_age, f_seeds, f_season, f_z, f_spots)) t_bytes t_length t_sort t_start t_end t_value q4 hq4) (cwV 0 hts gX1_readSeed_X5_next rfl rfl rfl hd_X5_next ⟨Nat.le_of_ble_eq_true rfl, Nat.le_of_ble_eq_true rfl⟩) ⟨bl_C, va_recv hK hP (ci := 3) (q0 := 4) rfl (e_tp (zT.at (hT (f_paths, f_water, f_wall, f_kind, f_place, f_facing, f_age, f_seeds, f_season, f_z, f_spots)) (t_bytes, t_length, t_sort, t_start, t_end, t_value)) (T := (t_bytes, t_length, t_sort, t_start, t_end, t_value))), pr_C rfl hB hP hS⟩ rfl rfl hl.1 rfl (lv_room (Nat.le_of_ble_eq_true rfl)) dX1_readSeed_10 ⟨Nat.le_refl _, Nat.le_refl _⟩) hS rfl (fun hn5 H locs hP hS => ?_)
    have hP : va_P g.1 vwCl (cw g (S (t_bytes, t_length, q4.1, q4.2.1, q4.2.2.1, q4.2.2.2) (f_paths, f_water, f_wall, f_kind, f_place, f_facing, f_age, f_seeds, f_season, f_z, f_spots))) H := hP
    refine lv_aload_n hx hb dX1_readSeed_13 rfl (lv_at hl 0 rfl) ?_
    refine lv_bipush (v := (35 : Int32)) hx hb dX1_readSeed_14 (by decide) ?_
    obtain ⟨q6, hq6, hf⟩ := bd_some hf
    refine kr_S (st1 := [.int q6]) (va_runV (As := [.int (35 : Int32)]) (rest := []) ⟨hx, hb, hml, hown, hts⟩ (ct_X5_isNumber l n g (S (t_bytes, t_length, q4.1, q4.2.1, q4.2.2.1, q4.2.2.2) (f_paths, f_water, f_wall, f_kind, f_place, f_facing, f_age, f_seeds, f_season, f_z, f_spots)) t_bytes t_length q4.1 q4.2.1 q4.2.2.1 q4.2.2.2 (zT.at (hT (f_paths, f_water, f_wall, f_kind, f_place, f_facing, f_age, f_seeds, f_season, f_z, f_spots)) (t_bytes, t_length, q4.1, q4.2.1, q4.2.2.1, q4.2.2.2)) (35 : Int32) q6 hq6) (cwV 1 hts gX1_readSeed_X5_isNumber rfl rfl rfl hd_X5_isNumber ⟨Nat.le_of_ble_eq_true rfl, Nat.le_of_ble_eq_true rfl⟩) ⟨bl_C, va_recv hK hP (ci := 3) (q0 := 4) rfl (e_tp (zT.at (hT (f_paths, f_water, f_wall, f_kind, f_place, f_facing, f_age, f_seeds, f_season, f_z, f_spots)) (t_bytes, t_length, q4.1, q4.2.1, q4.2.2.1, q4.2.2.2)) (T := (t_bytes, t_length, q4.1, q4.2.1, q4.2.2.1, q4.2.2.2))), pr_C rfl hB hP hS⟩ rfl rfl hl.1 rfl (lv_room (Nat.le_of_ble_eq_true rfl)) dX1_readSeed_16 ⟨Nat.le_refl _, Nat.le_refl _⟩) rfl (fun hn7 => ?_)
    refine lv_if_ne (tgt := 24) hx hb dX1_readSeed_19 (by decide) (fun hc8 => ?_) (fun hc8 => ?_)
    · have hf := (if_neg hc8).symm.trans hf
      refine lv_aload_n hx hb dX1_readSeed_24 rfl (lv_at hl 0 rfl) ?_
      refine va_getN (D := g.1) (ci := 3) (v := .int q4.2.2.2) (C := RX5) (T := TX5) (N := 6) hx hb hts iwX5 hown hK hP 4 (e_tp (zT.at (hT (f_paths, f_water, f_wall, f_kind, f_place, f_facing, f_age, f_seeds, f_season, f_z, f_spots)) (t_bytes, t_length, q4.1, q4.2.1, q4.2.2.1, q4.2.2.2)) (T := (t_bytes, t_length, q4.1, q4.2.1, q4.2.2.1, q4.2.2.2))) rfl 5 (by decide) (nf_X1_63 hNW) (fun _ h9 => h9) rfl dX1_readSeed_25 ?_
      refine lv_istore_n (lv' := [(3, .int q4.2.2.2), (0, .ref (ga g 4)), (1, .ref (ga g (1 + k))), (2, .int a2)]) hx hb dX1_readSeed_28 rfl hl (by decide) rfl (fun ls hl => ?_)
      refine lv_aload_n hx hb dX1_readSeed_29 rfl (lv_at hl 1 rfl) ?_
      obtain ⟨q9, hq9, hf⟩ := bd_some hf
      refine kr_W (st1 := []) (va_runV (As := []) (rest := []) ⟨hx, hb, hml, hown, hts⟩ (ct_X5_next l n g (fun T => S T (f_paths, f_water, f_wall, f_kind, f_place, f_facing, f_age, f_seeds, f_season, f_z, f_spots)) (hT (f_paths, f_water, f_wall, f_kind, f_place, f_facing, f_age, f_seeds, f_season, f_z, f_spots)) t_bytes t_length q4.1 q4.2.1 q4.2.2.1 q4.2.2.2 q9 hq9) (cwV 0 hts gX1_readSeed_X5_next rfl rfl rfl hd_X5_next ⟨Nat.le_of_ble_eq_true rfl, Nat.le_of_ble_eq_true rfl⟩) ⟨bl_C, va_recv hK hP (ci := 3) (q0 := 4) rfl (e_tp (zT.at (hT (f_paths, f_water, f_wall, f_kind, f_place, f_facing, f_age, f_seeds, f_season, f_z, f_spots)) (t_bytes, t_length, q4.1, q4.2.1, q4.2.2.1, q4.2.2.2)) (T := (t_bytes, t_length, q4.1, q4.2.1, q4.2.2.1, q4.2.2.2))), pr_C rfl hB hP hS⟩ rfl rfl hl.1 rfl (lv_room (Nat.le_of_ble_eq_true rfl)) dX1_readSeed_30 ⟨Nat.le_refl _, Nat.le_refl _⟩) hS rfl (fun hn10 H locs hP hS => ?_)
      have hP : va_P g.1 vwCl (cw g (S (t_bytes, t_length, q9.1, q9.2.1, q9.2.2.1, q9.2.2.2) (f_paths, f_water, f_wall, f_kind, f_place, f_facing, f_age, f_seeds, f_season, f_z, f_spots))) H := hP
      refine lv_aload_n hx hb dX1_readSeed_33 rfl (lv_at hl 1 rfl) ?_
      obtain ⟨q11, hq11, hf⟩ := bd_some hf
      refine kr_S (st1 := [.int q11]) (va_runS (As := [.ref (ga g 4)]) (rest := []) ⟨hx, hb, hml, hown, hts⟩ (ct_X1_headingOf l n g (S (t_bytes, t_length, q9.1, q9.2.1, q9.2.2.1, q9.2.2.2) (f_paths, f_water, f_wall, f_kind, f_place, f_facing, f_age, f_seeds, f_season, f_z, f_spots)) t_bytes t_length q9.1 q9.2.1 q9.2.2.1 q9.2.2.2 (zT.at (hT (f_paths, f_water, f_wall, f_kind, f_place, f_facing, f_age, f_seeds, f_season, f_z, f_spots)) (t_bytes, t_length, q9.1, q9.2.1, q9.2.2.1, q9.2.2.2)) q11 hq11) (va_cwS 1 hts gX1_readSeed_X1_headingOf rfl rfl rfl hn_X1_headingOf ⟨Nat.le_of_ble_eq_true rfl, Nat.le_of_ble_eq_true rfl⟩) ⟨bl_C, pr_C rfl hB hP hS⟩ rfl rfl hl.1 rfl (lv_room (Nat.le_of_ble_eq_true rfl)) dX1_readSeed_34 ⟨Nat.le_refl _, Nat.le_refl _⟩) rfl (fun hn12 => ?_)
      refine lv_istore (lv' := [(4, .int q11), (3, .int q4.2.2.2), (0, .ref (ga g 4)), (1, .ref (ga g (1 + k))), (2, .int a2)]) hx hb dX1_readSeed_37 hl (by decide) rfl (fun ls hl => ?_)
      refine lv_iload hx hb dX1_readSeed_39 (lv_at hl 0 rfl) ?_
      refine lv_if_lt (tgt := 48) hx hb dX1_readSeed_41 (by decide) (fun hc13 => ?_) (fun hc13 => ?_)
      · have hf := (if_pos hc13).symm.trans hf
        refine lv_iconst (v := (0 : Int32)) hx hb dX1_readSeed_48 (by decide) ?_
        refine lv_istore (lv' := [(5, .int (0 : Int32)), (4, .int q11), (3, .int q4.2.2.2), (0, .ref (ga g 4)), (1, .ref (ga g (1 + k))), (2, .int a2)]) hx hb dX1_readSeed_49 hl (by decide) rfl (fun ls hl => ?_)
        refine lv_aload_n hx hb dX1_readSeed_51 rfl (lv_at hl 3 rfl) ?_
        refine va_ldcS hx hb hown (q := gK g 15) (hB.2.2.2.1 ("SownPaths$Grammar", 69, "aged", 15) (by decide +kernel)) dX1_readSeed_52 ?_
        obtain ⟨q14, hq14, hf⟩ := bd_some hf
        refine kr_S (st1 := [.int q14]) (va_runV (As := [.ref (gK g 15)]) (rest := []) ⟨hx, hb, hml, hown, hts⟩ (ct_X5_isWord l n g (S (t_bytes, t_length, q9.1, q9.2.1, q9.2.2.1, q9.2.2.2) (f_paths, f_water, f_wall, f_kind, f_place, f_facing, f_age, f_seeds, f_season, f_z, f_spots)) t_bytes t_length q9.1 q9.2.1 q9.2.2.1 q9.2.2.2 (zT.at (hT (f_paths, f_water, f_wall, f_kind, f_place, f_facing, f_age, f_seeds, f_season, f_z, f_spots)) (t_bytes, t_length, q9.1, q9.2.1, q9.2.2.1, q9.2.2.2)) 15 (by decide) q14 hq14) (cwV 1 hts gX1_readSeed_X5_isWord rfl rfl rfl hd_X5_isWord ⟨Nat.le_of_ble_eq_true rfl, Nat.le_of_ble_eq_true rfl⟩) ⟨bl_C, va_recv hK hP (ci := 3) (q0 := 4) rfl (e_tp (zT.at (hT (f_paths, f_water, f_wall, f_kind, f_place, f_facing, f_age, f_seeds, f_season, f_z, f_spots)) (t_bytes, t_length, q9.1, q9.2.1, q9.2.2.1, q9.2.2.2)) (T := (t_bytes, t_length, q9.1, q9.2.1, q9.2.2.1, q9.2.2.2))), pr_C rfl hB hP hS⟩ rfl rfl hl.1 rfl (lv_room (Nat.le_of_ble_eq_true rfl)) dX1_readSeed_54 ⟨Nat.le_refl _, Nat.le_refl _⟩) rfl (fun hn15 => ?_)
        refine lv_if_eq (tgt := 86) hx hb dX1_readSeed_57 (by decide) (fun hc16 => ?_) (fun hc16 => ?_)
        · have hf := (if_pos hc16).symm.trans hf
          refine lv_aload_n hx hb dX1_readSeed_86 rfl (lv_at hl 4 rfl) ?_
          refine lv_iload_n hx hb dX1_readSeed_87 rfl (lv_at hl 5 rfl) ?_
          refine lv_iload_n hx hb dX1_readSeed_88 rfl (lv_at hl 2 rfl) ?_
          refine lv_iload hx hb dX1_readSeed_89 (lv_at hl 1 rfl) ?_
          refine lv_if_ge (tgt := 98) hx hb dX1_readSeed_91 (by decide) (fun hc17 => ?_) (fun hc17 => ?_)
          · have hf := (if_pos hc17).symm.trans hf
            refine lv_iload hx hb dX1_readSeed_98 (lv_at hl 1 rfl) ?_
            refine lv_iload hx hb dX1_readSeed_100 (lv_at hl 0 rfl) ?_
            obtain ⟨q18, hq18, hf⟩ := bd_some hf
            refine kr_W (st1 := [.int q18.1]) (va_runV (As := [.int a2, .int q4.2.2.2, .int q11, .int (0 : Int32)]) (rest := []) ⟨hx, hb, hml, hown, hts⟩ (ct_X2_plant l n g (fun P => S (t_bytes, t_length, q9.1, q9.2.1, q9.2.2.1, q9.2.2.2) P) k hk (hL (t_bytes, t_length, q9.1, q9.2.1, q9.2.2.1, q9.2.2.2)) f_paths f_water f_wall f_kind f_place f_facing f_age f_seeds f_season f_z f_spots a2 q4.2.2.2 q11 (0 : Int32) q18 hq18) (cwV 4 hts gX1_readSeed_X2_plant rfl rfl rfl hd_X2_plant ⟨Nat.le_of_ble_eq_true rfl, Nat.le_of_ble_eq_true rfl⟩) ⟨bl_C, va_recv hK hP (ci := 0) (q0 := (1 + k)) rfl (e_pk hk ((hL (t_bytes, t_length, q9.1, q9.2.1, q9.2.2.1, q9.2.2.2)).1 (f_paths, f_water, f_wall, f_kind, f_place, f_facing, f_age, f_seeds, f_season, f_z, f_spots)) (Q := (f_paths, f_water, f_wall, f_kind, f_place, f_facing, f_age, f_seeds, f_season, f_z, f_spots))), pr_C rfl hB hP hS⟩ rfl rfl hl.1 rfl (lv_room (Nat.le_of_ble_eq_true rfl)) dX1_readSeed_102 ⟨Nat.le_refl _, Nat.le_refl _⟩) hS rfl (fun hn19 H locs hP hS => ?_)
            have hP : va_P g.1 vwCl (cw g (S (t_bytes, t_length, q9.1, q9.2.1, q9.2.2.1, q9.2.2.2) (f_paths, f_water, f_wall, q18.2.1, q18.2.2.1, q18.2.2.2.1, q18.2.2.2.2.1, q18.2.2.2.2.2, f_season, f_z, f_spots))) H := hP
            refine lv_pop hx hb dX1_readSeed_105 rfl ?_
            refine lv_iconst (v := (1 : Int32)) hx hb dX1_readSeed_106 (by decide) ?_
            have hres : ((1 : Int32), q18.2.1, q18.2.2.1, q18.2.2.2.1, q18.2.2.2.2.1, q18.2.2.2.2.2, q9.1, q9.2.1, q9.2.2.1, q9.2.2.2) = res := (Option.some.inj hf)
            have hnr : narrow .boolean (.int (1 : Int32)) = .int (1 : Int32) := rfl
            have hP := w_eq (congrArg (fun z => cw g (S (t_bytes, t_length, z.2.2.2.2.2.2.1, z.2.2.2.2.2.2.2.1, z.2.2.2.2.2.2.2.2.1, z.2.2.2.2.2.2.2.2.2) (f_paths, f_water, f_wall, z.2.1, z.2.2.1, z.2.2.2.1, z.2.2.2.2.1, z.2.2.2.2.2.1, f_season, f_z, f_spots))) hres) hP
            exact W.zret (v := (1 : Int32)) hx hb hr hnr (fun t ht hW => ⟨congrArg (fun z => Outcome.returned (some (Value.int z.1))) hres, Eq.mp (congrArg (fun z => narrow .boolean (.int z.1) = .int z.1) hres) hnr, by rw [ht]; exact hP, hS.F ht⟩) hS.2.2 dX1_readSeed_107
          · have hf := (if_neg hc17).symm.trans hf
            refine lv_iconst (v := (0 : Int32)) hx hb dX1_readSeed_94 (by decide) ?_
            refine lv_goto (tgt := 100) hx hb dX1_readSeed_95 (by decide) ?_
            refine lv_iload hx hb dX1_readSeed_100 (lv_at hl 0 rfl) ?_
            obtain ⟨q20, hq20, hf⟩ := bd_some hf
            refine kr_W (st1 := [.int q20.1]) (va_runV (As := [.int a2, .int q4.2.2.2, .int (0 : Int32), .int (0 : Int32)]) (rest := []) ⟨hx, hb, hml, hown, hts⟩ (ct_X2_plant l n g (fun P => S (t_bytes, t_length, q9.1, q9.2.1, q9.2.2.1, q9.2.2.2) P) k hk (hL (t_bytes, t_length, q9.1, q9.2.1, q9.2.2.1, q9.2.2.2)) f_paths f_water f_wall f_kind f_place f_facing f_age f_seeds f_season f_z f_spots a2 q4.2.2.2 (0 : Int32) (0 : Int32) q20 hq20) (cwV 4 hts gX1_readSeed_X2_plant rfl rfl rfl hd_X2_plant ⟨Nat.le_of_ble_eq_true rfl, Nat.le_of_ble_eq_true rfl⟩) ⟨bl_C, va_recv hK hP (ci := 0) (q0 := (1 + k)) rfl (e_pk hk ((hL (t_bytes, t_length, q9.1, q9.2.1, q9.2.2.1, q9.2.2.2)).1 (f_paths, f_water, f_wall, f_kind, f_place, f_facing, f_age, f_seeds, f_season, f_z, f_spots)) (Q := (f_paths, f_water, f_wall, f_kind, f_place, f_facing, f_age, f_seeds, f_season, f_z, f_spots))), pr_C rfl hB hP hS⟩ rfl rfl hl.1 rfl (lv_room (Nat.le_of_ble_eq_true rfl)) dX1_readSeed_102 ⟨Nat.le_refl _, Nat.le_refl _⟩) hS rfl (fun hn21 H locs hP hS => ?_)
            have hP : va_P g.1 vwCl (cw g (S (t_bytes, t_length, q9.1, q9.2.1, q9.2.2.1, q9.2.2.2) (f_paths, f_water, f_wall, q20.2.1, q20.2.2.1, q20.2.2.2.1, q20.2.2.2.2.1, q20.2.2.2.2.2, f_season, f_z, f_spots))) H := hP
            refine lv_pop hx hb dX1_readSeed_105 rfl ?_
            refine lv_iconst (v := (1 : Int32)) hx hb dX1_readSeed_106 (by decide) ?_
            have hres : ((1 : Int32), q20.2.1, q20.2.2.1, q20.2.2.2.1, q20.2.2.2.2.1, q20.2.2.2.2.2, q9.1, q9.2.1, q9.2.2.1, q9.2.2.2) = res := (Option.some.inj hf)
            have hnr : narrow .boolean (.int (1 : Int32)) = .int (1 : Int32) := rfl
            have hP := w_eq (congrArg (fun z => cw g (S (t_bytes, t_length, z.2.2.2.2.2.2.1, z.2.2.2.2.2.2.2.1, z.2.2.2.2.2.2.2.2.1, z.2.2.2.2.2.2.2.2.2) (f_paths, f_water, f_wall, z.2.1, z.2.2.1, z.2.2.2.1, z.2.2.2.2.1, z.2.2.2.2.2.1, f_season, f_z, f_spots))) hres) hP
            exact W.zret (v := (1 : Int32)) hx hb hr hnr (fun t ht hW => ⟨congrArg (fun z => Outcome.returned (some (Value.int z.1))) hres, Eq.mp (congrArg (fun z => narrow .boolean (.int z.1) = .int z.1) hres) hnr, by rw [ht]; exact hP, hS.F ht⟩) hS.2.2 dX1_readSeed_107
        · have hf := (if_neg hc16).symm.trans hf
          refine lv_aload_n hx hb dX1_readSeed_60 rfl (lv_at hl 3 rfl) ?_
          obtain ⟨q22, hq22, hf⟩ := bd_some hf
          refine kr_W (st1 := []) (va_runV (As := []) (rest := []) ⟨hx, hb, hml, hown, hts⟩ (ct_X5_next l n g (fun T => S T (f_paths, f_water, f_wall, f_kind, f_place, f_facing, f_age, f_seeds, f_season, f_z, f_spots)) (hT (f_paths, f_water, f_wall, f_kind, f_place, f_facing, f_age, f_seeds, f_season, f_z, f_spots)) t_bytes t_length q9.1 q9.2.1 q9.2.2.1 q9.2.2.2 q22 hq22) (cwV 0 hts gX1_readSeed_X5_next rfl rfl rfl hd_X5_next ⟨Nat.le_of_ble_eq_true rfl, Nat.le_of_ble_eq_true rfl⟩) ⟨bl_C, va_recv hK hP (ci := 3) (q0 := 4) rfl (e_tp (zT.at (hT (f_paths, f_water, f_wall, f_kind, f_place, f_facing, f_age, f_seeds, f_season, f_z, f_spots)) (t_bytes, t_length, q9.1, q9.2.1, q9.2.2.1, q9.2.2.2)) (T := (t_bytes, t_length, q9.1, q9.2.1, q9.2.2.1, q9.2.2.2))), pr_C rfl hB hP hS⟩ rfl rfl hl.1 rfl (lv_room (Nat.le_of_ble_eq_true rfl)) dX1_readSeed_61 ⟨Nat.le_refl _, Nat.le_refl _⟩) hS rfl (fun hn23 H locs hP hS => ?_)
          have hP : va_P g.1 vwCl (cw g (S (t_bytes, t_length, q22.1, q22.2.1, q22.2.2.1, q22.2.2.2) (f_paths, f_water, f_wall, f_kind, f_place, f_facing, f_age, f_seeds, f_season, f_z, f_spots))) H := hP
          refine lv_aload_n hx hb dX1_readSeed_64 rfl (lv_at hl 3 rfl) ?_
          refine lv_sipush (v := (999 : Int32)) hx hb dX1_readSeed_65 (by decide) ?_
          obtain ⟨q24, hq24, hf⟩ := bd_some hf
          refine kr_S (st1 := [.int q24]) (va_runV (As := [.int (999 : Int32)]) (rest := []) ⟨hx, hb, hml, hown, hts⟩ (ct_X5_isNumber l n g (S (t_bytes, t_length, q22.1, q22.2.1, q22.2.2.1, q22.2.2.2) (f_paths, f_water, f_wall, f_kind, f_place, f_facing, f_age, f_seeds, f_season, f_z, f_spots)) t_bytes t_length q22.1 q22.2.1 q22.2.2.1 q22.2.2.2 (zT.at (hT (f_paths, f_water, f_wall, f_kind, f_place, f_facing, f_age, f_seeds, f_season, f_z, f_spots)) (t_bytes, t_length, q22.1, q22.2.1, q22.2.2.1, q22.2.2.2)) (999 : Int32) q24 hq24) (cwV 1 hts gX1_readSeed_X5_isNumber rfl rfl rfl hd_X5_isNumber ⟨Nat.le_of_ble_eq_true rfl, Nat.le_of_ble_eq_true rfl⟩) ⟨bl_C, va_recv hK hP (ci := 3) (q0 := 4) rfl (e_tp (zT.at (hT (f_paths, f_water, f_wall, f_kind, f_place, f_facing, f_age, f_seeds, f_season, f_z, f_spots)) (t_bytes, t_length, q22.1, q22.2.1, q22.2.2.1, q22.2.2.2)) (T := (t_bytes, t_length, q22.1, q22.2.1, q22.2.2.1, q22.2.2.2))), pr_C rfl hB hP hS⟩ rfl rfl hl.1 rfl (lv_room (Nat.le_of_ble_eq_true rfl)) dX1_readSeed_68 ⟨Nat.le_refl _, Nat.le_refl _⟩) rfl (fun hn25 => ?_)
          refine lv_if_ne (tgt := 76) hx hb dX1_readSeed_71 (by decide) (fun hc26 => ?_) (fun hc26 => ?_)
          · have hf := (if_neg hc26).symm.trans hf
            refine lv_aload_n hx hb dX1_readSeed_76 rfl (lv_at hl 3 rfl) ?_
            refine va_getN (D := g.1) (ci := 3) (v := .int q22.2.2.2) (C := RX5) (T := TX5) (N := 6) hx hb hts iwX5 hown hK hP 4 (e_tp (zT.at (hT (f_paths, f_water, f_wall, f_kind, f_place, f_facing, f_age, f_seeds, f_season, f_z, f_spots)) (t_bytes, t_length, q22.1, q22.2.1, q22.2.2.1, q22.2.2.2)) (T := (t_bytes, t_length, q22.1, q22.2.1, q22.2.2.1, q22.2.2.2))) rfl 5 (by decide) (nf_X1_63 hNW) (fun _ h9 => h9) rfl dX1_readSeed_77 ?_
            refine lv_istore (lv' := [(5, .int q22.2.2.2), (4, .int q11), (3, .int q4.2.2.2), (0, .ref (ga g 4)), (1, .ref (ga g (1 + k))), (2, .int a2)]) hx hb dX1_readSeed_80 hl (by decide) rfl (fun ls hl => ?_)
            refine lv_aload_n hx hb dX1_readSeed_82 rfl (lv_at hl 3 rfl) ?_
            obtain ⟨q27, hq27, hf⟩ := bd_some hf
            refine kr_W (st1 := []) (va_runV (As := []) (rest := []) ⟨hx, hb, hml, hown, hts⟩ (ct_X5_next l n g (fun T => S T (f_paths, f_water, f_wall, f_kind, f_place, f_facing, f_age, f_seeds, f_season, f_z, f_spots)) (hT (f_paths, f_water, f_wall, f_kind, f_place, f_facing, f_age, f_seeds, f_season, f_z, f_spots)) t_bytes t_length q22.1 q22.2.1 q22.2.2.1 q22.2.2.2 q27 hq27) (cwV 0 hts gX1_readSeed_X5_next rfl rfl rfl hd_X5_next ⟨Nat.le_of_ble_eq_true rfl, Nat.le_of_ble_eq_true rfl⟩) ⟨bl_C, va_recv hK hP (ci := 3) (q0 := 4) rfl (e_tp (zT.at (hT (f_paths, f_water, f_wall, f_kind, f_place, f_facing, f_age, f_seeds, f_season, f_z, f_spots)) (t_bytes, t_length, q22.1, q22.2.1, q22.2.2.1, q22.2.2.2)) (T := (t_bytes, t_length, q22.1, q22.2.1, q22.2.2.1, q22.2.2.2))), pr_C rfl hB hP hS⟩ rfl rfl hl.1 rfl (lv_room (Nat.le_of_ble_eq_true rfl)) dX1_readSeed_83 ⟨Nat.le_refl _, Nat.le_refl _⟩) hS rfl (fun hn28 H locs hP hS => ?_)
            have hP : va_P g.1 vwCl (cw g (S (t_bytes, t_length, q27.1, q27.2.1, q27.2.2.1, q27.2.2.2) (f_paths, f_water, f_wall, f_kind, f_place, f_facing, f_age, f_seeds, f_season, f_z, f_spots))) H := hP
            refine lv_aload_n hx hb dX1_readSeed_86 rfl (lv_at hl 4 rfl) ?_
            refine lv_iload_n hx hb dX1_readSeed_87 rfl (lv_at hl 5 rfl) ?_
            refine lv_iload_n hx hb dX1_readSeed_88 rfl (lv_at hl 2 rfl) ?_
            refine lv_iload hx hb dX1_readSeed_89 (lv_at hl 1 rfl) ?_
            refine lv_if_ge (tgt := 98) hx hb dX1_readSeed_91 (by decide) (fun hc29 => ?_) (fun hc29 => ?_)
            · have hf := (if_pos hc29).symm.trans hf
              refine lv_iload hx hb dX1_readSeed_98 (lv_at hl 1 rfl) ?_
              refine lv_iload hx hb dX1_readSeed_100 (lv_at hl 0 rfl) ?_
              obtain ⟨q30, hq30, hf⟩ := bd_some hf
              refine kr_W (st1 := [.int q30.1]) (va_runV (As := [.int a2, .int q4.2.2.2, .int q11, .int q22.2.2.2]) (rest := []) ⟨hx, hb, hml, hown, hts⟩ (ct_X2_plant l n g (fun P => S (t_bytes, t_length, q27.1, q27.2.1, q27.2.2.1, q27.2.2.2) P) k hk (hL (t_bytes, t_length, q27.1, q27.2.1, q27.2.2.1, q27.2.2.2)) f_paths f_water f_wall f_kind f_place f_facing f_age f_seeds f_season f_z f_spots a2 q4.2.2.2 q11 q22.2.2.2 q30 hq30) (cwV 4 hts gX1_readSeed_X2_plant rfl rfl rfl hd_X2_plant ⟨Nat.le_of_ble_eq_true rfl, Nat.le_of_ble_eq_true rfl⟩) ⟨bl_C, va_recv hK hP (ci := 0) (q0 := (1 + k)) rfl (e_pk hk ((hL (t_bytes, t_length, q27.1, q27.2.1, q27.2.2.1, q27.2.2.2)).1 (f_paths, f_water, f_wall, f_kind, f_place, f_facing, f_age, f_seeds, f_season, f_z, f_spots)) (Q := (f_paths, f_water, f_wall, f_kind, f_place, f_facing, f_age, f_seeds, f_season, f_z, f_spots))), pr_C rfl hB hP hS⟩ rfl rfl hl.1 rfl (lv_room (Nat.le_of_ble_eq_true rfl)) dX1_readSeed_102 ⟨Nat.le_refl _, Nat.le_refl _⟩) hS rfl (fun hn31 H locs hP hS => ?_)
              have hP : va_P g.1 vwCl (cw g (S (t_bytes, t_length, q27.1, q27.2.1, q27.2.2.1, q27.2.2.2) (f_paths, f_water, f_wall, q30.2.1, q30.2.2.1, q30.2.2.2.1, q30.2.2.2.2.1, q30.2.2.2.2.2, f_season, f_z, f_spots))) H := hP
              refine lv_pop hx hb dX1_readSeed_105 rfl ?_
              refine lv_iconst (v := (1 : Int32)) hx hb dX1_readSeed_106 (by decide) ?_
              have hres : ((1 : Int32), q30.2.1, q30.2.2.1, q30.2.2.2.1, q30.2.2.2.2.1, q30.2.2.2.2.2, q27.1, q27.2.1, q27.2.2.1, q27.2.2.2) = res := (Option.some.inj hf)
              have hnr : narrow .boolean (.int (1 : Int32)) = .int (1 : Int32) := rfl
              have hP := w_eq (congrArg (fun z => cw g (S (t_bytes, t_length, z.2.2.2.2.2.2.1, z.2.2.2.2.2.2.2.1, z.2.2.2.2.2.2.2.2.1, z.2.2.2.2.2.2.2.2.2) (f_paths, f_water, f_wall, z.2.1, z.2.2.1, z.2.2.2.1, z.2.2.2.2.1, z.2.2.2.2.2.1, f_season, f_z, f_spots))) hres) hP
              exact W.zret (v := (1 : Int32)) hx hb hr hnr (fun t ht hW => ⟨congrArg (fun z => Outcome.returned (some (Value.int z.1))) hres, Eq.mp (congrArg (fun z => narrow .boolean (.int z.1) = .int z.1) hres) hnr, by rw [ht]; exact hP, hS.F ht⟩) hS.2.2 dX1_readSeed_107
            · have hf := (if_neg hc29).symm.trans hf
              refine lv_iconst (v := (0 : Int32)) hx hb dX1_readSeed_94 (by decide) ?_
              refine lv_goto (tgt := 100) hx hb dX1_readSeed_95 (by decide) ?_
              refine lv_iload hx hb dX1_readSeed_100 (lv_at hl 0 rfl) ?_
              obtain ⟨q32, hq32, hf⟩ := bd_some hf
              refine kr_W (st1 := [.int q32.1]) (va_runV (As := [.int a2, .int q4.2.2.2, .int (0 : Int32), .int q22.2.2.2]) (rest := []) ⟨hx, hb, hml, hown, hts⟩ (ct_X2_plant l n g (fun P => S (t_bytes, t_length, q27.1, q27.2.1, q27.2.2.1, q27.2.2.2) P) k hk (hL (t_bytes, t_length, q27.1, q27.2.1, q27.2.2.1, q27.2.2.2)) f_paths f_water f_wall f_kind f_place f_facing f_age f_seeds f_season f_z f_spots a2 q4.2.2.2 (0 : Int32) q22.2.2.2 q32 hq32) (cwV 4 hts gX1_readSeed_X2_plant rfl rfl rfl hd_X2_plant ⟨Nat.le_of_ble_eq_true rfl, Nat.le_of_ble_eq_true rfl⟩) ⟨bl_C, va_recv hK hP (ci := 0) (q0 := (1 + k)) rfl (e_pk hk ((hL (t_bytes, t_length, q27.1, q27.2.1, q27.2.2.1, q27.2.2.2)).1 (f_paths, f_water, f_wall, f_kind, f_place, f_facing, f_age, f_seeds, f_season, f_z, f_spots)) (Q := (f_paths, f_water, f_wall, f_kind, f_place, f_facing, f_age, f_seeds, f_season, f_z, f_spots))), pr_C rfl hB hP hS⟩ rfl rfl hl.1 rfl (lv_room (Nat.le_of_ble_eq_true rfl)) dX1_readSeed_102 ⟨Nat.le_refl _, Nat.le_refl _⟩) hS rfl (fun hn33 H locs hP hS => ?_)
              have hP : va_P g.1 vwCl (cw g (S (t_bytes, t_length, q27.1, q27.2.1, q27.2.2.1, q27.2.2.2) (f_paths, f_water, f_wall, q32.2.1, q32.2.2.1, q32.2.2.2.1, q32.2.2.2.2.1, q32.2.2.2.2.2, f_season, f_z, f_spots))) H := hP
              refine lv_pop hx hb dX1_readSeed_105 rfl ?_
              refine lv_iconst (v := (1 : Int32)) hx hb dX1_readSeed_106 (by decide) ?_
              have hres : ((1 : Int32), q32.2.1, q32.2.2.1, q32.2.2.2.1, q32.2.2.2.2.1, q32.2.2.2.2.2, q27.1, q27.2.1, q27.2.2.1, q27.2.2.2) = res := (Option.some.inj hf)
              have hnr : narrow .boolean (.int (1 : Int32)) = .int (1 : Int32) := rfl
              have hP := w_eq (congrArg (fun z => cw g (S (t_bytes, t_length, z.2.2.2.2.2.2.1, z.2.2.2.2.2.2.2.1, z.2.2.2.2.2.2.2.2.1, z.2.2.2.2.2.2.2.2.2) (f_paths, f_water, f_wall, z.2.1, z.2.2.1, z.2.2.2.1, z.2.2.2.2.1, z.2.2.2.2.2.1, f_season, f_z, f_spots))) hres) hP
              exact W.zret (v := (1 : Int32)) hx hb hr hnr (fun t ht hW => ⟨congrArg (fun z => Outcome.returned (some (Value.int z.1))) hres, Eq.mp (congrArg (fun z => narrow .boolean (.int z.1) = .int z.1) hres) hnr, by rw [ht]; exact hP, hS.F ht⟩) hS.2.2 dX1_readSeed_107
          · have hf := (if_pos hc26).symm.trans hf
            refine lv_iconst (v := (0 : Int32)) hx hb dX1_readSeed_74 (by decide) ?_
            have hres : ((0 : Int32), f_kind, f_place, f_facing, f_age, f_seeds, q22.1, q22.2.1, q22.2.2.1, q22.2.2.2) = res := (Option.some.inj hf)
            have hnr : narrow .boolean (.int (0 : Int32)) = .int (0 : Int32) := rfl
            have hP := w_eq (congrArg (fun z => cw g (S (t_bytes, t_length, z.2.2.2.2.2.2.1, z.2.2.2.2.2.2.2.1, z.2.2.2.2.2.2.2.2.1, z.2.2.2.2.2.2.2.2.2) (f_paths, f_water, f_wall, z.2.1, z.2.2.1, z.2.2.2.1, z.2.2.2.2.1, z.2.2.2.2.2.1, f_season, f_z, f_spots))) hres) hP
            exact W.zret (v := (0 : Int32)) hx hb hr hnr (fun t ht hW => ⟨congrArg (fun z => Outcome.returned (some (Value.int z.1))) hres, Eq.mp (congrArg (fun z => narrow .boolean (.int z.1) = .int z.1) hres) hnr, by rw [ht]; exact hP, hS.F ht⟩) hS.2.2 dX1_readSeed_75
      · have hf := (if_neg hc13).symm.trans hf
        refine lv_aload_n hx hb dX1_readSeed_44 rfl (lv_at hl 2 rfl) ?_
        obtain ⟨q34, hq34, hf⟩ := bd_some hf
        refine kr_W (st1 := []) (va_runV (As := []) (rest := []) ⟨hx, hb, hml, hown, hts⟩ (ct_X5_next l n g (fun T => S T (f_paths, f_water, f_wall, f_kind, f_place, f_facing, f_age, f_seeds, f_season, f_z, f_spots)) (hT (f_paths, f_water, f_wall, f_kind, f_place, f_facing, f_age, f_seeds, f_season, f_z, f_spots)) t_bytes t_length q9.1 q9.2.1 q9.2.2.1 q9.2.2.2 q34 hq34) (cwV 0 hts gX1_readSeed_X5_next rfl rfl rfl hd_X5_next ⟨Nat.le_of_ble_eq_true rfl, Nat.le_of_ble_eq_true rfl⟩) ⟨bl_C, va_recv hK hP (ci := 3) (q0 := 4) rfl (e_tp (zT.at (hT (f_paths, f_water, f_wall, f_kind, f_place, f_facing, f_age, f_seeds, f_season, f_z, f_spots)) (t_bytes, t_length, q9.1, q9.2.1, q9.2.2.1, q9.2.2.2)) (T := (t_bytes, t_length, q9.1, q9.2.1, q9.2.2.1, q9.2.2.2))), pr_C rfl hB hP hS⟩ rfl rfl hl.1 rfl (lv_room (Nat.le_of_ble_eq_true rfl)) dX1_readSeed_45 ⟨Nat.le_refl _, Nat.le_refl _⟩) hS rfl (fun hn35 H locs hP hS => ?_)
        have hP : va_P g.1 vwCl (cw g (S (t_bytes, t_length, q34.1, q34.2.1, q34.2.2.1, q34.2.2.2) (f_paths, f_water, f_wall, f_kind, f_place, f_facing, f_age, f_seeds, f_season, f_z, f_spots))) H := hP
        refine lv_iconst (v := (0 : Int32)) hx hb dX1_readSeed_48 (by decide) ?_
        refine lv_istore (lv' := [(5, .int (0 : Int32)), (4, .int q11), (3, .int q4.2.2.2), (0, .ref (ga g 4)), (1, .ref (ga g (1 + k))), (2, .int a2)]) hx hb dX1_readSeed_49 hl (by decide) rfl (fun ls hl => ?_)
        refine lv_aload_n hx hb dX1_readSeed_51 rfl (lv_at hl 3 rfl) ?_
        refine va_ldcS hx hb hown (q := gK g 15) (hB.2.2.2.1 ("SownPaths$Grammar", 69, "aged", 15) (by decide +kernel)) dX1_readSeed_52 ?_
        obtain ⟨q36, hq36, hf⟩ := bd_some hf
        refine kr_S (st1 := [.int q36]) (va_runV (As := [.ref (gK g 15)]) (rest := []) ⟨hx, hb, hml, hown, hts⟩ (ct_X5_isWord l n g (S (t_bytes, t_length, q34.1, q34.2.1, q34.2.2.1, q34.2.2.2) (f_paths, f_water, f_wall, f_kind, f_place, f_facing, f_age, f_seeds, f_season, f_z, f_spots)) t_bytes t_length q34.1 q34.2.1 q34.2.2.1 q34.2.2.2 (zT.at (hT (f_paths, f_water, f_wall, f_kind, f_place, f_facing, f_age, f_seeds, f_season, f_z, f_spots)) (t_bytes, t_length, q34.1, q34.2.1, q34.2.2.1, q34.2.2.2)) 15 (by decide) q36 hq36) (cwV 1 hts gX1_readSeed_X5_isWord rfl rfl rfl hd_X5_isWord ⟨Nat.le_of_ble_eq_true rfl, Nat.le_of_ble_eq_true rfl⟩) ⟨bl_C, va_recv hK hP (ci := 3) (q0 := 4) rfl (e_tp (zT.at (hT (f_paths, f_water, f_wall, f_kind, f_place, f_facing, f_age, f_seeds, f_season, f_z, f_spots)) (t_bytes, t_length, q34.1, q34.2.1, q34.2.2.1, q34.2.2.2)) (T := (t_bytes, t_length, q34.1, q34.2.1, q34.2.2.1, q34.2.2.2))), pr_C rfl hB hP hS⟩ rfl rfl hl.1 rfl (lv_room (Nat.le_of_ble_eq_true rfl)) dX1_readSeed_54 ⟨Nat.le_refl _, Nat.le_refl _⟩) rfl (fun hn37 => ?_)
        refine lv_if_eq (tgt := 86) hx hb dX1_readSeed_57 (by decide) (fun hc38 => ?_) (fun hc38 => ?_)
        · have hf := (if_pos hc38).symm.trans hf
          refine lv_aload_n hx hb dX1_readSeed_86 rfl (lv_at hl 4 rfl) ?_
          refine lv_iload_n hx hb dX1_readSeed_87 rfl (lv_at hl 5 rfl) ?_
          refine lv_iload_n hx hb dX1_readSeed_88 rfl (lv_at hl 2 rfl) ?_
          refine lv_iload hx hb dX1_readSeed_89 (lv_at hl 1 rfl) ?_
          refine lv_if_ge (tgt := 98) hx hb dX1_readSeed_91 (by decide) (fun hc39 => ?_) (fun hc39 => ?_)
          · have hf := (if_pos hc39).symm.trans hf
            refine lv_iload hx hb dX1_readSeed_98 (lv_at hl 1 rfl) ?_
            refine lv_iload hx hb dX1_readSeed_100 (lv_at hl 0 rfl) ?_
            obtain ⟨q40, hq40, hf⟩ := bd_some hf
            refine kr_W (st1 := [.int q40.1]) (va_runV (As := [.int a2, .int q4.2.2.2, .int q11, .int (0 : Int32)]) (rest := []) ⟨hx, hb, hml, hown, hts⟩ (ct_X2_plant l n g (fun P => S (t_bytes, t_length, q34.1, q34.2.1, q34.2.2.1, q34.2.2.2) P) k hk (hL (t_bytes, t_length, q34.1, q34.2.1, q34.2.2.1, q34.2.2.2)) f_paths f_water f_wall f_kind f_place f_facing f_age f_seeds f_season f_z f_spots a2 q4.2.2.2 q11 (0 : Int32) q40 hq40) (cwV 4 hts gX1_readSeed_X2_plant rfl rfl rfl hd_X2_plant ⟨Nat.le_of_ble_eq_true rfl, Nat.le_of_ble_eq_true rfl⟩) ⟨bl_C, va_recv hK hP (ci := 0) (q0 := (1 + k)) rfl (e_pk hk ((hL (t_bytes, t_length, q34.1, q34.2.1, q34.2.2.1, q34.2.2.2)).1 (f_paths, f_water, f_wall, f_kind, f_place, f_facing, f_age, f_seeds, f_season, f_z, f_spots)) (Q := (f_paths, f_water, f_wall, f_kind, f_place, f_facing, f_age, f_seeds, f_season, f_z, f_spots))), pr_C rfl hB hP hS⟩ rfl rfl hl.1 rfl (lv_room (Nat.le_of_ble_eq_true rfl)) dX1_readSeed_102 ⟨Nat.le_refl _, Nat.le_refl _⟩) hS rfl (fun hn41 H locs hP hS => ?_)
            have hP : va_P g.1 vwCl (cw g (S (t_bytes, t_length, q34.1, q34.2.1, q34.2.2.1, q34.2.2.2) (f_paths, f_water, f_wall, q40.2.1, q40.2.2.1, q40.2.2.2.1, q40.2.2.2.2.1, q40.2.2.2.2.2, f_season, f_z, f_spots))) H := hP
            refine lv_pop hx hb dX1_readSeed_105 rfl ?_
            refine lv_iconst (v := (1 : Int32)) hx hb dX1_readSeed_106 (by decide) ?_
            have hres : ((1 : Int32), q40.2.1, q40.2.2.1, q40.2.2.2.1, q40.2.2.2.2.1, q40.2.2.2.2.2, q34.1, q34.2.1, q34.2.2.1, q34.2.2.2) = res := (Option.some.inj hf)
            have hnr : narrow .boolean (.int (1 : Int32)) = .int (1 : Int32) := rfl
            have hP := w_eq (congrArg (fun z => cw g (S (t_bytes, t_length, z.2.2.2.2.2.2.1, z.2.2.2.2.2.2.2.1, z.2.2.2.2.2.2.2.2.1, z.2.2.2.2.2.2.2.2.2) (f_paths, f_water, f_wall, z.2.1, z.2.2.1, z.2.2.2.1, z.2.2.2.2.1, z.2.2.2.2.2.1, f_season, f_z, f_spots))) hres) hP
            exact W.zret (v := (1 : Int32)) hx hb hr hnr (fun t ht hW => ⟨congrArg (fun z => Outcome.returned (some (Value.int z.1))) hres, Eq.mp (congrArg (fun z => narrow .boolean (.int z.1) = .int z.1) hres) hnr, by rw [ht]; exact hP, hS.F ht⟩) hS.2.2 dX1_readSeed_107
          · have hf := (if_neg hc39).symm.trans hf
            refine lv_iconst (v := (0 : Int32)) hx hb dX1_readSeed_94 (by decide) ?_
            refine lv_goto (tgt := 100) hx hb dX1_readSeed_95 (by decide) ?_
            refine lv_iload hx hb dX1_readSeed_100 (lv_at hl 0 rfl) ?_
            obtain ⟨q42, hq42, hf⟩ := bd_some hf
            refine kr_W (st1 := [.int q42.1]) (va_runV (As := [.int a2, .int q4.2.2.2, .int (0 : Int32), .int (0 : Int32)]) (rest := []) ⟨hx, hb, hml, hown, hts⟩ (ct_X2_plant l n g (fun P => S (t_bytes, t_length, q34.1, q34.2.1, q34.2.2.1, q34.2.2.2) P) k hk (hL (t_bytes, t_length, q34.1, q34.2.1, q34.2.2.1, q34.2.2.2)) f_paths f_water f_wall f_kind f_place f_facing f_age f_seeds f_season f_z f_spots a2 q4.2.2.2 (0 : Int32) (0 : Int32) q42 hq42) (cwV 4 hts gX1_readSeed_X2_plant rfl rfl rfl hd_X2_plant ⟨Nat.le_of_ble_eq_true rfl, Nat.le_of_ble_eq_true rfl⟩) ⟨bl_C, va_recv hK hP (ci := 0) (q0 := (1 + k)) rfl (e_pk hk ((hL (t_bytes, t_length, q34.1, q34.2.1, q34.2.2.1, q34.2.2.2)).1 (f_paths, f_water, f_wall, f_kind, f_place, f_facing, f_age, f_seeds, f_season, f_z, f_spots)) (Q := (f_paths, f_water, f_wall, f_kind, f_place, f_facing, f_age, f_seeds, f_season, f_z, f_spots))), pr_C rfl hB hP hS⟩ rfl rfl hl.1 rfl (lv_room (Nat.le_of_ble_eq_true rfl)) dX1_readSeed_102 ⟨Nat.le_refl _, Nat.le_refl _⟩) hS rfl (fun hn43 H locs hP hS => ?_)
            have hP : va_P g.1 vwCl (cw g (S (t_bytes, t_length, q34.1, q34.2.1, q34.2.2.1, q34.2.2.2) (f_paths, f_water, f_wall, q42.2.1, q42.2.2.1, q42.2.2.2.1, q42.2.2.2.2.1, q42.2.2.2.2.2, f_season, f_z, f_spots))) H := hP
            refine lv_pop hx hb dX1_readSeed_105 rfl ?_
            refine lv_iconst (v := (1 : Int32)) hx hb dX1_readSeed_106 (by decide) ?_
            have hres : ((1 : Int32), q42.2.1, q42.2.2.1, q42.2.2.2.1, q42.2.2.2.2.1, q42.2.2.2.2.2, q34.1, q34.2.1, q34.2.2.1, q34.2.2.2) = res := (Option.some.inj hf)
            have hnr : narrow .boolean (.int (1 : Int32)) = .int (1 : Int32) := rfl
            have hP := w_eq (congrArg (fun z => cw g (S (t_bytes, t_length, z.2.2.2.2.2.2.1, z.2.2.2.2.2.2.2.1, z.2.2.2.2.2.2.2.2.1, z.2.2.2.2.2.2.2.2.2) (f_paths, f_water, f_wall, z.2.1, z.2.2.1, z.2.2.2.1, z.2.2.2.2.1, z.2.2.2.2.2.1, f_season, f_z, f_spots))) hres) hP
            exact W.zret (v := (1 : Int32)) hx hb hr hnr (fun t ht hW => ⟨congrArg (fun z => Outcome.returned (some (Value.int z.1))) hres, Eq.mp (congrArg (fun z => narrow .boolean (.int z.1) = .int z.1) hres) hnr, by rw [ht]; exact hP, hS.F ht⟩) hS.2.2 dX1_readSeed_107
        · have hf := (if_neg hc38).symm.trans hf
          refine lv_aload_n hx hb dX1_readSeed_60 rfl (lv_at hl 3 rfl) ?_
          obtain ⟨q44, hq44, hf⟩ := bd_some hf
          refine kr_W (st1 := []) (va_runV (As := []) (rest := []) ⟨hx, hb, hml, hown, hts⟩ (ct_X5_next l n g (fun T => S T (f_paths, f_water, f_wall, f_kind, f_place, f_facing, f_age, f_seeds, f_season, f_z, f_spots)) (hT (f_paths, f_water, f_wall, f_kind, f_place, f_facing, f_age, f_seeds, f_season, f_z, f_spots)) t_bytes t_length q34.1 q34.2.1 q34.2.2.1 q34.2.2.2 q44 hq44) (cwV 0 hts gX1_readSeed_X5_next rfl rfl rfl hd_X5_next ⟨Nat.le_of_ble_eq_true rfl, Nat.le_of_ble_eq_true rfl⟩) ⟨bl_C, va_recv hK hP (ci := 3) (q0 := 4) rfl (e_tp (zT.at (hT (f_paths, f_water, f_wall, f_kind, f_place, f_facing, f_age, f_seeds, f_season, f_z, f_spots)) (t_bytes, t_length, q34.1, q34.2.1, q34.2.2.1, q34.2.2.2)) (T := (t_bytes, t_length, q34.1, q34.2.1, q34.2.2.1, q34.2.2.2))), pr_C rfl hB hP hS⟩ rfl rfl hl.1 rfl (lv_room (Nat.le_of_ble_eq_true rfl)) dX1_readSeed_61 ⟨Nat.le_refl _, Nat.le_refl _⟩) hS rfl (fun hn45 H locs hP hS => ?_)
          have hP : va_P g.1 vwCl (cw g (S (t_bytes, t_length, q44.1, q44.2.1, q44.2.2.1, q44.2.2.2) (f_paths, f_water, f_wall, f_kind, f_place, f_facing, f_age, f_seeds, f_season, f_z, f_spots))) H := hP
          refine lv_aload_n hx hb dX1_readSeed_64 rfl (lv_at hl 3 rfl) ?_
          refine lv_sipush (v := (999 : Int32)) hx hb dX1_readSeed_65 (by decide) ?_
          obtain ⟨q46, hq46, hf⟩ := bd_some hf
          refine kr_S (st1 := [.int q46]) (va_runV (As := [.int (999 : Int32)]) (rest := []) ⟨hx, hb, hml, hown, hts⟩ (ct_X5_isNumber l n g (S (t_bytes, t_length, q44.1, q44.2.1, q44.2.2.1, q44.2.2.2) (f_paths, f_water, f_wall, f_kind, f_place, f_facing, f_age, f_seeds, f_season, f_z, f_spots)) t_bytes t_length q44.1 q44.2.1 q44.2.2.1 q44.2.2.2 (zT.at (hT (f_paths, f_water, f_wall, f_kind, f_place, f_facing, f_age, f_seeds, f_season, f_z, f_spots)) (t_bytes, t_length, q44.1, q44.2.1, q44.2.2.1, q44.2.2.2)) (999 : Int32) q46 hq46) (cwV 1 hts gX1_readSeed_X5_isNumber rfl rfl rfl hd_X5_isNumber ⟨Nat.le_of_ble_eq_true rfl, Nat.le_of_ble_eq_true rfl⟩) ⟨bl_C, va_recv hK hP (ci := 3) (q0 := 4) rfl (e_tp (zT.at (hT (f_paths, f_water, f_wall, f_kind, f_place, f_facing, f_age, f_seeds, f_season, f_z, f_spots)) (t_bytes, t_length, q44.1, q44.2.1, q44.2.2.1, q44.2.2.2)) (T := (t_bytes, t_length, q44.1, q44.2.1, q44.2.2.1, q44.2.2.2))), pr_C rfl hB hP hS⟩ rfl rfl hl.1 rfl (lv_room (Nat.le_of_ble_eq_true rfl)) dX1_readSeed_68 ⟨Nat.le_refl _, Nat.le_refl _⟩) rfl (fun hn47 => ?_)
          refine lv_if_ne (tgt := 76) hx hb dX1_readSeed_71 (by decide) (fun hc48 => ?_) (fun hc48 => ?_)
          · have hf := (if_neg hc48).symm.trans hf
            refine lv_aload_n hx hb dX1_readSeed_76 rfl (lv_at hl 3 rfl) ?_
            refine va_getN (D := g.1) (ci := 3) (v := .int q44.2.2.2) (C := RX5) (T := TX5) (N := 6) hx hb hts iwX5 hown hK hP 4 (e_tp (zT.at (hT (f_paths, f_water, f_wall, f_kind, f_place, f_facing, f_age, f_seeds, f_season, f_z, f_spots)) (t_bytes, t_length, q44.1, q44.2.1, q44.2.2.1, q44.2.2.2)) (T := (t_bytes, t_length, q44.1, q44.2.1, q44.2.2.1, q44.2.2.2))) rfl 5 (by decide) (nf_X1_63 hNW) (fun _ h9 => h9) rfl dX1_readSeed_77 ?_
            refine lv_istore (lv' := [(5, .int q44.2.2.2), (4, .int q11), (3, .int q4.2.2.2), (0, .ref (ga g 4)), (1, .ref (ga g (1 + k))), (2, .int a2)]) hx hb dX1_readSeed_80 hl (by decide) rfl (fun ls hl => ?_)
            refine lv_aload_n hx hb dX1_readSeed_82 rfl (lv_at hl 3 rfl) ?_
            obtain ⟨q49, hq49, hf⟩ := bd_some hf
            refine kr_W (st1 := []) (va_runV (As := []) (rest := []) ⟨hx, hb, hml, hown, hts⟩ (ct_X5_next l n g (fun T => S T (f_paths, f_water, f_wall, f_kind, f_place, f_facing, f_age, f_seeds, f_season, f_z, f_spots)) (hT (f_paths, f_water, f_wall, f_kind, f_place, f_facing, f_age, f_seeds, f_season, f_z, f_spots)) t_bytes t_length q44.1 q44.2.1 q44.2.2.1 q44.2.2.2 q49 hq49) (cwV 0 hts gX1_readSeed_X5_next rfl rfl rfl hd_X5_next ⟨Nat.le_of_ble_eq_true rfl, Nat.le_of_ble_eq_true rfl⟩) ⟨bl_C, va_recv hK hP (ci := 3) (q0 := 4) rfl (e_tp (zT.at (hT (f_paths, f_water, f_wall, f_kind, f_place, f_facing, f_age, f_seeds, f_season, f_z, f_spots)) (t_bytes, t_length, q44.1, q44.2.1, q44.2.2.1, q44.2.2.2)) (T := (t_bytes, t_length, q44.1, q44.2.1, q44.2.2.1, q44.2.2.2))), pr_C rfl hB hP hS⟩ rfl rfl hl.1 rfl (lv_room (Nat.le_of_ble_eq_true rfl)) dX1_readSeed_83 ⟨Nat.le_refl _, Nat.le_refl _⟩) hS rfl (fun hn50 H locs hP hS => ?_)
            have hP : va_P g.1 vwCl (cw g (S (t_bytes, t_length, q49.1, q49.2.1, q49.2.2.1, q49.2.2.2) (f_paths, f_water, f_wall, f_kind, f_place, f_facing, f_age, f_seeds, f_season, f_z, f_spots))) H := hP
            refine lv_aload_n hx hb dX1_readSeed_86 rfl (lv_at hl 4 rfl) ?_
            refine lv_iload_n hx hb dX1_readSeed_87 rfl (lv_at hl 5 rfl) ?_
            refine lv_iload_n hx hb dX1_readSeed_88 rfl (lv_at hl 2 rfl) ?_
            refine lv_iload hx hb dX1_readSeed_89 (lv_at hl 1 rfl) ?_
            refine lv_if_ge (tgt := 98) hx hb dX1_readSeed_91 (by decide) (fun hc51 => ?_) (fun hc51 => ?_)
            · have hf := (if_pos hc51).symm.trans hf
              refine lv_iload hx hb dX1_readSeed_98 (lv_at hl 1 rfl) ?_
              refine lv_iload hx hb dX1_readSeed_100 (lv_at hl 0 rfl) ?_
              obtain ⟨q52, hq52, hf⟩ := bd_some hf
              refine kr_W (st1 := [.int q52.1]) (va_runV (As := [.int a2, .int q4.2.2.2, .int q11, .int q44.2.2.2]) (rest := []) ⟨hx, hb, hml, hown, hts⟩ (ct_X2_plant l n g (fun P => S (t_bytes, t_length, q49.1, q49.2.1, q49.2.2.1, q49.2.2.2) P) k hk (hL (t_bytes, t_length, q49.1, q49.2.1, q49.2.2.1, q49.2.2.2)) f_paths f_water f_wall f_kind f_place f_facing f_age f_seeds f_season f_z f_spots a2 q4.2.2.2 q11 q44.2.2.2 q52 hq52) (cwV 4 hts gX1_readSeed_X2_plant rfl rfl rfl hd_X2_plant ⟨Nat.le_of_ble_eq_true rfl, Nat.le_of_ble_eq_true rfl⟩) ⟨bl_C, va_recv hK hP (ci := 0) (q0 := (1 + k)) rfl (e_pk hk ((hL (t_bytes, t_length, q49.1, q49.2.1, q49.2.2.1, q49.2.2.2)).1 (f_paths, f_water, f_wall, f_kind, f_place, f_facing, f_age, f_seeds, f_season, f_z, f_spots)) (Q := (f_paths, f_water, f_wall, f_kind, f_place, f_facing, f_age, f_seeds, f_season, f_z, f_spots))), pr_C rfl hB hP hS⟩ rfl rfl hl.1 rfl (lv_room (Nat.le_of_ble_eq_true rfl)) dX1_readSeed_102 ⟨Nat.le_refl _, Nat.le_refl _⟩) hS rfl (fun hn53 H locs hP hS => ?_)
              have hP : va_P g.1 vwCl (cw g (S (t_bytes, t_length, q49.1, q49.2.1, q49.2.2.1, q49.2.2.2) (f_paths, f_water, f_wall, q52.2.1, q52.2.2.1, q52.2.2.2.1, q52.2.2.2.2.1, q52.2.2.2.2.2, f_season, f_z, f_spots))) H := hP
              refine lv_pop hx hb dX1_readSeed_105 rfl ?_
              refine lv_iconst (v := (1 : Int32)) hx hb dX1_readSeed_106 (by decide) ?_
              have hres : ((1 : Int32), q52.2.1, q52.2.2.1, q52.2.2.2.1, q52.2.2.2.2.1, q52.2.2.2.2.2, q49.1, q49.2.1, q49.2.2.1, q49.2.2.2) = res := (Option.some.inj hf)
              have hnr : narrow .boolean (.int (1 : Int32)) = .int (1 : Int32) := rfl
              have hP := w_eq (congrArg (fun z => cw g (S (t_bytes, t_length, z.2.2.2.2.2.2.1, z.2.2.2.2.2.2.2.1, z.2.2.2.2.2.2.2.2.1, z.2.2.2.2.2.2.2.2.2) (f_paths, f_water, f_wall, z.2.1, z.2.2.1, z.2.2.2.1, z.2.2.2.2.1, z.2.2.2.2.2.1, f_season, f_z, f_spots))) hres) hP
              exact W.zret (v := (1 : Int32)) hx hb hr hnr (fun t ht hW => ⟨congrArg (fun z => Outcome.returned (some (Value.int z.1))) hres, Eq.mp (congrArg (fun z => narrow .boolean (.int z.1) = .int z.1) hres) hnr, by rw [ht]; exact hP, hS.F ht⟩) hS.2.2 dX1_readSeed_107
            · have hf := (if_neg hc51).symm.trans hf
              refine lv_iconst (v := (0 : Int32)) hx hb dX1_readSeed_94 (by decide) ?_
              refine lv_goto (tgt := 100) hx hb dX1_readSeed_95 (by decide) ?_
              refine lv_iload hx hb dX1_readSeed_100 (lv_at hl 0 rfl) ?_
              obtain ⟨q54, hq54, hf⟩ := bd_some hf
              refine kr_W (st1 := [.int q54.1]) (va_runV (As := [.int a2, .int q4.2.2.2, .int (0 : Int32), .int q44.2.2.2]) (rest := []) ⟨hx, hb, hml, hown, hts⟩ (ct_X2_plant l n g (fun P => S (t_bytes, t_length, q49.1, q49.2.1, q49.2.2.1, q49.2.2.2) P) k hk (hL (t_bytes, t_length, q49.1, q49.2.1, q49.2.2.1, q49.2.2.2)) f_paths f_water f_wall f_kind f_place f_facing f_age f_seeds f_season f_z f_spots a2 q4.2.2.2 (0 : Int32) q44.2.2.2 q54 hq54) (cwV 4 hts gX1_readSeed_X2_plant rfl rfl rfl hd_X2_plant ⟨Nat.le_of_ble_eq_true rfl, Nat.le_of_ble_eq_true rfl⟩) ⟨bl_C, va_recv hK hP (ci := 0) (q0 := (1 + k)) rfl (e_pk hk ((hL (t_bytes, t_length, q49.1, q49.2.1, q49.2.2.1, q49.2.2.2)).1 (f_paths, f_water, f_wall, f_kind, f_place, f_facing, f_age, f_seeds, f_season, f_z, f_spots)) (Q := (f_paths, f_water, f_wall, f_kind, f_place, f_facing, f_age, f_seeds, f_season, f_z, f_spots))), pr_C rfl hB hP hS⟩ rfl rfl hl.1 rfl (lv_room (Nat.le_of_ble_eq_true rfl)) dX1_readSeed_102 ⟨Nat.le_refl _, Nat.le_refl _⟩) hS rfl (fun hn55 H locs hP hS => ?_)
              have hP : va_P g.1 vwCl (cw g (S (t_bytes, t_length, q49.1, q49.2.1, q49.2.2.1, q49.2.2.2) (f_paths, f_water, f_wall, q54.2.1, q54.2.2.1, q54.2.2.2.1, q54.2.2.2.2.1, q54.2.2.2.2.2, f_season, f_z, f_spots))) H := hP
              refine lv_pop hx hb dX1_readSeed_105 rfl ?_
              refine lv_iconst (v := (1 : Int32)) hx hb dX1_readSeed_106 (by decide) ?_
              have hres : ((1 : Int32), q54.2.1, q54.2.2.1, q54.2.2.2.1, q54.2.2.2.2.1, q54.2.2.2.2.2, q49.1, q49.2.1, q49.2.2.1, q49.2.2.2) = res := (Option.some.inj hf)
              have hnr : narrow .boolean (.int (1 : Int32)) = .int (1 : Int32) := rfl
              have hP := w_eq (congrArg (fun z => cw g (S (t_bytes, t_length, z.2.2.2.2.2.2.1, z.2.2.2.2.2.2.2.1, z.2.2.2.2.2.2.2.2.1, z.2.2.2.2.2.2.2.2.2) (f_paths, f_water, f_wall, z.2.1, z.2.2.1, z.2.2.2.1, z.2.2.2.2.1, z.2.2.2.2.2.1, f_season, f_z, f_spots))) hres) hP
              exact W.zret (v := (1 : Int32)) hx hb hr hnr (fun t ht hW => ⟨congrArg (fun z => Outcome.returned (some (Value.int z.1))) hres, Eq.mp (congrArg (fun z => narrow .boolean (.int z.1) = .int z.1) hres) hnr, by rw [ht]; exact hP, hS.F ht⟩) hS.2.2 dX1_readSeed_107
          · have hf := (if_pos hc48).symm.trans hf
            refine lv_iconst (v := (0 : Int32)) hx hb dX1_readSeed_74 (by decide) ?_
            have hres : ((0 : Int32), f_kind, f_place, f_facing, f_age, f_seeds, q44.1, q44.2.1, q44.2.2.1, q44.2.2.2) = res := (Option.some.inj hf)
            have hnr : narrow .boolean (.int (0 : Int32)) = .int (0 : Int32) := rfl
            have hP := w_eq (congrArg (fun z => cw g (S (t_bytes, t_length, z.2.2.2.2.2.2.1, z.2.2.2.2.2.2.2.1, z.2.2.2.2.2.2.2.2.1, z.2.2.2.2.2.2.2.2.2) (f_paths, f_water, f_wall, z.2.1, z.2.2.1, z.2.2.2.1, z.2.2.2.2.1, z.2.2.2.2.2.1, f_season, f_z, f_spots))) hres) hP
            exact W.zret (v := (0 : Int32)) hx hb hr hnr (fun t ht hW => ⟨congrArg (fun z => Outcome.returned (some (Value.int z.1))) hres, Eq.mp (congrArg (fun z => narrow .boolean (.int z.1) = .int z.1) hres) hnr, by rw [ht]; exact hP, hS.F ht⟩) hS.2.2 dX1_readSeed_75
    · have hf := (if_pos hc8).symm.trans hf
      refine lv_iconst (v := (0 : Int32)) hx hb dX1_readSeed_22 (by decide) ?_
      have hres : ((0 : Int32), f_kind, f_place, f_facing, f_age, f_seeds, q4.1, q4.2.1, q4.2.2.1, q4.2.2.2) = res := (Option.some.inj hf)
      have hnr : narrow .boolean (.int (0 : Int32)) = .int (0 : Int32) := rfl
      have hP := w_eq (congrArg (fun z => cw g (S (t_bytes, t_length, z.2.2.2.2.2.2.1, z.2.2.2.2.2.2.2.1, z.2.2.2.2.2.2.2.2.1, z.2.2.2.2.2.2.2.2.2) (f_paths, f_water, f_wall, z.2.1, z.2.2.1, z.2.2.2.1, z.2.2.2.2.1, z.2.2.2.2.2.1, f_season, f_z, f_spots))) hres) hP
      exact W.zret (v := (0 : Int32)) hx hb hr hnr (fun t ht hW => ⟨congrArg (fun z => Outcome.returned (some (Value.int z.1))) hres, Eq.mp (congrArg (fun z => narrow .boolean (.int z.1) = .int z.1) hres) hnr, by rw [ht]; exact hP, hS.F ht⟩) hS.2.2 dX1_readSeed_23
  · have hf := (if_neg hc3).symm.trans hf
    refine lv_iconst (v := (0 : Int32)) hx hb dX1_readSeed_7 (by decide) ?_
    have hres : ((0 : Int32), f_kind, f_place, f_facing, f_age, f_seeds, t_sort, t_start, t_end, t_value) = res := (Option.some.inj hf)
    have hnr : narrow .boolean (.int (0 : Int32)) = .int (0 : Int32) := rfl
    have hP := w_eq (congrArg (fun z => cw g (S (t_bytes, t_length, z.2.2.2.2.2.2.1, z.2.2.2.2.2.2.2.1, z.2.2.2.2.2.2.2.2.1, z.2.2.2.2.2.2.2.2.2) (f_paths, f_water, f_wall, z.2.1, z.2.2.1, z.2.2.2.1, z.2.2.2.2.1, z.2.2.2.2.2.1, f_season, f_z, f_spots))) hres) hP
    exact W.zret (v := (0 : Int32)) hx hb hr hnr (fun t ht hW => ⟨congrArg (fun z => Outcome.returned (some (Value.int z.1))) hres, Eq.mp (congrArg (fun z => narrow .boolean (.int z.1) = .int z.1) hres) hnr, by rw [ht]; exact hP, hS.F ht⟩) hS.2.2 dX1_readSeed_8
set_option maxHeartbeats 4000000 in
set_option maxRecDepth 100000 in
theorem ct_X1_nameOfGround (l : Launch) (n : Nat) (g : GC) (σ : CS) (a0 : Int32) (res : Nat) (hf : fX1_nameOfGround n a0 = some res) : Met l yX1_nameOfGround wsX1_nameOfGround ({ frames := 0, cells := 0, slots := 0, locals := 0 }) (va_Pc [.int a0] (cI g σ)) (qS (some (Value.ref (gK g res))) (res < 16)) 0 0 (fun _ => False) := by
  refine Met.ofW (cc := cX1_nameOfGround) (maxL := 1) (ret := (some (.object "java/lang/String"))) (by decide) rfl ?_
  intro p e s m args below meth c s₁ B hml hv
  obtain ⟨rfl, hI⟩ := hv
  have hx := B.exec
  have hb := B.bytes
  have hr := B.returns
  have hts := atoms_spec (ws := wsX1_nameOfGround) B.pre
  have hown : s.vm.findClass RX1 = some m.cls := findClass_of_methodNamed B.named
  have hlocks := B.notSynchronized
  have hP := hI.1
  have hB := hI.2
  have hK := hB.1
  have hNW := hB.2.1
  have hS : va_S (gA g) s.heap s.heap [] := va_S.rf
  have hl := lv_entry ([.int a0]) (n := 1) (Nat.le_of_ble_eq_true rfl)
  rw [lg_entry_eq]
  generalize (lg_sl ([.int a0]) ++ List.replicate (1 - (lg_sl ([.int a0])).length) Slot.unset).toArray = ls at hl ⊢
  have hl : lv_has ls 1 [(0, .int a0)] := hl
  unfold fX1_nameOfGround at hf
  refine lv_iload_n hx hb dX1_nameOfGround_0 rfl (lv_at hl 0 rfl) ?_
  by_cases hc1 : a0 = (1 : Int32)
  · have hf := (if_pos hc1).symm.trans hf
    refine lv_lookup (tgt := 28) (off := 27) hx hb dX1_nameOfGround_1 (by decide) (by rw [hc1]; try rfl) (by decide) ?_
    refine va_ldcS hx hb hown (q := gK g 8) (hB.2.2.2.1 ("SownPaths$Grammar", 109, "water", 8) (by decide +kernel)) dX1_nameOfGround_28 ?_
    have hres : 8 = res := (Option.some.inj hf)
    exact W.aret (v := .ref (gK g 8)) hx hb hr (Or.inl ⟨_, rfl⟩) (Or.inr ⟨_, rfl⟩) (fun t ht hW => ⟨congrArg (fun z => Outcome.returned (some (Value.ref (gK g z)))) hres, Eq.mp (congrArg (fun z => z < 16) hres) (by decide), ht⟩) t_nil dX1_nameOfGround_30
  · have hf := (if_neg hc1).symm.trans hf
    by_cases hc2 : a0 = (2 : Int32)
    · have hf := (if_pos hc2).symm.trans hf
      refine lv_lookup (tgt := 31) (off := 30) hx hb dX1_nameOfGround_1 (by decide) (by rw [hc2]; try rfl) (by decide) ?_
      refine va_ldcS hx hb hown (q := gK g 9) (hB.2.2.2.1 ("SownPaths$Grammar", 111, "wall", 9) (by decide +kernel)) dX1_nameOfGround_31 ?_
      have hres : 9 = res := (Option.some.inj hf)
      exact W.aret (v := .ref (gK g 9)) hx hb hr (Or.inl ⟨_, rfl⟩) (Or.inr ⟨_, rfl⟩) (fun t ht hW => ⟨congrArg (fun z => Outcome.returned (some (Value.ref (gK g z)))) hres, Eq.mp (congrArg (fun z => z < 16) hres) (by decide), ht⟩) t_nil dX1_nameOfGround_33
    · have hf := (if_neg hc2).symm.trans hf
      refine lv_lookup (tgt := 34) (off := 33) hx hb dX1_nameOfGround_1 (by decide) ((lv_osw hc1 rfl).trans ((lv_osw hc2 rfl).trans rfl)) (by decide) ?_
      refine va_ldcS hx hb hown (q := gK g 7) (hB.2.2.2.1 ("SownPaths$Grammar", 113, "grass", 7) (by decide +kernel)) dX1_nameOfGround_34 ?_
      have hres : 7 = res := (Option.some.inj hf)
      exact W.aret (v := .ref (gK g 7)) hx hb hr (Or.inl ⟨_, rfl⟩) (Or.inr ⟨_, rfl⟩) (fun t ht hW => ⟨congrArg (fun z => Outcome.returned (some (Value.ref (gK g z)))) hres, Eq.mp (congrArg (fun z => z < 16) hres) (by decide), ht⟩) t_nil dX1_nameOfGround_36
set_option maxHeartbeats 4000000 in
set_option maxRecDepth 100000 in
theorem ct_X1_groundOf (l : Launch) (n : Nat) (g : GC) (σ : CS) (t_bytes : Nat → Int32) (t_length : Int32) (t_sort : Int32) (t_start : Int32) (t_end : Int32) (t_value : Int32) (he : σ.2.2.1 = (t_bytes, t_length, t_sort, t_start, t_end, t_value)) (res : Int32) (hf : fX1_groundOf n t_bytes t_sort t_start t_end = some res) : Met l yX1_groundOf wsX1_groundOf ({ frames := 6, cells := 0, slots := 0, locals := 163 }) (va_Pc [.ref (ga g 4)] (cI g σ)) (qS (some (.int res)) True) 0 0 (fun _ => False) := by
  refine Met.ofW (cc := cX1_groundOf) (maxL := 2) (ret := (some .int)) (by decide) rfl ?_
  intro p e s m args below meth c s₁ B hml hv
  obtain ⟨rfl, hI⟩ := hv
  have hx := B.exec
  have hb := B.bytes
  have hr := B.returns
  have hts := atoms_spec (ws := wsX1_groundOf) B.pre
  have hown : s.vm.findClass RX1 = some m.cls := findClass_of_methodNamed B.named
  have hlocks := B.notSynchronized
  have hP := hI.1
  have hB := hI.2
  have hK := hB.1
  have hNW := hB.2.1
  have hS : va_S (gA g) s.heap s.heap [] := va_S.rf
  have hl := lv_entry ([.ref (ga g 4)]) (n := 2) (Nat.le_of_ble_eq_true rfl)
  rw [lg_entry_eq]
  generalize (lg_sl ([.ref (ga g 4)]) ++ List.replicate (2 - (lg_sl ([.ref (ga g 4)])).length) Slot.unset).toArray = ls at hl ⊢
  have hl : lv_has ls 2 [(0, .ref (ga g 4))] := hl
  unfold fX1_groundOf at hf
  refine lv_iconst (v := (0 : Int32)) hx hb dX1_groundOf_0 (by decide) ?_
  refine lv_istore_n (lv' := [(1, .int (0 : Int32)), (0, .ref (ga g 4))]) hx hb dX1_groundOf_1 rfl hl (by decide) rfl (fun ls hl => ?_)
  refine lp_run hf (fun s1 => ∀ (ls : Array Slot), lv_has ls 2 [(0, .ref (ga g 4)), (1, .int s1)] → W p l e (headSpec wsX1_groundOf ({ frames := 6, cells := 0, slots := 0, locals := 163 })).room s m ([.ref (ga g 4)] : List Value).toArray below meth c s.heap [] 0 0 (MQ below (qS (some (.int res)) True) ([.ref (ga g 4)] : List Value).toArray s 0 0 (fun _ => False)) (F0 m 2 ls [])) (fun v => Sum.elim (fun v2 => ∀ (ls : Array Slot), lv_has ls 2 [] → W p l e (headSpec wsX1_groundOf ({ frames := 6, cells := 0, slots := 0, locals := 163 })).room s m ([.ref (ga g 4)] : List Value).toArray below meth c s.heap [] 0 0 (MQ below (qS (some (.int res)) True) ([.ref (ga g 4)] : List Value).toArray s 0 0 (fun _ => False)) (F0 m 26 ls [])) (fun x => x = res) v) ?_ ?_ _ (lv_sub hl [1, 0] rfl)
  · intro v2 hf
    rcases v2 with v2 | v2
    · have hf := el_l hf
      intro ls hl
      refine lv_iconst (v := (-1 : Int32)) hx hb dX1_groundOf_26 (by decide) ?_
      have hres : (-1 : Int32) = res := (Option.some.inj hf)
      exact W.iret (v := (-1 : Int32)) hx hb hr (fun t ht hW => ⟨congrArg (fun z => Outcome.returned (some (Value.int z))) hres, trivial, ht⟩) t_nil dX1_groundOf_27
    · exact Option.some.inj hf
  · intro s1 r1 hf hback1 hexit1 ls hl
    refine lv_iload_n hx hb dX1_groundOf_2 rfl (lv_at hl 1 rfl) ?_
    refine lv_iconst (v := (2 : Int32)) hx hb dX1_groundOf_3 (by decide) ?_
    refine lv_icmp_gt (tgt := 26) hx hb dX1_groundOf_4 (by decide) (fun hc3 => ?_) (fun hc3 => ?_)
    · have hf := (if_pos hc3).symm.trans hf
      exact hexit1 (.inl s1) (Option.some.inj hf).symm ls (lv_sub hl [] rfl)
    · have hf := (if_neg hc3).symm.trans hf
      refine lv_aload_n hx hb dX1_groundOf_7 rfl (lv_at hl 0 rfl) ?_
      refine lv_iload_n hx hb dX1_groundOf_8 rfl (lv_at hl 1 rfl) ?_
      obtain ⟨q4, hq4, hf⟩ := bd_some hf
      refine kr_S (st1 := [.ref (gK g q4), .ref (ga g 4)]) (va_runS (As := [.int s1]) (rest := [.ref (ga g 4)]) ⟨hx, hb, hml, hown, hts⟩ (ct_X1_nameOfGround l n g σ s1 q4 hq4) (va_cwS 1 hts gX1_groundOf_X1_nameOfGround rfl rfl rfl hn_X1_nameOfGround ⟨Nat.le_of_ble_eq_true rfl, Nat.le_of_ble_eq_true rfl⟩) ⟨bl_C, pr_C rfl hB hP hS⟩ rfl rfl hl.1 rfl (lv_room (Nat.le_of_ble_eq_true rfl)) dX1_groundOf_9 ⟨Nat.le_refl _, Nat.le_refl _⟩) rfl (fun hn5 => ?_)
      have hj6 := hn5
      obtain ⟨q7, hq7, hf⟩ := bd_some hf
      refine kr_S (st1 := [.int q7]) (va_runV (As := [.ref (gK g q4)]) (rest := []) ⟨hx, hb, hml, hown, hts⟩ (ct_X5_isWord l n g σ t_bytes t_length t_sort t_start t_end t_value he q4 hj6 q7 hq7) (cwV 1 hts gX1_groundOf_X5_isWord rfl rfl rfl hd_X5_isWord ⟨Nat.le_of_ble_eq_true rfl, Nat.le_of_ble_eq_true rfl⟩) ⟨bl_C, va_recv hK hP (ci := 3) (q0 := 4) rfl (e_tp he (T := (t_bytes, t_length, t_sort, t_start, t_end, t_value))), pr_C rfl hB hP hS⟩ rfl rfl hl.1 rfl (lv_room (Nat.le_of_ble_eq_true rfl)) dX1_groundOf_12 ⟨Nat.le_refl _, Nat.le_refl _⟩) rfl (fun hn8 => ?_)
      refine lv_if_eq (tgt := 20) hx hb dX1_groundOf_15 (by decide) (fun hc9 => ?_) (fun hc9 => ?_)
      · have hf := (if_pos hc9).symm.trans hf
        refine lv_iinc (v := (s1 + (1 : Int32))) (lv' := [(1, .int (s1 + (1 : Int32))), (0, .ref (ga g 4))]) hx hb dX1_groundOf_20 hl (k := 1) rfl (congrArg (fun y => s1 + y) (by decide : Int32.ofInt (1) = (1 : Int32))) (by decide) rfl (fun ls hl => ?_)
        refine lv_goto (tgt := 2) hx hb dX1_groundOf_23 (by decide) ?_
        exact hback1 _ (Option.some.inj hf).symm ls (lv_sub hl [1, 0] rfl)
      · have hf := (if_neg hc9).symm.trans hf
        refine lv_iload_n hx hb dX1_groundOf_18 rfl (lv_at hl 1 rfl) ?_
        have hres : s1 = res := (hexit1 _ ((Option.some.inj hf)).symm)
        exact W.iret (v := s1) hx hb hr (fun t ht hW => ⟨congrArg (fun z => Outcome.returned (some (Value.int z))) hres, trivial, ht⟩) t_nil dX1_groundOf_19
set_option maxHeartbeats 4000000 in
set_option maxRecDepth 100000 in
theorem ct_X1_readGround (l : Launch) (n : Nat) (g : GC) (S : TP → PK → CS) (k : Nat) (hk : k < 3) (hT : ∀ P, zT (fun T => S T P)) (hL : ∀ T, zP k (fun P => S T P)) (t_bytes : Nat → Int32) (t_length : Int32) (t_sort : Int32) (t_start : Int32) (t_end : Int32) (t_value : Int32) (f_paths : Nat → Int32) (f_water : Int64) (f_wall : Int64) (f_kind : Nat → Int32) (f_place : Nat → Int32) (f_facing : Nat → Int32) (f_age : Nat → Int32) (f_seeds : Int32) (f_season : Int32) (f_z : Int32) (f_spots : Nat → Int32) (a2 : Int32) (res : Int32 × (Nat → Int32) × Int64 × Int64 × Int32 × Int32 × Int32 × Int32) (hf : fX1_readGround n a2 f_paths f_water f_wall t_bytes t_length t_sort t_start t_end t_value = some res) : Met l yX1_readGround wsX1_readGround ({ frames := 3, cells := 0, slots := 0, locals := 64 }) (va_Pc [.ref (ga g 4), .ref (ga g (1 + k)), .int a2] (cI g (S (t_bytes, t_length, t_sort, t_start, t_end, t_value) (f_paths, f_water, f_wall, f_kind, f_place, f_facing, f_age, f_seeds, f_season, f_z, f_spots)))) (qW (some (.int res.1)) (narrow .boolean (.int res.1) = .int res.1) g.1 (cw g (S (t_bytes, t_length, res.2.2.2.2.1, res.2.2.2.2.2.1, res.2.2.2.2.2.2.1, res.2.2.2.2.2.2.2) (res.2.1, res.2.2.1, res.2.2.2.1, f_kind, f_place, f_facing, f_age, f_seeds, f_season, f_z, f_spots))) (gA g)) 0 0 (gA g) := by
  refine Met.ofW (cc := cX1_readGround) (maxL := 3) (ret := (some .boolean)) (by decide) rfl ?_
  intro p e s m args below meth c s₁ B hml hv
  obtain ⟨rfl, hI⟩ := hv
  have hx := B.exec
  have hb := B.bytes
  have hr := B.returns
  have hts := atoms_spec (ws := wsX1_readGround) B.pre
  have hown : s.vm.findClass RX1 = some m.cls := findClass_of_methodNamed B.named
  have hlocks := B.notSynchronized
  have hP := hI.1
  have hB := hI.2
  have hK := hB.1
  have hNW := hB.2.1
  have hS : va_S (gA g) s.heap s.heap [] := va_S.rf
  have iwX5 : ∀ w ∈ wsX50, w ∈ wsX1_readGround := fun w h => List.mem_cons_of_mem _ (List.mem_append_left _ (List.mem_append_right _ h))
  have hl := lv_entry ([.ref (ga g 4), .ref (ga g (1 + k)), .int a2]) (n := 3) (Nat.le_of_ble_eq_true rfl)
  rw [lg_entry_eq]
  generalize (lg_sl ([.ref (ga g 4), .ref (ga g (1 + k)), .int a2]) ++ List.replicate (3 - (lg_sl ([.ref (ga g 4), .ref (ga g (1 + k)), .int a2])).length) Slot.unset).toArray = ls at hl ⊢
  have hl : lv_has ls 3 [(0, .ref (ga g 4)), (1, .ref (ga g (1 + k))), (2, .int a2)] := hl
  unfold fX1_readGround at hf
  refine lv_aload_n hx hb dX1_readGround_0 rfl (lv_at hl 0 rfl) ?_
  obtain ⟨q1, hq1, hf⟩ := bd_some hf
  refine kr_W (st1 := []) (va_runV (As := []) (rest := []) ⟨hx, hb, hml, hown, hts⟩ (ct_X5_next l n g (fun T => S T (f_paths, f_water, f_wall, f_kind, f_place, f_facing, f_age, f_seeds, f_season, f_z, f_spots)) (hT (f_paths, f_water, f_wall, f_kind, f_place, f_facing, f_age, f_seeds, f_season, f_z, f_spots)) t_bytes t_length t_sort t_start t_end t_value q1 hq1) (cwV 0 hts gX1_readGround_X5_next rfl rfl rfl hd_X5_next ⟨Nat.le_of_ble_eq_true rfl, Nat.le_of_ble_eq_true rfl⟩) ⟨bl_C, va_recv hK hP (ci := 3) (q0 := 4) rfl (e_tp (zT.at (hT (f_paths, f_water, f_wall, f_kind, f_place, f_facing, f_age, f_seeds, f_season, f_z, f_spots)) (t_bytes, t_length, t_sort, t_start, t_end, t_value)) (T := (t_bytes, t_length, t_sort, t_start, t_end, t_value))), pr_C rfl hB hP hS⟩ rfl rfl hl.1 rfl (lv_room (Nat.le_of_ble_eq_true rfl)) dX1_readGround_1 ⟨Nat.le_refl _, Nat.le_refl _⟩) hS rfl (fun hn2 H locs hP hS => ?_)
  have hP : va_P g.1 vwCl (cw g (S (t_bytes, t_length, q1.1, q1.2.1, q1.2.2.1, q1.2.2.2) (f_paths, f_water, f_wall, f_kind, f_place, f_facing, f_age, f_seeds, f_season, f_z, f_spots))) H := hP
  refine lv_aload_n hx hb dX1_readGround_4 rfl (lv_at hl 0 rfl) ?_
  refine lv_bipush (v := (35 : Int32)) hx hb dX1_readGround_5 (by decide) ?_
  obtain ⟨q3, hq3, hf⟩ := bd_some hf
  refine kr_S (st1 := [.int q3]) (va_runV (As := [.int (35 : Int32)]) (rest := []) ⟨hx, hb, hml, hown, hts⟩ (ct_X5_isNumber l n g (S (t_bytes, t_length, q1.1, q1.2.1, q1.2.2.1, q1.2.2.2) (f_paths, f_water, f_wall, f_kind, f_place, f_facing, f_age, f_seeds, f_season, f_z, f_spots)) t_bytes t_length q1.1 q1.2.1 q1.2.2.1 q1.2.2.2 (zT.at (hT (f_paths, f_water, f_wall, f_kind, f_place, f_facing, f_age, f_seeds, f_season, f_z, f_spots)) (t_bytes, t_length, q1.1, q1.2.1, q1.2.2.1, q1.2.2.2)) (35 : Int32) q3 hq3) (cwV 1 hts gX1_readGround_X5_isNumber rfl rfl rfl hd_X5_isNumber ⟨Nat.le_of_ble_eq_true rfl, Nat.le_of_ble_eq_true rfl⟩) ⟨bl_C, va_recv hK hP (ci := 3) (q0 := 4) rfl (e_tp (zT.at (hT (f_paths, f_water, f_wall, f_kind, f_place, f_facing, f_age, f_seeds, f_season, f_z, f_spots)) (t_bytes, t_length, q1.1, q1.2.1, q1.2.2.1, q1.2.2.2)) (T := (t_bytes, t_length, q1.1, q1.2.1, q1.2.2.1, q1.2.2.2))), pr_C rfl hB hP hS⟩ rfl rfl hl.1 rfl (lv_room (Nat.le_of_ble_eq_true rfl)) dX1_readGround_7 ⟨Nat.le_refl _, Nat.le_refl _⟩) rfl (fun hn4 => ?_)
  refine lv_if_ne (tgt := 15) hx hb dX1_readGround_10 (by decide) (fun hc5 => ?_) (fun hc5 => ?_)
  · have hf := (if_neg hc5).symm.trans hf
    refine lv_aload_n hx hb dX1_readGround_15 rfl (lv_at hl 1 rfl) ?_
    refine lv_aload_n hx hb dX1_readGround_16 rfl (lv_at hl 0 rfl) ?_
    refine va_getN (D := g.1) (ci := 3) (v := .int q1.2.2.2) (C := RX5) (T := TX5) (N := 6) hx hb hts iwX5 hown hK hP 4 (e_tp (zT.at (hT (f_paths, f_water, f_wall, f_kind, f_place, f_facing, f_age, f_seeds, f_season, f_z, f_spots)) (t_bytes, t_length, q1.1, q1.2.1, q1.2.2.1, q1.2.2.2)) (T := (t_bytes, t_length, q1.1, q1.2.1, q1.2.2.1, q1.2.2.2))) rfl 5 (by decide) (nf_X1_63 hNW) (fun _ h9 => h9) rfl dX1_readGround_17 ?_
    refine lv_iload_n hx hb dX1_readGround_20 rfl (lv_at hl 2 rfl) ?_
    obtain ⟨q6, hq6, hf⟩ := bd_some hf
    refine kr_W (st1 := []) (va_runV (As := [.int q1.2.2.2, .int a2]) (rest := []) ⟨hx, hb, hml, hown, hts⟩ (ct_X2_becomeGround l n g (fun P => S (t_bytes, t_length, q1.1, q1.2.1, q1.2.2.1, q1.2.2.2) P) k hk (hL (t_bytes, t_length, q1.1, q1.2.1, q1.2.2.1, q1.2.2.2)) f_paths f_water f_wall f_kind f_place f_facing f_age f_seeds f_season f_z f_spots q1.2.2.2 a2 q6 hq6) (cwV 2 hts gX1_readGround_X2_becomeGround rfl rfl rfl hd_X2_becomeGround ⟨Nat.le_of_ble_eq_true rfl, Nat.le_of_ble_eq_true rfl⟩) ⟨bl_C, va_recv hK hP (ci := 0) (q0 := (1 + k)) rfl (e_pk hk ((hL (t_bytes, t_length, q1.1, q1.2.1, q1.2.2.1, q1.2.2.2)).1 (f_paths, f_water, f_wall, f_kind, f_place, f_facing, f_age, f_seeds, f_season, f_z, f_spots)) (Q := (f_paths, f_water, f_wall, f_kind, f_place, f_facing, f_age, f_seeds, f_season, f_z, f_spots))), pr_C rfl hB hP hS⟩ rfl rfl hl.1 rfl (lv_room (Nat.le_of_ble_eq_true rfl)) dX1_readGround_21 ⟨Nat.le_refl _, Nat.le_refl _⟩) hS rfl (fun hn7 H locs hP hS => ?_)
    have hP : va_P g.1 vwCl (cw g (S (t_bytes, t_length, q1.1, q1.2.1, q1.2.2.1, q1.2.2.2) (q6.1, q6.2.1, q6.2.2, f_kind, f_place, f_facing, f_age, f_seeds, f_season, f_z, f_spots))) H := hP
    refine lv_aload_n hx hb dX1_readGround_24 rfl (lv_at hl 0 rfl) ?_
    obtain ⟨q8, hq8, hf⟩ := bd_some hf
    refine kr_W (st1 := []) (va_runV (As := []) (rest := []) ⟨hx, hb, hml, hown, hts⟩ (ct_X5_next l n g (fun T => S T (q6.1, q6.2.1, q6.2.2, f_kind, f_place, f_facing, f_age, f_seeds, f_season, f_z, f_spots)) (hT (q6.1, q6.2.1, q6.2.2, f_kind, f_place, f_facing, f_age, f_seeds, f_season, f_z, f_spots)) t_bytes t_length q1.1 q1.2.1 q1.2.2.1 q1.2.2.2 q8 hq8) (cwV 0 hts gX1_readGround_X5_next rfl rfl rfl hd_X5_next ⟨Nat.le_of_ble_eq_true rfl, Nat.le_of_ble_eq_true rfl⟩) ⟨bl_C, va_recv hK hP (ci := 3) (q0 := 4) rfl (e_tp (zT.at (hT (q6.1, q6.2.1, q6.2.2, f_kind, f_place, f_facing, f_age, f_seeds, f_season, f_z, f_spots)) (t_bytes, t_length, q1.1, q1.2.1, q1.2.2.1, q1.2.2.2)) (T := (t_bytes, t_length, q1.1, q1.2.1, q1.2.2.1, q1.2.2.2))), pr_C rfl hB hP hS⟩ rfl rfl hl.1 rfl (lv_room (Nat.le_of_ble_eq_true rfl)) dX1_readGround_25 ⟨Nat.le_refl _, Nat.le_refl _⟩) hS rfl (fun hn9 H locs hP hS => ?_)
    have hP : va_P g.1 vwCl (cw g (S (t_bytes, t_length, q8.1, q8.2.1, q8.2.2.1, q8.2.2.2) (q6.1, q6.2.1, q6.2.2, f_kind, f_place, f_facing, f_age, f_seeds, f_season, f_z, f_spots))) H := hP
    refine lv_iconst (v := (1 : Int32)) hx hb dX1_readGround_28 (by decide) ?_
    have hres : ((1 : Int32), q6.1, q6.2.1, q6.2.2, q8.1, q8.2.1, q8.2.2.1, q8.2.2.2) = res := (Option.some.inj hf)
    have hnr : narrow .boolean (.int (1 : Int32)) = .int (1 : Int32) := rfl
    have hP := w_eq (congrArg (fun z => cw g (S (t_bytes, t_length, z.2.2.2.2.1, z.2.2.2.2.2.1, z.2.2.2.2.2.2.1, z.2.2.2.2.2.2.2) (z.2.1, z.2.2.1, z.2.2.2.1, f_kind, f_place, f_facing, f_age, f_seeds, f_season, f_z, f_spots))) hres) hP
    exact W.zret (v := (1 : Int32)) hx hb hr hnr (fun t ht hW => ⟨congrArg (fun z => Outcome.returned (some (Value.int z.1))) hres, Eq.mp (congrArg (fun z => narrow .boolean (.int z.1) = .int z.1) hres) hnr, by rw [ht]; exact hP, hS.F ht⟩) hS.2.2 dX1_readGround_29
  · have hf := (if_pos hc5).symm.trans hf
    refine lv_iconst (v := (0 : Int32)) hx hb dX1_readGround_13 (by decide) ?_
    have hres : ((0 : Int32), f_paths, f_water, f_wall, q1.1, q1.2.1, q1.2.2.1, q1.2.2.2) = res := (Option.some.inj hf)
    have hnr : narrow .boolean (.int (0 : Int32)) = .int (0 : Int32) := rfl
    have hP := w_eq (congrArg (fun z => cw g (S (t_bytes, t_length, z.2.2.2.2.1, z.2.2.2.2.2.1, z.2.2.2.2.2.2.1, z.2.2.2.2.2.2.2) (z.2.1, z.2.2.1, z.2.2.2.1, f_kind, f_place, f_facing, f_age, f_seeds, f_season, f_z, f_spots))) hres) hP
    exact W.zret (v := (0 : Int32)) hx hb hr hnr (fun t ht hW => ⟨congrArg (fun z => Outcome.returned (some (Value.int z.1))) hres, Eq.mp (congrArg (fun z => narrow .boolean (.int z.1) = .int z.1) hres) hnr, by rw [ht]; exact hP, hS.F ht⟩) hS.2.2 dX1_readGround_14
set_option maxHeartbeats 4000000 in
set_option maxRecDepth 100000 in
theorem ct_X1_readPath (l : Launch) (n : Nat) (g : GC) (S : TP → PK → CS) (k : Nat) (hk : k < 3) (hT : ∀ P, zT (fun T => S T P)) (hL : ∀ T, zP k (fun P => S T P)) (t_bytes : Nat → Int32) (t_length : Int32) (t_sort : Int32) (t_start : Int32) (t_end : Int32) (t_value : Int32) (f_paths : Nat → Int32) (f_water : Int64) (f_wall : Int64) (f_kind : Nat → Int32) (f_place : Nat → Int32) (f_facing : Nat → Int32) (f_age : Nat → Int32) (f_seeds : Int32) (f_season : Int32) (f_z : Int32) (f_spots : Nat → Int32) (res : Int32 × (Nat → Int32) × Int32 × Int32 × Int32 × Int32) (hf : fX1_readPath n f_paths f_water f_wall t_bytes t_length t_sort t_start t_end t_value = some res) : Met l yX1_readPath wsX1_readPath ({ frames := 3, cells := 0, slots := 0, locals := 64 }) (va_Pc [.ref (ga g 4), .ref (ga g (1 + k))] (cI g (S (t_bytes, t_length, t_sort, t_start, t_end, t_value) (f_paths, f_water, f_wall, f_kind, f_place, f_facing, f_age, f_seeds, f_season, f_z, f_spots)))) (qW (some (.int res.1)) (narrow .boolean (.int res.1) = .int res.1) g.1 (cw g (S (t_bytes, t_length, res.2.2.1, res.2.2.2.1, res.2.2.2.2.1, res.2.2.2.2.2) (res.2.1, f_water, f_wall, f_kind, f_place, f_facing, f_age, f_seeds, f_season, f_z, f_spots))) (gA g)) 0 0 (gA g) := by
  refine Met.ofW (cc := cX1_readPath) (maxL := 3) (ret := (some .boolean)) (by decide) rfl ?_
  intro p e s m args below meth c s₁ B hml hv
  obtain ⟨rfl, hI⟩ := hv
  have hx := B.exec
  have hb := B.bytes
  have hr := B.returns
  have hts := atoms_spec (ws := wsX1_readPath) B.pre
  have hown : s.vm.findClass RX1 = some m.cls := findClass_of_methodNamed B.named
  have hlocks := B.notSynchronized
  have hP := hI.1
  have hB := hI.2
  have hK := hB.1
  have hNW := hB.2.1
  have hS : va_S (gA g) s.heap s.heap [] := va_S.rf
  have iwX5 : ∀ w ∈ wsX50, w ∈ wsX1_readPath := fun w h => List.mem_cons_of_mem _ (List.mem_append_left _ (List.mem_append_right _ h))
  have hl := lv_entry ([.ref (ga g 4), .ref (ga g (1 + k))]) (n := 3) (Nat.le_of_ble_eq_true rfl)
  rw [lg_entry_eq]
  generalize (lg_sl ([.ref (ga g 4), .ref (ga g (1 + k))]) ++ List.replicate (3 - (lg_sl ([.ref (ga g 4), .ref (ga g (1 + k))])).length) Slot.unset).toArray = ls at hl ⊢
  have hl : lv_has ls 3 [(0, .ref (ga g 4)), (1, .ref (ga g (1 + k)))] := hl
  unfold fX1_readPath at hf
  refine lv_aload_n hx hb dX1_readPath_0 rfl (lv_at hl 0 rfl) ?_
  obtain ⟨q1, hq1, hf⟩ := bd_some hf
  refine kr_W (st1 := []) (va_runV (As := []) (rest := []) ⟨hx, hb, hml, hown, hts⟩ (ct_X5_next l n g (fun T => S T (f_paths, f_water, f_wall, f_kind, f_place, f_facing, f_age, f_seeds, f_season, f_z, f_spots)) (hT (f_paths, f_water, f_wall, f_kind, f_place, f_facing, f_age, f_seeds, f_season, f_z, f_spots)) t_bytes t_length t_sort t_start t_end t_value q1 hq1) (cwV 0 hts gX1_readPath_X5_next rfl rfl rfl hd_X5_next ⟨Nat.le_of_ble_eq_true rfl, Nat.le_of_ble_eq_true rfl⟩) ⟨bl_C, va_recv hK hP (ci := 3) (q0 := 4) rfl (e_tp (zT.at (hT (f_paths, f_water, f_wall, f_kind, f_place, f_facing, f_age, f_seeds, f_season, f_z, f_spots)) (t_bytes, t_length, t_sort, t_start, t_end, t_value)) (T := (t_bytes, t_length, t_sort, t_start, t_end, t_value))), pr_C rfl hB hP hS⟩ rfl rfl hl.1 rfl (lv_room (Nat.le_of_ble_eq_true rfl)) dX1_readPath_1 ⟨Nat.le_refl _, Nat.le_refl _⟩) hS rfl (fun hn2 H locs hP hS => ?_)
  have hP : va_P g.1 vwCl (cw g (S (t_bytes, t_length, q1.1, q1.2.1, q1.2.2.1, q1.2.2.2) (f_paths, f_water, f_wall, f_kind, f_place, f_facing, f_age, f_seeds, f_season, f_z, f_spots))) H := hP
  refine lv_aload_n hx hb dX1_readPath_4 rfl (lv_at hl 0 rfl) ?_
  refine lv_bipush (v := (35 : Int32)) hx hb dX1_readPath_5 (by decide) ?_
  obtain ⟨q3, hq3, hf⟩ := bd_some hf
  refine kr_S (st1 := [.int q3]) (va_runV (As := [.int (35 : Int32)]) (rest := []) ⟨hx, hb, hml, hown, hts⟩ (ct_X5_isNumber l n g (S (t_bytes, t_length, q1.1, q1.2.1, q1.2.2.1, q1.2.2.2) (f_paths, f_water, f_wall, f_kind, f_place, f_facing, f_age, f_seeds, f_season, f_z, f_spots)) t_bytes t_length q1.1 q1.2.1 q1.2.2.1 q1.2.2.2 (zT.at (hT (f_paths, f_water, f_wall, f_kind, f_place, f_facing, f_age, f_seeds, f_season, f_z, f_spots)) (t_bytes, t_length, q1.1, q1.2.1, q1.2.2.1, q1.2.2.2)) (35 : Int32) q3 hq3) (cwV 1 hts gX1_readPath_X5_isNumber rfl rfl rfl hd_X5_isNumber ⟨Nat.le_of_ble_eq_true rfl, Nat.le_of_ble_eq_true rfl⟩) ⟨bl_C, va_recv hK hP (ci := 3) (q0 := 4) rfl (e_tp (zT.at (hT (f_paths, f_water, f_wall, f_kind, f_place, f_facing, f_age, f_seeds, f_season, f_z, f_spots)) (t_bytes, t_length, q1.1, q1.2.1, q1.2.2.1, q1.2.2.2)) (T := (t_bytes, t_length, q1.1, q1.2.1, q1.2.2.1, q1.2.2.2))), pr_C rfl hB hP hS⟩ rfl rfl hl.1 rfl (lv_room (Nat.le_of_ble_eq_true rfl)) dX1_readPath_7 ⟨Nat.le_refl _, Nat.le_refl _⟩) rfl (fun hn4 => ?_)
  refine lv_if_eq (tgt := 24) hx hb dX1_readPath_10 (by decide) (fun hc5 => ?_) (fun hc5 => ?_)
  · have hf := (if_pos hc5).symm.trans hf
    refine lv_iconst (v := (0 : Int32)) hx hb dX1_readPath_24 (by decide) ?_
    have hres : ((0 : Int32), f_paths, q1.1, q1.2.1, q1.2.2.1, q1.2.2.2) = res := (Option.some.inj hf)
    have hnr : narrow .boolean (.int (0 : Int32)) = .int (0 : Int32) := rfl
    have hP := w_eq (congrArg (fun z => cw g (S (t_bytes, t_length, z.2.2.1, z.2.2.2.1, z.2.2.2.2.1, z.2.2.2.2.2) (z.2.1, f_water, f_wall, f_kind, f_place, f_facing, f_age, f_seeds, f_season, f_z, f_spots))) hres) hP
    exact W.zret (v := (0 : Int32)) hx hb hr hnr (fun t ht hW => ⟨congrArg (fun z => Outcome.returned (some (Value.int z.1))) hres, Eq.mp (congrArg (fun z => narrow .boolean (.int z.1) = .int z.1) hres) hnr, by rw [ht]; exact hP, hS.F ht⟩) hS.2.2 dX1_readPath_25
  · have hf := (if_neg hc5).symm.trans hf
    refine lv_aload_n hx hb dX1_readPath_13 rfl (lv_at hl 1 rfl) ?_
    refine lv_aload_n hx hb dX1_readPath_14 rfl (lv_at hl 0 rfl) ?_
    refine va_getN (D := g.1) (ci := 3) (v := .int q1.2.2.2) (C := RX5) (T := TX5) (N := 6) hx hb hts iwX5 hown hK hP 4 (e_tp (zT.at (hT (f_paths, f_water, f_wall, f_kind, f_place, f_facing, f_age, f_seeds, f_season, f_z, f_spots)) (t_bytes, t_length, q1.1, q1.2.1, q1.2.2.1, q1.2.2.2)) (T := (t_bytes, t_length, q1.1, q1.2.1, q1.2.2.1, q1.2.2.2))) rfl 5 (by decide) (nf_X1_63 hNW) (fun _ h9 => h9) rfl dX1_readPath_15 ?_
    obtain ⟨q6, hq6, hf⟩ := bd_some hf
    refine kr_S (st1 := [.int q6]) (va_runV (As := [.int q1.2.2.2]) (rest := []) ⟨hx, hb, hml, hown, hts⟩ (ct_X2_isGrass l n g (S (t_bytes, t_length, q1.1, q1.2.1, q1.2.2.1, q1.2.2.2) (f_paths, f_water, f_wall, f_kind, f_place, f_facing, f_age, f_seeds, f_season, f_z, f_spots)) k hk f_paths f_water f_wall f_kind f_place f_facing f_age f_seeds f_season f_z f_spots ((hL (t_bytes, t_length, q1.1, q1.2.1, q1.2.2.1, q1.2.2.2)).1 (f_paths, f_water, f_wall, f_kind, f_place, f_facing, f_age, f_seeds, f_season, f_z, f_spots)) q1.2.2.2 q6 hq6) (cwV 1 hts gX1_readPath_X2_isGrass rfl rfl rfl hd_X2_isGrass ⟨Nat.le_of_ble_eq_true rfl, Nat.le_of_ble_eq_true rfl⟩) ⟨bl_C, va_recv hK hP (ci := 0) (q0 := (1 + k)) rfl (e_pk hk ((hL (t_bytes, t_length, q1.1, q1.2.1, q1.2.2.1, q1.2.2.2)).1 (f_paths, f_water, f_wall, f_kind, f_place, f_facing, f_age, f_seeds, f_season, f_z, f_spots)) (Q := (f_paths, f_water, f_wall, f_kind, f_place, f_facing, f_age, f_seeds, f_season, f_z, f_spots))), pr_C rfl hB hP hS⟩ rfl rfl hl.1 rfl (lv_room (Nat.le_of_ble_eq_true rfl)) dX1_readPath_18 ⟨Nat.le_refl _, Nat.le_refl _⟩) rfl (fun hn7 => ?_)
    refine lv_if_ne (tgt := 26) hx hb dX1_readPath_21 (by decide) (fun hc8 => ?_) (fun hc8 => ?_)
    · have hf := (if_neg hc8).symm.trans hf
      refine lv_aload_n hx hb dX1_readPath_26 rfl (lv_at hl 0 rfl) ?_
      refine va_getN (D := g.1) (ci := 3) (v := .int q1.2.2.2) (C := RX5) (T := TX5) (N := 6) hx hb hts iwX5 hown hK hP 4 (e_tp (zT.at (hT (f_paths, f_water, f_wall, f_kind, f_place, f_facing, f_age, f_seeds, f_season, f_z, f_spots)) (t_bytes, t_length, q1.1, q1.2.1, q1.2.2.1, q1.2.2.2)) (T := (t_bytes, t_length, q1.1, q1.2.1, q1.2.2.1, q1.2.2.2))) rfl 5 (by decide) (nf_X1_63 hNW) (fun _ h9 => h9) rfl dX1_readPath_27 ?_
      refine lv_istore_n (lv' := [(2, .int q1.2.2.2), (0, .ref (ga g 4)), (1, .ref (ga g (1 + k)))]) hx hb dX1_readPath_30 rfl hl (by decide) rfl (fun ls hl => ?_)
      refine lv_aload_n hx hb dX1_readPath_31 rfl (lv_at hl 1 rfl) ?_
      obtain ⟨q9, hq9, hf⟩ := bd_some hf
      refine kr_W (st1 := []) (va_runV (As := []) (rest := []) ⟨hx, hb, hml, hown, hts⟩ (ct_X5_next l n g (fun T => S T (f_paths, f_water, f_wall, f_kind, f_place, f_facing, f_age, f_seeds, f_season, f_z, f_spots)) (hT (f_paths, f_water, f_wall, f_kind, f_place, f_facing, f_age, f_seeds, f_season, f_z, f_spots)) t_bytes t_length q1.1 q1.2.1 q1.2.2.1 q1.2.2.2 q9 hq9) (cwV 0 hts gX1_readPath_X5_next rfl rfl rfl hd_X5_next ⟨Nat.le_of_ble_eq_true rfl, Nat.le_of_ble_eq_true rfl⟩) ⟨bl_C, va_recv hK hP (ci := 3) (q0 := 4) rfl (e_tp (zT.at (hT (f_paths, f_water, f_wall, f_kind, f_place, f_facing, f_age, f_seeds, f_season, f_z, f_spots)) (t_bytes, t_length, q1.1, q1.2.1, q1.2.2.1, q1.2.2.2)) (T := (t_bytes, t_length, q1.1, q1.2.1, q1.2.2.1, q1.2.2.2))), pr_C rfl hB hP hS⟩ rfl rfl hl.1 rfl (lv_room (Nat.le_of_ble_eq_true rfl)) dX1_readPath_32 ⟨Nat.le_refl _, Nat.le_refl _⟩) hS rfl (fun hn10 H locs hP hS => ?_)
      have hP : va_P g.1 vwCl (cw g (S (t_bytes, t_length, q9.1, q9.2.1, q9.2.2.1, q9.2.2.2) (f_paths, f_water, f_wall, f_kind, f_place, f_facing, f_age, f_seeds, f_season, f_z, f_spots))) H := hP
      refine lv_aload_n hx hb dX1_readPath_35 rfl (lv_at hl 1 rfl) ?_
      refine lv_bipush (v := (99 : Int32)) hx hb dX1_readPath_36 (by decide) ?_
      obtain ⟨q11, hq11, hf⟩ := bd_some hf
      refine kr_S (st1 := [.int q11]) (va_runV (As := [.int (99 : Int32)]) (rest := []) ⟨hx, hb, hml, hown, hts⟩ (ct_X5_isNumber l n g (S (t_bytes, t_length, q9.1, q9.2.1, q9.2.2.1, q9.2.2.2) (f_paths, f_water, f_wall, f_kind, f_place, f_facing, f_age, f_seeds, f_season, f_z, f_spots)) t_bytes t_length q9.1 q9.2.1 q9.2.2.1 q9.2.2.2 (zT.at (hT (f_paths, f_water, f_wall, f_kind, f_place, f_facing, f_age, f_seeds, f_season, f_z, f_spots)) (t_bytes, t_length, q9.1, q9.2.1, q9.2.2.1, q9.2.2.2)) (99 : Int32) q11 hq11) (cwV 1 hts gX1_readPath_X5_isNumber rfl rfl rfl hd_X5_isNumber ⟨Nat.le_of_ble_eq_true rfl, Nat.le_of_ble_eq_true rfl⟩) ⟨bl_C, va_recv hK hP (ci := 3) (q0 := 4) rfl (e_tp (zT.at (hT (f_paths, f_water, f_wall, f_kind, f_place, f_facing, f_age, f_seeds, f_season, f_z, f_spots)) (t_bytes, t_length, q9.1, q9.2.1, q9.2.2.1, q9.2.2.2)) (T := (t_bytes, t_length, q9.1, q9.2.1, q9.2.2.1, q9.2.2.2))), pr_C rfl hB hP hS⟩ rfl rfl hl.1 rfl (lv_room (Nat.le_of_ble_eq_true rfl)) dX1_readPath_38 ⟨Nat.le_refl _, Nat.le_refl _⟩) rfl (fun hn12 => ?_)
      refine lv_if_ne (tgt := 46) hx hb dX1_readPath_41 (by decide) (fun hc13 => ?_) (fun hc13 => ?_)
      · have hf := (if_neg hc13).symm.trans hf
        refine lv_aload_n hx hb dX1_readPath_46 rfl (lv_at hl 2 rfl) ?_
        refine lv_iload_n hx hb dX1_readPath_47 rfl (lv_at hl 0 rfl) ?_
        refine lv_aload_n hx hb dX1_readPath_48 rfl (lv_at hl 1 rfl) ?_
        refine va_getN (D := g.1) (ci := 3) (v := .int q9.2.2.2) (C := RX5) (T := TX5) (N := 6) hx hb hts iwX5 hown hK hP 4 (e_tp (zT.at (hT (f_paths, f_water, f_wall, f_kind, f_place, f_facing, f_age, f_seeds, f_season, f_z, f_spots)) (t_bytes, t_length, q9.1, q9.2.1, q9.2.2.1, q9.2.2.2)) (T := (t_bytes, t_length, q9.1, q9.2.1, q9.2.2.1, q9.2.2.2))) rfl 5 (by decide) (nf_X1_63 hNW) (fun _ h9 => h9) rfl dX1_readPath_49 ?_
        obtain ⟨q14, hq14, hf⟩ := bd_some hf
        refine kr_W (st1 := []) (va_runV (As := [.int q1.2.2.2, .int q9.2.2.2]) (rest := []) ⟨hx, hb, hml, hown, hts⟩ (ct_X2_becomePath l n g (fun P => S (t_bytes, t_length, q9.1, q9.2.1, q9.2.2.1, q9.2.2.2) P) k hk (hL (t_bytes, t_length, q9.1, q9.2.1, q9.2.2.1, q9.2.2.2)) f_paths f_water f_wall f_kind f_place f_facing f_age f_seeds f_season f_z f_spots q1.2.2.2 q9.2.2.2 q14 hq14) (cwV 2 hts gX1_readPath_X2_becomePath rfl rfl rfl hd_X2_becomePath ⟨Nat.le_of_ble_eq_true rfl, Nat.le_of_ble_eq_true rfl⟩) ⟨bl_C, va_recv hK hP (ci := 0) (q0 := (1 + k)) rfl (e_pk hk ((hL (t_bytes, t_length, q9.1, q9.2.1, q9.2.2.1, q9.2.2.2)).1 (f_paths, f_water, f_wall, f_kind, f_place, f_facing, f_age, f_seeds, f_season, f_z, f_spots)) (Q := (f_paths, f_water, f_wall, f_kind, f_place, f_facing, f_age, f_seeds, f_season, f_z, f_spots))), pr_C rfl hB hP hS⟩ rfl rfl hl.1 rfl (lv_room (Nat.le_of_ble_eq_true rfl)) dX1_readPath_52 ⟨Nat.le_refl _, Nat.le_refl _⟩) hS rfl (fun hn15 H locs hP hS => ?_)
        have hP : va_P g.1 vwCl (cw g (S (t_bytes, t_length, q9.1, q9.2.1, q9.2.2.1, q9.2.2.2) (q14, f_water, f_wall, f_kind, f_place, f_facing, f_age, f_seeds, f_season, f_z, f_spots))) H := hP
        refine lv_aload_n hx hb dX1_readPath_55 rfl (lv_at hl 1 rfl) ?_
        obtain ⟨q16, hq16, hf⟩ := bd_some hf
        refine kr_W (st1 := []) (va_runV (As := []) (rest := []) ⟨hx, hb, hml, hown, hts⟩ (ct_X5_next l n g (fun T => S T (q14, f_water, f_wall, f_kind, f_place, f_facing, f_age, f_seeds, f_season, f_z, f_spots)) (hT (q14, f_water, f_wall, f_kind, f_place, f_facing, f_age, f_seeds, f_season, f_z, f_spots)) t_bytes t_length q9.1 q9.2.1 q9.2.2.1 q9.2.2.2 q16 hq16) (cwV 0 hts gX1_readPath_X5_next rfl rfl rfl hd_X5_next ⟨Nat.le_of_ble_eq_true rfl, Nat.le_of_ble_eq_true rfl⟩) ⟨bl_C, va_recv hK hP (ci := 3) (q0 := 4) rfl (e_tp (zT.at (hT (q14, f_water, f_wall, f_kind, f_place, f_facing, f_age, f_seeds, f_season, f_z, f_spots)) (t_bytes, t_length, q9.1, q9.2.1, q9.2.2.1, q9.2.2.2)) (T := (t_bytes, t_length, q9.1, q9.2.1, q9.2.2.1, q9.2.2.2))), pr_C rfl hB hP hS⟩ rfl rfl hl.1 rfl (lv_room (Nat.le_of_ble_eq_true rfl)) dX1_readPath_56 ⟨Nat.le_refl _, Nat.le_refl _⟩) hS rfl (fun hn17 H locs hP hS => ?_)
        have hP : va_P g.1 vwCl (cw g (S (t_bytes, t_length, q16.1, q16.2.1, q16.2.2.1, q16.2.2.2) (q14, f_water, f_wall, f_kind, f_place, f_facing, f_age, f_seeds, f_season, f_z, f_spots))) H := hP
        refine lv_iconst (v := (1 : Int32)) hx hb dX1_readPath_59 (by decide) ?_
        have hres : ((1 : Int32), q14, q16.1, q16.2.1, q16.2.2.1, q16.2.2.2) = res := (Option.some.inj hf)
        have hnr : narrow .boolean (.int (1 : Int32)) = .int (1 : Int32) := rfl
        have hP := w_eq (congrArg (fun z => cw g (S (t_bytes, t_length, z.2.2.1, z.2.2.2.1, z.2.2.2.2.1, z.2.2.2.2.2) (z.2.1, f_water, f_wall, f_kind, f_place, f_facing, f_age, f_seeds, f_season, f_z, f_spots))) hres) hP
        exact W.zret (v := (1 : Int32)) hx hb hr hnr (fun t ht hW => ⟨congrArg (fun z => Outcome.returned (some (Value.int z.1))) hres, Eq.mp (congrArg (fun z => narrow .boolean (.int z.1) = .int z.1) hres) hnr, by rw [ht]; exact hP, hS.F ht⟩) hS.2.2 dX1_readPath_60
      · have hf := (if_pos hc13).symm.trans hf
        refine lv_iconst (v := (0 : Int32)) hx hb dX1_readPath_44 (by decide) ?_
        have hres : ((0 : Int32), f_paths, q9.1, q9.2.1, q9.2.2.1, q9.2.2.2) = res := (Option.some.inj hf)
        have hnr : narrow .boolean (.int (0 : Int32)) = .int (0 : Int32) := rfl
        have hP := w_eq (congrArg (fun z => cw g (S (t_bytes, t_length, z.2.2.1, z.2.2.2.1, z.2.2.2.2.1, z.2.2.2.2.2) (z.2.1, f_water, f_wall, f_kind, f_place, f_facing, f_age, f_seeds, f_season, f_z, f_spots))) hres) hP
        exact W.zret (v := (0 : Int32)) hx hb hr hnr (fun t ht hW => ⟨congrArg (fun z => Outcome.returned (some (Value.int z.1))) hres, Eq.mp (congrArg (fun z => narrow .boolean (.int z.1) = .int z.1) hres) hnr, by rw [ht]; exact hP, hS.F ht⟩) hS.2.2 dX1_readPath_45
    · have hf := (if_pos hc8).symm.trans hf
      refine lv_iconst (v := (0 : Int32)) hx hb dX1_readPath_24 (by decide) ?_
      have hres : ((0 : Int32), f_paths, q1.1, q1.2.1, q1.2.2.1, q1.2.2.2) = res := (Option.some.inj hf)
      have hnr : narrow .boolean (.int (0 : Int32)) = .int (0 : Int32) := rfl
      have hP := w_eq (congrArg (fun z => cw g (S (t_bytes, t_length, z.2.2.1, z.2.2.2.1, z.2.2.2.2.1, z.2.2.2.2.2) (z.2.1, f_water, f_wall, f_kind, f_place, f_facing, f_age, f_seeds, f_season, f_z, f_spots))) hres) hP
      exact W.zret (v := (0 : Int32)) hx hb hr hnr (fun t ht hW => ⟨congrArg (fun z => Outcome.returned (some (Value.int z.1))) hres, Eq.mp (congrArg (fun z => narrow .boolean (.int z.1) = .int z.1) hres) hnr, by rw [ht]; exact hP, hS.F ht⟩) hS.2.2 dX1_readPath_25
set_option maxHeartbeats 4000000 in
set_option maxRecDepth 100000 in
theorem ct_X1_readItem (l : Launch) (n : Nat) (g : GC) (S : TP → PK → CS) (k : Nat) (hk : k < 3) (hT : ∀ P, zT (fun T => S T P)) (hL : ∀ T, zP k (fun P => S T P)) (t_bytes : Nat → Int32) (t_length : Int32) (t_sort : Int32) (t_start : Int32) (t_end : Int32) (t_value : Int32) (f_paths : Nat → Int32) (f_water : Int64) (f_wall : Int64) (f_kind : Nat → Int32) (f_place : Nat → Int32) (f_facing : Nat → Int32) (f_age : Nat → Int32) (f_seeds : Int32) (f_season : Int32) (f_z : Int32) (f_spots : Nat → Int32) (res : Int32 × (Nat → Int32) × Int64 × Int64 × (Nat → Int32) × (Nat → Int32) × (Nat → Int32) × (Nat → Int32) × Int32 × Int32 × Int32 × Int32 × Int32) (hf : fX1_readItem n f_paths f_water f_wall f_kind f_place f_facing f_age f_seeds t_bytes t_length t_sort t_start t_end t_value = some res) : Met l yX1_readItem wsX1_readItem ({ frames := 8, cells := 0, slots := 0, locals := 209 }) (va_Pc [.ref (ga g 4), .ref (ga g (1 + k))] (cI g (S (t_bytes, t_length, t_sort, t_start, t_end, t_value) (f_paths, f_water, f_wall, f_kind, f_place, f_facing, f_age, f_seeds, f_season, f_z, f_spots)))) (qW (some (.int res.1)) (narrow .boolean (.int res.1) = .int res.1) g.1 (cw g (S (t_bytes, t_length, res.2.2.2.2.2.2.2.2.2.1, res.2.2.2.2.2.2.2.2.2.2.1, res.2.2.2.2.2.2.2.2.2.2.2.1, res.2.2.2.2.2.2.2.2.2.2.2.2) (res.2.1, res.2.2.1, res.2.2.2.1, res.2.2.2.2.1, res.2.2.2.2.2.1, res.2.2.2.2.2.2.1, res.2.2.2.2.2.2.2.1, res.2.2.2.2.2.2.2.2.1, f_season, f_z, f_spots))) (gA g)) 0 0 (gA g) := by
  refine Met.ofW (cc := cX1_readItem) (maxL := 4) (ret := (some .boolean)) (by decide) rfl ?_
  intro p e s m args below meth c s₁ B hml hv
  obtain ⟨rfl, hI⟩ := hv
  have hx := B.exec
  have hb := B.bytes
  have hr := B.returns
  have hts := atoms_spec (ws := wsX1_readItem) B.pre
  have hown : s.vm.findClass RX1 = some m.cls := findClass_of_methodNamed B.named
  have hlocks := B.notSynchronized
  have hP := hI.1
  have hB := hI.2
  have hK := hB.1
  have hNW := hB.2.1
  have hS : va_S (gA g) s.heap s.heap [] := va_S.rf
  have hl := lv_entry ([.ref (ga g 4), .ref (ga g (1 + k))]) (n := 4) (Nat.le_of_ble_eq_true rfl)
  rw [lg_entry_eq]
  generalize (lg_sl ([.ref (ga g 4), .ref (ga g (1 + k))]) ++ List.replicate (4 - (lg_sl ([.ref (ga g 4), .ref (ga g (1 + k))])).length) Slot.unset).toArray = ls at hl ⊢
  have hl : lv_has ls 4 [(0, .ref (ga g 4)), (1, .ref (ga g (1 + k)))] := hl
  unfold fX1_readItem at hf
  refine lv_aload_n hx hb dX1_readItem_0 rfl (lv_at hl 0 rfl) ?_
  obtain ⟨q1, hq1, hf⟩ := bd_some hf
  refine kr_S (st1 := [.int q1]) (va_runS (As := [.ref (ga g 4)]) (rest := []) ⟨hx, hb, hml, hown, hts⟩ (ct_X1_kindOf l n g (S (t_bytes, t_length, t_sort, t_start, t_end, t_value) (f_paths, f_water, f_wall, f_kind, f_place, f_facing, f_age, f_seeds, f_season, f_z, f_spots)) t_bytes t_length t_sort t_start t_end t_value (zT.at (hT (f_paths, f_water, f_wall, f_kind, f_place, f_facing, f_age, f_seeds, f_season, f_z, f_spots)) (t_bytes, t_length, t_sort, t_start, t_end, t_value)) q1 hq1) (va_cwS 1 hts gX1_readItem_X1_kindOf rfl rfl rfl hn_X1_kindOf ⟨Nat.le_of_ble_eq_true rfl, Nat.le_of_ble_eq_true rfl⟩) ⟨bl_C, pr_C rfl hB hP hS⟩ rfl rfl hl.1 rfl (lv_room (Nat.le_of_ble_eq_true rfl)) dX1_readItem_1 ⟨Nat.le_refl _, Nat.le_refl _⟩) rfl (fun hn2 => ?_)
  refine lv_istore_n (lv' := [(2, .int q1), (0, .ref (ga g 4)), (1, .ref (ga g (1 + k)))]) hx hb dX1_readItem_4 rfl hl (by decide) rfl (fun ls hl => ?_)
  refine lv_iload_n hx hb dX1_readItem_5 rfl (lv_at hl 0 rfl) ?_
  refine lv_if_lt (tgt := 16) hx hb dX1_readItem_6 (by decide) (fun hc3 => ?_) (fun hc3 => ?_)
  · have hf := (if_pos hc3).symm.trans hf
    refine lv_aload_n hx hb dX1_readItem_16 rfl (lv_at hl 1 rfl) ?_
    obtain ⟨q4, hq4, hf⟩ := bd_some hf
    refine kr_S (st1 := [.int q4]) (va_runS (As := [.ref (ga g 4)]) (rest := []) ⟨hx, hb, hml, hown, hts⟩ (ct_X1_groundOf l n g (S (t_bytes, t_length, t_sort, t_start, t_end, t_value) (f_paths, f_water, f_wall, f_kind, f_place, f_facing, f_age, f_seeds, f_season, f_z, f_spots)) t_bytes t_length t_sort t_start t_end t_value (zT.at (hT (f_paths, f_water, f_wall, f_kind, f_place, f_facing, f_age, f_seeds, f_season, f_z, f_spots)) (t_bytes, t_length, t_sort, t_start, t_end, t_value)) q4 hq4) (va_cwS 1 hts gX1_readItem_X1_groundOf rfl rfl rfl hn_X1_groundOf ⟨Nat.le_of_ble_eq_true rfl, Nat.le_of_ble_eq_true rfl⟩) ⟨bl_C, pr_C rfl hB hP hS⟩ rfl rfl hl.1 rfl (lv_room (Nat.le_of_ble_eq_true rfl)) dX1_readItem_17 ⟨Nat.le_refl _, Nat.le_refl _⟩) rfl (fun hn5 => ?_)
    refine lv_istore_n (lv' := [(3, .int q4), (2, .int q1), (0, .ref (ga g 4)), (1, .ref (ga g (1 + k)))]) hx hb dX1_readItem_20 rfl hl (by decide) rfl (fun ls hl => ?_)
    refine lv_iload_n hx hb dX1_readItem_21 rfl (lv_at hl 0 rfl) ?_
    refine lv_if_lt (tgt := 32) hx hb dX1_readItem_22 (by decide) (fun hc6 => ?_) (fun hc6 => ?_)
    · have hf := (if_pos hc6).symm.trans hf
      refine lv_aload_n hx hb dX1_readItem_32 rfl (lv_at hl 2 rfl) ?_
      refine va_ldcS hx hb hown (q := gK g 14) (hB.2.2.2.1 ("SownPaths$Grammar", 44, "path", 14) (by decide +kernel)) dX1_readItem_33 ?_
      obtain ⟨q7, hq7, hf⟩ := bd_some hf
      refine kr_S (st1 := [.int q7]) (va_runV (As := [.ref (gK g 14)]) (rest := []) ⟨hx, hb, hml, hown, hts⟩ (ct_X5_isWord l n g (S (t_bytes, t_length, t_sort, t_start, t_end, t_value) (f_paths, f_water, f_wall, f_kind, f_place, f_facing, f_age, f_seeds, f_season, f_z, f_spots)) t_bytes t_length t_sort t_start t_end t_value (zT.at (hT (f_paths, f_water, f_wall, f_kind, f_place, f_facing, f_age, f_seeds, f_season, f_z, f_spots)) (t_bytes, t_length, t_sort, t_start, t_end, t_value)) 14 (by decide) q7 hq7) (cwV 1 hts gX1_readItem_X5_isWord rfl rfl rfl hd_X5_isWord ⟨Nat.le_of_ble_eq_true rfl, Nat.le_of_ble_eq_true rfl⟩) ⟨bl_C, va_recv hK hP (ci := 3) (q0 := 4) rfl (e_tp (zT.at (hT (f_paths, f_water, f_wall, f_kind, f_place, f_facing, f_age, f_seeds, f_season, f_z, f_spots)) (t_bytes, t_length, t_sort, t_start, t_end, t_value)) (T := (t_bytes, t_length, t_sort, t_start, t_end, t_value))), pr_C rfl hB hP hS⟩ rfl rfl hl.1 rfl (lv_room (Nat.le_of_ble_eq_true rfl)) dX1_readItem_35 ⟨Nat.le_refl _, Nat.le_refl _⟩) rfl (fun hn8 => ?_)
      refine lv_if_eq (tgt := 53) hx hb dX1_readItem_38 (by decide) (fun hc9 => ?_) (fun hc9 => ?_)
      · have hf := (if_pos hc9).symm.trans hf
        refine lv_iconst (v := (0 : Int32)) hx hb dX1_readItem_53 (by decide) ?_
        have hres : ((0 : Int32), f_paths, f_water, f_wall, f_kind, f_place, f_facing, f_age, f_seeds, t_sort, t_start, t_end, t_value) = res := (Option.some.inj hf)
        have hnr : narrow .boolean (.int (0 : Int32)) = .int (0 : Int32) := rfl
        have hP := w_eq (congrArg (fun z => cw g (S (t_bytes, t_length, z.2.2.2.2.2.2.2.2.2.1, z.2.2.2.2.2.2.2.2.2.2.1, z.2.2.2.2.2.2.2.2.2.2.2.1, z.2.2.2.2.2.2.2.2.2.2.2.2) (z.2.1, z.2.2.1, z.2.2.2.1, z.2.2.2.2.1, z.2.2.2.2.2.1, z.2.2.2.2.2.2.1, z.2.2.2.2.2.2.2.1, z.2.2.2.2.2.2.2.2.1, f_season, f_z, f_spots))) hres) hP
        exact W.zret (v := (0 : Int32)) hx hb hr hnr (fun t ht hW => ⟨congrArg (fun z => Outcome.returned (some (Value.int z.1))) hres, Eq.mp (congrArg (fun z => narrow .boolean (.int z.1) = .int z.1) hres) hnr, by rw [ht]; exact hP, hS.F ht⟩) hS.2.2 dX1_readItem_54
      · have hf := (if_neg hc9).symm.trans hf
        refine lv_aload_n hx hb dX1_readItem_41 rfl (lv_at hl 2 rfl) ?_
        refine lv_aload_n hx hb dX1_readItem_42 rfl (lv_at hl 3 rfl) ?_
        obtain ⟨q10, hq10, hf⟩ := bd_some hf
        refine kr_W (st1 := [.int q10.1]) (va_runS (As := [.ref (ga g 4), .ref (ga g (1 + k))]) (rest := []) ⟨hx, hb, hml, hown, hts⟩ (ct_X1_readPath l n g S k hk hT hL t_bytes t_length t_sort t_start t_end t_value f_paths f_water f_wall f_kind f_place f_facing f_age f_seeds f_season f_z f_spots q10 hq10) (va_cwS 2 hts gX1_readItem_X1_readPath rfl rfl rfl hn_X1_readPath ⟨Nat.le_of_ble_eq_true rfl, Nat.le_of_ble_eq_true rfl⟩) ⟨bl_C, pr_C rfl hB hP hS⟩ rfl rfl hl.1 rfl (lv_room (Nat.le_of_ble_eq_true rfl)) dX1_readItem_43 ⟨Nat.le_refl _, Nat.le_refl _⟩) hS rfl (fun hn11 H locs hP hS => ?_)
        have hP : va_P g.1 vwCl (cw g (S (t_bytes, t_length, q10.2.2.1, q10.2.2.2.1, q10.2.2.2.2.1, q10.2.2.2.2.2) (q10.2.1, f_water, f_wall, f_kind, f_place, f_facing, f_age, f_seeds, f_season, f_z, f_spots))) H := hP
        refine lv_if_eq (tgt := 53) hx hb dX1_readItem_46 (by decide) (fun hc12 => ?_) (fun hc12 => ?_)
        · have hf := (if_pos hc12).symm.trans hf
          refine lv_iconst (v := (0 : Int32)) hx hb dX1_readItem_53 (by decide) ?_
          have hres : ((0 : Int32), q10.2.1, f_water, f_wall, f_kind, f_place, f_facing, f_age, f_seeds, q10.2.2.1, q10.2.2.2.1, q10.2.2.2.2.1, q10.2.2.2.2.2) = res := (Option.some.inj hf)
          have hnr : narrow .boolean (.int (0 : Int32)) = .int (0 : Int32) := rfl
          have hP := w_eq (congrArg (fun z => cw g (S (t_bytes, t_length, z.2.2.2.2.2.2.2.2.2.1, z.2.2.2.2.2.2.2.2.2.2.1, z.2.2.2.2.2.2.2.2.2.2.2.1, z.2.2.2.2.2.2.2.2.2.2.2.2) (z.2.1, z.2.2.1, z.2.2.2.1, z.2.2.2.2.1, z.2.2.2.2.2.1, z.2.2.2.2.2.2.1, z.2.2.2.2.2.2.2.1, z.2.2.2.2.2.2.2.2.1, f_season, f_z, f_spots))) hres) hP
          exact W.zret (v := (0 : Int32)) hx hb hr hnr (fun t ht hW => ⟨congrArg (fun z => Outcome.returned (some (Value.int z.1))) hres, Eq.mp (congrArg (fun z => narrow .boolean (.int z.1) = .int z.1) hres) hnr, by rw [ht]; exact hP, hS.F ht⟩) hS.2.2 dX1_readItem_54
        · have hf := (if_neg hc12).symm.trans hf
          refine lv_iconst (v := (1 : Int32)) hx hb dX1_readItem_49 (by decide) ?_
          refine lv_goto (tgt := 54) hx hb dX1_readItem_50 (by decide) ?_
          have hres : ((1 : Int32), q10.2.1, f_water, f_wall, f_kind, f_place, f_facing, f_age, f_seeds, q10.2.2.1, q10.2.2.2.1, q10.2.2.2.2.1, q10.2.2.2.2.2) = res := (Option.some.inj hf)
          have hnr : narrow .boolean (.int (1 : Int32)) = .int (1 : Int32) := rfl
          have hP := w_eq (congrArg (fun z => cw g (S (t_bytes, t_length, z.2.2.2.2.2.2.2.2.2.1, z.2.2.2.2.2.2.2.2.2.2.1, z.2.2.2.2.2.2.2.2.2.2.2.1, z.2.2.2.2.2.2.2.2.2.2.2.2) (z.2.1, z.2.2.1, z.2.2.2.1, z.2.2.2.2.1, z.2.2.2.2.2.1, z.2.2.2.2.2.2.1, z.2.2.2.2.2.2.2.1, z.2.2.2.2.2.2.2.2.1, f_season, f_z, f_spots))) hres) hP
          exact W.zret (v := (1 : Int32)) hx hb hr hnr (fun t ht hW => ⟨congrArg (fun z => Outcome.returned (some (Value.int z.1))) hres, Eq.mp (congrArg (fun z => narrow .boolean (.int z.1) = .int z.1) hres) hnr, by rw [ht]; exact hP, hS.F ht⟩) hS.2.2 dX1_readItem_54
    · have hf := (if_neg hc6).symm.trans hf
      refine lv_aload_n hx hb dX1_readItem_25 rfl (lv_at hl 2 rfl) ?_
      refine lv_aload_n hx hb dX1_readItem_26 rfl (lv_at hl 3 rfl) ?_
      refine lv_iload_n hx hb dX1_readItem_27 rfl (lv_at hl 0 rfl) ?_
      obtain ⟨q13, hq13, hf⟩ := bd_some hf
      refine kr_W (st1 := [.int q13.1]) (va_runS (As := [.ref (ga g 4), .ref (ga g (1 + k)), .int q4]) (rest := []) ⟨hx, hb, hml, hown, hts⟩ (ct_X1_readGround l n g S k hk hT hL t_bytes t_length t_sort t_start t_end t_value f_paths f_water f_wall f_kind f_place f_facing f_age f_seeds f_season f_z f_spots q4 q13 hq13) (va_cwS 3 hts gX1_readItem_X1_readGround rfl rfl rfl hn_X1_readGround ⟨Nat.le_of_ble_eq_true rfl, Nat.le_of_ble_eq_true rfl⟩) ⟨bl_C, pr_C rfl hB hP hS⟩ rfl rfl hl.1 rfl (lv_room (Nat.le_of_ble_eq_true rfl)) dX1_readItem_28 ⟨Nat.le_refl _, Nat.le_refl _⟩) hS rfl (fun hn14 H locs hP hS => ?_)
      have hP : va_P g.1 vwCl (cw g (S (t_bytes, t_length, q13.2.2.2.2.1, q13.2.2.2.2.2.1, q13.2.2.2.2.2.2.1, q13.2.2.2.2.2.2.2) (q13.2.1, q13.2.2.1, q13.2.2.2.1, f_kind, f_place, f_facing, f_age, f_seeds, f_season, f_z, f_spots))) H := hP
      have hres : (q13.1, q13.2.1, q13.2.2.1, q13.2.2.2.1, f_kind, f_place, f_facing, f_age, f_seeds, q13.2.2.2.2.1, q13.2.2.2.2.2.1, q13.2.2.2.2.2.2.1, q13.2.2.2.2.2.2.2) = res := (Option.some.inj hf)
      have hnr : narrow .boolean (.int q13.1) = .int q13.1 := hn14
      have hP := w_eq (congrArg (fun z => cw g (S (t_bytes, t_length, z.2.2.2.2.2.2.2.2.2.1, z.2.2.2.2.2.2.2.2.2.2.1, z.2.2.2.2.2.2.2.2.2.2.2.1, z.2.2.2.2.2.2.2.2.2.2.2.2) (z.2.1, z.2.2.1, z.2.2.2.1, z.2.2.2.2.1, z.2.2.2.2.2.1, z.2.2.2.2.2.2.1, z.2.2.2.2.2.2.2.1, z.2.2.2.2.2.2.2.2.1, f_season, f_z, f_spots))) hres) hP
      exact W.zret (v := q13.1) hx hb hr hnr (fun t ht hW => ⟨congrArg (fun z => Outcome.returned (some (Value.int z.1))) hres, Eq.mp (congrArg (fun z => narrow .boolean (.int z.1) = .int z.1) hres) hnr, by rw [ht]; exact hP, hS.F ht⟩) hS.2.2 dX1_readItem_31
  · have hf := (if_neg hc3).symm.trans hf
    refine lv_aload_n hx hb dX1_readItem_9 rfl (lv_at hl 1 rfl) ?_
    refine lv_aload_n hx hb dX1_readItem_10 rfl (lv_at hl 2 rfl) ?_
    refine lv_iload_n hx hb dX1_readItem_11 rfl (lv_at hl 0 rfl) ?_
    obtain ⟨q15, hq15, hf⟩ := bd_some hf
    refine kr_W (st1 := [.int q15.1]) (va_runS (As := [.ref (ga g 4), .ref (ga g (1 + k)), .int q1]) (rest := []) ⟨hx, hb, hml, hown, hts⟩ (ct_X1_readSeed l n g S k hk hT hL t_bytes t_length t_sort t_start t_end t_value f_paths f_water f_wall f_kind f_place f_facing f_age f_seeds f_season f_z f_spots q1 q15 hq15) (va_cwS 3 hts gX1_readItem_X1_readSeed rfl rfl rfl hn_X1_readSeed ⟨Nat.le_of_ble_eq_true rfl, Nat.le_of_ble_eq_true rfl⟩) ⟨bl_C, pr_C rfl hB hP hS⟩ rfl rfl hl.1 rfl (lv_room (Nat.le_of_ble_eq_true rfl)) dX1_readItem_12 ⟨Nat.le_refl _, Nat.le_refl _⟩) hS rfl (fun hn16 H locs hP hS => ?_)
    have hP : va_P g.1 vwCl (cw g (S (t_bytes, t_length, q15.2.2.2.2.2.2.1, q15.2.2.2.2.2.2.2.1, q15.2.2.2.2.2.2.2.2.1, q15.2.2.2.2.2.2.2.2.2) (f_paths, f_water, f_wall, q15.2.1, q15.2.2.1, q15.2.2.2.1, q15.2.2.2.2.1, q15.2.2.2.2.2.1, f_season, f_z, f_spots))) H := hP
    have hres : (q15.1, f_paths, f_water, f_wall, q15.2.1, q15.2.2.1, q15.2.2.2.1, q15.2.2.2.2.1, q15.2.2.2.2.2.1, q15.2.2.2.2.2.2.1, q15.2.2.2.2.2.2.2.1, q15.2.2.2.2.2.2.2.2.1, q15.2.2.2.2.2.2.2.2.2) = res := (Option.some.inj hf)
    have hnr : narrow .boolean (.int q15.1) = .int q15.1 := hn16
    have hP := w_eq (congrArg (fun z => cw g (S (t_bytes, t_length, z.2.2.2.2.2.2.2.2.2.1, z.2.2.2.2.2.2.2.2.2.2.1, z.2.2.2.2.2.2.2.2.2.2.2.1, z.2.2.2.2.2.2.2.2.2.2.2.2) (z.2.1, z.2.2.1, z.2.2.2.1, z.2.2.2.2.1, z.2.2.2.2.2.1, z.2.2.2.2.2.2.1, z.2.2.2.2.2.2.2.1, z.2.2.2.2.2.2.2.2.1, f_season, f_z, f_spots))) hres) hP
    exact W.zret (v := q15.1) hx hb hr hnr (fun t ht hW => ⟨congrArg (fun z => Outcome.returned (some (Value.int z.1))) hres, Eq.mp (congrArg (fun z => narrow .boolean (.int z.1) = .int z.1) hres) hnr, by rw [ht]; exact hP, hS.F ht⟩) hS.2.2 dX1_readItem_15
