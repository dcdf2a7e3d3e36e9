/-! CONTRACTS, by program -/
set_option maxHeartbeats 4000000 in
set_option maxRecDepth 100000 in
theorem ct_X1_read (l : Launch) (n : Nat) (g : GC) (S : TP → PK → CS) (k : Nat) (hk : k < 3) (hT : ∀ P, zT (fun T => S T P)) (hL : ∀ T, zP k (fun P => S T P)) (t_bytes : Nat → Int32) (t_length : Int32) (t_sort : Int32) (t_start : Int32) (t_end : Int32) (t_value : Int32) (f_paths : Nat → Int32) (f_water : Int64) (f_wall : Int64) (f_kind : Nat → Int32) (f_place : Nat → Int32) (f_facing : Nat → Int32) (f_age : Nat → Int32) (f_seeds : Int32) (f_season : Int32) (f_z : Int32) (f_spots : Nat → Int32) (res : Int32 × (Nat → Int32) × Int64 × Int64 × (Nat → Int32) × (Nat → Int32) × (Nat → Int32) × (Nat → Int32) × Int32 × Int32 × Int32 × Int32 × Int32) (hf : fX1_read n f_paths f_water f_wall f_kind f_place f_facing f_age f_seeds t_bytes t_length t_sort t_start t_end t_value = some res) : Met l yX1_read wsX1_read ({ frames := 9, cells := 0, slots := 0, locals := 232 }) (va_Pc [.ref (ga g 4), .ref (ga g (1 + k))] (cI g (S (t_bytes, t_length, t_sort, t_start, t_end, t_value) (f_paths, f_water, f_wall, f_kind, f_place, f_facing, f_age, f_seeds, f_season, f_z, f_spots)))) (qW (some (.int res.1)) True g.1 (cw g (S (t_bytes, t_length, res.2.2.2.2.2.2.2.2.2.1, res.2.2.2.2.2.2.2.2.2.2.1, res.2.2.2.2.2.2.2.2.2.2.2.1, res.2.2.2.2.2.2.2.2.2.2.2.2) (res.2.1, res.2.2.1, res.2.2.2.1, res.2.2.2.2.1, res.2.2.2.2.2.1, res.2.2.2.2.2.2.1, res.2.2.2.2.2.2.2.1, res.2.2.2.2.2.2.2.2.1, f_season, f_z, f_spots))) (gA g)) 0 0 (gA g) := by
  refine Met.ofW (cc := cX1_read) (maxL := 3) (ret := (some .int)) (by decide) rfl ?_
  intro p e s m args below meth c s₁ B hml hv
  obtain ⟨rfl, hI⟩ := hv
  have hx := B.exec
  have hb := B.bytes
  have hr := B.returns
  have hts := atoms_spec (ws := wsX1_read) B.pre
  have hown : s.vm.findClass RX1 = some m.cls := findClass_of_methodNamed B.named
  have hlocks := B.notSynchronized
  have hP := hI.1
  have hB := hI.2
  have hK := hB.1
  have hNW := hB.2.1
  have hS : va_S (gA g) s.heap s.heap [] := va_S.rf
  have iwX5 : ∀ w ∈ wsX50, w ∈ wsX1_read := fun w h => List.mem_cons_of_mem _ (List.mem_append_left _ (List.mem_append_left _ (List.mem_append_right _ h)))
  have hl := lv_entry ([.ref (ga g 4), .ref (ga g (1 + k))]) (n := 3) (Nat.le_of_ble_eq_true rfl)
  rw [lg_entry_eq]
  generalize (lg_sl ([.ref (ga g 4), .ref (ga g (1 + k))]) ++ List.replicate (3 - (lg_sl ([.ref (ga g 4), .ref (ga g (1 + k))])).length) Slot.unset).toArray = ls at hl ⊢
  have hl : lv_has ls 3 [(0, .ref (ga g 4)), (1, .ref (ga g (1 + k)))] := hl
  unfold fX1_read at hf
  refine lv_aload_n hx hb dX1_read_0 rfl (lv_at hl 0 rfl) ?_
  obtain ⟨q1, hq1, hf⟩ := bd_some hf
  refine kr_W (st1 := []) (va_runV (As := []) (rest := []) ⟨hx, hb, hml, hown, hts⟩ (ct_X5_begin l n g (fun T => S T (f_paths, f_water, f_wall, f_kind, f_place, f_facing, f_age, f_seeds, f_season, f_z, f_spots)) (hT (f_paths, f_water, f_wall, f_kind, f_place, f_facing, f_age, f_seeds, f_season, f_z, f_spots)) t_bytes t_length t_sort t_start t_end t_value q1 hq1) (cwV 0 hts gX1_read_X5_begin rfl rfl rfl hd_X5_begin ⟨Nat.le_of_ble_eq_true rfl, Nat.le_of_ble_eq_true rfl⟩) ⟨bl_C, va_recv hK hP (ci := 3) (q0 := 4) rfl (e_tp (zT.at (hT (f_paths, f_water, f_wall, f_kind, f_place, f_facing, f_age, f_seeds, f_season, f_z, f_spots)) (t_bytes, t_length, t_sort, t_start, t_end, t_value)) (T := (t_bytes, t_length, t_sort, t_start, t_end, t_value))), pr_C rfl hB hP hS⟩ rfl rfl hl.1 rfl (lv_room (Nat.le_of_ble_eq_true rfl)) dX1_read_1 ⟨Nat.le_refl _, Nat.le_refl _⟩) hS rfl (fun hn2 H locs hP hS => ?_)
  have hP : va_P g.1 vwCl (cw g (S (t_bytes, t_length, q1.1, q1.2.1, q1.2.2.1, q1.2.2.2) (f_paths, f_water, f_wall, f_kind, f_place, f_facing, f_age, f_seeds, f_season, f_z, f_spots))) H := hP
  refine lv_iconst (v := (1 : Int32)) hx hb dX1_read_4 (by decide) ?_
  refine lv_istore_n (lv' := [(2, .int (1 : Int32)), (0, .ref (ga g 4)), (1, .ref (ga g (1 + k)))]) hx hb dX1_read_5 rfl hl (by decide) rfl (fun ls hl => ?_)
  refine lp_run hf (fun s3 => ∀ (H : Heap) (locs : List Loc) (ls : Array Slot), va_P g.1 vwCl (cw g (S (t_bytes, t_length, s3.2.2.2.2.2.2.2.2.2.1, s3.2.2.2.2.2.2.2.2.2.2.1, s3.2.2.2.2.2.2.2.2.2.2.2.1, s3.2.2.2.2.2.2.2.2.2.2.2.2) (s3.2.1, s3.2.2.1, s3.2.2.2.1, s3.2.2.2.2.1, s3.2.2.2.2.2.1, s3.2.2.2.2.2.2.1, s3.2.2.2.2.2.2.2.1, s3.2.2.2.2.2.2.2.2.1, f_season, f_z, f_spots))) H → va_S (gA g) s.heap H locs → lv_has ls 3 [(0, .ref (ga g 4)), (1, .ref (ga g (1 + k))), (2, .int s3.1)] → W p l e (headSpec wsX1_read ({ frames := 9, cells := 0, slots := 0, locals := 232 })).room s m ([.ref (ga g 4), .ref (ga g (1 + k))] : List Value).toArray below meth c H locs 0 0 (MQ below (qW (some (.int res.1)) True g.1 (cw g (S (t_bytes, t_length, res.2.2.2.2.2.2.2.2.2.1, res.2.2.2.2.2.2.2.2.2.2.1, res.2.2.2.2.2.2.2.2.2.2.2.1, res.2.2.2.2.2.2.2.2.2.2.2.2) (res.2.1, res.2.2.1, res.2.2.2.1, res.2.2.2.2.1, res.2.2.2.2.2.1, res.2.2.2.2.2.2.1, res.2.2.2.2.2.2.2.1, res.2.2.2.2.2.2.2.2.1, f_season, f_z, f_spots))) (gA g)) ([.ref (ga g 4), .ref (ga g (1 + k))] : List Value).toArray s 0 0 (gA g)) (F0 m 6 ls [])) (fun v => Sum.elim (fun v4 => ∀ (H : Heap) (locs : List Loc) (ls : Array Slot), va_P g.1 vwCl (cw g (S (t_bytes, t_length, v4.2.2.2.2.2.2.2.2.2.1, v4.2.2.2.2.2.2.2.2.2.2.1, v4.2.2.2.2.2.2.2.2.2.2.2.1, v4.2.2.2.2.2.2.2.2.2.2.2.2) (v4.2.1, v4.2.2.1, v4.2.2.2.1, v4.2.2.2.2.1, v4.2.2.2.2.2.1, v4.2.2.2.2.2.2.1, v4.2.2.2.2.2.2.2.1, v4.2.2.2.2.2.2.2.2.1, f_season, f_z, f_spots))) H → va_S (gA g) s.heap H locs → lv_has ls 3 [(0, .ref (ga g 4))] → W p l e (headSpec wsX1_read ({ frames := 9, cells := 0, slots := 0, locals := 232 })).room s m ([.ref (ga g 4), .ref (ga g (1 + k))] : List Value).toArray below meth c H locs 0 0 (MQ below (qW (some (.int res.1)) True g.1 (cw g (S (t_bytes, t_length, res.2.2.2.2.2.2.2.2.2.1, res.2.2.2.2.2.2.2.2.2.2.1, res.2.2.2.2.2.2.2.2.2.2.2.1, res.2.2.2.2.2.2.2.2.2.2.2.2) (res.2.1, res.2.2.1, res.2.2.2.1, res.2.2.2.2.1, res.2.2.2.2.2.1, res.2.2.2.2.2.2.1, res.2.2.2.2.2.2.2.1, res.2.2.2.2.2.2.2.2.1, f_season, f_z, f_spots))) (gA g)) ([.ref (ga g 4), .ref (ga g (1 + k))] : List Value).toArray s 0 0 (gA g)) (F0 m 53 ls [])) (fun x => x = res) v) ?_ ?_ _ _ _ hP hS (lv_sub hl [1, 2, 0] rfl)
  · intro v4 hf
    rcases v4 with v4 | v4
    · have hf := el_l hf
      intro H locs ls hP hS hl
      refine lv_iconst (v := (-1 : Int32)) hx hb dX1_read_53 (by decide) ?_
      refine lv_aload_n hx hb dX1_read_54 rfl (lv_at hl 0 rfl) ?_
      refine va_getN (D := g.1) (ci := 3) (v := .int v4.2.2.2.2.2.2.2.2.2.2.1) (C := RX5) (T := TX5) (N := 6) hx hb hts iwX5 hown hK hP 4 (e_tp (zT.at (hT (v4.2.1, v4.2.2.1, v4.2.2.2.1, v4.2.2.2.2.1, v4.2.2.2.2.2.1, v4.2.2.2.2.2.2.1, v4.2.2.2.2.2.2.2.1, v4.2.2.2.2.2.2.2.2.1, f_season, f_z, f_spots)) (t_bytes, t_length, v4.2.2.2.2.2.2.2.2.2.1, v4.2.2.2.2.2.2.2.2.2.2.1, v4.2.2.2.2.2.2.2.2.2.2.2.1, v4.2.2.2.2.2.2.2.2.2.2.2.2)) (T := (t_bytes, t_length, v4.2.2.2.2.2.2.2.2.2.1, v4.2.2.2.2.2.2.2.2.2.2.1, v4.2.2.2.2.2.2.2.2.2.2.2.1, v4.2.2.2.2.2.2.2.2.2.2.2.2))) rfl 3 (by decide) (nf_X1_27 hNW) (fun _ h9 => h9) rfl dX1_read_55 ?_
      refine lv_isub hx hb dX1_read_58 ?_
      have hres : (((-1 : Int32) - v4.2.2.2.2.2.2.2.2.2.2.1), v4.2.1, v4.2.2.1, v4.2.2.2.1, v4.2.2.2.2.1, v4.2.2.2.2.2.1, v4.2.2.2.2.2.2.1, v4.2.2.2.2.2.2.2.1, v4.2.2.2.2.2.2.2.2.1, v4.2.2.2.2.2.2.2.2.2.1, v4.2.2.2.2.2.2.2.2.2.2.1, v4.2.2.2.2.2.2.2.2.2.2.2.1, v4.2.2.2.2.2.2.2.2.2.2.2.2) = res := (Option.some.inj hf)
      have hP := w_eq (congrArg (fun z => cw g (S (t_bytes, t_length, z.2.2.2.2.2.2.2.2.2.1, z.2.2.2.2.2.2.2.2.2.2.1, z.2.2.2.2.2.2.2.2.2.2.2.1, z.2.2.2.2.2.2.2.2.2.2.2.2) (z.2.1, z.2.2.1, z.2.2.2.1, z.2.2.2.2.1, z.2.2.2.2.2.1, z.2.2.2.2.2.2.1, z.2.2.2.2.2.2.2.1, z.2.2.2.2.2.2.2.2.1, f_season, f_z, f_spots))) hres) hP
      exact W.iret (v := ((-1 : Int32) - v4.2.2.2.2.2.2.2.2.2.2.1)) hx hb hr (fun t ht hW => ⟨congrArg (fun z => Outcome.returned (some (Value.int z.1))) hres, trivial, by rw [ht]; exact hP, hS.F ht⟩) hS.2.2 dX1_read_59
    · exact Option.some.inj hf
  · intro s3 r1 hf hback1 hexit1 H locs ls hP hS hl
    refine lv_iload_n hx hb dX1_read_6 rfl (lv_at hl 2 rfl) ?_
    refine lv_bipush (v := (120 : Int32)) hx hb dX1_read_7 (by decide) ?_
    refine lv_icmp_gt (tgt := 53) hx hb dX1_read_9 (by decide) (fun hc5 => ?_) (fun hc5 => ?_)
    · have hf := (if_pos hc5).symm.trans hf
      exact hexit1 (.inl (s3.1, s3.2.1, s3.2.2.1, s3.2.2.2.1, s3.2.2.2.2.1, s3.2.2.2.2.2.1, s3.2.2.2.2.2.2.1, s3.2.2.2.2.2.2.2.1, s3.2.2.2.2.2.2.2.2.1, s3.2.2.2.2.2.2.2.2.2.1, s3.2.2.2.2.2.2.2.2.2.2.1, s3.2.2.2.2.2.2.2.2.2.2.2.1, s3.2.2.2.2.2.2.2.2.2.2.2.2)) (Option.some.inj hf).symm H locs ls hP hS (lv_sub hl [0] rfl)
    · have hf := (if_neg hc5).symm.trans hf
      refine lv_aload_n hx hb dX1_read_12 rfl (lv_at hl 0 rfl) ?_
      refine lv_aload_n hx hb dX1_read_13 rfl (lv_at hl 1 rfl) ?_
      obtain ⟨q6, hq6, hf⟩ := bd_some hf
      refine kr_W (st1 := [.int q6.1]) (va_runS (As := [.ref (ga g 4), .ref (ga g (1 + k))]) (rest := []) ⟨hx, hb, hml, hown, hts⟩ (ct_X1_readItem l n g S k hk hT hL t_bytes t_length s3.2.2.2.2.2.2.2.2.2.1 s3.2.2.2.2.2.2.2.2.2.2.1 s3.2.2.2.2.2.2.2.2.2.2.2.1 s3.2.2.2.2.2.2.2.2.2.2.2.2 s3.2.1 s3.2.2.1 s3.2.2.2.1 s3.2.2.2.2.1 s3.2.2.2.2.2.1 s3.2.2.2.2.2.2.1 s3.2.2.2.2.2.2.2.1 s3.2.2.2.2.2.2.2.2.1 f_season f_z f_spots q6 hq6) (va_cwS 2 hts gX1_read_X1_readItem rfl rfl rfl hn_X1_readItem ⟨Nat.le_of_ble_eq_true rfl, Nat.le_of_ble_eq_true rfl⟩) ⟨bl_C, pr_C rfl hB hP hS⟩ rfl rfl hl.1 rfl (lv_room (Nat.le_of_ble_eq_true rfl)) dX1_read_14 ⟨Nat.le_refl _, Nat.le_refl _⟩) hS rfl (fun hn7 H locs hP hS => ?_)
      have hP : va_P g.1 vwCl (cw g (S (t_bytes, t_length, q6.2.2.2.2.2.2.2.2.2.1, q6.2.2.2.2.2.2.2.2.2.2.1, q6.2.2.2.2.2.2.2.2.2.2.2.1, q6.2.2.2.2.2.2.2.2.2.2.2.2) (q6.2.1, q6.2.2.1, q6.2.2.2.1, q6.2.2.2.2.1, q6.2.2.2.2.2.1, q6.2.2.2.2.2.2.1, q6.2.2.2.2.2.2.2.1, q6.2.2.2.2.2.2.2.2.1, f_season, f_z, f_spots))) H := hP
      refine lv_if_ne (tgt := 23) hx hb dX1_read_17 (by decide) (fun hc8 => ?_) (fun hc8 => ?_)
      · have hf := (if_neg hc8).symm.trans hf
        refine lv_aload_n hx hb dX1_read_23 rfl (lv_at hl 0 rfl) ?_
        refine va_getN (D := g.1) (ci := 3) (v := .int q6.2.2.2.2.2.2.2.2.2.1) (C := RX5) (T := TX5) (N := 6) hx hb hts iwX5 hown hK hP 4 (e_tp (zT.at (hT (q6.2.1, q6.2.2.1, q6.2.2.2.1, q6.2.2.2.2.1, q6.2.2.2.2.2.1, q6.2.2.2.2.2.2.1, q6.2.2.2.2.2.2.2.1, q6.2.2.2.2.2.2.2.2.1, f_season, f_z, f_spots)) (t_bytes, t_length, q6.2.2.2.2.2.2.2.2.2.1, q6.2.2.2.2.2.2.2.2.2.2.1, q6.2.2.2.2.2.2.2.2.2.2.2.1, q6.2.2.2.2.2.2.2.2.2.2.2.2)) (T := (t_bytes, t_length, q6.2.2.2.2.2.2.2.2.2.1, q6.2.2.2.2.2.2.2.2.2.2.1, q6.2.2.2.2.2.2.2.2.2.2.2.1, q6.2.2.2.2.2.2.2.2.2.2.2.2))) rfl 2 (by decide) (nf_X1_20 hNW) (fun _ h9 => h9) rfl dX1_read_24 ?_
        refine lv_if_ne (tgt := 32) hx hb dX1_read_27 (by decide) (fun hc9 => ?_) (fun hc9 => ?_)
        · have hf := (if_neg hc9).symm.trans hf
          refine lv_aload_n hx hb dX1_read_32 rfl (lv_at hl 0 rfl) ?_
          refine va_getN (D := g.1) (ci := 3) (v := .int q6.2.2.2.2.2.2.2.2.2.1) (C := RX5) (T := TX5) (N := 6) hx hb hts iwX5 hown hK hP 4 (e_tp (zT.at (hT (q6.2.1, q6.2.2.1, q6.2.2.2.1, q6.2.2.2.2.1, q6.2.2.2.2.2.1, q6.2.2.2.2.2.2.1, q6.2.2.2.2.2.2.2.1, q6.2.2.2.2.2.2.2.2.1, f_season, f_z, f_spots)) (t_bytes, t_length, q6.2.2.2.2.2.2.2.2.2.1, q6.2.2.2.2.2.2.2.2.2.2.1, q6.2.2.2.2.2.2.2.2.2.2.2.1, q6.2.2.2.2.2.2.2.2.2.2.2.2)) (T := (t_bytes, t_length, q6.2.2.2.2.2.2.2.2.2.1, q6.2.2.2.2.2.2.2.2.2.2.1, q6.2.2.2.2.2.2.2.2.2.2.2.1, q6.2.2.2.2.2.2.2.2.2.2.2.2))) rfl 2 (by decide) (nf_X1_20 hNW) (fun _ h9 => h9) rfl dX1_read_33 ?_
          refine lv_iconst (v := (3 : Int32)) hx hb dX1_read_36 (by decide) ?_
          refine lv_icmp_eq (tgt := 43) hx hb dX1_read_37 (by decide) (fun hc10 => ?_) (fun hc10 => ?_)
          · have hf := (if_pos hc10).symm.trans hf
            refine lv_aload_n hx hb dX1_read_43 rfl (lv_at hl 0 rfl) ?_
            obtain ⟨q11, hq11, hf⟩ := bd_some hf
            refine kr_W (st1 := []) (va_runV (As := []) (rest := []) ⟨hx, hb, hml, hown, hts⟩ (ct_X5_next l n g (fun T => S T (q6.2.1, q6.2.2.1, q6.2.2.2.1, q6.2.2.2.2.1, q6.2.2.2.2.2.1, q6.2.2.2.2.2.2.1, q6.2.2.2.2.2.2.2.1, q6.2.2.2.2.2.2.2.2.1, f_season, f_z, f_spots)) (hT (q6.2.1, q6.2.2.1, q6.2.2.2.1, q6.2.2.2.2.1, q6.2.2.2.2.2.1, q6.2.2.2.2.2.2.1, q6.2.2.2.2.2.2.2.1, q6.2.2.2.2.2.2.2.2.1, f_season, f_z, f_spots)) t_bytes t_length q6.2.2.2.2.2.2.2.2.2.1 q6.2.2.2.2.2.2.2.2.2.2.1 q6.2.2.2.2.2.2.2.2.2.2.2.1 q6.2.2.2.2.2.2.2.2.2.2.2.2 q11 hq11) (cwV 0 hts gX1_read_X5_next rfl rfl rfl hd_X5_next ⟨Nat.le_of_ble_eq_true rfl, Nat.le_of_ble_eq_true rfl⟩) ⟨bl_C, va_recv hK hP (ci := 3) (q0 := 4) rfl (e_tp (zT.at (hT (q6.2.1, q6.2.2.1, q6.2.2.2.1, q6.2.2.2.2.1, q6.2.2.2.2.2.1, q6.2.2.2.2.2.2.1, q6.2.2.2.2.2.2.2.1, q6.2.2.2.2.2.2.2.2.1, f_season, f_z, f_spots)) (t_bytes, t_length, q6.2.2.2.2.2.2.2.2.2.1, q6.2.2.2.2.2.2.2.2.2.2.1, q6.2.2.2.2.2.2.2.2.2.2.2.1, q6.2.2.2.2.2.2.2.2.2.2.2.2)) (T := (t_bytes, t_length, q6.2.2.2.2.2.2.2.2.2.1, q6.2.2.2.2.2.2.2.2.2.2.1, q6.2.2.2.2.2.2.2.2.2.2.2.1, q6.2.2.2.2.2.2.2.2.2.2.2.2))), pr_C rfl hB hP hS⟩ rfl rfl hl.1 rfl (lv_room (Nat.le_of_ble_eq_true rfl)) dX1_read_44 ⟨Nat.le_refl _, Nat.le_refl _⟩) hS rfl (fun hn12 H locs hP hS => ?_)
            have hP : va_P g.1 vwCl (cw g (S (t_bytes, t_length, q11.1, q11.2.1, q11.2.2.1, q11.2.2.2) (q6.2.1, q6.2.2.1, q6.2.2.2.1, q6.2.2.2.2.1, q6.2.2.2.2.2.1, q6.2.2.2.2.2.2.1, q6.2.2.2.2.2.2.2.1, q6.2.2.2.2.2.2.2.2.1, f_season, f_z, f_spots))) H := hP
            refine lv_iinc (v := (s3.1 + (1 : Int32))) (lv' := [(2, .int (s3.1 + (1 : Int32))), (0, .ref (ga g 4)), (1, .ref (ga g (1 + k)))]) hx hb dX1_read_47 hl (k := 2) rfl (congrArg (fun y => s3.1 + y) (by decide : Int32.ofInt (1) = (1 : Int32))) (by decide) rfl (fun ls hl => ?_)
            refine lv_goto (tgt := 6) hx hb dX1_read_50 (by decide) ?_
            exact hback1 _ (Option.some.inj hf).symm H locs ls hP hS (lv_sub hl [1, 2, 0] rfl)
          · have hf := (if_neg hc10).symm.trans hf
            refine lv_goto (tgt := 53) hx hb dX1_read_40 (by decide) ?_
            exact hexit1 (.inl (s3.1, q6.2.1, q6.2.2.1, q6.2.2.2.1, q6.2.2.2.2.1, q6.2.2.2.2.2.1, q6.2.2.2.2.2.2.1, q6.2.2.2.2.2.2.2.1, q6.2.2.2.2.2.2.2.2.1, q6.2.2.2.2.2.2.2.2.2.1, q6.2.2.2.2.2.2.2.2.2.2.1, q6.2.2.2.2.2.2.2.2.2.2.2.1, q6.2.2.2.2.2.2.2.2.2.2.2.2)) (Option.some.inj hf).symm H locs ls hP hS (lv_sub hl [0] rfl)
        · have hf := (if_pos hc9).symm.trans hf
          refine lv_iload_n hx hb dX1_read_30 rfl (lv_at hl 2 rfl) ?_
          have hres : (s3.1, q6.2.1, q6.2.2.1, q6.2.2.2.1, q6.2.2.2.2.1, q6.2.2.2.2.2.1, q6.2.2.2.2.2.2.1, q6.2.2.2.2.2.2.2.1, q6.2.2.2.2.2.2.2.2.1, q6.2.2.2.2.2.2.2.2.2.1, q6.2.2.2.2.2.2.2.2.2.2.1, q6.2.2.2.2.2.2.2.2.2.2.2.1, q6.2.2.2.2.2.2.2.2.2.2.2.2) = res := (hexit1 _ ((Option.some.inj hf)).symm)
          have hP := w_eq (congrArg (fun z => cw g (S (t_bytes, t_length, z.2.2.2.2.2.2.2.2.2.1, z.2.2.2.2.2.2.2.2.2.2.1, z.2.2.2.2.2.2.2.2.2.2.2.1, z.2.2.2.2.2.2.2.2.2.2.2.2) (z.2.1, z.2.2.1, z.2.2.2.1, z.2.2.2.2.1, z.2.2.2.2.2.1, z.2.2.2.2.2.2.1, z.2.2.2.2.2.2.2.1, z.2.2.2.2.2.2.2.2.1, f_season, f_z, f_spots))) hres) hP
          exact W.iret (v := s3.1) hx hb hr (fun t ht hW => ⟨congrArg (fun z => Outcome.returned (some (Value.int z.1))) hres, trivial, by rw [ht]; exact hP, hS.F ht⟩) hS.2.2 dX1_read_31
      · have hf := (if_pos hc8).symm.trans hf
        refine lv_goto (tgt := 53) hx hb dX1_read_20 (by decide) ?_
        exact hexit1 (.inl (s3.1, q6.2.1, q6.2.2.1, q6.2.2.2.1, q6.2.2.2.2.1, q6.2.2.2.2.2.1, q6.2.2.2.2.2.2.1, q6.2.2.2.2.2.2.2.1, q6.2.2.2.2.2.2.2.2.1, q6.2.2.2.2.2.2.2.2.2.1, q6.2.2.2.2.2.2.2.2.2.2.1, q6.2.2.2.2.2.2.2.2.2.2.2.1, q6.2.2.2.2.2.2.2.2.2.2.2.2)) (Option.some.inj hf).symm H locs ls hP hS (lv_sub hl [0] rfl)
set_option maxHeartbeats 4000000 in
set_option maxRecDepth 100000 in
theorem ct_X6_text (l : Launch) (n : Nat) (g : GC) (p0_paths : Nat → Int32) (p0_water : Int64) (p0_wall : Int64) (p0_kind : Nat → Int32) (p0_place : Nat → Int32) (p0_facing : Nat → Int32) (p0_age : Nat → Int32) (p0_seeds : Int32) (p0_season : Int32) (p0_z : Int32) (p0_spots : Nat → Int32) (p1_paths : Nat → Int32) (p1_water : Int64) (p1_wall : Int64) (p1_kind : Nat → Int32) (p1_place : Nat → Int32) (p1_facing : Nat → Int32) (p1_age : Nat → Int32) (p1_seeds : Int32) (p1_season : Int32) (p1_z : Int32) (p1_spots : Nat → Int32) (p2_paths : Nat → Int32) (p2_water : Int64) (p2_wall : Int64) (p2_kind : Nat → Int32) (p2_place : Nat → Int32) (p2_facing : Nat → Int32) (p2_age : Nat → Int32) (p2_seeds : Int32) (p2_season : Int32) (p2_z : Int32) (p2_spots : Nat → Int32) (t_bytes : Nat → Int32) (t_length : Int32) (t_sort : Int32) (t_start : Int32) (t_end : Int32) (t_value : Int32) (h_numbers : Nat → Nat → Int32) (h_bits : Nat → Int32) (h_size : Nat → Int32) (w_isKept : Int32) (w_told : Nat → Int32) (res : Int32 × (Nat → Int32) × Int64 × Int64 × (Nat → Int32) × (Nat → Int32) × (Nat → Int32) × (Nat → Int32) × Int32 × Int32 × Int32 × (Nat → Int32) × (Nat → Int32) × Int64 × Int64 × (Nat → Int32) × (Nat → Int32) × (Nat → Int32) × (Nat → Int32) × Int32 × Int32 × Int32 × (Nat → Int32) × Int32 × Int32 × Int32 × Int32 × Int32) (hf : fX6_text n p0_paths p0_water p0_wall p0_kind p0_place p0_facing p0_age p0_seeds p0_season p0_z p0_spots p1_paths p1_water p1_wall p1_kind p1_place p1_facing p1_age p1_seeds p1_season p1_z p1_spots t_bytes t_length t_sort t_start t_end t_value = some res) : Met l yX6_text wsX6_text ({ frames := 10, cells := 0, slots := 0, locals := 254 }) (va_Pc [.ref (ga g 0)] (cI g (pk3 (p0_paths, p0_water, p0_wall, p0_kind, p0_place, p0_facing, p0_age, p0_seeds, p0_season, p0_z, p0_spots) (p1_paths, p1_water, p1_wall, p1_kind, p1_place, p1_facing, p1_age, p1_seeds, p1_season, p1_z, p1_spots) (p2_paths, p2_water, p2_wall, p2_kind, p2_place, p2_facing, p2_age, p2_seeds, p2_season, p2_z, p2_spots), w_isKept, (t_bytes, t_length, t_sort, t_start, t_end, t_value), (h_numbers, h_bits, h_size), w_told))) (qW (some (.int res.1)) True g.1 (cw g (pk3 (res.2.1, res.2.2.1, res.2.2.2.1, res.2.2.2.2.1, res.2.2.2.2.2.1, res.2.2.2.2.2.2.1, res.2.2.2.2.2.2.2.1, res.2.2.2.2.2.2.2.2.1, res.2.2.2.2.2.2.2.2.2.1, res.2.2.2.2.2.2.2.2.2.2.1, res.2.2.2.2.2.2.2.2.2.2.2.1) (res.2.2.2.2.2.2.2.2.2.2.2.2.1, res.2.2.2.2.2.2.2.2.2.2.2.2.2.1, res.2.2.2.2.2.2.2.2.2.2.2.2.2.2.1, res.2.2.2.2.2.2.2.2.2.2.2.2.2.2.2.1, res.2.2.2.2.2.2.2.2.2.2.2.2.2.2.2.2.1, res.2.2.2.2.2.2.2.2.2.2.2.2.2.2.2.2.2.1, res.2.2.2.2.2.2.2.2.2.2.2.2.2.2.2.2.2.2.1, res.2.2.2.2.2.2.2.2.2.2.2.2.2.2.2.2.2.2.2.1, res.2.2.2.2.2.2.2.2.2.2.2.2.2.2.2.2.2.2.2.2.1, res.2.2.2.2.2.2.2.2.2.2.2.2.2.2.2.2.2.2.2.2.2.1, res.2.2.2.2.2.2.2.2.2.2.2.2.2.2.2.2.2.2.2.2.2.2.1) (p2_paths, p2_water, p2_wall, p2_kind, p2_place, p2_facing, p2_age, p2_seeds, p2_season, p2_z, p2_spots), w_isKept, (t_bytes, res.2.2.2.2.2.2.2.2.2.2.2.2.2.2.2.2.2.2.2.2.2.2.2.1, res.2.2.2.2.2.2.2.2.2.2.2.2.2.2.2.2.2.2.2.2.2.2.2.2.1, res.2.2.2.2.2.2.2.2.2.2.2.2.2.2.2.2.2.2.2.2.2.2.2.2.2.1, res.2.2.2.2.2.2.2.2.2.2.2.2.2.2.2.2.2.2.2.2.2.2.2.2.2.2.1, res.2.2.2.2.2.2.2.2.2.2.2.2.2.2.2.2.2.2.2.2.2.2.2.2.2.2.2), (h_numbers, h_bits, h_size), w_told)) (gA g)) 0 0 (gA g) := by
  refine Met.ofW (cc := cX6_text) (maxL := 2) (ret := (some .int)) (by decide) rfl ?_
  intro p e s m args below meth c s₁ B hml hv
  obtain ⟨rfl, hI⟩ := hv
  have hx := B.exec
  have hb := B.bytes
  have hr := B.returns
  have hts := atoms_spec (ws := wsX6_text) B.pre
  have hown : s.vm.findClass RX6 = some m.cls := findClass_of_methodNamed B.named
  have hlocks := B.notSynchronized
  have hP := hI.1
  have hB := hI.2
  have hK := hB.1
  have hNW := hB.2.1
  have hS : va_S (gA g) s.heap s.heap [] := va_S.rf
  have hw0 := hts (.fieldLink RX6 16 "SownPaths" "trial" "LSownPaths$Park;") (by decide +kernel)
  have hw1 := hts (.fieldLink RX6 10 "SownPaths" "park" "LSownPaths$Park;") (by decide +kernel)
  have hw2 := hts (.fieldLink RX6 25 "SownPaths" "tape" "LSownPaths$Tape;") (by decide +kernel)
  have iwX6 : ∀ w ∈ wsX60, w ∈ wsX6_text := fun w h => List.mem_cons_of_mem _ (List.mem_append_left _ (List.mem_append_left _ (List.mem_append_left _ (List.mem_append_right _ h))))
  have hl := lv_entry ([.ref (ga g 0)]) (n := 2) (Nat.le_of_ble_eq_true rfl)
  rw [lg_entry_eq]
  generalize (lg_sl ([.ref (ga g 0)]) ++ List.replicate (2 - (lg_sl ([.ref (ga g 0)])).length) Slot.unset).toArray = ls at hl ⊢
  have hl : lv_has ls 2 [(0, .ref (ga g 0))] := hl
  unfold fX6_text at hf
  refine lv_aload_n hx hb dX6_text_0 rfl (lv_at hl 0 rfl) ?_
  refine va_get (D := g.1) (ci := 4) (v := .ref (ga g (1 + 1))) (C := RX6) (T := TX6) (N := 7) hx hb hts iwX6 hown hK hP 0 q_sp rfl 1 (by decide) hw0 (fun _ h9 => h9) rfl dX6_text_1 ?_
  refine lv_aload_n hx hb dX6_text_4 rfl (lv_at hl 0 rfl) ?_
  refine va_get (D := g.1) (ci := 4) (v := .ref (ga g (1 + 0))) (C := RX6) (T := TX6) (N := 7) hx hb hts iwX6 hown hK hP 0 q_sp rfl 0 (by decide) hw1 (fun _ h9 => h9) rfl dX6_text_5 ?_
  obtain ⟨q1, hq1, hf⟩ := bd_some hf
  refine kr_W (st1 := []) (va_runV (As := [.ref (ga g (1 + 0))]) (rest := []) ⟨hx, hb, hml, hown, hts⟩ (ct_X2_copyFrom l n g (fun P => (pk3 (p0_paths, p0_water, p0_wall, p0_kind, p0_place, p0_facing, p0_age, p0_seeds, p0_season, p0_z, p0_spots) P (p2_paths, p2_water, p2_wall, p2_kind, p2_place, p2_facing, p2_age, p2_seeds, p2_season, p2_z, p2_spots), w_isKept, (t_bytes, t_length, t_sort, t_start, t_end, t_value), (h_numbers, h_bits, h_size), w_told)) 1 (by decide) zP1 0 (by decide) (by decide) p1_paths p1_water p1_wall p1_kind p1_place p1_facing p1_age p1_seeds p1_season p1_z p1_spots p0_paths p0_water p0_wall p0_kind p0_place p0_facing p0_age p0_seeds p0_season p0_z p0_spots (fun _ => rfl) q1 hq1) (cwV 1 hts gX6_text_X2_copyFrom rfl rfl rfl hd_X2_copyFrom ⟨Nat.le_of_ble_eq_true rfl, Nat.le_of_ble_eq_true rfl⟩) ⟨bl_C, va_recv hK hP (ci := 0) (q0 := (1 + 1)) rfl (e_pk (by decide) rfl (Q := (p1_paths, p1_water, p1_wall, p1_kind, p1_place, p1_facing, p1_age, p1_seeds, p1_season, p1_z, p1_spots))), pr_C rfl hB hP hS⟩ rfl rfl hl.1 rfl (lv_room (Nat.le_of_ble_eq_true rfl)) dX6_text_8 ⟨Nat.le_refl _, Nat.le_refl _⟩) hS rfl (fun hn2 H locs hP hS => ?_)
  have hP : va_P g.1 vwCl (cw g (pk3 (p0_paths, p0_water, p0_wall, p0_kind, p0_place, p0_facing, p0_age, p0_seeds, p0_season, p0_z, p0_spots) (q1.1, q1.2.1, q1.2.2.1, q1.2.2.2.1, q1.2.2.2.2.1, q1.2.2.2.2.2.1, q1.2.2.2.2.2.2.1, q1.2.2.2.2.2.2.2.1, q1.2.2.2.2.2.2.2.2.1, q1.2.2.2.2.2.2.2.2.2.1, q1.2.2.2.2.2.2.2.2.2.2) (p2_paths, p2_water, p2_wall, p2_kind, p2_place, p2_facing, p2_age, p2_seeds, p2_season, p2_z, p2_spots), w_isKept, (t_bytes, t_length, t_sort, t_start, t_end, t_value), (h_numbers, h_bits, h_size), w_told)) H := hP
  refine lv_aload_n hx hb dX6_text_11 rfl (lv_at hl 0 rfl) ?_
  refine va_get (D := g.1) (ci := 4) (v := .ref (ga g 4)) (C := RX6) (T := TX6) (N := 7) hx hb hts iwX6 hown hK hP 0 q_sp rfl 4 (by decide) hw2 (fun _ h9 => h9) rfl dX6_text_12 ?_
  refine lv_aload_n hx hb dX6_text_15 rfl (lv_at hl 0 rfl) ?_
  refine va_get (D := g.1) (ci := 4) (v := .ref (ga g (1 + 1))) (C := RX6) (T := TX6) (N := 7) hx hb hts iwX6 hown hK hP 0 q_sp rfl 1 (by decide) hw0 (fun _ h9 => h9) rfl dX6_text_16 ?_
  obtain ⟨q3, hq3, hf⟩ := bd_some hf
  refine kr_W (st1 := [.int q3.1]) (va_runS (As := [.ref (ga g 4), .ref (ga g (1 + 1))]) (rest := []) ⟨hx, hb, hml, hown, hts⟩ (ct_X1_read l n g (fun T P => (pk3 (p0_paths, p0_water, p0_wall, p0_kind, p0_place, p0_facing, p0_age, p0_seeds, p0_season, p0_z, p0_spots) P (p2_paths, p2_water, p2_wall, p2_kind, p2_place, p2_facing, p2_age, p2_seeds, p2_season, p2_z, p2_spots), w_isKept, T, (h_numbers, h_bits, h_size), w_told)) 1 (by decide) (fun _ => zT0) (fun _ => zP1) t_bytes t_length t_sort t_start t_end t_value q1.1 q1.2.1 q1.2.2.1 q1.2.2.2.1 q1.2.2.2.2.1 q1.2.2.2.2.2.1 q1.2.2.2.2.2.2.1 q1.2.2.2.2.2.2.2.1 q1.2.2.2.2.2.2.2.2.1 q1.2.2.2.2.2.2.2.2.2.1 q1.2.2.2.2.2.2.2.2.2.2 q3 hq3) (va_cwS 2 hts gX6_text_X1_read rfl rfl rfl hn_X1_read ⟨Nat.le_of_ble_eq_true rfl, Nat.le_of_ble_eq_true rfl⟩) ⟨bl_C, pr_C rfl hB hP hS⟩ rfl rfl hl.1 rfl (lv_room (Nat.le_of_ble_eq_true rfl)) dX6_text_19 ⟨Nat.le_refl _, Nat.le_refl _⟩) hS rfl (fun hn4 H locs hP hS => ?_)
  have hP : va_P g.1 vwCl (cw g (pk3 (p0_paths, p0_water, p0_wall, p0_kind, p0_place, p0_facing, p0_age, p0_seeds, p0_season, p0_z, p0_spots) (q3.2.1, q3.2.2.1, q3.2.2.2.1, q3.2.2.2.2.1, q3.2.2.2.2.2.1, q3.2.2.2.2.2.2.1, q3.2.2.2.2.2.2.2.1, q3.2.2.2.2.2.2.2.2.1, q1.2.2.2.2.2.2.2.2.1, q1.2.2.2.2.2.2.2.2.2.1, q1.2.2.2.2.2.2.2.2.2.2) (p2_paths, p2_water, p2_wall, p2_kind, p2_place, p2_facing, p2_age, p2_seeds, p2_season, p2_z, p2_spots), w_isKept, (t_bytes, t_length, q3.2.2.2.2.2.2.2.2.2.1, q3.2.2.2.2.2.2.2.2.2.2.1, q3.2.2.2.2.2.2.2.2.2.2.2.1, q3.2.2.2.2.2.2.2.2.2.2.2.2), (h_numbers, h_bits, h_size), w_told)) H := hP
  refine lv_istore_n (lv' := [(1, .int q3.1), (0, .ref (ga g 0))]) hx hb dX6_text_22 rfl hl (by decide) rfl (fun ls hl => ?_)
  refine lv_iload_n hx hb dX6_text_23 rfl (lv_at hl 0 rfl) ?_
  refine lv_if_lt (tgt := 38) hx hb dX6_text_24 (by decide) (fun hc5 => ?_) (fun hc5 => ?_)
  · have hf := (if_pos hc5).symm.trans hf
    refine lv_aload_n hx hb dX6_text_38 rfl (lv_at hl 1 rfl) ?_
    refine va_get (D := g.1) (ci := 4) (v := .ref (ga g 4)) (C := RX6) (T := TX6) (N := 7) hx hb hts iwX6 hown hK hP 0 q_sp rfl 4 (by decide) hw2 (fun _ h9 => h9) rfl dX6_text_39 ?_
    obtain ⟨q6, hq6, hf⟩ := bd_some hf
    refine kr_W (st1 := [.int q6.1]) (va_runV (As := []) (rest := []) ⟨hx, hb, hml, hown, hts⟩ (ct_X5_clear l n g (fun T => (pk3 (p0_paths, p0_water, p0_wall, p0_kind, p0_place, p0_facing, p0_age, p0_seeds, p0_season, p0_z, p0_spots) (q3.2.1, q3.2.2.1, q3.2.2.2.1, q3.2.2.2.2.1, q3.2.2.2.2.2.1, q3.2.2.2.2.2.2.1, q3.2.2.2.2.2.2.2.1, q3.2.2.2.2.2.2.2.2.1, q1.2.2.2.2.2.2.2.2.1, q1.2.2.2.2.2.2.2.2.2.1, q1.2.2.2.2.2.2.2.2.2.2) (p2_paths, p2_water, p2_wall, p2_kind, p2_place, p2_facing, p2_age, p2_seeds, p2_season, p2_z, p2_spots), w_isKept, T, (h_numbers, h_bits, h_size), w_told)) zT0 t_bytes t_length q3.2.2.2.2.2.2.2.2.2.1 q3.2.2.2.2.2.2.2.2.2.2.1 q3.2.2.2.2.2.2.2.2.2.2.2.1 q3.2.2.2.2.2.2.2.2.2.2.2.2 q6 hq6) (cwV 0 hts gX6_text_X5_clear rfl rfl rfl hd_X5_clear ⟨Nat.le_of_ble_eq_true rfl, Nat.le_of_ble_eq_true rfl⟩) ⟨bl_C, va_recv hK hP (ci := 3) (q0 := 4) rfl (e_tp rfl (T := (t_bytes, t_length, q3.2.2.2.2.2.2.2.2.2.1, q3.2.2.2.2.2.2.2.2.2.2.1, q3.2.2.2.2.2.2.2.2.2.2.2.1, q3.2.2.2.2.2.2.2.2.2.2.2.2))), pr_C rfl hB hP hS⟩ rfl rfl hl.1 rfl (lv_room (Nat.le_of_ble_eq_true rfl)) dX6_text_42 ⟨Nat.le_refl _, Nat.le_refl _⟩) hS rfl (fun hn7 H locs hP hS => ?_)
    have hP : va_P g.1 vwCl (cw g (pk3 (p0_paths, p0_water, p0_wall, p0_kind, p0_place, p0_facing, p0_age, p0_seeds, p0_season, p0_z, p0_spots) (q3.2.1, q3.2.2.1, q3.2.2.2.1, q3.2.2.2.2.1, q3.2.2.2.2.2.1, q3.2.2.2.2.2.2.1, q3.2.2.2.2.2.2.2.1, q3.2.2.2.2.2.2.2.2.1, q1.2.2.2.2.2.2.2.2.1, q1.2.2.2.2.2.2.2.2.2.1, q1.2.2.2.2.2.2.2.2.2.2) (p2_paths, p2_water, p2_wall, p2_kind, p2_place, p2_facing, p2_age, p2_seeds, p2_season, p2_z, p2_spots), w_isKept, (t_bytes, q6.2, q3.2.2.2.2.2.2.2.2.2.1, q3.2.2.2.2.2.2.2.2.2.2.1, q3.2.2.2.2.2.2.2.2.2.2.2.1, q3.2.2.2.2.2.2.2.2.2.2.2.2), (h_numbers, h_bits, h_size), w_told)) H := hP
    refine lv_pop hx hb dX6_text_45 rfl ?_
    refine lv_iload_n hx hb dX6_text_46 rfl (lv_at hl 0 rfl) ?_
    have hres : (q3.1, p0_paths, p0_water, p0_wall, p0_kind, p0_place, p0_facing, p0_age, p0_seeds, p0_season, p0_z, p0_spots, q3.2.1, q3.2.2.1, q3.2.2.2.1, q3.2.2.2.2.1, q3.2.2.2.2.2.1, q3.2.2.2.2.2.2.1, q3.2.2.2.2.2.2.2.1, q3.2.2.2.2.2.2.2.2.1, q1.2.2.2.2.2.2.2.2.1, q1.2.2.2.2.2.2.2.2.2.1, q1.2.2.2.2.2.2.2.2.2.2, q6.2, q3.2.2.2.2.2.2.2.2.2.1, q3.2.2.2.2.2.2.2.2.2.2.1, q3.2.2.2.2.2.2.2.2.2.2.2.1, q3.2.2.2.2.2.2.2.2.2.2.2.2) = res := (Option.some.inj hf)
    have hP := w_eq (congrArg (fun z => cw g (pk3 (z.2.1, z.2.2.1, z.2.2.2.1, z.2.2.2.2.1, z.2.2.2.2.2.1, z.2.2.2.2.2.2.1, z.2.2.2.2.2.2.2.1, z.2.2.2.2.2.2.2.2.1, z.2.2.2.2.2.2.2.2.2.1, z.2.2.2.2.2.2.2.2.2.2.1, z.2.2.2.2.2.2.2.2.2.2.2.1) (z.2.2.2.2.2.2.2.2.2.2.2.2.1, z.2.2.2.2.2.2.2.2.2.2.2.2.2.1, z.2.2.2.2.2.2.2.2.2.2.2.2.2.2.1, z.2.2.2.2.2.2.2.2.2.2.2.2.2.2.2.1, z.2.2.2.2.2.2.2.2.2.2.2.2.2.2.2.2.1, z.2.2.2.2.2.2.2.2.2.2.2.2.2.2.2.2.2.1, z.2.2.2.2.2.2.2.2.2.2.2.2.2.2.2.2.2.2.1, z.2.2.2.2.2.2.2.2.2.2.2.2.2.2.2.2.2.2.2.1, z.2.2.2.2.2.2.2.2.2.2.2.2.2.2.2.2.2.2.2.2.1, z.2.2.2.2.2.2.2.2.2.2.2.2.2.2.2.2.2.2.2.2.2.1, z.2.2.2.2.2.2.2.2.2.2.2.2.2.2.2.2.2.2.2.2.2.2.1) (p2_paths, p2_water, p2_wall, p2_kind, p2_place, p2_facing, p2_age, p2_seeds, p2_season, p2_z, p2_spots), w_isKept, (t_bytes, z.2.2.2.2.2.2.2.2.2.2.2.2.2.2.2.2.2.2.2.2.2.2.2.1, z.2.2.2.2.2.2.2.2.2.2.2.2.2.2.2.2.2.2.2.2.2.2.2.2.1, z.2.2.2.2.2.2.2.2.2.2.2.2.2.2.2.2.2.2.2.2.2.2.2.2.2.1, z.2.2.2.2.2.2.2.2.2.2.2.2.2.2.2.2.2.2.2.2.2.2.2.2.2.2.1, z.2.2.2.2.2.2.2.2.2.2.2.2.2.2.2.2.2.2.2.2.2.2.2.2.2.2.2), (h_numbers, h_bits, h_size), w_told)) hres) hP
    exact W.iret (v := q3.1) hx hb hr (fun t ht hW => ⟨congrArg (fun z => Outcome.returned (some (Value.int z.1))) hres, trivial, by rw [ht]; exact hP, hS.F ht⟩) hS.2.2 dX6_text_47
  · have hf := (if_neg hc5).symm.trans hf
    refine lv_aload_n hx hb dX6_text_27 rfl (lv_at hl 1 rfl) ?_
    refine va_get (D := g.1) (ci := 4) (v := .ref (ga g (1 + 0))) (C := RX6) (T := TX6) (N := 7) hx hb hts iwX6 hown hK hP 0 q_sp rfl 0 (by decide) hw1 (fun _ h9 => h9) rfl dX6_text_28 ?_
    refine lv_aload_n hx hb dX6_text_31 rfl (lv_at hl 1 rfl) ?_
    refine va_get (D := g.1) (ci := 4) (v := .ref (ga g (1 + 1))) (C := RX6) (T := TX6) (N := 7) hx hb hts iwX6 hown hK hP 0 q_sp rfl 1 (by decide) hw0 (fun _ h9 => h9) rfl dX6_text_32 ?_
    obtain ⟨q8, hq8, hf⟩ := bd_some hf
    refine kr_W (st1 := []) (va_runV (As := [.ref (ga g (1 + 1))]) (rest := []) ⟨hx, hb, hml, hown, hts⟩ (ct_X2_copyFrom l n g (fun P => (pk3 P (q3.2.1, q3.2.2.1, q3.2.2.2.1, q3.2.2.2.2.1, q3.2.2.2.2.2.1, q3.2.2.2.2.2.2.1, q3.2.2.2.2.2.2.2.1, q3.2.2.2.2.2.2.2.2.1, q1.2.2.2.2.2.2.2.2.1, q1.2.2.2.2.2.2.2.2.2.1, q1.2.2.2.2.2.2.2.2.2.2) (p2_paths, p2_water, p2_wall, p2_kind, p2_place, p2_facing, p2_age, p2_seeds, p2_season, p2_z, p2_spots), w_isKept, (t_bytes, t_length, q3.2.2.2.2.2.2.2.2.2.1, q3.2.2.2.2.2.2.2.2.2.2.1, q3.2.2.2.2.2.2.2.2.2.2.2.1, q3.2.2.2.2.2.2.2.2.2.2.2.2), (h_numbers, h_bits, h_size), w_told)) 0 (by decide) zP0 1 (by decide) (by decide) p0_paths p0_water p0_wall p0_kind p0_place p0_facing p0_age p0_seeds p0_season p0_z p0_spots q3.2.1 q3.2.2.1 q3.2.2.2.1 q3.2.2.2.2.1 q3.2.2.2.2.2.1 q3.2.2.2.2.2.2.1 q3.2.2.2.2.2.2.2.1 q3.2.2.2.2.2.2.2.2.1 q1.2.2.2.2.2.2.2.2.1 q1.2.2.2.2.2.2.2.2.2.1 q1.2.2.2.2.2.2.2.2.2.2 (fun _ => rfl) q8 hq8) (cwV 1 hts gX6_text_X2_copyFrom rfl rfl rfl hd_X2_copyFrom ⟨Nat.le_of_ble_eq_true rfl, Nat.le_of_ble_eq_true rfl⟩) ⟨bl_C, va_recv hK hP (ci := 0) (q0 := (1 + 0)) rfl (e_pk (by decide) rfl (Q := (p0_paths, p0_water, p0_wall, p0_kind, p0_place, p0_facing, p0_age, p0_seeds, p0_season, p0_z, p0_spots))), pr_C rfl hB hP hS⟩ rfl rfl hl.1 rfl (lv_room (Nat.le_of_ble_eq_true rfl)) dX6_text_35 ⟨Nat.le_refl _, Nat.le_refl _⟩) hS rfl (fun hn9 H locs hP hS => ?_)
    have hP : va_P g.1 vwCl (cw g (pk3 (q8.1, q8.2.1, q8.2.2.1, q8.2.2.2.1, q8.2.2.2.2.1, q8.2.2.2.2.2.1, q8.2.2.2.2.2.2.1, q8.2.2.2.2.2.2.2.1, q8.2.2.2.2.2.2.2.2.1, q8.2.2.2.2.2.2.2.2.2.1, q8.2.2.2.2.2.2.2.2.2.2) (q3.2.1, q3.2.2.1, q3.2.2.2.1, q3.2.2.2.2.1, q3.2.2.2.2.2.1, q3.2.2.2.2.2.2.1, q3.2.2.2.2.2.2.2.1, q3.2.2.2.2.2.2.2.2.1, q1.2.2.2.2.2.2.2.2.1, q1.2.2.2.2.2.2.2.2.2.1, q1.2.2.2.2.2.2.2.2.2.2) (p2_paths, p2_water, p2_wall, p2_kind, p2_place, p2_facing, p2_age, p2_seeds, p2_season, p2_z, p2_spots), w_isKept, (t_bytes, t_length, q3.2.2.2.2.2.2.2.2.2.1, q3.2.2.2.2.2.2.2.2.2.2.1, q3.2.2.2.2.2.2.2.2.2.2.2.1, q3.2.2.2.2.2.2.2.2.2.2.2.2), (h_numbers, h_bits, h_size), w_told)) H := hP
    refine lv_aload_n hx hb dX6_text_38 rfl (lv_at hl 1 rfl) ?_
    refine va_get (D := g.1) (ci := 4) (v := .ref (ga g 4)) (C := RX6) (T := TX6) (N := 7) hx hb hts iwX6 hown hK hP 0 q_sp rfl 4 (by decide) hw2 (fun _ h9 => h9) rfl dX6_text_39 ?_
    obtain ⟨q10, hq10, hf⟩ := bd_some hf
    refine kr_W (st1 := [.int q10.1]) (va_runV (As := []) (rest := []) ⟨hx, hb, hml, hown, hts⟩ (ct_X5_clear l n g (fun T => (pk3 (q8.1, q8.2.1, q8.2.2.1, q8.2.2.2.1, q8.2.2.2.2.1, q8.2.2.2.2.2.1, q8.2.2.2.2.2.2.1, q8.2.2.2.2.2.2.2.1, q8.2.2.2.2.2.2.2.2.1, q8.2.2.2.2.2.2.2.2.2.1, q8.2.2.2.2.2.2.2.2.2.2) (q3.2.1, q3.2.2.1, q3.2.2.2.1, q3.2.2.2.2.1, q3.2.2.2.2.2.1, q3.2.2.2.2.2.2.1, q3.2.2.2.2.2.2.2.1, q3.2.2.2.2.2.2.2.2.1, q1.2.2.2.2.2.2.2.2.1, q1.2.2.2.2.2.2.2.2.2.1, q1.2.2.2.2.2.2.2.2.2.2) (p2_paths, p2_water, p2_wall, p2_kind, p2_place, p2_facing, p2_age, p2_seeds, p2_season, p2_z, p2_spots), w_isKept, T, (h_numbers, h_bits, h_size), w_told)) zT0 t_bytes t_length q3.2.2.2.2.2.2.2.2.2.1 q3.2.2.2.2.2.2.2.2.2.2.1 q3.2.2.2.2.2.2.2.2.2.2.2.1 q3.2.2.2.2.2.2.2.2.2.2.2.2 q10 hq10) (cwV 0 hts gX6_text_X5_clear rfl rfl rfl hd_X5_clear ⟨Nat.le_of_ble_eq_true rfl, Nat.le_of_ble_eq_true rfl⟩) ⟨bl_C, va_recv hK hP (ci := 3) (q0 := 4) rfl (e_tp rfl (T := (t_bytes, t_length, q3.2.2.2.2.2.2.2.2.2.1, q3.2.2.2.2.2.2.2.2.2.2.1, q3.2.2.2.2.2.2.2.2.2.2.2.1, q3.2.2.2.2.2.2.2.2.2.2.2.2))), pr_C rfl hB hP hS⟩ rfl rfl hl.1 rfl (lv_room (Nat.le_of_ble_eq_true rfl)) dX6_text_42 ⟨Nat.le_refl _, Nat.le_refl _⟩) hS rfl (fun hn11 H locs hP hS => ?_)
    have hP : va_P g.1 vwCl (cw g (pk3 (q8.1, q8.2.1, q8.2.2.1, q8.2.2.2.1, q8.2.2.2.2.1, q8.2.2.2.2.2.1, q8.2.2.2.2.2.2.1, q8.2.2.2.2.2.2.2.1, q8.2.2.2.2.2.2.2.2.1, q8.2.2.2.2.2.2.2.2.2.1, q8.2.2.2.2.2.2.2.2.2.2) (q3.2.1, q3.2.2.1, q3.2.2.2.1, q3.2.2.2.2.1, q3.2.2.2.2.2.1, q3.2.2.2.2.2.2.1, q3.2.2.2.2.2.2.2.1, q3.2.2.2.2.2.2.2.2.1, q1.2.2.2.2.2.2.2.2.1, q1.2.2.2.2.2.2.2.2.2.1, q1.2.2.2.2.2.2.2.2.2.2) (p2_paths, p2_water, p2_wall, p2_kind, p2_place, p2_facing, p2_age, p2_seeds, p2_season, p2_z, p2_spots), w_isKept, (t_bytes, q10.2, q3.2.2.2.2.2.2.2.2.2.1, q3.2.2.2.2.2.2.2.2.2.2.1, q3.2.2.2.2.2.2.2.2.2.2.2.1, q3.2.2.2.2.2.2.2.2.2.2.2.2), (h_numbers, h_bits, h_size), w_told)) H := hP
    refine lv_pop hx hb dX6_text_45 rfl ?_
    refine lv_iload_n hx hb dX6_text_46 rfl (lv_at hl 0 rfl) ?_
    have hres : (q3.1, q8.1, q8.2.1, q8.2.2.1, q8.2.2.2.1, q8.2.2.2.2.1, q8.2.2.2.2.2.1, q8.2.2.2.2.2.2.1, q8.2.2.2.2.2.2.2.1, q8.2.2.2.2.2.2.2.2.1, q8.2.2.2.2.2.2.2.2.2.1, q8.2.2.2.2.2.2.2.2.2.2, q3.2.1, q3.2.2.1, q3.2.2.2.1, q3.2.2.2.2.1, q3.2.2.2.2.2.1, q3.2.2.2.2.2.2.1, q3.2.2.2.2.2.2.2.1, q3.2.2.2.2.2.2.2.2.1, q1.2.2.2.2.2.2.2.2.1, q1.2.2.2.2.2.2.2.2.2.1, q1.2.2.2.2.2.2.2.2.2.2, q10.2, q3.2.2.2.2.2.2.2.2.2.1, q3.2.2.2.2.2.2.2.2.2.2.1, q3.2.2.2.2.2.2.2.2.2.2.2.1, q3.2.2.2.2.2.2.2.2.2.2.2.2) = res := (Option.some.inj hf)
    have hP := w_eq (congrArg (fun z => cw g (pk3 (z.2.1, z.2.2.1, z.2.2.2.1, z.2.2.2.2.1, z.2.2.2.2.2.1, z.2.2.2.2.2.2.1, z.2.2.2.2.2.2.2.1, z.2.2.2.2.2.2.2.2.1, z.2.2.2.2.2.2.2.2.2.1, z.2.2.2.2.2.2.2.2.2.2.1, z.2.2.2.2.2.2.2.2.2.2.2.1) (z.2.2.2.2.2.2.2.2.2.2.2.2.1, z.2.2.2.2.2.2.2.2.2.2.2.2.2.1, z.2.2.2.2.2.2.2.2.2.2.2.2.2.2.1, z.2.2.2.2.2.2.2.2.2.2.2.2.2.2.2.1, z.2.2.2.2.2.2.2.2.2.2.2.2.2.2.2.2.1, z.2.2.2.2.2.2.2.2.2.2.2.2.2.2.2.2.2.1, z.2.2.2.2.2.2.2.2.2.2.2.2.2.2.2.2.2.2.1, z.2.2.2.2.2.2.2.2.2.2.2.2.2.2.2.2.2.2.2.1, z.2.2.2.2.2.2.2.2.2.2.2.2.2.2.2.2.2.2.2.2.1, z.2.2.2.2.2.2.2.2.2.2.2.2.2.2.2.2.2.2.2.2.2.1, z.2.2.2.2.2.2.2.2.2.2.2.2.2.2.2.2.2.2.2.2.2.2.1) (p2_paths, p2_water, p2_wall, p2_kind, p2_place, p2_facing, p2_age, p2_seeds, p2_season, p2_z, p2_spots), w_isKept, (t_bytes, z.2.2.2.2.2.2.2.2.2.2.2.2.2.2.2.2.2.2.2.2.2.2.2.1, z.2.2.2.2.2.2.2.2.2.2.2.2.2.2.2.2.2.2.2.2.2.2.2.2.1, z.2.2.2.2.2.2.2.2.2.2.2.2.2.2.2.2.2.2.2.2.2.2.2.2.2.1, z.2.2.2.2.2.2.2.2.2.2.2.2.2.2.2.2.2.2.2.2.2.2.2.2.2.2.1, z.2.2.2.2.2.2.2.2.2.2.2.2.2.2.2.2.2.2.2.2.2.2.2.2.2.2.2), (h_numbers, h_bits, h_size), w_told)) hres) hP
    exact W.iret (v := q3.1) hx hb hr (fun t ht hW => ⟨congrArg (fun z => Outcome.returned (some (Value.int z.1))) hres, trivial, by rw [ht]; exact hP, hS.F ht⟩) hS.2.2 dX6_text_47
set_option maxHeartbeats 4000000 in
set_option maxRecDepth 100000 in
theorem ct_X6_hold (l : Launch) (n : Nat) (g : GC) (p0_paths : Nat → Int32) (p0_water : Int64) (p0_wall : Int64) (p0_kind : Nat → Int32) (p0_place : Nat → Int32) (p0_facing : Nat → Int32) (p0_age : Nat → Int32) (p0_seeds : Int32) (p0_season : Int32) (p0_z : Int32) (p0_spots : Nat → Int32) (p1_paths : Nat → Int32) (p1_water : Int64) (p1_wall : Int64) (p1_kind : Nat → Int32) (p1_place : Nat → Int32) (p1_facing : Nat → Int32) (p1_age : Nat → Int32) (p1_seeds : Int32) (p1_season : Int32) (p1_z : Int32) (p1_spots : Nat → Int32) (p2_paths : Nat → Int32) (p2_water : Int64) (p2_wall : Int64) (p2_kind : Nat → Int32) (p2_place : Nat → Int32) (p2_facing : Nat → Int32) (p2_age : Nat → Int32) (p2_seeds : Int32) (p2_season : Int32) (p2_z : Int32) (p2_spots : Nat → Int32) (t_bytes : Nat → Int32) (t_length : Int32) (t_sort : Int32) (t_start : Int32) (t_end : Int32) (t_value : Int32) (h_numbers : Nat → Nat → Int32) (h_bits : Nat → Int32) (h_size : Nat → Int32) (w_isKept : Int32) (w_told : Nat → Int32) (a1 : Int32) (a2 : Int32) (res : Int32 × (Nat → Int32) × (Nat → Int32)) (hf : fX6_hold n a1 a2 p0_seeds p0_spots w_told = some res) : Met l yX6_hold wsX6_hold ({ frames := 2, cells := 0, slots := 0, locals := 43 }) (va_Pc [.ref (ga g 0), .int a1, .int a2] (cI g (pk3 (p0_paths, p0_water, p0_wall, p0_kind, p0_place, p0_facing, p0_age, p0_seeds, p0_season, p0_z, p0_spots) (p1_paths, p1_water, p1_wall, p1_kind, p1_place, p1_facing, p1_age, p1_seeds, p1_season, p1_z, p1_spots) (p2_paths, p2_water, p2_wall, p2_kind, p2_place, p2_facing, p2_age, p2_seeds, p2_season, p2_z, p2_spots), w_isKept, (t_bytes, t_length, t_sort, t_start, t_end, t_value), (h_numbers, h_bits, h_size), w_told))) (qW (some (.int res.1)) True g.1 (cw g (pk3 (p0_paths, p0_water, p0_wall, p0_kind, p0_place, p0_facing, p0_age, p0_seeds, p0_season, p0_z, res.2.1) (p1_paths, p1_water, p1_wall, p1_kind, p1_place, p1_facing, p1_age, p1_seeds, p1_season, p1_z, p1_spots) (p2_paths, p2_water, p2_wall, p2_kind, p2_place, p2_facing, p2_age, p2_seeds, p2_season, p2_z, p2_spots), w_isKept, (t_bytes, t_length, t_sort, t_start, t_end, t_value), (h_numbers, h_bits, h_size), res.2.2)) (gA g)) 0 0 (gA g) := by
  refine Met.ofW (cc := cX6_hold) (maxL := 3) (ret := (some .int)) (by decide) rfl ?_
  intro p e s m args below meth c s₁ B hml hv
  obtain ⟨rfl, hI⟩ := hv
  have hx := B.exec
  have hb := B.bytes
  have hr := B.returns
  have hts := atoms_spec (ws := wsX6_hold) B.pre
  have hown : s.vm.findClass RX6 = some m.cls := findClass_of_methodNamed B.named
  have hlocks := B.notSynchronized
  have hP := hI.1
  have hB := hI.2
  have hK := hB.1
  have hNW := hB.2.1
  have hS : va_S (gA g) s.heap s.heap [] := va_S.rf
  have hw0 := hts (.fieldLink RX6 10 "SownPaths" "park" "LSownPaths$Park;") (by decide +kernel)
  have iwX2 : ∀ w ∈ wsX20, w ∈ wsX6_hold := fun w h => List.mem_cons_of_mem _ (List.mem_append_right _ h)
  have iwX6 : ∀ w ∈ wsX60, w ∈ wsX6_hold := fun w h => List.mem_cons_of_mem _ (List.mem_append_left _ (List.mem_append_right _ h))
  have hl := lv_entry ([.ref (ga g 0), .int a1, .int a2]) (n := 3) (Nat.le_of_ble_eq_true rfl)
  rw [lg_entry_eq]
  generalize (lg_sl ([.ref (ga g 0), .int a1, .int a2]) ++ List.replicate (3 - (lg_sl ([.ref (ga g 0), .int a1, .int a2])).length) Slot.unset).toArray = ls at hl ⊢
  have hl : lv_has ls 3 [(0, .ref (ga g 0)), (1, .int a1), (2, .int a2)] := hl
  unfold fX6_hold at hf
  refine lv_iload_n hx hb dX6_hold_0 rfl (lv_at hl 1 rfl) ?_
  refine lv_iconst (v := (0 : Int32)) hx hb dX6_hold_1 (by decide) ?_
  refine lv_bipush (v := (9 : Int32)) hx hb dX6_hold_2 (by decide) ?_
  obtain ⟨q1, hq1, hf⟩ := bd_some hf
  refine kr_S (st1 := [.int q1]) (va_runS (As := [.int a1, .int (0 : Int32), .int (9 : Int32)]) (rest := []) ⟨hx, hb, hml, hown, hts⟩ (ct_X6_within l n a1 (0 : Int32) (9 : Int32) q1 hq1) (va_cwS 3 hts gX6_hold_X6_within rfl rfl rfl hn_X6_within ⟨Nat.le_of_ble_eq_true rfl, Nat.le_of_ble_eq_true rfl⟩) ⟨bl_N, pr_N rfl hNW⟩ rfl rfl hl.1 rfl (lv_room (Nat.le_of_ble_eq_true rfl)) dX6_hold_4 ⟨Nat.le_refl _, Nat.le_refl _⟩) rfl (fun hn2 => ?_)
  refine lv_if_ne (tgt := 16) hx hb dX6_hold_7 (by decide) (fun hc3 => ?_) (fun hc3 => ?_)
  · have hf := (if_neg hc3).symm.trans hf
    refine lv_iload_n hx hb dX6_hold_16 rfl (lv_at hl 2 rfl) ?_
    refine lv_iconst (v := (-1 : Int32)) hx hb dX6_hold_17 (by decide) ?_
    refine lv_icmp_eq (tgt := 38) hx hb dX6_hold_18 (by decide) (fun hc4 => ?_) (fun hc4 => ?_)
    · have hf := (if_pos hc4).symm.trans hf
      refine lv_aload_n hx hb dX6_hold_38 rfl (lv_at hl 0 rfl) ?_
      refine va_get (D := g.1) (ci := 4) (v := .ref (ga g (1 + 0))) (C := RX6) (T := TX6) (N := 7) hx hb hts iwX6 hown hK hP 0 q_sp rfl 0 (by decide) hw0 (fun _ h9 => h9) rfl dX6_hold_39 ?_
      refine va_getN (D := g.1) (ci := 0) (v := .ref (ga g (22 + 0))) (C := RX2) (T := TX2) (N := 8) hx hb hts iwX2 hown hK hP (1 + 0) (e_pk (by decide) rfl (Q := (p0_paths, p0_water, p0_wall, p0_kind, p0_place, p0_facing, p0_age, p0_seeds, p0_season, p0_z, p0_spots))) rfl 7 (by decide) (nf_X6_260 hNW) (fun _ h9 => h9) rfl dX6_hold_42 ?_
      refine lv_iload_n hx hb dX6_hold_45 rfl (lv_at hl 1 rfl) ?_
      refine lv_iload_n hx hb dX6_hold_46 rfl (lv_at hl 2 rfl) ?_
      obtain ⟨q5, hq5, hf⟩ := bd_some hf
      refine kr_W (st1 := []) (va_runS (As := [.ref (ga g (22 + 0)), .int a1, .int a2]) (rest := []) ⟨hx, hb, hml, hown, hts⟩ (ct_X6_put l n g (pk3 (p0_paths, p0_water, p0_wall, p0_kind, p0_place, p0_facing, p0_age, p0_seeds, p0_season, p0_z, p0_spots) (p1_paths, p1_water, p1_wall, p1_kind, p1_place, p1_facing, p1_age, p1_seeds, p1_season, p1_z, p1_spots) (p2_paths, p2_water, p2_wall, p2_kind, p2_place, p2_facing, p2_age, p2_seeds, p2_season, p2_z, p2_spots), w_isKept, (t_bytes, t_length, t_sort, t_start, t_end, t_value), (h_numbers, h_bits, h_size), w_told) (22 + 0) 10 p0_spots (e_so (by decide) rfl (Q := (p0_paths, p0_water, p0_wall, p0_kind, p0_place, p0_facing, p0_age, p0_seeds, p0_season, p0_z, p0_spots))) a1 a2 q5 hq5) (va_cwS 3 hts gX6_hold_X6_put rfl rfl rfl hn_X6_put ⟨Nat.le_of_ble_eq_true rfl, Nat.le_of_ble_eq_true rfl⟩) ⟨bl_C, pr_C rfl hB hP hS⟩ rfl rfl hl.1 rfl (lv_room (Nat.le_of_ble_eq_true rfl)) dX6_hold_47 ⟨Nat.le_refl _, Nat.le_refl _⟩) hS rfl (fun hn6 H locs hP hS => ?_)
      have hP : va_P g.1 vwCl (cw g (pk3 (p0_paths, p0_water, p0_wall, p0_kind, p0_place, p0_facing, p0_age, p0_seeds, p0_season, p0_z, q5) (p1_paths, p1_water, p1_wall, p1_kind, p1_place, p1_facing, p1_age, p1_seeds, p1_season, p1_z, p1_spots) (p2_paths, p2_water, p2_wall, p2_kind, p2_place, p2_facing, p2_age, p2_seeds, p2_season, p2_z, p2_spots), w_isKept, (t_bytes, t_length, t_sort, t_start, t_end, t_value), (h_numbers, h_bits, h_size), w_told)) H := w_eq (s_spots (S := (fun P => (pk3 P (p1_paths, p1_water, p1_wall, p1_kind, p1_place, p1_facing, p1_age, p1_seeds, p1_season, p1_z, p1_spots) (p2_paths, p2_water, p2_wall, p2_kind, p2_place, p2_facing, p2_age, p2_seeds, p2_season, p2_z, p2_spots), w_isKept, (t_bytes, t_length, t_sort, t_start, t_end, t_value), (h_numbers, h_bits, h_size), w_told))) (P := (p0_paths, p0_water, p0_wall, p0_kind, p0_place, p0_facing, p0_age, p0_seeds, p0_season, p0_z, p0_spots)) q5 (by decide) zP0) hP
      refine lv_iconst (v := (1 : Int32)) hx hb dX6_hold_50 (by decide) ?_
      have hres : ((1 : Int32), q5, w_told) = res := (Option.some.inj hf)
      have hP := w_eq (congrArg (fun z => cw g (pk3 (p0_paths, p0_water, p0_wall, p0_kind, p0_place, p0_facing, p0_age, p0_seeds, p0_season, p0_z, z.2.1) (p1_paths, p1_water, p1_wall, p1_kind, p1_place, p1_facing, p1_age, p1_seeds, p1_season, p1_z, p1_spots) (p2_paths, p2_water, p2_wall, p2_kind, p2_place, p2_facing, p2_age, p2_seeds, p2_season, p2_z, p2_spots), w_isKept, (t_bytes, t_length, t_sort, t_start, t_end, t_value), (h_numbers, h_bits, h_size), z.2.2)) hres) hP
      exact W.iret (v := (1 : Int32)) hx hb hr (fun t ht hW => ⟨congrArg (fun z => Outcome.returned (some (Value.int z.1))) hres, trivial, by rw [ht]; exact hP, hS.F ht⟩) hS.2.2 dX6_hold_51
    · have hf := (if_neg hc4).symm.trans hf
      refine lv_aload_n hx hb dX6_hold_21 rfl (lv_at hl 0 rfl) ?_
      refine va_get (D := g.1) (ci := 4) (v := .ref (ga g (1 + 0))) (C := RX6) (T := TX6) (N := 7) hx hb hts iwX6 hown hK hP 0 q_sp rfl 0 (by decide) hw0 (fun _ h9 => h9) rfl dX6_hold_22 ?_
      refine lv_iload_n hx hb dX6_hold_25 rfl (lv_at hl 2 rfl) ?_
      obtain ⟨q7, hq7, hf⟩ := bd_some hf
      refine kr_S (st1 := [va_rf (Option.map (fun j => ga g (25 + 8 * 0 + j)) q7)]) (va_runV (As := [.int a2]) (rest := []) ⟨hx, hb, hml, hown, hts⟩ (ct_X2_seedAt l n g (pk3 (p0_paths, p0_water, p0_wall, p0_kind, p0_place, p0_facing, p0_age, p0_seeds, p0_season, p0_z, p0_spots) (p1_paths, p1_water, p1_wall, p1_kind, p1_place, p1_facing, p1_age, p1_seeds, p1_season, p1_z, p1_spots) (p2_paths, p2_water, p2_wall, p2_kind, p2_place, p2_facing, p2_age, p2_seeds, p2_season, p2_z, p2_spots), w_isKept, (t_bytes, t_length, t_sort, t_start, t_end, t_value), (h_numbers, h_bits, h_size), w_told) 0 (by decide) p0_paths p0_water p0_wall p0_kind p0_place p0_facing p0_age p0_seeds p0_season p0_z p0_spots rfl a2 q7 hq7) (cwV 1 hts gX6_hold_X2_seedAt rfl rfl rfl hd_X2_seedAt ⟨Nat.le_of_ble_eq_true rfl, Nat.le_of_ble_eq_true rfl⟩) ⟨bl_C, va_recv hK hP (ci := 0) (q0 := (1 + 0)) rfl (e_pk (by decide) rfl (Q := (p0_paths, p0_water, p0_wall, p0_kind, p0_place, p0_facing, p0_age, p0_seeds, p0_season, p0_z, p0_spots))), pr_C rfl hB hP hS⟩ rfl rfl hl.1 rfl (lv_room (Nat.le_of_ble_eq_true rfl)) dX6_hold_26 ⟨Nat.le_refl _, Nat.le_refl _⟩) rfl (fun hn8 => ?_)
      rcases q7 with _ | j9
      · have hf := eo_n hf
        refine W.eq (g2 := F0 m 29 ls [.null]) rfl ?_
        refine lv_ifnonnullN hx hb dX6_hold_29 ?_
        refine lv_aload_n hx hb dX6_hold_32 rfl (lv_at hl 0 rfl) ?_
        refine lv_iconst (v := (0 : Int32)) hx hb dX6_hold_33 (by decide) ?_
        obtain ⟨q11, hq11, hf⟩ := bd_some hf
        refine kr_W (st1 := [.int q11.1]) (va_runV (As := [.int (0 : Int32)]) (rest := []) ⟨hx, hb, hml, hown, hts⟩ (ct_X6_finding l n g p0_paths p0_water p0_wall p0_kind p0_place p0_facing p0_age p0_seeds p0_season p0_z p0_spots p1_paths p1_water p1_wall p1_kind p1_place p1_facing p1_age p1_seeds p1_season p1_z p1_spots p2_paths p2_water p2_wall p2_kind p2_place p2_facing p2_age p2_seeds p2_season p2_z p2_spots t_bytes t_length t_sort t_start t_end t_value h_numbers h_bits h_size w_isKept w_told (0 : Int32) q11 hq11) (cwV 1 hts gX6_hold_X6_finding rfl rfl rfl hd_X6_finding ⟨Nat.le_of_ble_eq_true rfl, Nat.le_of_ble_eq_true rfl⟩) ⟨bl_C, va_recv hK hP (ci := 4) (q0 := 0) rfl q_sp, pr_C rfl hB hP hS⟩ rfl rfl hl.1 rfl (lv_room (Nat.le_of_ble_eq_true rfl)) dX6_hold_34 ⟨Nat.le_refl _, Nat.le_refl _⟩) hS rfl (fun hn12 H locs hP hS => ?_)
        have hP : va_P g.1 vwCl (cw g (pk3 (p0_paths, p0_water, p0_wall, p0_kind, p0_place, p0_facing, p0_age, p0_seeds, p0_season, p0_z, p0_spots) (p1_paths, p1_water, p1_wall, p1_kind, p1_place, p1_facing, p1_age, p1_seeds, p1_season, p1_z, p1_spots) (p2_paths, p2_water, p2_wall, p2_kind, p2_place, p2_facing, p2_age, p2_seeds, p2_season, p2_z, p2_spots), w_isKept, (t_bytes, t_length, t_sort, t_start, t_end, t_value), (h_numbers, h_bits, h_size), q11.2)) H := hP
        have hres : (q11.1, p0_spots, q11.2) = res := (Option.some.inj hf)
        have hP := w_eq (congrArg (fun z => cw g (pk3 (p0_paths, p0_water, p0_wall, p0_kind, p0_place, p0_facing, p0_age, p0_seeds, p0_season, p0_z, z.2.1) (p1_paths, p1_water, p1_wall, p1_kind, p1_place, p1_facing, p1_age, p1_seeds, p1_season, p1_z, p1_spots) (p2_paths, p2_water, p2_wall, p2_kind, p2_place, p2_facing, p2_age, p2_seeds, p2_season, p2_z, p2_spots), w_isKept, (t_bytes, t_length, t_sort, t_start, t_end, t_value), (h_numbers, h_bits, h_size), z.2.2)) hres) hP
        exact W.iret (v := q11.1) hx hb hr (fun t ht hW => ⟨congrArg (fun z => Outcome.returned (some (Value.int z.1))) hres, trivial, by rw [ht]; exact hP, hS.F ht⟩) hS.2.2 dX6_hold_37
      · have hf := eo_s hf
        have hj10 := hn8 _ rfl
        refine W.eq (g2 := F0 m 29 ls [.ref (ga g (25 + 8 * 0 + j9))]) rfl ?_
        refine lv_ifnonnull (tgt := 38) hx hb dX6_hold_29 (by decide) ?_
        refine lv_aload_n hx hb dX6_hold_38 rfl (lv_at hl 0 rfl) ?_
        refine va_get (D := g.1) (ci := 4) (v := .ref (ga g (1 + 0))) (C := RX6) (T := TX6) (N := 7) hx hb hts iwX6 hown hK hP 0 q_sp rfl 0 (by decide) hw0 (fun _ h9 => h9) rfl dX6_hold_39 ?_
        refine va_getN (D := g.1) (ci := 0) (v := .ref (ga g (22 + 0))) (C := RX2) (T := TX2) (N := 8) hx hb hts iwX2 hown hK hP (1 + 0) (e_pk (by decide) rfl (Q := (p0_paths, p0_water, p0_wall, p0_kind, p0_place, p0_facing, p0_age, p0_seeds, p0_season, p0_z, p0_spots))) rfl 7 (by decide) (nf_X6_260 hNW) (fun _ h9 => h9) rfl dX6_hold_42 ?_
        refine lv_iload_n hx hb dX6_hold_45 rfl (lv_at hl 1 rfl) ?_
        refine lv_iload_n hx hb dX6_hold_46 rfl (lv_at hl 2 rfl) ?_
        obtain ⟨q13, hq13, hf⟩ := bd_some hf
        refine kr_W (st1 := []) (va_runS (As := [.ref (ga g (22 + 0)), .int a1, .int a2]) (rest := []) ⟨hx, hb, hml, hown, hts⟩ (ct_X6_put l n g (pk3 (p0_paths, p0_water, p0_wall, p0_kind, p0_place, p0_facing, p0_age, p0_seeds, p0_season, p0_z, p0_spots) (p1_paths, p1_water, p1_wall, p1_kind, p1_place, p1_facing, p1_age, p1_seeds, p1_season, p1_z, p1_spots) (p2_paths, p2_water, p2_wall, p2_kind, p2_place, p2_facing, p2_age, p2_seeds, p2_season, p2_z, p2_spots), w_isKept, (t_bytes, t_length, t_sort, t_start, t_end, t_value), (h_numbers, h_bits, h_size), w_told) (22 + 0) 10 p0_spots (e_so (by decide) rfl (Q := (p0_paths, p0_water, p0_wall, p0_kind, p0_place, p0_facing, p0_age, p0_seeds, p0_season, p0_z, p0_spots))) a1 a2 q13 hq13) (va_cwS 3 hts gX6_hold_X6_put rfl rfl rfl hn_X6_put ⟨Nat.le_of_ble_eq_true rfl, Nat.le_of_ble_eq_true rfl⟩) ⟨bl_C, pr_C rfl hB hP hS⟩ rfl rfl hl.1 rfl (lv_room (Nat.le_of_ble_eq_true rfl)) dX6_hold_47 ⟨Nat.le_refl _, Nat.le_refl _⟩) hS rfl (fun hn14 H locs hP hS => ?_)
        have hP : va_P g.1 vwCl (cw g (pk3 (p0_paths, p0_water, p0_wall, p0_kind, p0_place, p0_facing, p0_age, p0_seeds, p0_season, p0_z, q13) (p1_paths, p1_water, p1_wall, p1_kind, p1_place, p1_facing, p1_age, p1_seeds, p1_season, p1_z, p1_spots) (p2_paths, p2_water, p2_wall, p2_kind, p2_place, p2_facing, p2_age, p2_seeds, p2_season, p2_z, p2_spots), w_isKept, (t_bytes, t_length, t_sort, t_start, t_end, t_value), (h_numbers, h_bits, h_size), w_told)) H := w_eq (s_spots (S := (fun P => (pk3 P (p1_paths, p1_water, p1_wall, p1_kind, p1_place, p1_facing, p1_age, p1_seeds, p1_season, p1_z, p1_spots) (p2_paths, p2_water, p2_wall, p2_kind, p2_place, p2_facing, p2_age, p2_seeds, p2_season, p2_z, p2_spots), w_isKept, (t_bytes, t_length, t_sort, t_start, t_end, t_value), (h_numbers, h_bits, h_size), w_told))) (P := (p0_paths, p0_water, p0_wall, p0_kind, p0_place, p0_facing, p0_age, p0_seeds, p0_season, p0_z, p0_spots)) q13 (by decide) zP0) hP
        refine lv_iconst (v := (1 : Int32)) hx hb dX6_hold_50 (by decide) ?_
        have hres : ((1 : Int32), q13, w_told) = res := (Option.some.inj hf)
        have hP := w_eq (congrArg (fun z => cw g (pk3 (p0_paths, p0_water, p0_wall, p0_kind, p0_place, p0_facing, p0_age, p0_seeds, p0_season, p0_z, z.2.1) (p1_paths, p1_water, p1_wall, p1_kind, p1_place, p1_facing, p1_age, p1_seeds, p1_season, p1_z, p1_spots) (p2_paths, p2_water, p2_wall, p2_kind, p2_place, p2_facing, p2_age, p2_seeds, p2_season, p2_z, p2_spots), w_isKept, (t_bytes, t_length, t_sort, t_start, t_end, t_value), (h_numbers, h_bits, h_size), z.2.2)) hres) hP
        exact W.iret (v := (1 : Int32)) hx hb hr (fun t ht hW => ⟨congrArg (fun z => Outcome.returned (some (Value.int z.1))) hres, trivial, by rw [ht]; exact hP, hS.F ht⟩) hS.2.2 dX6_hold_51
  · have hf := (if_pos hc3).symm.trans hf
    refine lv_aload_n hx hb dX6_hold_10 rfl (lv_at hl 0 rfl) ?_
    refine lv_iconst (v := (0 : Int32)) hx hb dX6_hold_11 (by decide) ?_
    obtain ⟨q15, hq15, hf⟩ := bd_some hf
    refine kr_W (st1 := [.int q15.1]) (va_runV (As := [.int (0 : Int32)]) (rest := []) ⟨hx, hb, hml, hown, hts⟩ (ct_X6_finding l n g p0_paths p0_water p0_wall p0_kind p0_place p0_facing p0_age p0_seeds p0_season p0_z p0_spots p1_paths p1_water p1_wall p1_kind p1_place p1_facing p1_age p1_seeds p1_season p1_z p1_spots p2_paths p2_water p2_wall p2_kind p2_place p2_facing p2_age p2_seeds p2_season p2_z p2_spots t_bytes t_length t_sort t_start t_end t_value h_numbers h_bits h_size w_isKept w_told (0 : Int32) q15 hq15) (cwV 1 hts gX6_hold_X6_finding rfl rfl rfl hd_X6_finding ⟨Nat.le_of_ble_eq_true rfl, Nat.le_of_ble_eq_true rfl⟩) ⟨bl_C, va_recv hK hP (ci := 4) (q0 := 0) rfl q_sp, pr_C rfl hB hP hS⟩ rfl rfl hl.1 rfl (lv_room (Nat.le_of_ble_eq_true rfl)) dX6_hold_12 ⟨Nat.le_refl _, Nat.le_refl _⟩) hS rfl (fun hn16 H locs hP hS => ?_)
    have hP : va_P g.1 vwCl (cw g (pk3 (p0_paths, p0_water, p0_wall, p0_kind, p0_place, p0_facing, p0_age, p0_seeds, p0_season, p0_z, p0_spots) (p1_paths, p1_water, p1_wall, p1_kind, p1_place, p1_facing, p1_age, p1_seeds, p1_season, p1_z, p1_spots) (p2_paths, p2_water, p2_wall, p2_kind, p2_place, p2_facing, p2_age, p2_seeds, p2_season, p2_z, p2_spots), w_isKept, (t_bytes, t_length, t_sort, t_start, t_end, t_value), (h_numbers, h_bits, h_size), q15.2)) H := hP
    have hres : (q15.1, p0_spots, q15.2) = res := (Option.some.inj hf)
    have hP := w_eq (congrArg (fun z => cw g (pk3 (p0_paths, p0_water, p0_wall, p0_kind, p0_place, p0_facing, p0_age, p0_seeds, p0_season, p0_z, z.2.1) (p1_paths, p1_water, p1_wall, p1_kind, p1_place, p1_facing, p1_age, p1_seeds, p1_season, p1_z, p1_spots) (p2_paths, p2_water, p2_wall, p2_kind, p2_place, p2_facing, p2_age, p2_seeds, p2_season, p2_z, p2_spots), w_isKept, (t_bytes, t_length, t_sort, t_start, t_end, t_value), (h_numbers, h_bits, h_size), z.2.2)) hres) hP
    exact W.iret (v := q15.1) hx hb hr (fun t ht hW => ⟨congrArg (fun z => Outcome.returned (some (Value.int z.1))) hres, trivial, by rw [ht]; exact hP, hS.F ht⟩) hS.2.2 dX6_hold_15
set_option maxHeartbeats 4000000 in
set_option maxRecDepth 100000 in
theorem ct_X3_kindOver (l : Launch) (n : Nat) (a0 : Int32) (res : Int32) (hf : fX3_kindOver n a0 = some res) : Met l yX3_kindOver wsX3_kindOver ({ frames := 0, cells := 0, slots := 0, locals := 0 }) (va_Pc [.int a0] NW) (qS (some (.int res)) True) 0 0 (fun _ => False) := by
  refine Met.ofW (cc := cX3_kindOver) (maxL := 1) (ret := (some .int)) (by decide) rfl ?_
  intro p e s m args below meth c s₁ B hml hv
  obtain ⟨rfl, hI⟩ := hv
  have hx := B.exec
  have hb := B.bytes
  have hr := B.returns
  have hts := atoms_spec (ws := wsX3_kindOver) B.pre
  have hown : s.vm.findClass RX3 = some m.cls := findClass_of_methodNamed B.named
  have hlocks := B.notSynchronized
  have hNW : NW s := hI
  have hl := lv_entry ([.int a0]) (n := 1) (Nat.le_of_ble_eq_true rfl)
  rw [lg_entry_eq]
  generalize (lg_sl ([.int a0]) ++ List.replicate (1 - (lg_sl ([.int a0])).length) Slot.unset).toArray = ls at hl ⊢
  have hl : lv_has ls 1 [(0, .int a0)] := hl
  unfold fX3_kindOver at hf
  refine lv_iload_n hx hb dX3_kindOver_0 rfl (lv_at hl 0 rfl) ?_
  by_cases hc1 : a0 = (3 : Int32)
  · have hf := (if_pos hc1).symm.trans hf
    refine lv_tableIn (tgt := 32) hx hb dX3_kindOver_1 (by rw [hc1]; decide) (by rw [hc1]; decide) (by rw [hc1]; rfl) (by decide) ?_
    refine lv_iconst (v := (2 : Int32)) hx hb dX3_kindOver_32 (by decide) ?_
    have hres : (2 : Int32) = res := (Option.some.inj hf)
    exact W.iret (v := (2 : Int32)) hx hb hr (fun t ht hW => ⟨congrArg (fun z => Outcome.returned (some (Value.int z))) hres, trivial, ht⟩) t_nil dX3_kindOver_33
  · have hf := (if_neg hc1).symm.trans hf
    by_cases hc2 : a0 = (4 : Int32)
    · have hf := (if_pos hc2).symm.trans hf
      refine lv_tableIn (tgt := 34) hx hb dX3_kindOver_1 (by rw [hc2]; decide) (by rw [hc2]; decide) (by rw [hc2]; rfl) (by decide) ?_
      refine lv_iconst (v := (3 : Int32)) hx hb dX3_kindOver_34 (by decide) ?_
      have hres : (3 : Int32) = res := (Option.some.inj hf)
      exact W.iret (v := (3 : Int32)) hx hb hr (fun t ht hW => ⟨congrArg (fun z => Outcome.returned (some (Value.int z))) hres, trivial, ht⟩) t_nil dX3_kindOver_35
    · have hf := (if_neg hc2).symm.trans hf
      by_cases hc3 : a0 = (5 : Int32)
      · have hf := (if_pos hc3).symm.trans hf
        refine lv_tableIn (tgt := 38) hx hb dX3_kindOver_1 (by rw [hc3]; decide) (by rw [hc3]; decide) (by rw [hc3]; rfl) (by decide) ?_
        refine lv_iconst (v := (0 : Int32)) hx hb dX3_kindOver_38 (by decide) ?_
        have hres : (0 : Int32) = res := (Option.some.inj hf)
        exact W.iret (v := (0 : Int32)) hx hb hr (fun t ht hW => ⟨congrArg (fun z => Outcome.returned (some (Value.int z))) hres, trivial, ht⟩) t_nil dX3_kindOver_39
      · have hf := (if_neg hc3).symm.trans hf
        by_cases hc4 : a0 = (6 : Int32)
        · have hf := (if_pos hc4).symm.trans hf
          refine lv_tableIn (tgt := 36) hx hb dX3_kindOver_1 (by rw [hc4]; decide) (by rw [hc4]; decide) (by rw [hc4]; rfl) (by decide) ?_
          refine lv_iconst (v := (1 : Int32)) hx hb dX3_kindOver_36 (by decide) ?_
          have hres : (1 : Int32) = res := (Option.some.inj hf)
          exact W.iret (v := (1 : Int32)) hx hb hr (fun t ht hW => ⟨congrArg (fun z => Outcome.returned (some (Value.int z))) hres, trivial, ht⟩) t_nil dX3_kindOver_37
        · have hf := (if_neg hc4).symm.trans hf
          refine lv_tableOut (tgt := 38) hx hb dX3_kindOver_1 (by have := lv_neT (a := 3) hc1 rfl; have := lv_neT (a := 4) hc2 rfl; have := lv_neT (a := 5) hc3 rfl; have := lv_neT (a := 6) hc4 rfl; omega) (by decide) ?_
          refine lv_iconst (v := (0 : Int32)) hx hb dX3_kindOver_38 (by decide) ?_
          have hres : (0 : Int32) = res := (Option.some.inj hf)
          exact W.iret (v := (0 : Int32)) hx hb hr (fun t ht hW => ⟨congrArg (fun z => Outcome.returned (some (Value.int z))) hres, trivial, ht⟩) t_nil dX3_kindOver_39
set_option maxHeartbeats 4000000 in
set_option maxRecDepth 100000 in
theorem ct_X3_isA (l : Launch) (n : Nat) (g : GC) (σ : CS) (k : Nat) (hk : k < 3) (f_paths : Nat → Int32) (f_water : Int64) (f_wall : Int64) (f_kind : Nat → Int32) (f_place : Nat → Int32) (f_facing : Nat → Int32) (f_age : Nat → Int32) (f_seeds : Int32) (f_season : Int32) (f_z : Int32) (f_spots : Nat → Int32) (he : σ.1 k = (f_paths, f_water, f_wall, f_kind, f_place, f_facing, f_age, f_seeds, f_season, f_z, f_spots)) (j : Nat) (hj : j < 8) (a1 : Int32) (res : Int32) (hf : fX3_isA n j a1 f_kind = some res) : Met l yX3_isA wsX3_isA ({ frames := 1, cells := 0, slots := 0, locals := 20 }) (va_Pc [.ref (ga g (25 + 8 * k + j)), .int a1] (cI g σ)) (qS (some (.int res)) (narrow .boolean (.int res) = .int res)) 0 0 (fun _ => False) := by
  refine Met.ofW (cc := cX3_isA) (maxL := 4) (ret := (some .boolean)) (by decide) rfl ?_
  intro p e s m args below meth c s₁ B hml hv
  obtain ⟨rfl, hI⟩ := hv
  have hx := B.exec
  have hb := B.bytes
  have hr := B.returns
  have hts := atoms_spec (ws := wsX3_isA) B.pre
  have hown : s.vm.findClass RX3 = some m.cls := findClass_of_methodNamed B.named
  have hlocks := B.notSynchronized
  have hP := hI.1
  have hB := hI.2
  have hK := hB.1
  have hNW := hB.2.1
  have hS : va_S (gA g) s.heap s.heap [] := va_S.rf
  have hw0 := hts (.fieldLink RX3 9 "SownPaths$Seed" "kind" "I") (by decide +kernel)
  have iwX3 : ∀ w ∈ wsX30, w ∈ wsX3_isA := fun w h => List.mem_cons_of_mem _ (List.mem_append_right _ h)
  have hl := lv_entry ([.ref (ga g (25 + 8 * k + j)), .int a1]) (n := 4) (Nat.le_of_ble_eq_true rfl)
  rw [lg_entry_eq]
  generalize (lg_sl ([.ref (ga g (25 + 8 * k + j)), .int a1]) ++ List.replicate (4 - (lg_sl ([.ref (ga g (25 + 8 * k + j)), .int a1])).length) Slot.unset).toArray = ls at hl ⊢
  have hl : lv_has ls 4 [(0, .ref (ga g (25 + 8 * k + j))), (1, .int a1)] := hl
  unfold fX3_isA at hf
  refine lv_aload_n hx hb dX3_isA_0 rfl (lv_at hl 0 rfl) ?_
  refine va_get (D := g.1) (ci := 1) (v := .int (f_kind j)) (C := RX3) (T := TX3) (N := 4) hx hb hts iwX3 hown hK hP (25 + 8 * k + j) (e_sd hk hj he (Q := (f_paths, f_water, f_wall, f_kind, f_place, f_facing, f_age, f_seeds, f_season, f_z, f_spots))) rfl 0 (by decide) hw0 (fun _ h9 => h9) rfl dX3_isA_1 ?_
  refine lv_istore_n (lv' := [(2, .int (f_kind j)), (0, .ref (ga g (25 + 8 * k + j))), (1, .int a1)]) hx hb dX3_isA_4 rfl hl (by decide) rfl (fun ls hl => ?_)
  refine lv_iconst (v := (0 : Int32)) hx hb dX3_isA_5 (by decide) ?_
  refine lv_istore_n (lv' := [(3, .int (0 : Int32)), (2, .int (f_kind j)), (0, .ref (ga g (25 + 8 * k + j))), (1, .int a1)]) hx hb dX3_isA_6 rfl hl (by decide) rfl (fun ls hl => ?_)
  refine lp_run hf (fun s1 => ∀ (ls : Array Slot), lv_has ls 4 [(1, .int a1), (2, .int s1.1), (3, .int s1.2)] → W p l e (headSpec wsX3_isA ({ frames := 1, cells := 0, slots := 0, locals := 20 })).room s m ([.ref (ga g (25 + 8 * k + j)), .int a1] : List Value).toArray below meth c s.heap [] 0 0 (MQ below (qS (some (.int res)) (narrow .boolean (.int res) = .int res)) ([.ref (ga g (25 + 8 * k + j)), .int a1] : List Value).toArray s 0 0 (fun _ => False)) (F0 m 7 ls [])) (fun v2 => ∀ (ls : Array Slot), lv_has ls 4 [(1, .int a1), (2, .int v2.1)] → W p l e (headSpec wsX3_isA ({ frames := 1, cells := 0, slots := 0, locals := 20 })).room s m ([.ref (ga g (25 + 8 * k + j)), .int a1] : List Value).toArray below meth c s.heap [] 0 0 (MQ below (qS (some (.int res)) (narrow .boolean (.int res) = .int res)) ([.ref (ga g (25 + 8 * k + j)), .int a1] : List Value).toArray s 0 0 (fun _ => False)) (F0 m 29 ls [])) ?_ ?_ _ (lv_sub hl [3, 1, 0] rfl)
  · intro v2 hf ls hl
    refine lv_iload_n hx hb dX3_isA_29 rfl (lv_at hl 1 rfl) ?_
    refine lv_iload_n hx hb dX3_isA_30 rfl (lv_at hl 0 rfl) ?_
    refine lv_icmp_ne (tgt := 38) hx hb dX3_isA_31 (by decide) (fun hc7 => ?_) (fun hc7 => ?_)
    · have hf := (if_neg hc7).symm.trans hf
      refine lv_iconst (v := (0 : Int32)) hx hb dX3_isA_38 (by decide) ?_
      have hres : (0 : Int32) = res := (Option.some.inj hf)
      have hnr : narrow .boolean (.int (0 : Int32)) = .int (0 : Int32) := rfl
      exact W.zret (v := (0 : Int32)) hx hb hr hnr (fun t ht hW => ⟨congrArg (fun z => Outcome.returned (some (Value.int z))) hres, Eq.mp (congrArg (fun z => narrow .boolean (.int z) = .int z) hres) hnr, ht⟩) t_nil dX3_isA_39
    · have hf := (if_pos hc7).symm.trans hf
      refine lv_iconst (v := (1 : Int32)) hx hb dX3_isA_34 (by decide) ?_
      refine lv_goto (tgt := 39) hx hb dX3_isA_35 (by decide) ?_
      have hres : (1 : Int32) = res := (Option.some.inj hf)
      have hnr : narrow .boolean (.int (1 : Int32)) = .int (1 : Int32) := rfl
      exact W.zret (v := (1 : Int32)) hx hb hr hnr (fun t ht hW => ⟨congrArg (fun z => Outcome.returned (some (Value.int z))) hres, Eq.mp (congrArg (fun z => narrow .boolean (.int z) = .int z) hres) hnr, ht⟩) t_nil dX3_isA_39
  · intro s1 r1 hf hback1 hexit1 ls hl
    refine lv_iload_n hx hb dX3_isA_7 rfl (lv_at hl 2 rfl) ?_
    refine lv_bipush (v := (7 : Int32)) hx hb dX3_isA_8 (by decide) ?_
    refine lv_icmp_ge (tgt := 29) hx hb dX3_isA_10 (by decide) (fun hc3 => ?_) (fun hc3 => ?_)
    · have hf := (if_pos hc3).symm.trans hf
      exact hexit1 (s1.1, s1.2) (Option.some.inj hf).symm ls (lv_sub hl [0, 1] rfl)
    · have hf := (if_neg hc3).symm.trans hf
      refine lv_iload_n hx hb dX3_isA_13 rfl (lv_at hl 1 rfl) ?_
      refine lv_iload_n hx hb dX3_isA_14 rfl (lv_at hl 0 rfl) ?_
      refine lv_icmp_eq (tgt := 29) hx hb dX3_isA_15 (by decide) (fun hc4 => ?_) (fun hc4 => ?_)
      · have hf := (if_pos hc4).symm.trans hf
        exact hexit1 (s1.1, s1.2) (Option.some.inj hf).symm ls (lv_sub hl [0, 1] rfl)
      · have hf := (if_neg hc4).symm.trans hf
        refine lv_iload_n hx hb dX3_isA_18 rfl (lv_at hl 1 rfl) ?_
        obtain ⟨q5, hq5, hf⟩ := bd_some hf
        refine kr_S (st1 := [.int q5]) (va_runS (As := [.int s1.1]) (rest := []) ⟨hx, hb, hml, hown, hts⟩ (ct_X3_kindOver l n s1.1 q5 hq5) (va_cwS 1 hts gX3_isA_X3_kindOver rfl rfl rfl hn_X3_kindOver ⟨Nat.le_of_ble_eq_true rfl, Nat.le_of_ble_eq_true rfl⟩) ⟨bl_N, pr_N rfl hNW⟩ rfl rfl hl.1 rfl (lv_room (Nat.le_of_ble_eq_true rfl)) dX3_isA_19 ⟨Nat.le_refl _, Nat.le_refl _⟩) rfl (fun hn6 => ?_)
        refine lv_istore_n (lv' := [(2, .int q5), (1, .int a1), (3, .int s1.2)]) hx hb dX3_isA_22 rfl hl (by decide) rfl (fun ls hl => ?_)
        refine lv_iinc (v := (s1.2 + (1 : Int32))) (lv' := [(3, .int (s1.2 + (1 : Int32))), (2, .int q5), (1, .int a1)]) hx hb dX3_isA_23 hl (k := 2) rfl (congrArg (fun y => s1.2 + y) (by decide : Int32.ofInt (1) = (1 : Int32))) (by decide) rfl (fun ls hl => ?_)
        refine lv_goto (tgt := 7) hx hb dX3_isA_26 (by decide) ?_
        exact hback1 _ (Option.some.inj hf).symm ls (lv_sub hl [2, 1, 0] rfl)
set_option maxHeartbeats 4000000 in
set_option maxRecDepth 100000 in
theorem ct_X6_as (l : Launch) (n : Nat) (g : GC) (p0_paths : Nat → Int32) (p0_water : Int64) (p0_wall : Int64) (p0_kind : Nat → Int32) (p0_place : Nat → Int32) (p0_facing : Nat → Int32) (p0_age : Nat → Int32) (p0_seeds : Int32) (p0_season : Int32) (p0_z : Int32) (p0_spots : Nat → Int32) (p1_paths : Nat → Int32) (p1_water : Int64) (p1_wall : Int64) (p1_kind : Nat → Int32) (p1_place : Nat → Int32) (p1_facing : Nat → Int32) (p1_age : Nat → Int32) (p1_seeds : Int32) (p1_season : Int32) (p1_z : Int32) (p1_spots : Nat → Int32) (p2_paths : Nat → Int32) (p2_water : Int64) (p2_wall : Int64) (p2_kind : Nat → Int32) (p2_place : Nat → Int32) (p2_facing : Nat → Int32) (p2_age : Nat → Int32) (p2_seeds : Int32) (p2_season : Int32) (p2_z : Int32) (p2_spots : Nat → Int32) (t_bytes : Nat → Int32) (t_length : Int32) (t_sort : Int32) (t_start : Int32) (t_end : Int32) (t_value : Int32) (h_numbers : Nat → Nat → Int32) (h_bits : Nat → Int32) (h_size : Nat → Int32) (w_isKept : Int32) (w_told : Nat → Int32) (a1 : Int32) (a2 : Int32) (res : Int32 × (Nat → Int32)) (hf : fX6_as n a1 a2 p0_kind p0_seeds p0_spots w_told = some res) : Met l yX6_as wsX6_as ({ frames := 2, cells := 0, slots := 0, locals := 43 }) (va_Pc [.ref (ga g 0), .int a1, .int a2] (cI g (pk3 (p0_paths, p0_water, p0_wall, p0_kind, p0_place, p0_facing, p0_age, p0_seeds, p0_season, p0_z, p0_spots) (p1_paths, p1_water, p1_wall, p1_kind, p1_place, p1_facing, p1_age, p1_seeds, p1_season, p1_z, p1_spots) (p2_paths, p2_water, p2_wall, p2_kind, p2_place, p2_facing, p2_age, p2_seeds, p2_season, p2_z, p2_spots), w_isKept, (t_bytes, t_length, t_sort, t_start, t_end, t_value), (h_numbers, h_bits, h_size), w_told))) (qW (some (.int res.1)) True g.1 (cw g (pk3 (p0_paths, p0_water, p0_wall, p0_kind, p0_place, p0_facing, p0_age, p0_seeds, p0_season, p0_z, p0_spots) (p1_paths, p1_water, p1_wall, p1_kind, p1_place, p1_facing, p1_age, p1_seeds, p1_season, p1_z, p1_spots) (p2_paths, p2_water, p2_wall, p2_kind, p2_place, p2_facing, p2_age, p2_seeds, p2_season, p2_z, p2_spots), w_isKept, (t_bytes, t_length, t_sort, t_start, t_end, t_value), (h_numbers, h_bits, h_size), res.2)) (gA g)) 0 0 (gA g) := by
  refine Met.ofW (cc := cX6_as) (maxL := 5) (ret := (some .int)) (by decide) rfl ?_
  intro p e s m args below meth c s₁ B hml hv
  obtain ⟨rfl, hI⟩ := hv
  have hx := B.exec
  have hb := B.bytes
  have hr := B.returns
  have hts := atoms_spec (ws := wsX6_as) B.pre
  have hown : s.vm.findClass RX6 = some m.cls := findClass_of_methodNamed B.named
  have hlocks := B.notSynchronized
  have hP := hI.1
  have hB := hI.2
  have hK := hB.1
  have hNW := hB.2.1
  have hS : va_S (gA g) s.heap s.heap [] := va_S.rf
  have hw0 := hts (.fieldLink RX6 10 "SownPaths" "park" "LSownPaths$Park;") (by decide +kernel)
  have iwX2 : ∀ w ∈ wsX20, w ∈ wsX6_as := fun w h => List.mem_cons_of_mem _ (List.mem_append_left _ (List.mem_append_right _ h))
  have iwX6 : ∀ w ∈ wsX60, w ∈ wsX6_as := fun w h => List.mem_cons_of_mem _ (List.mem_append_left _ (List.mem_append_left _ (List.mem_append_right _ h)))
  have hl := lv_entry ([.ref (ga g 0), .int a1, .int a2]) (n := 5) (Nat.le_of_ble_eq_true rfl)
  rw [lg_entry_eq]
  generalize (lg_sl ([.ref (ga g 0), .int a1, .int a2]) ++ List.replicate (5 - (lg_sl ([.ref (ga g 0), .int a1, .int a2])).length) Slot.unset).toArray = ls at hl ⊢
  have hl : lv_has ls 5 [(0, .ref (ga g 0)), (1, .int a1), (2, .int a2)] := hl
  unfold fX6_as at hf
  refine lv_iload_n hx hb dX6_as_0 rfl (lv_at hl 1 rfl) ?_
  refine lv_iconst (v := (0 : Int32)) hx hb dX6_as_1 (by decide) ?_
  refine lv_bipush (v := (9 : Int32)) hx hb dX6_as_2 (by decide) ?_
  obtain ⟨q1, hq1, hf⟩ := bd_some hf
  refine kr_S (st1 := [.int q1]) (va_runS (As := [.int a1, .int (0 : Int32), .int (9 : Int32)]) (rest := []) ⟨hx, hb, hml, hown, hts⟩ (ct_X6_within l n a1 (0 : Int32) (9 : Int32) q1 hq1) (va_cwS 3 hts gX6_as_X6_within rfl rfl rfl hn_X6_within ⟨Nat.le_of_ble_eq_true rfl, Nat.le_of_ble_eq_true rfl⟩) ⟨bl_N, pr_N rfl hNW⟩ rfl rfl hl.1 rfl (lv_room (Nat.le_of_ble_eq_true rfl)) dX6_as_4 ⟨Nat.le_refl _, Nat.le_refl _⟩) rfl (fun hn2 => ?_)
  refine lv_if_eq (tgt := 17) hx hb dX6_as_7 (by decide) (fun hc3 => ?_) (fun hc3 => ?_)
  · have hf := (if_pos hc3).symm.trans hf
    refine lv_aload_n hx hb dX6_as_17 rfl (lv_at hl 0 rfl) ?_
    refine lv_iconst (v := (0 : Int32)) hx hb dX6_as_18 (by decide) ?_
    obtain ⟨q4, hq4, hf⟩ := bd_some hf
    refine kr_W (st1 := [.int q4.1]) (va_runV (As := [.int (0 : Int32)]) (rest := []) ⟨hx, hb, hml, hown, hts⟩ (ct_X6_finding l n g p0_paths p0_water p0_wall p0_kind p0_place p0_facing p0_age p0_seeds p0_season p0_z p0_spots p1_paths p1_water p1_wall p1_kind p1_place p1_facing p1_age p1_seeds p1_season p1_z p1_spots p2_paths p2_water p2_wall p2_kind p2_place p2_facing p2_age p2_seeds p2_season p2_z p2_spots t_bytes t_length t_sort t_start t_end t_value h_numbers h_bits h_size w_isKept w_told (0 : Int32) q4 hq4) (cwV 1 hts gX6_as_X6_finding rfl rfl rfl hd_X6_finding ⟨Nat.le_of_ble_eq_true rfl, Nat.le_of_ble_eq_true rfl⟩) ⟨bl_C, va_recv hK hP (ci := 4) (q0 := 0) rfl q_sp, pr_C rfl hB hP hS⟩ rfl rfl hl.1 rfl (lv_room (Nat.le_of_ble_eq_true rfl)) dX6_as_19 ⟨Nat.le_refl _, Nat.le_refl _⟩) hS rfl (fun hn5 H locs hP hS => ?_)
    have hP : va_P g.1 vwCl (cw g (pk3 (p0_paths, p0_water, p0_wall, p0_kind, p0_place, p0_facing, p0_age, p0_seeds, p0_season, p0_z, p0_spots) (p1_paths, p1_water, p1_wall, p1_kind, p1_place, p1_facing, p1_age, p1_seeds, p1_season, p1_z, p1_spots) (p2_paths, p2_water, p2_wall, p2_kind, p2_place, p2_facing, p2_age, p2_seeds, p2_season, p2_z, p2_spots), w_isKept, (t_bytes, t_length, t_sort, t_start, t_end, t_value), (h_numbers, h_bits, h_size), q4.2)) H := hP
    have hres : (q4.1, q4.2) = res := (Option.some.inj hf)
    have hP := w_eq (congrArg (fun z => cw g (pk3 (p0_paths, p0_water, p0_wall, p0_kind, p0_place, p0_facing, p0_age, p0_seeds, p0_season, p0_z, p0_spots) (p1_paths, p1_water, p1_wall, p1_kind, p1_place, p1_facing, p1_age, p1_seeds, p1_season, p1_z, p1_spots) (p2_paths, p2_water, p2_wall, p2_kind, p2_place, p2_facing, p2_age, p2_seeds, p2_season, p2_z, p2_spots), w_isKept, (t_bytes, t_length, t_sort, t_start, t_end, t_value), (h_numbers, h_bits, h_size), z.2)) hres) hP
    exact W.iret (v := q4.1) hx hb hr (fun t ht hW => ⟨congrArg (fun z => Outcome.returned (some (Value.int z.1))) hres, trivial, by rw [ht]; exact hP, hS.F ht⟩) hS.2.2 dX6_as_22
  · have hf := (if_neg hc3).symm.trans hf
    refine lv_iload_n hx hb dX6_as_10 rfl (lv_at hl 2 rfl) ?_
    obtain ⟨q6, hq6, hf⟩ := bd_some hf
    refine kr_S (st1 := [.int q6]) (va_runS (As := [.int a2]) (rest := []) ⟨hx, hb, hml, hown, hts⟩ (ct_X6_isKind l n a2 q6 hq6) (va_cwS 1 hts gX6_as_X6_isKind rfl rfl rfl hn_X6_isKind ⟨Nat.le_of_ble_eq_true rfl, Nat.le_of_ble_eq_true rfl⟩) ⟨bl_N, pr_N rfl hNW⟩ rfl rfl hl.1 rfl (lv_room (Nat.le_of_ble_eq_true rfl)) dX6_as_11 ⟨Nat.le_refl _, Nat.le_refl _⟩) rfl (fun hn7 => ?_)
    refine lv_if_ne (tgt := 23) hx hb dX6_as_14 (by decide) (fun hc8 => ?_) (fun hc8 => ?_)
    · have hf := (if_neg hc8).symm.trans hf
      refine lv_aload_n hx hb dX6_as_23 rfl (lv_at hl 0 rfl) ?_
      refine va_get (D := g.1) (ci := 4) (v := .ref (ga g (1 + 0))) (C := RX6) (T := TX6) (N := 7) hx hb hts iwX6 hown hK hP 0 q_sp rfl 0 (by decide) hw0 (fun _ h9 => h9) rfl dX6_as_24 ?_
      refine va_getN (D := g.1) (ci := 0) (v := .ref (ga g (22 + 0))) (C := RX2) (T := TX2) (N := 8) hx hb hts iwX2 hown hK hP (1 + 0) (e_pk (by decide) rfl (Q := (p0_paths, p0_water, p0_wall, p0_kind, p0_place, p0_facing, p0_age, p0_seeds, p0_season, p0_z, p0_spots))) rfl 7 (by decide) (nf_X6_260 hNW) (fun _ h9 => h9) rfl dX6_as_27 ?_
      refine lv_iload_n hx hb dX6_as_30 rfl (lv_at hl 1 rfl) ?_
      obtain ⟨q9, hq9, hf⟩ := bd_some hf
      refine kr_S (st1 := [.int q9]) (va_runS (As := [.ref (ga g (22 + 0)), .int a1]) (rest := []) ⟨hx, hb, hml, hown, hts⟩ (ct_X6_at l n g (pk3 (p0_paths, p0_water, p0_wall, p0_kind, p0_place, p0_facing, p0_age, p0_seeds, p0_season, p0_z, p0_spots) (p1_paths, p1_water, p1_wall, p1_kind, p1_place, p1_facing, p1_age, p1_seeds, p1_season, p1_z, p1_spots) (p2_paths, p2_water, p2_wall, p2_kind, p2_place, p2_facing, p2_age, p2_seeds, p2_season, p2_z, p2_spots), w_isKept, (t_bytes, t_length, t_sort, t_start, t_end, t_value), (h_numbers, h_bits, h_size), w_told) (22 + 0) 10 p0_spots (e_so (by decide) rfl (Q := (p0_paths, p0_water, p0_wall, p0_kind, p0_place, p0_facing, p0_age, p0_seeds, p0_season, p0_z, p0_spots))) a1 q9 hq9) (va_cwS 2 hts gX6_as_X6_at rfl rfl rfl hn_X6_at ⟨Nat.le_of_ble_eq_true rfl, Nat.le_of_ble_eq_true rfl⟩) ⟨bl_C, pr_C rfl hB hP hS⟩ rfl rfl hl.1 rfl (lv_room (Nat.le_of_ble_eq_true rfl)) dX6_as_31 ⟨Nat.le_refl _, Nat.le_refl _⟩) rfl (fun hn10 => ?_)
      refine lv_istore_n (lv' := [(3, .int q9), (0, .ref (ga g 0)), (1, .int a1), (2, .int a2)]) hx hb dX6_as_34 rfl hl (by decide) rfl (fun ls hl => ?_)
      refine lv_aload_n hx hb dX6_as_35 rfl (lv_at hl 1 rfl) ?_
      refine va_get (D := g.1) (ci := 4) (v := .ref (ga g (1 + 0))) (C := RX6) (T := TX6) (N := 7) hx hb hts iwX6 hown hK hP 0 q_sp rfl 0 (by decide) hw0 (fun _ h9 => h9) rfl dX6_as_36 ?_
      refine lv_iload_n hx hb dX6_as_39 rfl (lv_at hl 0 rfl) ?_
      obtain ⟨q11, hq11, hf⟩ := bd_some hf
      refine kr_S (st1 := [va_rf (Option.map (fun j => ga g (25 + 8 * 0 + j)) q11)]) (va_runV (As := [.int q9]) (rest := []) ⟨hx, hb, hml, hown, hts⟩ (ct_X2_seedAt l n g (pk3 (p0_paths, p0_water, p0_wall, p0_kind, p0_place, p0_facing, p0_age, p0_seeds, p0_season, p0_z, p0_spots) (p1_paths, p1_water, p1_wall, p1_kind, p1_place, p1_facing, p1_age, p1_seeds, p1_season, p1_z, p1_spots) (p2_paths, p2_water, p2_wall, p2_kind, p2_place, p2_facing, p2_age, p2_seeds, p2_season, p2_z, p2_spots), w_isKept, (t_bytes, t_length, t_sort, t_start, t_end, t_value), (h_numbers, h_bits, h_size), w_told) 0 (by decide) p0_paths p0_water p0_wall p0_kind p0_place p0_facing p0_age p0_seeds p0_season p0_z p0_spots rfl q9 q11 hq11) (cwV 1 hts gX6_as_X2_seedAt rfl rfl rfl hd_X2_seedAt ⟨Nat.le_of_ble_eq_true rfl, Nat.le_of_ble_eq_true rfl⟩) ⟨bl_C, va_recv hK hP (ci := 0) (q0 := (1 + 0)) rfl (e_pk (by decide) rfl (Q := (p0_paths, p0_water, p0_wall, p0_kind, p0_place, p0_facing, p0_age, p0_seeds, p0_season, p0_z, p0_spots))), pr_C rfl hB hP hS⟩ rfl rfl hl.1 rfl (lv_room (Nat.le_of_ble_eq_true rfl)) dX6_as_40 ⟨Nat.le_refl _, Nat.le_refl _⟩) rfl (fun hn12 => ?_)
      rcases q11 with _ | j13
      · have hf := eo_n hf
        refine W.eq (g2 := F0 m 43 ls [.null]) rfl ?_
        refine lv_astoreN (lv' := [(4, .null), (3, .int q9), (0, .ref (ga g 0)), (1, .int a1), (2, .int a2)]) hx hb dX6_as_43 hl (by decide) rfl (fun ls hl => ?_)
        refine lv_aloadN hx hb dX6_as_45 (lv_at hl 0 rfl) ?_
        refine lv_ifnonnullN hx hb dX6_as_47 ?_
        refine lv_aload_n hx hb dX6_as_50 rfl (lv_at hl 2 rfl) ?_
        refine lv_iconst (v := (5 : Int32)) hx hb dX6_as_51 (by decide) ?_
        obtain ⟨q15, hq15, hf⟩ := bd_some hf
        refine kr_W (st1 := [.int q15.1]) (va_runV (As := [.int (5 : Int32)]) (rest := []) ⟨hx, hb, hml, hown, hts⟩ (ct_X6_finding l n g p0_paths p0_water p0_wall p0_kind p0_place p0_facing p0_age p0_seeds p0_season p0_z p0_spots p1_paths p1_water p1_wall p1_kind p1_place p1_facing p1_age p1_seeds p1_season p1_z p1_spots p2_paths p2_water p2_wall p2_kind p2_place p2_facing p2_age p2_seeds p2_season p2_z p2_spots t_bytes t_length t_sort t_start t_end t_value h_numbers h_bits h_size w_isKept w_told (5 : Int32) q15 hq15) (cwV 1 hts gX6_as_X6_finding rfl rfl rfl hd_X6_finding ⟨Nat.le_of_ble_eq_true rfl, Nat.le_of_ble_eq_true rfl⟩) ⟨bl_C, va_recv hK hP (ci := 4) (q0 := 0) rfl q_sp, pr_C rfl hB hP hS⟩ rfl rfl hl.1 rfl (lv_room (Nat.le_of_ble_eq_true rfl)) dX6_as_52 ⟨Nat.le_refl _, Nat.le_refl _⟩) hS rfl (fun hn16 H locs hP hS => ?_)
        have hP : va_P g.1 vwCl (cw g (pk3 (p0_paths, p0_water, p0_wall, p0_kind, p0_place, p0_facing, p0_age, p0_seeds, p0_season, p0_z, p0_spots) (p1_paths, p1_water, p1_wall, p1_kind, p1_place, p1_facing, p1_age, p1_seeds, p1_season, p1_z, p1_spots) (p2_paths, p2_water, p2_wall, p2_kind, p2_place, p2_facing, p2_age, p2_seeds, p2_season, p2_z, p2_spots), w_isKept, (t_bytes, t_length, t_sort, t_start, t_end, t_value), (h_numbers, h_bits, h_size), q15.2)) H := hP
        have hres : (q15.1, q15.2) = res := (Option.some.inj hf)
        have hP := w_eq (congrArg (fun z => cw g (pk3 (p0_paths, p0_water, p0_wall, p0_kind, p0_place, p0_facing, p0_age, p0_seeds, p0_season, p0_z, p0_spots) (p1_paths, p1_water, p1_wall, p1_kind, p1_place, p1_facing, p1_age, p1_seeds, p1_season, p1_z, p1_spots) (p2_paths, p2_water, p2_wall, p2_kind, p2_place, p2_facing, p2_age, p2_seeds, p2_season, p2_z, p2_spots), w_isKept, (t_bytes, t_length, t_sort, t_start, t_end, t_value), (h_numbers, h_bits, h_size), z.2)) hres) hP
        exact W.iret (v := q15.1) hx hb hr (fun t ht hW => ⟨congrArg (fun z => Outcome.returned (some (Value.int z.1))) hres, trivial, by rw [ht]; exact hP, hS.F ht⟩) hS.2.2 dX6_as_55
      · have hf := eo_s hf
        have hj14 := hn12 _ rfl
        refine W.eq (g2 := F0 m 43 ls [.ref (ga g (25 + 8 * 0 + j13))]) rfl ?_
        refine lv_astore (lv' := [(4, .ref (ga g (25 + 8 * 0 + j13))), (3, .int q9), (0, .ref (ga g 0)), (1, .int a1), (2, .int a2)]) hx hb dX6_as_43 hl (by decide) rfl (fun ls hl => ?_)
        refine lv_aload hx hb dX6_as_45 (lv_at hl 0 rfl) ?_
        refine lv_ifnonnull (tgt := 56) hx hb dX6_as_47 (by decide) ?_
        refine lv_aload hx hb dX6_as_56 (lv_at hl 0 rfl) ?_
        refine lv_iload_n hx hb dX6_as_58 rfl (lv_at hl 4 rfl) ?_
        obtain ⟨q17, hq17, hf⟩ := bd_some hf
        refine kr_S (st1 := [.int q17]) (va_runV (As := [.int a2]) (rest := []) ⟨hx, hb, hml, hown, hts⟩ (ct_X3_isA l n g (pk3 (p0_paths, p0_water, p0_wall, p0_kind, p0_place, p0_facing, p0_age, p0_seeds, p0_season, p0_z, p0_spots) (p1_paths, p1_water, p1_wall, p1_kind, p1_place, p1_facing, p1_age, p1_seeds, p1_season, p1_z, p1_spots) (p2_paths, p2_water, p2_wall, p2_kind, p2_place, p2_facing, p2_age, p2_seeds, p2_season, p2_z, p2_spots), w_isKept, (t_bytes, t_length, t_sort, t_start, t_end, t_value), (h_numbers, h_bits, h_size), w_told) 0 (by decide) p0_paths p0_water p0_wall p0_kind p0_place p0_facing p0_age p0_seeds p0_season p0_z p0_spots rfl j13 hj14 a2 q17 hq17) (cwV 1 hts gX6_as_X3_isA rfl rfl rfl hd_X3_isA ⟨Nat.le_of_ble_eq_true rfl, Nat.le_of_ble_eq_true rfl⟩) ⟨bl_C, va_recv hK hP (ci := 1) (q0 := (25 + 8 * 0 + j13)) rfl (e_sd (by decide) hj14 rfl (Q := (p0_paths, p0_water, p0_wall, p0_kind, p0_place, p0_facing, p0_age, p0_seeds, p0_season, p0_z, p0_spots))), pr_C rfl hB hP hS⟩ rfl rfl hl.1 rfl (lv_room (Nat.le_of_ble_eq_true rfl)) dX6_as_59 ⟨Nat.le_refl _, Nat.le_refl _⟩) rfl (fun hn18 => ?_)
        refine lv_if_eq (tgt := 69) hx hb dX6_as_62 (by decide) (fun hc19 => ?_) (fun hc19 => ?_)
        · have hf := (if_pos hc19).symm.trans hf
          refine lv_aload_n hx hb dX6_as_69 rfl (lv_at hl 2 rfl) ?_
          refine lv_iconst (v := (2 : Int32)) hx hb dX6_as_70 (by decide) ?_
          obtain ⟨q20, hq20, hf⟩ := bd_some hf
          refine kr_W (st1 := [.int q20.1]) (va_runV (As := [.int (2 : Int32)]) (rest := []) ⟨hx, hb, hml, hown, hts⟩ (ct_X6_finding l n g p0_paths p0_water p0_wall p0_kind p0_place p0_facing p0_age p0_seeds p0_season p0_z p0_spots p1_paths p1_water p1_wall p1_kind p1_place p1_facing p1_age p1_seeds p1_season p1_z p1_spots p2_paths p2_water p2_wall p2_kind p2_place p2_facing p2_age p2_seeds p2_season p2_z p2_spots t_bytes t_length t_sort t_start t_end t_value h_numbers h_bits h_size w_isKept w_told (2 : Int32) q20 hq20) (cwV 1 hts gX6_as_X6_finding rfl rfl rfl hd_X6_finding ⟨Nat.le_of_ble_eq_true rfl, Nat.le_of_ble_eq_true rfl⟩) ⟨bl_C, va_recv hK hP (ci := 4) (q0 := 0) rfl q_sp, pr_C rfl hB hP hS⟩ rfl rfl hl.1 rfl (lv_room (Nat.le_of_ble_eq_true rfl)) dX6_as_71 ⟨Nat.le_refl _, Nat.le_refl _⟩) hS rfl (fun hn21 H locs hP hS => ?_)
          have hP : va_P g.1 vwCl (cw g (pk3 (p0_paths, p0_water, p0_wall, p0_kind, p0_place, p0_facing, p0_age, p0_seeds, p0_season, p0_z, p0_spots) (p1_paths, p1_water, p1_wall, p1_kind, p1_place, p1_facing, p1_age, p1_seeds, p1_season, p1_z, p1_spots) (p2_paths, p2_water, p2_wall, p2_kind, p2_place, p2_facing, p2_age, p2_seeds, p2_season, p2_z, p2_spots), w_isKept, (t_bytes, t_length, t_sort, t_start, t_end, t_value), (h_numbers, h_bits, h_size), q20.2)) H := hP
          have hres : (q20.1, q20.2) = res := (Option.some.inj hf)
          have hP := w_eq (congrArg (fun z => cw g (pk3 (p0_paths, p0_water, p0_wall, p0_kind, p0_place, p0_facing, p0_age, p0_seeds, p0_season, p0_z, p0_spots) (p1_paths, p1_water, p1_wall, p1_kind, p1_place, p1_facing, p1_age, p1_seeds, p1_season, p1_z, p1_spots) (p2_paths, p2_water, p2_wall, p2_kind, p2_place, p2_facing, p2_age, p2_seeds, p2_season, p2_z, p2_spots), w_isKept, (t_bytes, t_length, t_sort, t_start, t_end, t_value), (h_numbers, h_bits, h_size), z.2)) hres) hP
          exact W.iret (v := q20.1) hx hb hr (fun t ht hW => ⟨congrArg (fun z => Outcome.returned (some (Value.int z.1))) hres, trivial, by rw [ht]; exact hP, hS.F ht⟩) hS.2.2 dX6_as_74
        · have hf := (if_neg hc19).symm.trans hf
          refine lv_iload_n hx hb dX6_as_65 rfl (lv_at hl 1 rfl) ?_
          refine lv_goto (tgt := 74) hx hb dX6_as_66 (by decide) ?_
          have hres : (q9, w_told) = res := (Option.some.inj hf)
          have hP := w_eq (congrArg (fun z => cw g (pk3 (p0_paths, p0_water, p0_wall, p0_kind, p0_place, p0_facing, p0_age, p0_seeds, p0_season, p0_z, p0_spots) (p1_paths, p1_water, p1_wall, p1_kind, p1_place, p1_facing, p1_age, p1_seeds, p1_season, p1_z, p1_spots) (p2_paths, p2_water, p2_wall, p2_kind, p2_place, p2_facing, p2_age, p2_seeds, p2_season, p2_z, p2_spots), w_isKept, (t_bytes, t_length, t_sort, t_start, t_end, t_value), (h_numbers, h_bits, h_size), z.2)) hres) hP
          exact W.iret (v := q9) hx hb hr (fun t ht hW => ⟨congrArg (fun z => Outcome.returned (some (Value.int z.1))) hres, trivial, by rw [ht]; exact hP, hS.F ht⟩) hS.2.2 dX6_as_74
    · have hf := (if_pos hc8).symm.trans hf
      refine lv_aload_n hx hb dX6_as_17 rfl (lv_at hl 0 rfl) ?_
      refine lv_iconst (v := (0 : Int32)) hx hb dX6_as_18 (by decide) ?_
      obtain ⟨q22, hq22, hf⟩ := bd_some hf
      refine kr_W (st1 := [.int q22.1]) (va_runV (As := [.int (0 : Int32)]) (rest := []) ⟨hx, hb, hml, hown, hts⟩ (ct_X6_finding l n g p0_paths p0_water p0_wall p0_kind p0_place p0_facing p0_age p0_seeds p0_season p0_z p0_spots p1_paths p1_water p1_wall p1_kind p1_place p1_facing p1_age p1_seeds p1_season p1_z p1_spots p2_paths p2_water p2_wall p2_kind p2_place p2_facing p2_age p2_seeds p2_season p2_z p2_spots t_bytes t_length t_sort t_start t_end t_value h_numbers h_bits h_size w_isKept w_told (0 : Int32) q22 hq22) (cwV 1 hts gX6_as_X6_finding rfl rfl rfl hd_X6_finding ⟨Nat.le_of_ble_eq_true rfl, Nat.le_of_ble_eq_true rfl⟩) ⟨bl_C, va_recv hK hP (ci := 4) (q0 := 0) rfl q_sp, pr_C rfl hB hP hS⟩ rfl rfl hl.1 rfl (lv_room (Nat.le_of_ble_eq_true rfl)) dX6_as_19 ⟨Nat.le_refl _, Nat.le_refl _⟩) hS rfl (fun hn23 H locs hP hS => ?_)
      have hP : va_P g.1 vwCl (cw g (pk3 (p0_paths, p0_water, p0_wall, p0_kind, p0_place, p0_facing, p0_age, p0_seeds, p0_season, p0_z, p0_spots) (p1_paths, p1_water, p1_wall, p1_kind, p1_place, p1_facing, p1_age, p1_seeds, p1_season, p1_z, p1_spots) (p2_paths, p2_water, p2_wall, p2_kind, p2_place, p2_facing, p2_age, p2_seeds, p2_season, p2_z, p2_spots), w_isKept, (t_bytes, t_length, t_sort, t_start, t_end, t_value), (h_numbers, h_bits, h_size), q22.2)) H := hP
      have hres : (q22.1, q22.2) = res := (Option.some.inj hf)
      have hP := w_eq (congrArg (fun z => cw g (pk3 (p0_paths, p0_water, p0_wall, p0_kind, p0_place, p0_facing, p0_age, p0_seeds, p0_season, p0_z, p0_spots) (p1_paths, p1_water, p1_wall, p1_kind, p1_place, p1_facing, p1_age, p1_seeds, p1_season, p1_z, p1_spots) (p2_paths, p2_water, p2_wall, p2_kind, p2_place, p2_facing, p2_age, p2_seeds, p2_season, p2_z, p2_spots), w_isKept, (t_bytes, t_length, t_sort, t_start, t_end, t_value), (h_numbers, h_bits, h_size), z.2)) hres) hP
      exact W.iret (v := q22.1) hx hb hr (fun t ht hW => ⟨congrArg (fun z => Outcome.returned (some (Value.int z.1))) hres, trivial, by rw [ht]; exact hP, hS.F ht⟩) hS.2.2 dX6_as_22
set_option maxHeartbeats 4000000 in
set_option maxRecDepth 100000 in
theorem ct_X4_canHave (l : Launch) (n : Nat) (a0 : Int32) (res : Int32) (hf : fX4_canHave n a0 = some res) : Met l yX4_canHave wsX4_canHave ({ frames := 0, cells := 0, slots := 0, locals := 0 }) (va_Pc [.int a0] NW) (qS (some (.int res)) (narrow .boolean (.int res) = .int res)) 0 0 (fun _ => False) := by
  refine Met.ofW (cc := cX4_canHave) (maxL := 1) (ret := (some .boolean)) (by decide) rfl ?_
  intro p e s m args below meth c s₁ B hml hv
  obtain ⟨rfl, hI⟩ := hv
  have hx := B.exec
  have hb := B.bytes
  have hr := B.returns
  have hts := atoms_spec (ws := wsX4_canHave) B.pre
  have hown : s.vm.findClass RX4 = some m.cls := findClass_of_methodNamed B.named
  have hlocks := B.notSynchronized
  have hNW : NW s := hI
  have hl := lv_entry ([.int a0]) (n := 1) (Nat.le_of_ble_eq_true rfl)
  rw [lg_entry_eq]
  generalize (lg_sl ([.int a0]) ++ List.replicate (1 - (lg_sl ([.int a0])).length) Slot.unset).toArray = ls at hl ⊢
  have hl : lv_has ls 1 [(0, .int a0)] := hl
  unfold fX4_canHave at hf
  refine lv_iload_n hx hb dX4_canHave_0 rfl (lv_at hl 0 rfl) ?_
  refine lv_if_eq (tgt := 22) hx hb dX4_canHave_1 (by decide) (fun hc1 => ?_) (fun hc1 => ?_)
  · have hf := (if_pos hc1).symm.trans hf
    refine lv_iconst (v := (1 : Int32)) hx hb dX4_canHave_22 (by decide) ?_
    refine lv_goto (tgt := 27) hx hb dX4_canHave_23 (by decide) ?_
    have hres : (1 : Int32) = res := (Option.some.inj hf)
    have hnr : narrow .boolean (.int (1 : Int32)) = .int (1 : Int32) := rfl
    exact W.zret (v := (1 : Int32)) hx hb hr hnr (fun t ht hW => ⟨congrArg (fun z => Outcome.returned (some (Value.int z))) hres, Eq.mp (congrArg (fun z => narrow .boolean (.int z) = .int z) hres) hnr, ht⟩) t_nil dX4_canHave_27
  · have hf := (if_neg hc1).symm.trans hf
    refine lv_iload_n hx hb dX4_canHave_4 rfl (lv_at hl 0 rfl) ?_
    refine lv_bipush (v := (8 : Int32)) hx hb dX4_canHave_5 (by decide) ?_
    refine lv_icmp_eq (tgt := 22) hx hb dX4_canHave_7 (by decide) (fun hc2 => ?_) (fun hc2 => ?_)
    · have hf := (if_pos hc2).symm.trans hf
      refine lv_iconst (v := (1 : Int32)) hx hb dX4_canHave_22 (by decide) ?_
      refine lv_goto (tgt := 27) hx hb dX4_canHave_23 (by decide) ?_
      have hres : (1 : Int32) = res := (Option.some.inj hf)
      have hnr : narrow .boolean (.int (1 : Int32)) = .int (1 : Int32) := rfl
      exact W.zret (v := (1 : Int32)) hx hb hr hnr (fun t ht hW => ⟨congrArg (fun z => Outcome.returned (some (Value.int z))) hres, Eq.mp (congrArg (fun z => narrow .boolean (.int z) = .int z) hres) hnr, ht⟩) t_nil dX4_canHave_27
    · have hf := (if_neg hc2).symm.trans hf
      refine lv_iload_n hx hb dX4_canHave_10 rfl (lv_at hl 0 rfl) ?_
      refine lv_bipush (v := (16 : Int32)) hx hb dX4_canHave_11 (by decide) ?_
      refine lv_icmp_eq (tgt := 22) hx hb dX4_canHave_13 (by decide) (fun hc3 => ?_) (fun hc3 => ?_)
      · have hf := (if_pos hc3).symm.trans hf
        refine lv_iconst (v := (1 : Int32)) hx hb dX4_canHave_22 (by decide) ?_
        refine lv_goto (tgt := 27) hx hb dX4_canHave_23 (by decide) ?_
        have hres : (1 : Int32) = res := (Option.some.inj hf)
        have hnr : narrow .boolean (.int (1 : Int32)) = .int (1 : Int32) := rfl
        exact W.zret (v := (1 : Int32)) hx hb hr hnr (fun t ht hW => ⟨congrArg (fun z => Outcome.returned (some (Value.int z))) hres, Eq.mp (congrArg (fun z => narrow .boolean (.int z) = .int z) hres) hnr, ht⟩) t_nil dX4_canHave_27
      · have hf := (if_neg hc3).symm.trans hf
        refine lv_iload_n hx hb dX4_canHave_16 rfl (lv_at hl 0 rfl) ?_
        refine lv_bipush (v := (32 : Int32)) hx hb dX4_canHave_17 (by decide) ?_
        refine lv_icmp_ne (tgt := 26) hx hb dX4_canHave_19 (by decide) (fun hc4 => ?_) (fun hc4 => ?_)
        · have hf := (if_neg hc4).symm.trans hf
          refine lv_iconst (v := (0 : Int32)) hx hb dX4_canHave_26 (by decide) ?_
          have hres : (0 : Int32) = res := (Option.some.inj hf)
          have hnr : narrow .boolean (.int (0 : Int32)) = .int (0 : Int32) := rfl
          exact W.zret (v := (0 : Int32)) hx hb hr hnr (fun t ht hW => ⟨congrArg (fun z => Outcome.returned (some (Value.int z))) hres, Eq.mp (congrArg (fun z => narrow .boolean (.int z) = .int z) hres) hnr, ht⟩) t_nil dX4_canHave_27
        · have hf := (if_pos hc4).symm.trans hf
          refine lv_iconst (v := (1 : Int32)) hx hb dX4_canHave_22 (by decide) ?_
          refine lv_goto (tgt := 27) hx hb dX4_canHave_23 (by decide) ?_
          have hres : (1 : Int32) = res := (Option.some.inj hf)
          have hnr : narrow .boolean (.int (1 : Int32)) = .int (1 : Int32) := rfl
          exact W.zret (v := (1 : Int32)) hx hb hr hnr (fun t ht hW => ⟨congrArg (fun z => Outcome.returned (some (Value.int z))) hres, Eq.mp (congrArg (fun z => narrow .boolean (.int z) = .int z) hres) hnr, ht⟩) t_nil dX4_canHave_27
set_option maxHeartbeats 4000000 in
set_option maxRecDepth 100000 in
theorem ct_X4_lay (l : Launch) (n : Nat) (g : GC) (S : SH → CS) (hL : zH S) (h_numbers : Nat → Nat → Int32) (h_bits : Nat → Int32) (h_size : Nat → Int32) (j : Nat) (hj : j < 4) (a1 : Int32) (a2 : Int32) (res : (Nat → Nat → Int32) × (Nat → Int32) × (Nat → Int32)) (hf : fX4_lay n j a1 a2 h_numbers h_bits h_size = some res) : Met l yX4_lay wsX4_lay ({ frames := 0, cells := 0, slots := 0, locals := 0 }) (va_Pc [.ref (ga g (8 + j)), .int a1, .int a2] (cI g (S (h_numbers, h_bits, h_size)))) (qW none True g.1 (cw g (S (res.1, res.2.1, res.2.2))) (gA g)) 0 0 (gA g) := by
  refine Met.ofW (cc := cX4_lay) (maxL := 4) (ret := none) (by decide) rfl ?_
  intro p e s m args below meth c s₁ B hml hv
  obtain ⟨rfl, hI⟩ := hv
  have hx := B.exec
  have hb := B.bytes
  have hr := B.returns
  have hts := atoms_spec (ws := wsX4_lay) B.pre
  have hown : s.vm.findClass RX4 = some m.cls := findClass_of_methodNamed B.named
  have hlocks := B.notSynchronized
  have hP := hI.1
  have hB := hI.2
  have hK := hB.1
  have hNW := hB.2.1
  have hS : va_S (gA g) s.heap s.heap [] := va_S.rf
  have hw0 := hts (.fieldLink RX4 15 "SownPaths$Sheet" "bits" "I") (by decide +kernel)
  have hw1 := hts (.fieldLink RX4 19 "SownPaths$Sheet" "size" "I") (by decide +kernel)
  have hw2 := hts (.fieldLink RX4 9 "SownPaths$Sheet" "numbers" "[I") (by decide +kernel)
  have iwX4 : ∀ w ∈ wsX40, w ∈ wsX4_lay := fun w h => List.mem_cons_of_mem _ (List.mem_append_right _ h)
  have hl := lv_entry ([.ref (ga g (8 + j)), .int a1, .int a2]) (n := 4) (Nat.le_of_ble_eq_true rfl)
  rw [lg_entry_eq]
  generalize (lg_sl ([.ref (ga g (8 + j)), .int a1, .int a2]) ++ List.replicate (4 - (lg_sl ([.ref (ga g (8 + j)), .int a1, .int a2])).length) Slot.unset).toArray = ls at hl ⊢
  have hl : lv_has ls 4 [(0, .ref (ga g (8 + j))), (1, .int a1), (2, .int a2)] := hl
  unfold fX4_lay at hf
  refine lv_aload_n hx hb dX4_lay_0 rfl (lv_at hl 0 rfl) ?_
  refine lv_iload_n hx hb dX4_lay_1 rfl (lv_at hl 1 rfl) ?_
  refine va_put (D := g.1) (ci := 2) (v := .int a1) (ty := .int) (C := RX4) (T := TX4) (N := 3) hx hb hts iwX4 tyX4 tyX4_ok nmX4 hown hK hP (cD hB.2.2.1 _) hS (8 + j) (e_sh hj (zH.at hL (h_numbers, h_bits, h_size)) (T := (h_numbers, h_bits, h_size))) rfl 1 (by decide) hw0 (fun _ h9 => h9) rfl (tyX4_ok 1 (by decide)) rfl rfl (Nat.le_of_ble_eq_true rfl) dX4_lay_2 (fun H locs hP _ hS => ?_)
  have hP : va_P g.1 vwCl (cw g (S (h_numbers, (upd h_bits j a1), h_size))) H := w_eq (s_bits (S := S) (T := (h_numbers, h_bits, h_size)) a1 hj hL) hP
  refine lv_aload_n hx hb dX4_lay_5 rfl (lv_at hl 0 rfl) ?_
  refine lv_iload_n hx hb dX4_lay_6 rfl (lv_at hl 1 rfl) ?_
  refine lv_if_ne (tgt := 14) hx hb dX4_lay_7 (by decide) (fun hc1 => ?_) (fun hc1 => ?_)
  · have hf := (if_neg hc1).symm.trans hf
    refine lv_iload_n hx hb dX4_lay_14 rfl (lv_at hl 2 rfl) ?_
    refine va_put (D := g.1) (ci := 2) (v := .int a2) (ty := .int) (C := RX4) (T := TX4) (N := 3) hx hb hts iwX4 tyX4 tyX4_ok nmX4 hown hK hP (cD hB.2.2.1 _) hS (8 + j) (e_sh hj (zH.at hL (h_numbers, (upd h_bits j a1), h_size)) (T := (h_numbers, (upd h_bits j a1), h_size))) rfl 2 (by decide) hw1 (fun _ h9 => h9) rfl (tyX4_ok 2 (by decide)) rfl rfl (Nat.le_of_ble_eq_true rfl) dX4_lay_15 (fun H locs hP _ hS => ?_)
    have hP : va_P g.1 vwCl (cw g (S (h_numbers, (upd h_bits j a1), (upd h_size j a2)))) H := w_eq (s_size (S := S) (T := (h_numbers, (upd h_bits j a1), h_size)) a2 hj hL) hP
    refine lv_iconst (v := (0 : Int32)) hx hb dX4_lay_18 (by decide) ?_
    refine lv_istore_n (lv' := [(3, .int (0 : Int32)), (0, .ref (ga g (8 + j))), (1, .int a1), (2, .int a2)]) hx hb dX4_lay_19 rfl hl (by decide) rfl (fun ls hl => ?_)
    refine lp_run hf (fun s2 => ∀ (H : Heap) (locs : List Loc) (ls : Array Slot), va_P g.1 vwCl (cw g (S (s2.2, (upd h_bits j a1), (upd h_size j a2)))) H → va_S (gA g) s.heap H locs → lv_has ls 4 [(0, .ref (ga g (8 + j))), (3, .int s2.1)] → W p l e (headSpec wsX4_lay ({ frames := 0, cells := 0, slots := 0, locals := 0 })).room s m ([.ref (ga g (8 + j)), .int a1, .int a2] : List Value).toArray below meth c H locs 0 0 (MQ below (qW none True g.1 (cw g (S (res.1, res.2.1, res.2.2))) (gA g)) ([.ref (ga g (8 + j)), .int a1, .int a2] : List Value).toArray s 0 0 (gA g)) (F0 m 20 ls [])) (fun v3 => ∀ (H : Heap) (locs : List Loc) (ls : Array Slot), va_P g.1 vwCl (cw g (S (v3.2, (upd h_bits j a1), (upd h_size j a2)))) H → va_S (gA g) s.heap H locs → lv_has ls 4 [] → W p l e (headSpec wsX4_lay ({ frames := 0, cells := 0, slots := 0, locals := 0 })).room s m ([.ref (ga g (8 + j)), .int a1, .int a2] : List Value).toArray below meth c H locs 0 0 (MQ below (qW none True g.1 (cw g (S (res.1, res.2.1, res.2.2))) (gA g)) ([.ref (ga g (8 + j)), .int a1, .int a2] : List Value).toArray s 0 0 (gA g)) (F0 m 42 ls [])) ?_ ?_ _ _ _ hP hS (lv_sub hl [1, 0] rfl)
    · intro v3 hf H locs ls hP hS hl
      have hres : (v3.2, (upd h_bits j a1), (upd h_size j a2)) = res := (Option.some.inj hf)
      have hP := w_eq (congrArg (fun z => cw g (S (z.1, z.2.1, z.2.2))) hres) hP
      exact W.vret hx hb hr (fun t ht hW => ⟨rfl, trivial, by rw [ht]; exact hP, hS.F ht⟩) hS.2.2 dX4_lay_42
    · intro s2 r1 hf hback1 hexit1 H locs ls hP hS hl
      refine lv_iload_n hx hb dX4_lay_20 rfl (lv_at hl 1 rfl) ?_
      refine lv_aload_n hx hb dX4_lay_21 rfl (lv_at hl 0 rfl) ?_
      refine va_get (D := g.1) (ci := 2) (v := .ref (ga g (12 + j))) (C := RX4) (T := TX4) (N := 3) hx hb hts iwX4 hown hK hP (8 + j) (e_sh hj (zH.at hL (s2.2, (upd h_bits j a1), (upd h_size j a2))) (T := (s2.2, (upd h_bits j a1), (upd h_size j a2)))) rfl 0 (by decide) hw2 (fun _ h9 => h9) rfl dX4_lay_22 ?_
      refine va_alen (v := (40 : Int32)) hx hb hK hP (12 + j) 0 (e_nu hj (zH.at hL (s2.2, (upd h_bits j a1), (upd h_size j a2))) (T := (s2.2, (upd h_bits j a1), (upd h_size j a2)))) rfl rfl dX4_lay_25 ?_
      refine lv_icmp_ge (tgt := 42) hx hb dX4_lay_26 (by decide) (fun hc4 => ?_) (fun hc4 => ?_)
      · have hf := (if_pos hc4).symm.trans hf
        exact hexit1 (s2.1, s2.2) (Option.some.inj hf).symm H locs ls hP hS (lv_sub hl [] rfl)
      · have hf := (if_neg hc4).symm.trans hf
        refine lv_aload_n hx hb dX4_lay_29 rfl (lv_at hl 0 rfl) ?_
        refine va_get (D := g.1) (ci := 2) (v := .ref (ga g (12 + j))) (C := RX4) (T := TX4) (N := 3) hx hb hts iwX4 hown hK hP (8 + j) (e_sh hj (zH.at hL (s2.2, (upd h_bits j a1), (upd h_size j a2))) (T := (s2.2, (upd h_bits j a1), (upd h_size j a2)))) rfl 0 (by decide) hw2 (fun _ h9 => h9) rfl dX4_lay_30 ?_
        refine lv_iload_n hx hb dX4_lay_33 rfl (lv_at hl 1 rfl) ?_
        refine lv_iconst (v := (0 : Int32)) hx hb dX4_lay_34 (by decide) ?_
        obtain ⟨hg5, hf⟩ := gd_some hf
        refine va_iast (f := (s2.2 j)) hx hb hK hP (cD hB.2.2.1 _) hS (12 + j) 0 (e_nu hj (zH.at hL (s2.2, (upd h_bits j a1), (upd h_size j a2))) (T := (s2.2, (upd h_bits j a1), (upd h_size j a2)))) rfl hg5 dX4_lay_35 (fun H locs hP _ hS => ?_)
        have hP : va_P g.1 vwCl (cw g (S ((updN s2.2 j (upd (s2.2 j) s2.1.toNatClampNeg (0 : Int32))), (upd h_bits j a1), (upd h_size j a2)))) H := w_eq (s_nums (S := S) (T := (s2.2, (upd h_bits j a1), (upd h_size j a2))) (upd (s2.2 j) s2.1.toNatClampNeg (0 : Int32)) hj hL) hP
        refine lv_iinc (v := (s2.1 + (1 : Int32))) (lv' := [(3, .int (s2.1 + (1 : Int32))), (0, .ref (ga g (8 + j)))]) hx hb dX4_lay_36 hl (k := 1) rfl (congrArg (fun y => s2.1 + y) (by decide : Int32.ofInt (1) = (1 : Int32))) (by decide) rfl (fun ls hl => ?_)
        refine lv_goto (tgt := 20) hx hb dX4_lay_39 (by decide) ?_
        exact hback1 _ (Option.some.inj hf).symm H locs ls hP hS (lv_sub hl [1, 0] rfl)
  · have hf := (if_pos hc1).symm.trans hf
    refine lv_iconst (v := (0 : Int32)) hx hb dX4_lay_10 (by decide) ?_
    refine lv_goto (tgt := 15) hx hb dX4_lay_11 (by decide) ?_
    refine va_put (D := g.1) (ci := 2) (v := .int (0 : Int32)) (ty := .int) (C := RX4) (T := TX4) (N := 3) hx hb hts iwX4 tyX4 tyX4_ok nmX4 hown hK hP (cD hB.2.2.1 _) hS (8 + j) (e_sh hj (zH.at hL (h_numbers, (upd h_bits j a1), h_size)) (T := (h_numbers, (upd h_bits j a1), h_size))) rfl 2 (by decide) hw1 (fun _ h9 => h9) rfl (tyX4_ok 2 (by decide)) rfl rfl (Nat.le_of_ble_eq_true rfl) dX4_lay_15 (fun H locs hP _ hS => ?_)
    have hP : va_P g.1 vwCl (cw g (S (h_numbers, (upd h_bits j a1), (upd h_size j (0 : Int32))))) H := w_eq (s_size (S := S) (T := (h_numbers, (upd h_bits j a1), h_size)) (0 : Int32) hj hL) hP
    refine lv_iconst (v := (0 : Int32)) hx hb dX4_lay_18 (by decide) ?_
    refine lv_istore_n (lv' := [(3, .int (0 : Int32)), (0, .ref (ga g (8 + j))), (1, .int a1), (2, .int a2)]) hx hb dX4_lay_19 rfl hl (by decide) rfl (fun ls hl => ?_)
    refine lp_run hf (fun s6 => ∀ (H : Heap) (locs : List Loc) (ls : Array Slot), va_P g.1 vwCl (cw g (S (s6.2, (upd h_bits j a1), (upd h_size j (0 : Int32))))) H → va_S (gA g) s.heap H locs → lv_has ls 4 [(0, .ref (ga g (8 + j))), (3, .int s6.1)] → W p l e (headSpec wsX4_lay ({ frames := 0, cells := 0, slots := 0, locals := 0 })).room s m ([.ref (ga g (8 + j)), .int a1, .int a2] : List Value).toArray below meth c H locs 0 0 (MQ below (qW none True g.1 (cw g (S (res.1, res.2.1, res.2.2))) (gA g)) ([.ref (ga g (8 + j)), .int a1, .int a2] : List Value).toArray s 0 0 (gA g)) (F0 m 20 ls [])) (fun v7 => ∀ (H : Heap) (locs : List Loc) (ls : Array Slot), va_P g.1 vwCl (cw g (S (v7.2, (upd h_bits j a1), (upd h_size j (0 : Int32))))) H → va_S (gA g) s.heap H locs → lv_has ls 4 [] → W p l e (headSpec wsX4_lay ({ frames := 0, cells := 0, slots := 0, locals := 0 })).room s m ([.ref (ga g (8 + j)), .int a1, .int a2] : List Value).toArray below meth c H locs 0 0 (MQ below (qW none True g.1 (cw g (S (res.1, res.2.1, res.2.2))) (gA g)) ([.ref (ga g (8 + j)), .int a1, .int a2] : List Value).toArray s 0 0 (gA g)) (F0 m 42 ls [])) ?_ ?_ _ _ _ hP hS (lv_sub hl [1, 0] rfl)
    · intro v7 hf H locs ls hP hS hl
      have hres : (v7.2, (upd h_bits j a1), (upd h_size j (0 : Int32))) = res := (Option.some.inj hf)
      have hP := w_eq (congrArg (fun z => cw g (S (z.1, z.2.1, z.2.2))) hres) hP
      exact W.vret hx hb hr (fun t ht hW => ⟨rfl, trivial, by rw [ht]; exact hP, hS.F ht⟩) hS.2.2 dX4_lay_42
    · intro s6 r1 hf hback1 hexit1 H locs ls hP hS hl
      refine lv_iload_n hx hb dX4_lay_20 rfl (lv_at hl 1 rfl) ?_
      refine lv_aload_n hx hb dX4_lay_21 rfl (lv_at hl 0 rfl) ?_
      refine va_get (D := g.1) (ci := 2) (v := .ref (ga g (12 + j))) (C := RX4) (T := TX4) (N := 3) hx hb hts iwX4 hown hK hP (8 + j) (e_sh hj (zH.at hL (s6.2, (upd h_bits j a1), (upd h_size j (0 : Int32)))) (T := (s6.2, (upd h_bits j a1), (upd h_size j (0 : Int32))))) rfl 0 (by decide) hw2 (fun _ h9 => h9) rfl dX4_lay_22 ?_
      refine va_alen (v := (40 : Int32)) hx hb hK hP (12 + j) 0 (e_nu hj (zH.at hL (s6.2, (upd h_bits j a1), (upd h_size j (0 : Int32)))) (T := (s6.2, (upd h_bits j a1), (upd h_size j (0 : Int32))))) rfl rfl dX4_lay_25 ?_
      refine lv_icmp_ge (tgt := 42) hx hb dX4_lay_26 (by decide) (fun hc8 => ?_) (fun hc8 => ?_)
      · have hf := (if_pos hc8).symm.trans hf
        exact hexit1 (s6.1, s6.2) (Option.some.inj hf).symm H locs ls hP hS (lv_sub hl [] rfl)
      · have hf := (if_neg hc8).symm.trans hf
        refine lv_aload_n hx hb dX4_lay_29 rfl (lv_at hl 0 rfl) ?_
        refine va_get (D := g.1) (ci := 2) (v := .ref (ga g (12 + j))) (C := RX4) (T := TX4) (N := 3) hx hb hts iwX4 hown hK hP (8 + j) (e_sh hj (zH.at hL (s6.2, (upd h_bits j a1), (upd h_size j (0 : Int32)))) (T := (s6.2, (upd h_bits j a1), (upd h_size j (0 : Int32))))) rfl 0 (by decide) hw2 (fun _ h9 => h9) rfl dX4_lay_30 ?_
        refine lv_iload_n hx hb dX4_lay_33 rfl (lv_at hl 1 rfl) ?_
        refine lv_iconst (v := (0 : Int32)) hx hb dX4_lay_34 (by decide) ?_
        obtain ⟨hg9, hf⟩ := gd_some hf
        refine va_iast (f := (s6.2 j)) hx hb hK hP (cD hB.2.2.1 _) hS (12 + j) 0 (e_nu hj (zH.at hL (s6.2, (upd h_bits j a1), (upd h_size j (0 : Int32)))) (T := (s6.2, (upd h_bits j a1), (upd h_size j (0 : Int32))))) rfl hg9 dX4_lay_35 (fun H locs hP _ hS => ?_)
        have hP : va_P g.1 vwCl (cw g (S ((updN s6.2 j (upd (s6.2 j) s6.1.toNatClampNeg (0 : Int32))), (upd h_bits j a1), (upd h_size j (0 : Int32))))) H := w_eq (s_nums (S := S) (T := (s6.2, (upd h_bits j a1), (upd h_size j (0 : Int32)))) (upd (s6.2 j) s6.1.toNatClampNeg (0 : Int32)) hj hL) hP
        refine lv_iinc (v := (s6.1 + (1 : Int32))) (lv' := [(3, .int (s6.1 + (1 : Int32))), (0, .ref (ga g (8 + j)))]) hx hb dX4_lay_36 hl (k := 1) rfl (congrArg (fun y => s6.1 + y) (by decide : Int32.ofInt (1) = (1 : Int32))) (by decide) rfl (fun ls hl => ?_)
        refine lv_goto (tgt := 20) hx hb dX4_lay_39 (by decide) ?_
        exact hback1 _ (Option.some.inj hf).symm H locs ls hP hS (lv_sub hl [1, 0] rfl)
set_option maxHeartbeats 4000000 in
set_option maxRecDepth 100000 in
theorem ct_X6_sheet (l : Launch) (n : Nat) (g : GC) (p0_paths : Nat → Int32) (p0_water : Int64) (p0_wall : Int64) (p0_kind : Nat → Int32) (p0_place : Nat → Int32) (p0_facing : Nat → Int32) (p0_age : Nat → Int32) (p0_seeds : Int32) (p0_season : Int32) (p0_z : Int32) (p0_spots : Nat → Int32) (p1_paths : Nat → Int32) (p1_water : Int64) (p1_wall : Int64) (p1_kind : Nat → Int32) (p1_place : Nat → Int32) (p1_facing : Nat → Int32) (p1_age : Nat → Int32) (p1_seeds : Int32) (p1_season : Int32) (p1_z : Int32) (p1_spots : Nat → Int32) (p2_paths : Nat → Int32) (p2_water : Int64) (p2_wall : Int64) (p2_kind : Nat → Int32) (p2_place : Nat → Int32) (p2_facing : Nat → Int32) (p2_age : Nat → Int32) (p2_seeds : Int32) (p2_season : Int32) (p2_z : Int32) (p2_spots : Nat → Int32) (t_bytes : Nat → Int32) (t_length : Int32) (t_sort : Int32) (t_start : Int32) (t_end : Int32) (t_value : Int32) (h_numbers : Nat → Nat → Int32) (h_bits : Nat → Int32) (h_size : Nat → Int32) (w_isKept : Int32) (w_told : Nat → Int32) (a1 : Int32) (a2 : Int32) (a3 : Int32) (res : Int32 × (Nat → Nat → Int32) × (Nat → Int32) × (Nat → Int32) × (Nat → Int32)) (hf : fX6_sheet n a1 a2 a3 h_numbers h_bits h_size w_told = some res) : Met l yX6_sheet wsX6_sheet ({ frames := 2, cells := 0, slots := 0, locals := 43 }) (va_Pc [.ref (ga g 0), .int a1, .int a2, .int a3] (cI g (pk3 (p0_paths, p0_water, p0_wall, p0_kind, p0_place, p0_facing, p0_age, p0_seeds, p0_season, p0_z, p0_spots) (p1_paths, p1_water, p1_wall, p1_kind, p1_place, p1_facing, p1_age, p1_seeds, p1_season, p1_z, p1_spots) (p2_paths, p2_water, p2_wall, p2_kind, p2_place, p2_facing, p2_age, p2_seeds, p2_season, p2_z, p2_spots), w_isKept, (t_bytes, t_length, t_sort, t_start, t_end, t_value), (h_numbers, h_bits, h_size), w_told))) (qW (some (.int res.1)) True g.1 (cw g (pk3 (p0_paths, p0_water, p0_wall, p0_kind, p0_place, p0_facing, p0_age, p0_seeds, p0_season, p0_z, p0_spots) (p1_paths, p1_water, p1_wall, p1_kind, p1_place, p1_facing, p1_age, p1_seeds, p1_season, p1_z, p1_spots) (p2_paths, p2_water, p2_wall, p2_kind, p2_place, p2_facing, p2_age, p2_seeds, p2_season, p2_z, p2_spots), w_isKept, (t_bytes, t_length, t_sort, t_start, t_end, t_value), (res.2.1, res.2.2.1, res.2.2.2.1), res.2.2.2.2)) (gA g)) 0 0 (gA g) := by
  refine Met.ofW (cc := cX6_sheet) (maxL := 5) (ret := (some .int)) (by decide) rfl ?_
  intro p e s m args below meth c s₁ B hml hv
  obtain ⟨rfl, hI⟩ := hv
  have hx := B.exec
  have hb := B.bytes
  have hr := B.returns
  have hts := atoms_spec (ws := wsX6_sheet) B.pre
  have hown : s.vm.findClass RX6 = some m.cls := findClass_of_methodNamed B.named
  have hlocks := B.notSynchronized
  have hP := hI.1
  have hB := hI.2
  have hK := hB.1
  have hNW := hB.2.1
  have hS : va_S (gA g) s.heap s.heap [] := va_S.rf
  have iwX4 : ∀ w ∈ wsX40, w ∈ wsX6_sheet := fun w h => List.mem_cons_of_mem _ (List.mem_append_left _ (List.mem_append_right _ h))
  have hl := lv_entry ([.ref (ga g 0), .int a1, .int a2, .int a3]) (n := 5) (Nat.le_of_ble_eq_true rfl)
  rw [lg_entry_eq]
  generalize (lg_sl ([.ref (ga g 0), .int a1, .int a2, .int a3]) ++ List.replicate (5 - (lg_sl ([.ref (ga g 0), .int a1, .int a2, .int a3])).length) Slot.unset).toArray = ls at hl ⊢
  have hl : lv_has ls 5 [(0, .ref (ga g 0)), (1, .int a1), (2, .int a2), (3, .int a3)] := hl
  unfold fX6_sheet at hf
  refine lv_aload_n hx hb dX6_sheet_0 rfl (lv_at hl 0 rfl) ?_
  refine lv_iload_n hx hb dX6_sheet_1 rfl (lv_at hl 1 rfl) ?_
  obtain ⟨q1, hq1, hf⟩ := bd_some hf
  refine kr_S (st1 := [va_rf (Option.map (fun j => ga g (8 + j)) q1)]) (va_runV (As := [.int a1]) (rest := []) ⟨hx, hb, hml, hown, hts⟩ (ct_X6_sheetAt l n g p0_paths p0_water p0_wall p0_kind p0_place p0_facing p0_age p0_seeds p0_season p0_z p0_spots p1_paths p1_water p1_wall p1_kind p1_place p1_facing p1_age p1_seeds p1_season p1_z p1_spots p2_paths p2_water p2_wall p2_kind p2_place p2_facing p2_age p2_seeds p2_season p2_z p2_spots t_bytes t_length t_sort t_start t_end t_value h_numbers h_bits h_size w_isKept w_told a1 q1 hq1) (cwV 1 hts gX6_sheet_X6_sheetAt rfl rfl rfl hd_X6_sheetAt ⟨Nat.le_of_ble_eq_true rfl, Nat.le_of_ble_eq_true rfl⟩) ⟨bl_C, va_recv hK hP (ci := 4) (q0 := 0) rfl q_sp, pr_C rfl hB hP hS⟩ rfl rfl hl.1 rfl (lv_room (Nat.le_of_ble_eq_true rfl)) dX6_sheet_2 ⟨Nat.le_refl _, Nat.le_refl _⟩) rfl (fun hn2 => ?_)
  rcases q1 with _ | j3
  · have hf := eo_n hf
    refine W.eq (g2 := F0 m 5 ls [.null]) rfl ?_
    refine lv_astoreN (lv' := [(4, .null), (0, .ref (ga g 0)), (1, .int a1), (2, .int a2), (3, .int a3)]) hx hb dX6_sheet_5 hl (by decide) rfl (fun ls hl => ?_)
    refine lv_aloadN hx hb dX6_sheet_7 (lv_at hl 0 rfl) ?_
    refine lv_ifnullN (tgt := 19) hx hb dX6_sheet_9 (by decide) ?_
    refine lv_aload_n hx hb dX6_sheet_19 rfl (lv_at hl 1 rfl) ?_
    refine lv_iconst (v := (0 : Int32)) hx hb dX6_sheet_20 (by decide) ?_
    obtain ⟨q5, hq5, hf⟩ := bd_some hf
    refine kr_W (st1 := [.int q5.1]) (va_runV (As := [.int (0 : Int32)]) (rest := []) ⟨hx, hb, hml, hown, hts⟩ (ct_X6_finding l n g p0_paths p0_water p0_wall p0_kind p0_place p0_facing p0_age p0_seeds p0_season p0_z p0_spots p1_paths p1_water p1_wall p1_kind p1_place p1_facing p1_age p1_seeds p1_season p1_z p1_spots p2_paths p2_water p2_wall p2_kind p2_place p2_facing p2_age p2_seeds p2_season p2_z p2_spots t_bytes t_length t_sort t_start t_end t_value h_numbers h_bits h_size w_isKept w_told (0 : Int32) q5 hq5) (cwV 1 hts gX6_sheet_X6_finding rfl rfl rfl hd_X6_finding ⟨Nat.le_of_ble_eq_true rfl, Nat.le_of_ble_eq_true rfl⟩) ⟨bl_C, va_recv hK hP (ci := 4) (q0 := 0) rfl q_sp, pr_C rfl hB hP hS⟩ rfl rfl hl.1 rfl (lv_room (Nat.le_of_ble_eq_true rfl)) dX6_sheet_21 ⟨Nat.le_refl _, Nat.le_refl _⟩) hS rfl (fun hn6 H locs hP hS => ?_)
    have hP : va_P g.1 vwCl (cw g (pk3 (p0_paths, p0_water, p0_wall, p0_kind, p0_place, p0_facing, p0_age, p0_seeds, p0_season, p0_z, p0_spots) (p1_paths, p1_water, p1_wall, p1_kind, p1_place, p1_facing, p1_age, p1_seeds, p1_season, p1_z, p1_spots) (p2_paths, p2_water, p2_wall, p2_kind, p2_place, p2_facing, p2_age, p2_seeds, p2_season, p2_z, p2_spots), w_isKept, (t_bytes, t_length, t_sort, t_start, t_end, t_value), (h_numbers, h_bits, h_size), q5.2)) H := hP
    have hres : (q5.1, h_numbers, h_bits, h_size, q5.2) = res := (Option.some.inj hf)
    have hP := w_eq (congrArg (fun z => cw g (pk3 (p0_paths, p0_water, p0_wall, p0_kind, p0_place, p0_facing, p0_age, p0_seeds, p0_season, p0_z, p0_spots) (p1_paths, p1_water, p1_wall, p1_kind, p1_place, p1_facing, p1_age, p1_seeds, p1_season, p1_z, p1_spots) (p2_paths, p2_water, p2_wall, p2_kind, p2_place, p2_facing, p2_age, p2_seeds, p2_season, p2_z, p2_spots), w_isKept, (t_bytes, t_length, t_sort, t_start, t_end, t_value), (z.2.1, z.2.2.1, z.2.2.2.1), z.2.2.2.2)) hres) hP
    exact W.iret (v := q5.1) hx hb hr (fun t ht hW => ⟨congrArg (fun z => Outcome.returned (some (Value.int z.1))) hres, trivial, by rw [ht]; exact hP, hS.F ht⟩) hS.2.2 dX6_sheet_24
  · have hf := eo_s hf
    have hj4 := hn2 _ rfl
    refine W.eq (g2 := F0 m 5 ls [.ref (ga g (8 + j3))]) rfl ?_
    refine lv_astore (lv' := [(4, .ref (ga g (8 + j3))), (0, .ref (ga g 0)), (1, .int a1), (2, .int a2), (3, .int a3)]) hx hb dX6_sheet_5 hl (by decide) rfl (fun ls hl => ?_)
    refine lv_aload hx hb dX6_sheet_7 (lv_at hl 0 rfl) ?_
    refine lv_ifnull hx hb dX6_sheet_9 ?_
    refine lv_iload_n hx hb dX6_sheet_12 rfl (lv_at hl 3 rfl) ?_
    obtain ⟨q7, hq7, hf⟩ := bd_some hf
    refine kr_S (st1 := [.int q7]) (va_runS (As := [.int a2]) (rest := []) ⟨hx, hb, hml, hown, hts⟩ (ct_X4_canHave l n a2 q7 hq7) (va_cwS 1 hts gX6_sheet_X4_canHave rfl rfl rfl hn_X4_canHave ⟨Nat.le_of_ble_eq_true rfl, Nat.le_of_ble_eq_true rfl⟩) ⟨bl_N, pr_N rfl hNW⟩ rfl rfl hl.1 rfl (lv_room (Nat.le_of_ble_eq_true rfl)) dX6_sheet_13 ⟨Nat.le_refl _, Nat.le_refl _⟩) rfl (fun hn8 => ?_)
    refine lv_if_ne (tgt := 25) hx hb dX6_sheet_16 (by decide) (fun hc9 => ?_) (fun hc9 => ?_)
    · have hf := (if_neg hc9).symm.trans hf
      refine lv_iload_n hx hb dX6_sheet_25 rfl (lv_at hl 4 rfl) ?_
      refine lv_if_ge (tgt := 36) hx hb dX6_sheet_26 (by decide) (fun hc10 => ?_) (fun hc10 => ?_)
      · have hf := (if_pos hc10).symm.trans hf
        refine lv_iload_n hx hb dX6_sheet_36 rfl (lv_at hl 4 rfl) ?_
        refine lv_bipush (v := (40 : Int32)) hx hb dX6_sheet_37 (by decide) ?_
        refine lv_icmp_le (tgt := 48) hx hb dX6_sheet_39 (by decide) (fun hc11 => ?_) (fun hc11 => ?_)
        · have hf := (if_pos hc11).symm.trans hf
          refine lv_aload hx hb dX6_sheet_48 (lv_at hl 0 rfl) ?_
          refine lv_iload_n hx hb dX6_sheet_50 rfl (lv_at hl 3 rfl) ?_
          refine lv_iload_n hx hb dX6_sheet_51 rfl (lv_at hl 4 rfl) ?_
          obtain ⟨q12, hq12, hf⟩ := bd_some hf
          refine kr_W (st1 := []) (va_runV (As := [.int a2, .int a3]) (rest := []) ⟨hx, hb, hml, hown, hts⟩ (ct_X4_lay l n g (fun h => (pk3 (p0_paths, p0_water, p0_wall, p0_kind, p0_place, p0_facing, p0_age, p0_seeds, p0_season, p0_z, p0_spots) (p1_paths, p1_water, p1_wall, p1_kind, p1_place, p1_facing, p1_age, p1_seeds, p1_season, p1_z, p1_spots) (p2_paths, p2_water, p2_wall, p2_kind, p2_place, p2_facing, p2_age, p2_seeds, p2_season, p2_z, p2_spots), w_isKept, (t_bytes, t_length, t_sort, t_start, t_end, t_value), h, w_told)) zH0 h_numbers h_bits h_size j3 hj4 a2 a3 q12 hq12) (cwV 2 hts gX6_sheet_X4_lay rfl rfl rfl hd_X4_lay ⟨Nat.le_of_ble_eq_true rfl, Nat.le_of_ble_eq_true rfl⟩) ⟨bl_C, va_recv hK hP (ci := 2) (q0 := (8 + j3)) rfl (e_sh hj4 rfl (T := (h_numbers, h_bits, h_size))), pr_C rfl hB hP hS⟩ rfl rfl hl.1 rfl (lv_room (Nat.le_of_ble_eq_true rfl)) dX6_sheet_52 ⟨Nat.le_refl _, Nat.le_refl _⟩) hS rfl (fun hn13 H locs hP hS => ?_)
          have hP : va_P g.1 vwCl (cw g (pk3 (p0_paths, p0_water, p0_wall, p0_kind, p0_place, p0_facing, p0_age, p0_seeds, p0_season, p0_z, p0_spots) (p1_paths, p1_water, p1_wall, p1_kind, p1_place, p1_facing, p1_age, p1_seeds, p1_season, p1_z, p1_spots) (p2_paths, p2_water, p2_wall, p2_kind, p2_place, p2_facing, p2_age, p2_seeds, p2_season, p2_z, p2_spots), w_isKept, (t_bytes, t_length, t_sort, t_start, t_end, t_value), (q12.1, q12.2.1, q12.2.2), w_told)) H := hP
          refine lv_aload hx hb dX6_sheet_55 (lv_at hl 0 rfl) ?_
          refine va_getN (D := g.1) (ci := 2) (v := .int (q12.2.2 j3)) (C := RX4) (T := TX4) (N := 3) hx hb hts iwX4 hown hK hP (8 + j3) (e_sh hj4 rfl (T := (q12.1, q12.2.1, q12.2.2))) rfl 2 (by decide) (nf_X6_280 hNW) (fun _ h9 => h9) rfl dX6_sheet_57 ?_
          have hres : ((q12.2.2 j3), q12.1, q12.2.1, q12.2.2, w_told) = res := (Option.some.inj hf)
          have hP := w_eq (congrArg (fun z => cw g (pk3 (p0_paths, p0_water, p0_wall, p0_kind, p0_place, p0_facing, p0_age, p0_seeds, p0_season, p0_z, p0_spots) (p1_paths, p1_water, p1_wall, p1_kind, p1_place, p1_facing, p1_age, p1_seeds, p1_season, p1_z, p1_spots) (p2_paths, p2_water, p2_wall, p2_kind, p2_place, p2_facing, p2_age, p2_seeds, p2_season, p2_z, p2_spots), w_isKept, (t_bytes, t_length, t_sort, t_start, t_end, t_value), (z.2.1, z.2.2.1, z.2.2.2.1), z.2.2.2.2)) hres) hP
          exact W.iret (v := (q12.2.2 j3)) hx hb hr (fun t ht hW => ⟨congrArg (fun z => Outcome.returned (some (Value.int z.1))) hres, trivial, by rw [ht]; exact hP, hS.F ht⟩) hS.2.2 dX6_sheet_60
        · have hf := (if_neg hc11).symm.trans hf
          refine lv_aload_n hx hb dX6_sheet_42 rfl (lv_at hl 1 rfl) ?_
          refine lv_iconst (v := (0 : Int32)) hx hb dX6_sheet_43 (by decide) ?_
          obtain ⟨q14, hq14, hf⟩ := bd_some hf
          refine kr_W (st1 := [.int q14.1]) (va_runV (As := [.int (0 : Int32)]) (rest := []) ⟨hx, hb, hml, hown, hts⟩ (ct_X6_finding l n g p0_paths p0_water p0_wall p0_kind p0_place p0_facing p0_age p0_seeds p0_season p0_z p0_spots p1_paths p1_water p1_wall p1_kind p1_place p1_facing p1_age p1_seeds p1_season p1_z p1_spots p2_paths p2_water p2_wall p2_kind p2_place p2_facing p2_age p2_seeds p2_season p2_z p2_spots t_bytes t_length t_sort t_start t_end t_value h_numbers h_bits h_size w_isKept w_told (0 : Int32) q14 hq14) (cwV 1 hts gX6_sheet_X6_finding rfl rfl rfl hd_X6_finding ⟨Nat.le_of_ble_eq_true rfl, Nat.le_of_ble_eq_true rfl⟩) ⟨bl_C, va_recv hK hP (ci := 4) (q0 := 0) rfl q_sp, pr_C rfl hB hP hS⟩ rfl rfl hl.1 rfl (lv_room (Nat.le_of_ble_eq_true rfl)) dX6_sheet_44 ⟨Nat.le_refl _, Nat.le_refl _⟩) hS rfl (fun hn15 H locs hP hS => ?_)
          have hP : va_P g.1 vwCl (cw g (pk3 (p0_paths, p0_water, p0_wall, p0_kind, p0_place, p0_facing, p0_age, p0_seeds, p0_season, p0_z, p0_spots) (p1_paths, p1_water, p1_wall, p1_kind, p1_place, p1_facing, p1_age, p1_seeds, p1_season, p1_z, p1_spots) (p2_paths, p2_water, p2_wall, p2_kind, p2_place, p2_facing, p2_age, p2_seeds, p2_season, p2_z, p2_spots), w_isKept, (t_bytes, t_length, t_sort, t_start, t_end, t_value), (h_numbers, h_bits, h_size), q14.2)) H := hP
          have hres : (q14.1, h_numbers, h_bits, h_size, q14.2) = res := (Option.some.inj hf)
          have hP := w_eq (congrArg (fun z => cw g (pk3 (p0_paths, p0_water, p0_wall, p0_kind, p0_place, p0_facing, p0_age, p0_seeds, p0_season, p0_z, p0_spots) (p1_paths, p1_water, p1_wall, p1_kind, p1_place, p1_facing, p1_age, p1_seeds, p1_season, p1_z, p1_spots) (p2_paths, p2_water, p2_wall, p2_kind, p2_place, p2_facing, p2_age, p2_seeds, p2_season, p2_z, p2_spots), w_isKept, (t_bytes, t_length, t_sort, t_start, t_end, t_value), (z.2.1, z.2.2.1, z.2.2.2.1), z.2.2.2.2)) hres) hP
          exact W.iret (v := q14.1) hx hb hr (fun t ht hW => ⟨congrArg (fun z => Outcome.returned (some (Value.int z.1))) hres, trivial, by rw [ht]; exact hP, hS.F ht⟩) hS.2.2 dX6_sheet_47
      · have hf := (if_neg hc10).symm.trans hf
        refine lv_aload_n hx hb dX6_sheet_29 rfl (lv_at hl 1 rfl) ?_
        refine lv_bipush (v := (6 : Int32)) hx hb dX6_sheet_30 (by decide) ?_
        obtain ⟨q16, hq16, hf⟩ := bd_some hf
        refine kr_W (st1 := [.int q16.1]) (va_runV (As := [.int (6 : Int32)]) (rest := []) ⟨hx, hb, hml, hown, hts⟩ (ct_X6_finding l n g p0_paths p0_water p0_wall p0_kind p0_place p0_facing p0_age p0_seeds p0_season p0_z p0_spots p1_paths p1_water p1_wall p1_kind p1_place p1_facing p1_age p1_seeds p1_season p1_z p1_spots p2_paths p2_water p2_wall p2_kind p2_place p2_facing p2_age p2_seeds p2_season p2_z p2_spots t_bytes t_length t_sort t_start t_end t_value h_numbers h_bits h_size w_isKept w_told (6 : Int32) q16 hq16) (cwV 1 hts gX6_sheet_X6_finding rfl rfl rfl hd_X6_finding ⟨Nat.le_of_ble_eq_true rfl, Nat.le_of_ble_eq_true rfl⟩) ⟨bl_C, va_recv hK hP (ci := 4) (q0 := 0) rfl q_sp, pr_C rfl hB hP hS⟩ rfl rfl hl.1 rfl (lv_room (Nat.le_of_ble_eq_true rfl)) dX6_sheet_32 ⟨Nat.le_refl _, Nat.le_refl _⟩) hS rfl (fun hn17 H locs hP hS => ?_)
        have hP : va_P g.1 vwCl (cw g (pk3 (p0_paths, p0_water, p0_wall, p0_kind, p0_place, p0_facing, p0_age, p0_seeds, p0_season, p0_z, p0_spots) (p1_paths, p1_water, p1_wall, p1_kind, p1_place, p1_facing, p1_age, p1_seeds, p1_season, p1_z, p1_spots) (p2_paths, p2_water, p2_wall, p2_kind, p2_place, p2_facing, p2_age, p2_seeds, p2_season, p2_z, p2_spots), w_isKept, (t_bytes, t_length, t_sort, t_start, t_end, t_value), (h_numbers, h_bits, h_size), q16.2)) H := hP
        have hres : (q16.1, h_numbers, h_bits, h_size, q16.2) = res := (Option.some.inj hf)
        have hP := w_eq (congrArg (fun z => cw g (pk3 (p0_paths, p0_water, p0_wall, p0_kind, p0_place, p0_facing, p0_age, p0_seeds, p0_season, p0_z, p0_spots) (p1_paths, p1_water, p1_wall, p1_kind, p1_place, p1_facing, p1_age, p1_seeds, p1_season, p1_z, p1_spots) (p2_paths, p2_water, p2_wall, p2_kind, p2_place, p2_facing, p2_age, p2_seeds, p2_season, p2_z, p2_spots), w_isKept, (t_bytes, t_length, t_sort, t_start, t_end, t_value), (z.2.1, z.2.2.1, z.2.2.2.1), z.2.2.2.2)) hres) hP
        exact W.iret (v := q16.1) hx hb hr (fun t ht hW => ⟨congrArg (fun z => Outcome.returned (some (Value.int z.1))) hres, trivial, by rw [ht]; exact hP, hS.F ht⟩) hS.2.2 dX6_sheet_35
    · have hf := (if_pos hc9).symm.trans hf
      refine lv_aload_n hx hb dX6_sheet_19 rfl (lv_at hl 1 rfl) ?_
      refine lv_iconst (v := (0 : Int32)) hx hb dX6_sheet_20 (by decide) ?_
      obtain ⟨q18, hq18, hf⟩ := bd_some hf
      refine kr_W (st1 := [.int q18.1]) (va_runV (As := [.int (0 : Int32)]) (rest := []) ⟨hx, hb, hml, hown, hts⟩ (ct_X6_finding l n g p0_paths p0_water p0_wall p0_kind p0_place p0_facing p0_age p0_seeds p0_season p0_z p0_spots p1_paths p1_water p1_wall p1_kind p1_place p1_facing p1_age p1_seeds p1_season p1_z p1_spots p2_paths p2_water p2_wall p2_kind p2_place p2_facing p2_age p2_seeds p2_season p2_z p2_spots t_bytes t_length t_sort t_start t_end t_value h_numbers h_bits h_size w_isKept w_told (0 : Int32) q18 hq18) (cwV 1 hts gX6_sheet_X6_finding rfl rfl rfl hd_X6_finding ⟨Nat.le_of_ble_eq_true rfl, Nat.le_of_ble_eq_true rfl⟩) ⟨bl_C, va_recv hK hP (ci := 4) (q0 := 0) rfl q_sp, pr_C rfl hB hP hS⟩ rfl rfl hl.1 rfl (lv_room (Nat.le_of_ble_eq_true rfl)) dX6_sheet_21 ⟨Nat.le_refl _, Nat.le_refl _⟩) hS rfl (fun hn19 H locs hP hS => ?_)
      have hP : va_P g.1 vwCl (cw g (pk3 (p0_paths, p0_water, p0_wall, p0_kind, p0_place, p0_facing, p0_age, p0_seeds, p0_season, p0_z, p0_spots) (p1_paths, p1_water, p1_wall, p1_kind, p1_place, p1_facing, p1_age, p1_seeds, p1_season, p1_z, p1_spots) (p2_paths, p2_water, p2_wall, p2_kind, p2_place, p2_facing, p2_age, p2_seeds, p2_season, p2_z, p2_spots), w_isKept, (t_bytes, t_length, t_sort, t_start, t_end, t_value), (h_numbers, h_bits, h_size), q18.2)) H := hP
      have hres : (q18.1, h_numbers, h_bits, h_size, q18.2) = res := (Option.some.inj hf)
      have hP := w_eq (congrArg (fun z => cw g (pk3 (p0_paths, p0_water, p0_wall, p0_kind, p0_place, p0_facing, p0_age, p0_seeds, p0_season, p0_z, p0_spots) (p1_paths, p1_water, p1_wall, p1_kind, p1_place, p1_facing, p1_age, p1_seeds, p1_season, p1_z, p1_spots) (p2_paths, p2_water, p2_wall, p2_kind, p2_place, p2_facing, p2_age, p2_seeds, p2_season, p2_z, p2_spots), w_isKept, (t_bytes, t_length, t_sort, t_start, t_end, t_value), (z.2.1, z.2.2.1, z.2.2.2.1), z.2.2.2.2)) hres) hP
      exact W.iret (v := q18.1) hx hb hr (fun t ht hW => ⟨congrArg (fun z => Outcome.returned (some (Value.int z.1))) hres, trivial, by rw [ht]; exact hP, hS.F ht⟩) hS.2.2 dX6_sheet_24
set_option maxHeartbeats 4000000 in
set_option maxRecDepth 100000 in
theorem ct_X4_note (l : Launch) (n : Nat) (g : GC) (S : SH → CS) (hL : zH S) (h_numbers : Nat → Nat → Int32) (h_bits : Nat → Int32) (h_size : Nat → Int32) (j : Nat) (hj : j < 4) (a1 : Int32) (a2 : Int32) (res : (Nat → Nat → Int32)) (hf : fX4_note n j a1 a2 h_numbers h_bits = some res) : Met l yX4_note wsX4_note ({ frames := 1, cells := 0, slots := 0, locals := 22 }) (va_Pc [.ref (ga g (8 + j)), .int a1, .int a2] (cI g (S (h_numbers, h_bits, h_size)))) (qW none True g.1 (cw g (S (res, h_bits, h_size))) (gA g)) 0 0 (gA g) := by
  refine Met.ofW (cc := cX4_note) (maxL := 3) (ret := none) (by decide) rfl ?_
  intro p e s m args below meth c s₁ B hml hv
  obtain ⟨rfl, hI⟩ := hv
  have hx := B.exec
  have hb := B.bytes
  have hr := B.returns
  have hts := atoms_spec (ws := wsX4_note) B.pre
  have hown : s.vm.findClass RX4 = some m.cls := findClass_of_methodNamed B.named
  have hlocks := B.notSynchronized
  have hP := hI.1
  have hB := hI.2
  have hK := hB.1
  have hNW := hB.2.1
  have hS : va_S (gA g) s.heap s.heap [] := va_S.rf
  have hw0 := hts (.fieldLink RX4 15 "SownPaths$Sheet" "bits" "I") (by decide +kernel)
  have hw1 := hts (.fieldLink RX4 9 "SownPaths$Sheet" "numbers" "[I") (by decide +kernel)
  have hw2 := hts (.initialized RX6) (by decide +kernel)
  have hw3 := hts (.static yX6_put) (by decide +kernel)
  have iwX4 : ∀ w ∈ wsX40, w ∈ wsX4_note := fun w h => List.mem_cons_of_mem _ (List.mem_append_right _ h)
  have hl := lv_entry ([.ref (ga g (8 + j)), .int a1, .int a2]) (n := 3) (Nat.le_of_ble_eq_true rfl)
  rw [lg_entry_eq]
  generalize (lg_sl ([.ref (ga g (8 + j)), .int a1, .int a2]) ++ List.replicate (3 - (lg_sl ([.ref (ga g (8 + j)), .int a1, .int a2])).length) Slot.unset).toArray = ls at hl ⊢
  have hl : lv_has ls 3 [(0, .ref (ga g (8 + j))), (1, .int a1), (2, .int a2)] := hl
  unfold fX4_note at hf
  refine lv_aload_n hx hb dX4_note_0 rfl (lv_at hl 0 rfl) ?_
  refine va_get (D := g.1) (ci := 2) (v := .int (h_bits j)) (C := RX4) (T := TX4) (N := 3) hx hb hts iwX4 hown hK hP (8 + j) (e_sh hj (zH.at hL (h_numbers, h_bits, h_size)) (T := (h_numbers, h_bits, h_size))) rfl 1 (by decide) hw0 (fun _ h9 => h9) rfl dX4_note_1 ?_
  by_cases hc1 : (h_bits j) = (8 : Int32)
  · have hf := (if_pos hc1).symm.trans hf
    refine lv_lookup (tgt := 32) (off := 28) hx hb dX4_note_4 (by decide) (by rw [hc1]; try rfl) (by decide) ?_
    refine lv_aload_n hx hb dX4_note_32 rfl (lv_at hl 0 rfl) ?_
    refine va_get (D := g.1) (ci := 2) (v := .ref (ga g (12 + j))) (C := RX4) (T := TX4) (N := 3) hx hb hts iwX4 hown hK hP (8 + j) (e_sh hj (zH.at hL (h_numbers, h_bits, h_size)) (T := (h_numbers, h_bits, h_size))) rfl 0 (by decide) hw1 (fun _ h9 => h9) rfl dX4_note_33 ?_
    refine lv_iload_n hx hb dX4_note_36 rfl (lv_at hl 1 rfl) ?_
    refine lv_iload_n hx hb dX4_note_37 rfl (lv_at hl 2 rfl) ?_
    refine lv_i2b (v := a2.toInt8.toInt32) hx hb dX4_note_38 rfl ?_
    obtain ⟨q2, hq2, hf⟩ := bd_some hf
    refine kr_W (st1 := []) (va_runSN (As := [.ref (ga g (12 + j)), .int a1, .int a2.toInt8.toInt32]) (rest := []) ⟨hx, hb, hml, hown, hts⟩ (ct_X6_put l n g (S (h_numbers, h_bits, h_size)) (12 + j) 40 (h_numbers j) (e_nu hj (zH.at hL (h_numbers, h_bits, h_size)) (T := (h_numbers, h_bits, h_size))) a1 a2.toInt8.toInt32 q2 hq2) (⟨va_cnB 3 hts gX4_note_X6_put_n26 rfl rfl rfl (ml_X4_26 hNW) hw2 hn_X6_put ⟨Nat.le_of_ble_eq_true rfl, Nat.le_of_ble_eq_true rfl⟩, hw3, trivial⟩) ⟨bl_C, pr_C rfl hB hP hS⟩ rfl rfl hl.1 rfl (lv_room (Nat.le_of_ble_eq_true rfl)) dX4_note_39 ⟨Nat.le_refl _, Nat.le_refl _⟩) hS rfl (fun hn3 H locs hP hS => ?_)
    have hP : va_P g.1 vwCl (cw g (S ((updN h_numbers j q2), h_bits, h_size))) H := w_eq (s_nums (S := S) (T := (h_numbers, h_bits, h_size)) q2 hj hL) hP
    refine lv_goto (tgt := 67) hx hb dX4_note_42 (by decide) ?_
    have hres : (updN h_numbers j q2) = res := (Option.some.inj hf)
    have hP := w_eq (congrArg (fun z => cw g (S (z, h_bits, h_size))) hres) hP
    exact W.vret hx hb hr (fun t ht hW => ⟨rfl, trivial, by rw [ht]; exact hP, hS.F ht⟩) hS.2.2 dX4_note_67
  · have hf := (if_neg hc1).symm.trans hf
    by_cases hc4 : (h_bits j) = (16 : Int32)
    · have hf := (if_pos hc4).symm.trans hf
      refine lv_lookup (tgt := 45) (off := 41) hx hb dX4_note_4 (by decide) (by rw [hc4]; try rfl) (by decide) ?_
      refine lv_aload_n hx hb dX4_note_45 rfl (lv_at hl 0 rfl) ?_
      refine va_get (D := g.1) (ci := 2) (v := .ref (ga g (12 + j))) (C := RX4) (T := TX4) (N := 3) hx hb hts iwX4 hown hK hP (8 + j) (e_sh hj (zH.at hL (h_numbers, h_bits, h_size)) (T := (h_numbers, h_bits, h_size))) rfl 0 (by decide) hw1 (fun _ h9 => h9) rfl dX4_note_46 ?_
      refine lv_iload_n hx hb dX4_note_49 rfl (lv_at hl 1 rfl) ?_
      refine lv_iload_n hx hb dX4_note_50 rfl (lv_at hl 2 rfl) ?_
      refine lv_i2s (v := a2.toInt16.toInt32) hx hb dX4_note_51 rfl ?_
      obtain ⟨q5, hq5, hf⟩ := bd_some hf
      refine kr_W (st1 := []) (va_runSN (As := [.ref (ga g (12 + j)), .int a1, .int a2.toInt16.toInt32]) (rest := []) ⟨hx, hb, hml, hown, hts⟩ (ct_X6_put l n g (S (h_numbers, h_bits, h_size)) (12 + j) 40 (h_numbers j) (e_nu hj (zH.at hL (h_numbers, h_bits, h_size)) (T := (h_numbers, h_bits, h_size))) a1 a2.toInt16.toInt32 q5 hq5) (⟨va_cnB 3 hts gX4_note_X6_put_n26 rfl rfl rfl (ml_X4_26 hNW) hw2 hn_X6_put ⟨Nat.le_of_ble_eq_true rfl, Nat.le_of_ble_eq_true rfl⟩, hw3, trivial⟩) ⟨bl_C, pr_C rfl hB hP hS⟩ rfl rfl hl.1 rfl (lv_room (Nat.le_of_ble_eq_true rfl)) dX4_note_52 ⟨Nat.le_refl _, Nat.le_refl _⟩) hS rfl (fun hn6 H locs hP hS => ?_)
      have hP : va_P g.1 vwCl (cw g (S ((updN h_numbers j q5), h_bits, h_size))) H := w_eq (s_nums (S := S) (T := (h_numbers, h_bits, h_size)) q5 hj hL) hP
      refine lv_goto (tgt := 67) hx hb dX4_note_55 (by decide) ?_
      have hres : (updN h_numbers j q5) = res := (Option.some.inj hf)
      have hP := w_eq (congrArg (fun z => cw g (S (z, h_bits, h_size))) hres) hP
      exact W.vret hx hb hr (fun t ht hW => ⟨rfl, trivial, by rw [ht]; exact hP, hS.F ht⟩) hS.2.2 dX4_note_67
    · have hf := (if_neg hc4).symm.trans hf
      refine lv_lookup (tgt := 58) (off := 54) hx hb dX4_note_4 (by decide) ((lv_osw hc1 rfl).trans ((lv_osw hc4 rfl).trans rfl)) (by decide) ?_
      refine lv_aload_n hx hb dX4_note_58 rfl (lv_at hl 0 rfl) ?_
      refine va_get (D := g.1) (ci := 2) (v := .ref (ga g (12 + j))) (C := RX4) (T := TX4) (N := 3) hx hb hts iwX4 hown hK hP (8 + j) (e_sh hj (zH.at hL (h_numbers, h_bits, h_size)) (T := (h_numbers, h_bits, h_size))) rfl 0 (by decide) hw1 (fun _ h9 => h9) rfl dX4_note_59 ?_
      refine lv_iload_n hx hb dX4_note_62 rfl (lv_at hl 1 rfl) ?_
      refine lv_iload_n hx hb dX4_note_63 rfl (lv_at hl 2 rfl) ?_
      obtain ⟨q7, hq7, hf⟩ := bd_some hf
      refine kr_W (st1 := []) (va_runSN (As := [.ref (ga g (12 + j)), .int a1, .int a2]) (rest := []) ⟨hx, hb, hml, hown, hts⟩ (ct_X6_put l n g (S (h_numbers, h_bits, h_size)) (12 + j) 40 (h_numbers j) (e_nu hj (zH.at hL (h_numbers, h_bits, h_size)) (T := (h_numbers, h_bits, h_size))) a1 a2 q7 hq7) (⟨va_cnB 3 hts gX4_note_X6_put_n26 rfl rfl rfl (ml_X4_26 hNW) hw2 hn_X6_put ⟨Nat.le_of_ble_eq_true rfl, Nat.le_of_ble_eq_true rfl⟩, hw3, trivial⟩) ⟨bl_C, pr_C rfl hB hP hS⟩ rfl rfl hl.1 rfl (lv_room (Nat.le_of_ble_eq_true rfl)) dX4_note_64 ⟨Nat.le_refl _, Nat.le_refl _⟩) hS rfl (fun hn8 H locs hP hS => ?_)
      have hP : va_P g.1 vwCl (cw g (S ((updN h_numbers j q7), h_bits, h_size))) H := w_eq (s_nums (S := S) (T := (h_numbers, h_bits, h_size)) q7 hj hL) hP
      have hres : (updN h_numbers j q7) = res := (Option.some.inj hf)
      have hP := w_eq (congrArg (fun z => cw g (S (z, h_bits, h_size))) hres) hP
      exact W.vret hx hb hr (fun t ht hW => ⟨rfl, trivial, by rw [ht]; exact hP, hS.F ht⟩) hS.2.2 dX4_note_67
set_option maxHeartbeats 4000000 in
set_option maxRecDepth 100000 in
theorem ct_X6_write (l : Launch) (n : Nat) (g : GC) (p0_paths : Nat → Int32) (p0_water : Int64) (p0_wall : Int64) (p0_kind : Nat → Int32) (p0_place : Nat → Int32) (p0_facing : Nat → Int32) (p0_age : Nat → Int32) (p0_seeds : Int32) (p0_season : Int32) (p0_z : Int32) (p0_spots : Nat → Int32) (p1_paths : Nat → Int32) (p1_water : Int64) (p1_wall : Int64) (p1_kind : Nat → Int32) (p1_place : Nat → Int32) (p1_facing : Nat → Int32) (p1_age : Nat → Int32) (p1_seeds : Int32) (p1_season : Int32) (p1_z : Int32) (p1_spots : Nat → Int32) (p2_paths : Nat → Int32) (p2_water : Int64) (p2_wall : Int64) (p2_kind : Nat → Int32) (p2_place : Nat → Int32) (p2_facing : Nat → Int32) (p2_age : Nat → Int32) (p2_seeds : Int32) (p2_season : Int32) (p2_z : Int32) (p2_spots : Nat → Int32) (t_bytes : Nat → Int32) (t_length : Int32) (t_sort : Int32) (t_start : Int32) (t_end : Int32) (t_value : Int32) (h_numbers : Nat → Nat → Int32) (h_bits : Nat → Int32) (h_size : Nat → Int32) (w_isKept : Int32) (w_told : Nat → Int32) (a1 : Int32) (a2 : Int32) (a3 : Int32) (res : Int32 × (Nat → Nat → Int32) × (Nat → Int32)) (hf : fX6_write n a1 a2 a3 h_numbers h_bits h_size w_told = some res) : Met l yX6_write wsX6_write ({ frames := 2, cells := 0, slots := 0, locals := 44 }) (va_Pc [.ref (ga g 0), .int a1, .int a2, .int a3] (cI g (pk3 (p0_paths, p0_water, p0_wall, p0_kind, p0_place, p0_facing, p0_age, p0_seeds, p0_season, p0_z, p0_spots) (p1_paths, p1_water, p1_wall, p1_kind, p1_place, p1_facing, p1_age, p1_seeds, p1_season, p1_z, p1_spots) (p2_paths, p2_water, p2_wall, p2_kind, p2_place, p2_facing, p2_age, p2_seeds, p2_season, p2_z, p2_spots), w_isKept, (t_bytes, t_length, t_sort, t_start, t_end, t_value), (h_numbers, h_bits, h_size), w_told))) (qW (some (.int res.1)) True g.1 (cw g (pk3 (p0_paths, p0_water, p0_wall, p0_kind, p0_place, p0_facing, p0_age, p0_seeds, p0_season, p0_z, p0_spots) (p1_paths, p1_water, p1_wall, p1_kind, p1_place, p1_facing, p1_age, p1_seeds, p1_season, p1_z, p1_spots) (p2_paths, p2_water, p2_wall, p2_kind, p2_place, p2_facing, p2_age, p2_seeds, p2_season, p2_z, p2_spots), w_isKept, (t_bytes, t_length, t_sort, t_start, t_end, t_value), (res.2.1, h_bits, h_size), res.2.2)) (gA g)) 0 0 (gA g) := by
  refine Met.ofW (cc := cX6_write) (maxL := 5) (ret := (some .int)) (by decide) rfl ?_
  intro p e s m args below meth c s₁ B hml hv
  obtain ⟨rfl, hI⟩ := hv
  have hx := B.exec
  have hb := B.bytes
  have hr := B.returns
  have hts := atoms_spec (ws := wsX6_write) B.pre
  have hown : s.vm.findClass RX6 = some m.cls := findClass_of_methodNamed B.named
  have hlocks := B.notSynchronized
  have hP := hI.1
  have hB := hI.2
  have hK := hB.1
  have hNW := hB.2.1
  have hS : va_S (gA g) s.heap s.heap [] := va_S.rf
  have iwX4 : ∀ w ∈ wsX40, w ∈ wsX6_write := fun w h => List.mem_cons_of_mem _ (List.mem_append_left _ (List.mem_append_right _ h))
  have hl := lv_entry ([.ref (ga g 0), .int a1, .int a2, .int a3]) (n := 5) (Nat.le_of_ble_eq_true rfl)
  rw [lg_entry_eq]
  generalize (lg_sl ([.ref (ga g 0), .int a1, .int a2, .int a3]) ++ List.replicate (5 - (lg_sl ([.ref (ga g 0), .int a1, .int a2, .int a3])).length) Slot.unset).toArray = ls at hl ⊢
  have hl : lv_has ls 5 [(0, .ref (ga g 0)), (1, .int a1), (2, .int a2), (3, .int a3)] := hl
  unfold fX6_write at hf
  refine lv_aload_n hx hb dX6_write_0 rfl (lv_at hl 0 rfl) ?_
  refine lv_iload_n hx hb dX6_write_1 rfl (lv_at hl 1 rfl) ?_
  obtain ⟨q1, hq1, hf⟩ := bd_some hf
  refine kr_S (st1 := [va_rf (Option.map (fun j => ga g (8 + j)) q1)]) (va_runV (As := [.int a1]) (rest := []) ⟨hx, hb, hml, hown, hts⟩ (ct_X6_sheetAt l n g p0_paths p0_water p0_wall p0_kind p0_place p0_facing p0_age p0_seeds p0_season p0_z p0_spots p1_paths p1_water p1_wall p1_kind p1_place p1_facing p1_age p1_seeds p1_season p1_z p1_spots p2_paths p2_water p2_wall p2_kind p2_place p2_facing p2_age p2_seeds p2_season p2_z p2_spots t_bytes t_length t_sort t_start t_end t_value h_numbers h_bits h_size w_isKept w_told a1 q1 hq1) (cwV 1 hts gX6_write_X6_sheetAt rfl rfl rfl hd_X6_sheetAt ⟨Nat.le_of_ble_eq_true rfl, Nat.le_of_ble_eq_true rfl⟩) ⟨bl_C, va_recv hK hP (ci := 4) (q0 := 0) rfl q_sp, pr_C rfl hB hP hS⟩ rfl rfl hl.1 rfl (lv_room (Nat.le_of_ble_eq_true rfl)) dX6_write_2 ⟨Nat.le_refl _, Nat.le_refl _⟩) rfl (fun hn2 => ?_)
  rcases q1 with _ | j3
  · have hf := eo_n hf
    refine W.eq (g2 := F0 m 5 ls [.null]) rfl ?_
    refine lv_astoreN (lv' := [(4, .null), (0, .ref (ga g 0)), (1, .int a1), (2, .int a2), (3, .int a3)]) hx hb dX6_write_5 hl (by decide) rfl (fun ls hl => ?_)
    refine lv_aloadN hx hb dX6_write_7 (lv_at hl 0 rfl) ?_
    refine lv_ifnonnullN hx hb dX6_write_9 ?_
    refine lv_aload_n hx hb dX6_write_12 rfl (lv_at hl 1 rfl) ?_
    refine lv_iconst (v := (0 : Int32)) hx hb dX6_write_13 (by decide) ?_
    obtain ⟨q5, hq5, hf⟩ := bd_some hf
    refine kr_W (st1 := [.int q5.1]) (va_runV (As := [.int (0 : Int32)]) (rest := []) ⟨hx, hb, hml, hown, hts⟩ (ct_X6_finding l n g p0_paths p0_water p0_wall p0_kind p0_place p0_facing p0_age p0_seeds p0_season p0_z p0_spots p1_paths p1_water p1_wall p1_kind p1_place p1_facing p1_age p1_seeds p1_season p1_z p1_spots p2_paths p2_water p2_wall p2_kind p2_place p2_facing p2_age p2_seeds p2_season p2_z p2_spots t_bytes t_length t_sort t_start t_end t_value h_numbers h_bits h_size w_isKept w_told (0 : Int32) q5 hq5) (cwV 1 hts gX6_write_X6_finding rfl rfl rfl hd_X6_finding ⟨Nat.le_of_ble_eq_true rfl, Nat.le_of_ble_eq_true rfl⟩) ⟨bl_C, va_recv hK hP (ci := 4) (q0 := 0) rfl q_sp, pr_C rfl hB hP hS⟩ rfl rfl hl.1 rfl (lv_room (Nat.le_of_ble_eq_true rfl)) dX6_write_14 ⟨Nat.le_refl _, Nat.le_refl _⟩) hS rfl (fun hn6 H locs hP hS => ?_)
    have hP : va_P g.1 vwCl (cw g (pk3 (p0_paths, p0_water, p0_wall, p0_kind, p0_place, p0_facing, p0_age, p0_seeds, p0_season, p0_z, p0_spots) (p1_paths, p1_water, p1_wall, p1_kind, p1_place, p1_facing, p1_age, p1_seeds, p1_season, p1_z, p1_spots) (p2_paths, p2_water, p2_wall, p2_kind, p2_place, p2_facing, p2_age, p2_seeds, p2_season, p2_z, p2_spots), w_isKept, (t_bytes, t_length, t_sort, t_start, t_end, t_value), (h_numbers, h_bits, h_size), q5.2)) H := hP
    have hres : (q5.1, h_numbers, q5.2) = res := (Option.some.inj hf)
    have hP := w_eq (congrArg (fun z => cw g (pk3 (p0_paths, p0_water, p0_wall, p0_kind, p0_place, p0_facing, p0_age, p0_seeds, p0_season, p0_z, p0_spots) (p1_paths, p1_water, p1_wall, p1_kind, p1_place, p1_facing, p1_age, p1_seeds, p1_season, p1_z, p1_spots) (p2_paths, p2_water, p2_wall, p2_kind, p2_place, p2_facing, p2_age, p2_seeds, p2_season, p2_z, p2_spots), w_isKept, (t_bytes, t_length, t_sort, t_start, t_end, t_value), (z.2.1, h_bits, h_size), z.2.2)) hres) hP
    exact W.iret (v := q5.1) hx hb hr (fun t ht hW => ⟨congrArg (fun z => Outcome.returned (some (Value.int z.1))) hres, trivial, by rw [ht]; exact hP, hS.F ht⟩) hS.2.2 dX6_write_17
  · have hf := eo_s hf
    have hj4 := hn2 _ rfl
    refine W.eq (g2 := F0 m 5 ls [.ref (ga g (8 + j3))]) rfl ?_
    refine lv_astore (lv' := [(4, .ref (ga g (8 + j3))), (0, .ref (ga g 0)), (1, .int a1), (2, .int a2), (3, .int a3)]) hx hb dX6_write_5 hl (by decide) rfl (fun ls hl => ?_)
    refine lv_aload hx hb dX6_write_7 (lv_at hl 0 rfl) ?_
    refine lv_ifnonnull (tgt := 18) hx hb dX6_write_9 (by decide) ?_
    refine lv_aload hx hb dX6_write_18 (lv_at hl 0 rfl) ?_
    obtain ⟨q7, hq7, hf⟩ := bd_some hf
    refine kr_S (st1 := [.int q7]) (va_runV (As := []) (rest := []) ⟨hx, hb, hml, hown, hts⟩ (ct_X4_isMissing l n g (pk3 (p0_paths, p0_water, p0_wall, p0_kind, p0_place, p0_facing, p0_age, p0_seeds, p0_season, p0_z, p0_spots) (p1_paths, p1_water, p1_wall, p1_kind, p1_place, p1_facing, p1_age, p1_seeds, p1_season, p1_z, p1_spots) (p2_paths, p2_water, p2_wall, p2_kind, p2_place, p2_facing, p2_age, p2_seeds, p2_season, p2_z, p2_spots), w_isKept, (t_bytes, t_length, t_sort, t_start, t_end, t_value), (h_numbers, h_bits, h_size), w_told) h_numbers h_bits h_size rfl j3 hj4 q7 hq7) (cwV 0 hts gX6_write_X4_isMissing rfl rfl rfl hd_X4_isMissing ⟨Nat.le_of_ble_eq_true rfl, Nat.le_of_ble_eq_true rfl⟩) ⟨bl_C, va_recv hK hP (ci := 2) (q0 := (8 + j3)) rfl (e_sh hj4 rfl (T := (h_numbers, h_bits, h_size))), pr_C rfl hB hP hS⟩ rfl rfl hl.1 rfl (lv_room (Nat.le_of_ble_eq_true rfl)) dX6_write_20 ⟨Nat.le_refl _, Nat.le_refl _⟩) rfl (fun hn8 => ?_)
    refine lv_if_eq (tgt := 32) hx hb dX6_write_23 (by decide) (fun hc9 => ?_) (fun hc9 => ?_)
    · have hf := (if_pos hc9).symm.trans hf
      refine lv_iload_n hx hb dX6_write_32 rfl (lv_at hl 3 rfl) ?_
      refine lv_iconst (v := (0 : Int32)) hx hb dX6_write_33 (by decide) ?_
      refine lv_aload hx hb dX6_write_34 (lv_at hl 0 rfl) ?_
      refine va_getN (D := g.1) (ci := 2) (v := .int (h_size j3)) (C := RX4) (T := TX4) (N := 3) hx hb hts iwX4 hown hK hP (8 + j3) (e_sh hj4 rfl (T := (h_numbers, h_bits, h_size))) rfl 2 (by decide) (nf_X6_280 hNW) (fun _ h9 => h9) rfl dX6_write_36 ?_
      refine lv_iconst (v := (1 : Int32)) hx hb dX6_write_39 (by decide) ?_
      refine lv_isub hx hb dX6_write_40 ?_
      obtain ⟨q10, hq10, hf⟩ := bd_some hf
      refine kr_S (st1 := [.int q10]) (va_runS (As := [.int a2, .int (0 : Int32), .int ((h_size j3) - (1 : Int32))]) (rest := []) ⟨hx, hb, hml, hown, hts⟩ (ct_X6_within l n a2 (0 : Int32) ((h_size j3) - (1 : Int32)) q10 hq10) (va_cwS 3 hts gX6_write_X6_within rfl rfl rfl hn_X6_within ⟨Nat.le_of_ble_eq_true rfl, Nat.le_of_ble_eq_true rfl⟩) ⟨bl_N, pr_N rfl hNW⟩ rfl rfl hl.1 rfl (lv_room (Nat.le_of_ble_eq_true rfl)) dX6_write_41 ⟨Nat.le_refl _, Nat.le_refl _⟩) rfl (fun hn11 => ?_)
      refine lv_if_ne (tgt := 53) hx hb dX6_write_44 (by decide) (fun hc12 => ?_) (fun hc12 => ?_)
      · have hf := (if_neg hc12).symm.trans hf
        refine lv_aload hx hb dX6_write_53 (lv_at hl 0 rfl) ?_
        refine lv_iload_n hx hb dX6_write_55 rfl (lv_at hl 3 rfl) ?_
        refine lv_iload_n hx hb dX6_write_56 rfl (lv_at hl 4 rfl) ?_
        obtain ⟨q13, hq13, hf⟩ := bd_some hf
        refine kr_W (st1 := []) (va_runV (As := [.int a2, .int a3]) (rest := []) ⟨hx, hb, hml, hown, hts⟩ (ct_X4_note l n g (fun h => (pk3 (p0_paths, p0_water, p0_wall, p0_kind, p0_place, p0_facing, p0_age, p0_seeds, p0_season, p0_z, p0_spots) (p1_paths, p1_water, p1_wall, p1_kind, p1_place, p1_facing, p1_age, p1_seeds, p1_season, p1_z, p1_spots) (p2_paths, p2_water, p2_wall, p2_kind, p2_place, p2_facing, p2_age, p2_seeds, p2_season, p2_z, p2_spots), w_isKept, (t_bytes, t_length, t_sort, t_start, t_end, t_value), h, w_told)) zH0 h_numbers h_bits h_size j3 hj4 a2 a3 q13 hq13) (cwV 2 hts gX6_write_X4_note rfl rfl rfl hd_X4_note ⟨Nat.le_of_ble_eq_true rfl, Nat.le_of_ble_eq_true rfl⟩) ⟨bl_C, va_recv hK hP (ci := 2) (q0 := (8 + j3)) rfl (e_sh hj4 rfl (T := (h_numbers, h_bits, h_size))), pr_C rfl hB hP hS⟩ rfl rfl hl.1 rfl (lv_room (Nat.le_of_ble_eq_true rfl)) dX6_write_57 ⟨Nat.le_refl _, Nat.le_refl _⟩) hS rfl (fun hn14 H locs hP hS => ?_)
        have hP : va_P g.1 vwCl (cw g (pk3 (p0_paths, p0_water, p0_wall, p0_kind, p0_place, p0_facing, p0_age, p0_seeds, p0_season, p0_z, p0_spots) (p1_paths, p1_water, p1_wall, p1_kind, p1_place, p1_facing, p1_age, p1_seeds, p1_season, p1_z, p1_spots) (p2_paths, p2_water, p2_wall, p2_kind, p2_place, p2_facing, p2_age, p2_seeds, p2_season, p2_z, p2_spots), w_isKept, (t_bytes, t_length, t_sort, t_start, t_end, t_value), (q13, h_bits, h_size), w_told)) H := hP
        refine lv_iconst (v := (1 : Int32)) hx hb dX6_write_60 (by decide) ?_
        have hres : ((1 : Int32), q13, w_told) = res := (Option.some.inj hf)
        have hP := w_eq (congrArg (fun z => cw g (pk3 (p0_paths, p0_water, p0_wall, p0_kind, p0_place, p0_facing, p0_age, p0_seeds, p0_season, p0_z, p0_spots) (p1_paths, p1_water, p1_wall, p1_kind, p1_place, p1_facing, p1_age, p1_seeds, p1_season, p1_z, p1_spots) (p2_paths, p2_water, p2_wall, p2_kind, p2_place, p2_facing, p2_age, p2_seeds, p2_season, p2_z, p2_spots), w_isKept, (t_bytes, t_length, t_sort, t_start, t_end, t_value), (z.2.1, h_bits, h_size), z.2.2)) hres) hP
        exact W.iret (v := (1 : Int32)) hx hb hr (fun t ht hW => ⟨congrArg (fun z => Outcome.returned (some (Value.int z.1))) hres, trivial, by rw [ht]; exact hP, hS.F ht⟩) hS.2.2 dX6_write_61
      · have hf := (if_pos hc12).symm.trans hf
        refine lv_aload_n hx hb dX6_write_47 rfl (lv_at hl 1 rfl) ?_
        refine lv_iconst (v := (0 : Int32)) hx hb dX6_write_48 (by decide) ?_
        obtain ⟨q15, hq15, hf⟩ := bd_some hf
        refine kr_W (st1 := [.int q15.1]) (va_runV (As := [.int (0 : Int32)]) (rest := []) ⟨hx, hb, hml, hown, hts⟩ (ct_X6_finding l n g p0_paths p0_water p0_wall p0_kind p0_place p0_facing p0_age p0_seeds p0_season p0_z p0_spots p1_paths p1_water p1_wall p1_kind p1_place p1_facing p1_age p1_seeds p1_season p1_z p1_spots p2_paths p2_water p2_wall p2_kind p2_place p2_facing p2_age p2_seeds p2_season p2_z p2_spots t_bytes t_length t_sort t_start t_end t_value h_numbers h_bits h_size w_isKept w_told (0 : Int32) q15 hq15) (cwV 1 hts gX6_write_X6_finding rfl rfl rfl hd_X6_finding ⟨Nat.le_of_ble_eq_true rfl, Nat.le_of_ble_eq_true rfl⟩) ⟨bl_C, va_recv hK hP (ci := 4) (q0 := 0) rfl q_sp, pr_C rfl hB hP hS⟩ rfl rfl hl.1 rfl (lv_room (Nat.le_of_ble_eq_true rfl)) dX6_write_49 ⟨Nat.le_refl _, Nat.le_refl _⟩) hS rfl (fun hn16 H locs hP hS => ?_)
        have hP : va_P g.1 vwCl (cw g (pk3 (p0_paths, p0_water, p0_wall, p0_kind, p0_place, p0_facing, p0_age, p0_seeds, p0_season, p0_z, p0_spots) (p1_paths, p1_water, p1_wall, p1_kind, p1_place, p1_facing, p1_age, p1_seeds, p1_season, p1_z, p1_spots) (p2_paths, p2_water, p2_wall, p2_kind, p2_place, p2_facing, p2_age, p2_seeds, p2_season, p2_z, p2_spots), w_isKept, (t_bytes, t_length, t_sort, t_start, t_end, t_value), (h_numbers, h_bits, h_size), q15.2)) H := hP
        have hres : (q15.1, h_numbers, q15.2) = res := (Option.some.inj hf)
        have hP := w_eq (congrArg (fun z => cw g (pk3 (p0_paths, p0_water, p0_wall, p0_kind, p0_place, p0_facing, p0_age, p0_seeds, p0_season, p0_z, p0_spots) (p1_paths, p1_water, p1_wall, p1_kind, p1_place, p1_facing, p1_age, p1_seeds, p1_season, p1_z, p1_spots) (p2_paths, p2_water, p2_wall, p2_kind, p2_place, p2_facing, p2_age, p2_seeds, p2_season, p2_z, p2_spots), w_isKept, (t_bytes, t_length, t_sort, t_start, t_end, t_value), (z.2.1, h_bits, h_size), z.2.2)) hres) hP
        exact W.iret (v := q15.1) hx hb hr (fun t ht hW => ⟨congrArg (fun z => Outcome.returned (some (Value.int z.1))) hres, trivial, by rw [ht]; exact hP, hS.F ht⟩) hS.2.2 dX6_write_52
    · have hf := (if_neg hc9).symm.trans hf
      refine lv_aload_n hx hb dX6_write_26 rfl (lv_at hl 1 rfl) ?_
      refine lv_iconst (v := (5 : Int32)) hx hb dX6_write_27 (by decide) ?_
      obtain ⟨q17, hq17, hf⟩ := bd_some hf
      refine kr_W (st1 := [.int q17.1]) (va_runV (As := [.int (5 : Int32)]) (rest := []) ⟨hx, hb, hml, hown, hts⟩ (ct_X6_finding l n g p0_paths p0_water p0_wall p0_kind p0_place p0_facing p0_age p0_seeds p0_season p0_z p0_spots p1_paths p1_water p1_wall p1_kind p1_place p1_facing p1_age p1_seeds p1_season p1_z p1_spots p2_paths p2_water p2_wall p2_kind p2_place p2_facing p2_age p2_seeds p2_season p2_z p2_spots t_bytes t_length t_sort t_start t_end t_value h_numbers h_bits h_size w_isKept w_told (5 : Int32) q17 hq17) (cwV 1 hts gX6_write_X6_finding rfl rfl rfl hd_X6_finding ⟨Nat.le_of_ble_eq_true rfl, Nat.le_of_ble_eq_true rfl⟩) ⟨bl_C, va_recv hK hP (ci := 4) (q0 := 0) rfl q_sp, pr_C rfl hB hP hS⟩ rfl rfl hl.1 rfl (lv_room (Nat.le_of_ble_eq_true rfl)) dX6_write_28 ⟨Nat.le_refl _, Nat.le_refl _⟩) hS rfl (fun hn18 H locs hP hS => ?_)
      have hP : va_P g.1 vwCl (cw g (pk3 (p0_paths, p0_water, p0_wall, p0_kind, p0_place, p0_facing, p0_age, p0_seeds, p0_season, p0_z, p0_spots) (p1_paths, p1_water, p1_wall, p1_kind, p1_place, p1_facing, p1_age, p1_seeds, p1_season, p1_z, p1_spots) (p2_paths, p2_water, p2_wall, p2_kind, p2_place, p2_facing, p2_age, p2_seeds, p2_season, p2_z, p2_spots), w_isKept, (t_bytes, t_length, t_sort, t_start, t_end, t_value), (h_numbers, h_bits, h_size), q17.2)) H := hP
      have hres : (q17.1, h_numbers, q17.2) = res := (Option.some.inj hf)
      have hP := w_eq (congrArg (fun z => cw g (pk3 (p0_paths, p0_water, p0_wall, p0_kind, p0_place, p0_facing, p0_age, p0_seeds, p0_season, p0_z, p0_spots) (p1_paths, p1_water, p1_wall, p1_kind, p1_place, p1_facing, p1_age, p1_seeds, p1_season, p1_z, p1_spots) (p2_paths, p2_water, p2_wall, p2_kind, p2_place, p2_facing, p2_age, p2_seeds, p2_season, p2_z, p2_spots), w_isKept, (t_bytes, t_length, t_sort, t_start, t_end, t_value), (z.2.1, h_bits, h_size), z.2.2)) hres) hP
      exact W.iret (v := q17.1) hx hb hr (fun t ht hW => ⟨congrArg (fun z => Outcome.returned (some (Value.int z.1))) hres, trivial, by rw [ht]; exact hP, hS.F ht⟩) hS.2.2 dX6_write_31
set_option maxHeartbeats 4000000 in
set_option maxRecDepth 100000 in
theorem ct_X4_has (l : Launch) (n : Nat) (g : GC) (σ : CS) (h_numbers : Nat → Nat → Int32) (h_bits : Nat → Int32) (h_size : Nat → Int32) (he : σ.2.2.2.1 = (h_numbers, h_bits, h_size)) (j : Nat) (hj : j < 4) (a1 : Int32) (a2 : Int32) (res : Int32) (hf : fX4_has n j a1 a2 h_size = some res) : Met l yX4_has wsX4_has ({ frames := 0, cells := 0, slots := 0, locals := 0 }) (va_Pc [.ref (ga g (8 + j)), .int a1, .int a2] (cI g σ)) (qS (some (.int res)) (narrow .boolean (.int res) = .int res)) 0 0 (fun _ => False) := by
  refine Met.ofW (cc := cX4_has) (maxL := 3) (ret := (some .boolean)) (by decide) rfl ?_
  intro p e s m args below meth c s₁ B hml hv
  obtain ⟨rfl, hI⟩ := hv
  have hx := B.exec
  have hb := B.bytes
  have hr := B.returns
  have hts := atoms_spec (ws := wsX4_has) B.pre
  have hown : s.vm.findClass RX4 = some m.cls := findClass_of_methodNamed B.named
  have hlocks := B.notSynchronized
  have hP := hI.1
  have hB := hI.2
  have hK := hB.1
  have hNW := hB.2.1
  have hS : va_S (gA g) s.heap s.heap [] := va_S.rf
  have hw0 := hts (.fieldLink RX4 19 "SownPaths$Sheet" "size" "I") (by decide +kernel)
  have iwX4 : ∀ w ∈ wsX40, w ∈ wsX4_has := fun w h => List.mem_cons_of_mem _ (List.mem_append_right _ h)
  have hl := lv_entry ([.ref (ga g (8 + j)), .int a1, .int a2]) (n := 3) (Nat.le_of_ble_eq_true rfl)
  rw [lg_entry_eq]
  generalize (lg_sl ([.ref (ga g (8 + j)), .int a1, .int a2]) ++ List.replicate (3 - (lg_sl ([.ref (ga g (8 + j)), .int a1, .int a2])).length) Slot.unset).toArray = ls at hl ⊢
  have hl : lv_has ls 3 [(0, .ref (ga g (8 + j))), (1, .int a1), (2, .int a2)] := hl
  unfold fX4_has at hf
  refine lv_iload_n hx hb dX4_has_0 rfl (lv_at hl 1 rfl) ?_
  refine lv_if_lt (tgt := 30) hx hb dX4_has_1 (by decide) (fun hc1 => ?_) (fun hc1 => ?_)
  · have hf := (if_pos hc1).symm.trans hf
    refine lv_iconst (v := (0 : Int32)) hx hb dX4_has_30 (by decide) ?_
    have hres : (0 : Int32) = res := (Option.some.inj hf)
    have hnr : narrow .boolean (.int (0 : Int32)) = .int (0 : Int32) := rfl
    exact W.zret (v := (0 : Int32)) hx hb hr hnr (fun t ht hW => ⟨congrArg (fun z => Outcome.returned (some (Value.int z))) hres, Eq.mp (congrArg (fun z => narrow .boolean (.int z) = .int z) hres) hnr, ht⟩) t_nil dX4_has_31
  · have hf := (if_neg hc1).symm.trans hf
    refine lv_iload_n hx hb dX4_has_4 rfl (lv_at hl 2 rfl) ?_
    refine lv_if_lt (tgt := 30) hx hb dX4_has_5 (by decide) (fun hc2 => ?_) (fun hc2 => ?_)
    · have hf := (if_pos hc2).symm.trans hf
      refine lv_iconst (v := (0 : Int32)) hx hb dX4_has_30 (by decide) ?_
      have hres : (0 : Int32) = res := (Option.some.inj hf)
      have hnr : narrow .boolean (.int (0 : Int32)) = .int (0 : Int32) := rfl
      exact W.zret (v := (0 : Int32)) hx hb hr hnr (fun t ht hW => ⟨congrArg (fun z => Outcome.returned (some (Value.int z))) hres, Eq.mp (congrArg (fun z => narrow .boolean (.int z) = .int z) hres) hnr, ht⟩) t_nil dX4_has_31
    · have hf := (if_neg hc2).symm.trans hf
      refine lv_iload_n hx hb dX4_has_8 rfl (lv_at hl 1 rfl) ?_
      refine lv_aload_n hx hb dX4_has_9 rfl (lv_at hl 0 rfl) ?_
      refine va_get (D := g.1) (ci := 2) (v := .int (h_size j)) (C := RX4) (T := TX4) (N := 3) hx hb hts iwX4 hown hK hP (8 + j) (e_sh hj he (T := (h_numbers, h_bits, h_size))) rfl 2 (by decide) hw0 (fun _ h9 => h9) rfl dX4_has_10 ?_
      refine lv_icmp_gt (tgt := 30) hx hb dX4_has_13 (by decide) (fun hc3 => ?_) (fun hc3 => ?_)
      · have hf := (if_pos hc3).symm.trans hf
        refine lv_iconst (v := (0 : Int32)) hx hb dX4_has_30 (by decide) ?_
        have hres : (0 : Int32) = res := (Option.some.inj hf)
        have hnr : narrow .boolean (.int (0 : Int32)) = .int (0 : Int32) := rfl
        exact W.zret (v := (0 : Int32)) hx hb hr hnr (fun t ht hW => ⟨congrArg (fun z => Outcome.returned (some (Value.int z))) hres, Eq.mp (congrArg (fun z => narrow .boolean (.int z) = .int z) hres) hnr, ht⟩) t_nil dX4_has_31
      · have hf := (if_neg hc3).symm.trans hf
        refine lv_iload_n hx hb dX4_has_16 rfl (lv_at hl 2 rfl) ?_
        refine lv_aload_n hx hb dX4_has_17 rfl (lv_at hl 0 rfl) ?_
        refine va_get (D := g.1) (ci := 2) (v := .int (h_size j)) (C := RX4) (T := TX4) (N := 3) hx hb hts iwX4 hown hK hP (8 + j) (e_sh hj he (T := (h_numbers, h_bits, h_size))) rfl 2 (by decide) hw0 (fun _ h9 => h9) rfl dX4_has_18 ?_
        refine lv_iload_n hx hb dX4_has_21 rfl (lv_at hl 1 rfl) ?_
        refine lv_isub hx hb dX4_has_22 ?_
        refine lv_icmp_gt (tgt := 30) hx hb dX4_has_23 (by decide) (fun hc4 => ?_) (fun hc4 => ?_)
        · have hf := (if_pos hc4).symm.trans hf
          refine lv_iconst (v := (0 : Int32)) hx hb dX4_has_30 (by decide) ?_
          have hres : (0 : Int32) = res := (Option.some.inj hf)
          have hnr : narrow .boolean (.int (0 : Int32)) = .int (0 : Int32) := rfl
          exact W.zret (v := (0 : Int32)) hx hb hr hnr (fun t ht hW => ⟨congrArg (fun z => Outcome.returned (some (Value.int z))) hres, Eq.mp (congrArg (fun z => narrow .boolean (.int z) = .int z) hres) hnr, ht⟩) t_nil dX4_has_31
        · have hf := (if_neg hc4).symm.trans hf
          refine lv_iconst (v := (1 : Int32)) hx hb dX4_has_26 (by decide) ?_
          refine lv_goto (tgt := 31) hx hb dX4_has_27 (by decide) ?_
          have hres : (1 : Int32) = res := (Option.some.inj hf)
          have hnr : narrow .boolean (.int (1 : Int32)) = .int (1 : Int32) := rfl
          exact W.zret (v := (1 : Int32)) hx hb hr hnr (fun t ht hW => ⟨congrArg (fun z => Outcome.returned (some (Value.int z))) hres, Eq.mp (congrArg (fun z => narrow .boolean (.int z) = .int z) hres) hnr, ht⟩) t_nil dX4_has_31
set_option maxHeartbeats 4000000 in
set_option maxRecDepth 100000 in
theorem ct_X4_take (l : Launch) (n : Nat) (g : GC) (S : SH → CS) (hL : zH S) (h_numbers : Nat → Nat → Int32) (h_bits : Nat → Int32) (h_size : Nat → Int32) (j : Nat) (hj : j < 4) (j2 : Nat) (hj2 : j2 < 4) (a1 : Int32) (a3 : Int32) (a4 : Int32) (res : (Nat → Nat → Int32)) (hf : fX4_take n j j2 a1 a3 a4 h_numbers h_size = some res) : Met l yX4_take wsX4_take ({ frames := 1, cells := 0, slots := 0, locals := 64 }) (va_Pc [.ref (ga g (8 + j)), .int a1, .ref (ga g (8 + j2)), .int a3, .int a4] (cI g (S (h_numbers, h_bits, h_size)))) (qW none True g.1 (cw g (S (res, h_bits, h_size))) (gA g)) 0 0 (gA g) := by
  refine Met.ofW (cc := cX4_take) (maxL := 5) (ret := none) (by decide) rfl ?_
  intro p e s m args below meth c s₁ B hml hv
  obtain ⟨rfl, hI⟩ := hv
  have hx := B.exec
  have hb := B.bytes
  have hr := B.returns
  have hts := atoms_spec (ws := wsX4_take) B.pre
  have hown : s.vm.findClass RX4 = some m.cls := findClass_of_methodNamed B.named
  have hlocks := B.notSynchronized
  have hP := hI.1
  have hB := hI.2
  have hK := hB.1
  have hNW := hB.2.1
  have hS : va_S (gA g) s.heap s.heap [] := va_S.rf
  have hw0 := hts (.fieldLink RX4 9 "SownPaths$Sheet" "numbers" "[I") (by decide +kernel)
  have hw1 := hts (.methodLink RX4 34 arraycopyName) (by decide +kernel)
  have hw2 := hts (.native arraycopyName) (by decide +kernel)
  have hw3 := hts (.static arraycopyName) (by decide +kernel)
  have hw4 := hts (.initialized "java/lang/System") (by decide +kernel)
  have iwX4 : ∀ w ∈ wsX40, w ∈ wsX4_take := fun w h => List.mem_cons_of_mem _ (List.mem_append_right _ h)
  have hl := lv_entry ([.ref (ga g (8 + j)), .int a1, .ref (ga g (8 + j2)), .int a3, .int a4]) (n := 5) (Nat.le_of_ble_eq_true rfl)
  rw [lg_entry_eq]
  generalize (lg_sl ([.ref (ga g (8 + j)), .int a1, .ref (ga g (8 + j2)), .int a3, .int a4]) ++ List.replicate (5 - (lg_sl ([.ref (ga g (8 + j)), .int a1, .ref (ga g (8 + j2)), .int a3, .int a4])).length) Slot.unset).toArray = ls at hl ⊢
  have hl : lv_has ls 5 [(0, .ref (ga g (8 + j))), (1, .int a1), (2, .ref (ga g (8 + j2))), (3, .int a3), (4, .int a4)] := hl
  unfold fX4_take at hf
  refine lv_aload_n hx hb dX4_take_0 rfl (lv_at hl 0 rfl) ?_
  refine lv_iload_n hx hb dX4_take_1 rfl (lv_at hl 1 rfl) ?_
  refine lv_iload hx hb dX4_take_2 (lv_at hl 4 rfl) ?_
  obtain ⟨q1, hq1, hf⟩ := bd_some hf
  refine kr_S (st1 := [.int q1]) (va_runV (As := [.int a1, .int a4]) (rest := []) ⟨hx, hb, hml, hown, hts⟩ (ct_X4_has l n g (S (h_numbers, h_bits, h_size)) h_numbers h_bits h_size (zH.at hL (h_numbers, h_bits, h_size)) j hj a1 a4 q1 hq1) (cwV 2 hts gX4_take_X4_has rfl rfl rfl hd_X4_has ⟨Nat.le_of_ble_eq_true rfl, Nat.le_of_ble_eq_true rfl⟩) ⟨bl_C, va_recv hK hP (ci := 2) (q0 := (8 + j)) rfl (e_sh hj (zH.at hL (h_numbers, h_bits, h_size)) (T := (h_numbers, h_bits, h_size))), pr_C rfl hB hP hS⟩ rfl rfl hl.1 rfl (lv_room (Nat.le_of_ble_eq_true rfl)) dX4_take_4 ⟨Nat.le_refl _, Nat.le_refl _⟩) rfl (fun hn2 => ?_)
  refine lv_if_eq (tgt := 35) hx hb dX4_take_7 (by decide) (fun hc3 => ?_) (fun hc3 => ?_)
  · have hf := (if_pos hc3).symm.trans hf
    have hres : h_numbers = res := (Option.some.inj hf)
    have hP := w_eq (congrArg (fun z => cw g (S (z, h_bits, h_size))) hres) hP
    exact W.vret hx hb hr (fun t ht hW => ⟨rfl, trivial, by rw [ht]; exact hP, hS.F ht⟩) hS.2.2 dX4_take_35
  · have hf := (if_neg hc3).symm.trans hf
    refine lv_aload_n hx hb dX4_take_10 rfl (lv_at hl 2 rfl) ?_
    refine lv_iload_n hx hb dX4_take_11 rfl (lv_at hl 3 rfl) ?_
    refine lv_iload hx hb dX4_take_12 (lv_at hl 4 rfl) ?_
    obtain ⟨q4, hq4, hf⟩ := bd_some hf
    refine kr_S (st1 := [.int q4]) (va_runV (As := [.int a3, .int a4]) (rest := []) ⟨hx, hb, hml, hown, hts⟩ (ct_X4_has l n g (S (h_numbers, h_bits, h_size)) h_numbers h_bits h_size (zH.at hL (h_numbers, h_bits, h_size)) j2 hj2 a3 a4 q4 hq4) (cwV 2 hts gX4_take_X4_has rfl rfl rfl hd_X4_has ⟨Nat.le_of_ble_eq_true rfl, Nat.le_of_ble_eq_true rfl⟩) ⟨bl_C, va_recv hK hP (ci := 2) (q0 := (8 + j2)) rfl (e_sh hj2 (zH.at hL (h_numbers, h_bits, h_size)) (T := (h_numbers, h_bits, h_size))), pr_C rfl hB hP hS⟩ rfl rfl hl.1 rfl (lv_room (Nat.le_of_ble_eq_true rfl)) dX4_take_14 ⟨Nat.le_refl _, Nat.le_refl _⟩) rfl (fun hn5 => ?_)
    refine lv_if_eq (tgt := 35) hx hb dX4_take_17 (by decide) (fun hc6 => ?_) (fun hc6 => ?_)
    · have hf := (if_pos hc6).symm.trans hf
      have hres : h_numbers = res := (Option.some.inj hf)
      have hP := w_eq (congrArg (fun z => cw g (S (z, h_bits, h_size))) hres) hP
      exact W.vret hx hb hr (fun t ht hW => ⟨rfl, trivial, by rw [ht]; exact hP, hS.F ht⟩) hS.2.2 dX4_take_35
    · have hf := (if_neg hc6).symm.trans hf
      refine lv_aload_n hx hb dX4_take_20 rfl (lv_at hl 2 rfl) ?_
      refine va_get (D := g.1) (ci := 2) (v := .ref (ga g (12 + j2))) (C := RX4) (T := TX4) (N := 3) hx hb hts iwX4 hown hK hP (8 + j2) (e_sh hj2 (zH.at hL (h_numbers, h_bits, h_size)) (T := (h_numbers, h_bits, h_size))) rfl 0 (by decide) hw0 (fun _ h9 => h9) rfl dX4_take_21 ?_
      refine lv_iload_n hx hb dX4_take_24 rfl (lv_at hl 3 rfl) ?_
      refine lv_aload_n hx hb dX4_take_25 rfl (lv_at hl 0 rfl) ?_
      refine va_get (D := g.1) (ci := 2) (v := .ref (ga g (12 + j))) (C := RX4) (T := TX4) (N := 3) hx hb hts iwX4 hown hK hP (8 + j) (e_sh hj (zH.at hL (h_numbers, h_bits, h_size)) (T := (h_numbers, h_bits, h_size))) rfl 0 (by decide) hw0 (fun _ h9 => h9) rfl dX4_take_26 ?_
      refine lv_iload_n hx hb dX4_take_29 rfl (lv_at hl 1 rfl) ?_
      refine lv_iload hx hb dX4_take_30 (lv_at hl 4 rfl) ?_
      obtain ⟨hg7, hf⟩ := gd_some hf
      obtain ⟨hg8, hf⟩ := gd_some hf
      obtain ⟨hg9, hf⟩ := gd_some hf
      obtain ⟨hg10, hf⟩ := gd_some hf
      obtain ⟨hg11, hf⟩ := gd_some hf
      refine va_copyi (f := (h_numbers j2)) (g := (h_numbers j)) (ty := .int) hx hb (hml.trans hl.1.symm) hown hw1 hw2 hw3 hw4 hK hP (cD hB.2.2.1 _) hS (12 + j2) (12 + j) 0 0 (e_nu hj2 (zH.at hL (h_numbers, h_bits, h_size)) (T := (h_numbers, h_bits, h_size))) (e_nu hj (zH.at hL (h_numbers, h_bits, h_size)) (T := (h_numbers, h_bits, h_size))) rfl rfl rfl hg7 hg8 hg9 hg10 hg11 (fun _ _ => rfl) (Nat.le_of_ble_eq_true rfl) (Nat.le_of_ble_eq_true rfl) dX4_take_32 (fun H locs hP _ hS => ?_)
      have hP : va_P g.1 vwCl (cw g (S ((updN h_numbers j (va_cpy (h_numbers j2) (h_numbers j) a3.toNatClampNeg a1.toNatClampNeg a4.toNatClampNeg)), h_bits, h_size))) H := w_eq (s_nums (S := S) (T := (h_numbers, h_bits, h_size)) (va_cpy (h_numbers j2) (h_numbers j) a3.toNatClampNeg a1.toNatClampNeg a4.toNatClampNeg) hj hL) hP
      have hres : (updN h_numbers j (va_cpy (h_numbers j2) (h_numbers j) a3.toNatClampNeg a1.toNatClampNeg a4.toNatClampNeg)) = res := (Option.some.inj hf)
      have hP := w_eq (congrArg (fun z => cw g (S (z, h_bits, h_size))) hres) hP
      exact W.vret hx hb hr (fun t ht hW => ⟨rfl, trivial, by rw [ht]; exact hP, hS.F ht⟩) hS.2.2 dX4_take_35
set_option maxHeartbeats 4000000 in
set_option maxRecDepth 100000 in
theorem ct_X6_copy (l : Launch) (n : Nat) (g : GC) (p0_paths : Nat → Int32) (p0_water : Int64) (p0_wall : Int64) (p0_kind : Nat → Int32) (p0_place : Nat → Int32) (p0_facing : Nat → Int32) (p0_age : Nat → Int32) (p0_seeds : Int32) (p0_season : Int32) (p0_z : Int32) (p0_spots : Nat → Int32) (p1_paths : Nat → Int32) (p1_water : Int64) (p1_wall : Int64) (p1_kind : Nat → Int32) (p1_place : Nat → Int32) (p1_facing : Nat → Int32) (p1_age : Nat → Int32) (p1_seeds : Int32) (p1_season : Int32) (p1_z : Int32) (p1_spots : Nat → Int32) (p2_paths : Nat → Int32) (p2_water : Int64) (p2_wall : Int64) (p2_kind : Nat → Int32) (p2_place : Nat → Int32) (p2_facing : Nat → Int32) (p2_age : Nat → Int32) (p2_seeds : Int32) (p2_season : Int32) (p2_z : Int32) (p2_spots : Nat → Int32) (t_bytes : Nat → Int32) (t_length : Int32) (t_sort : Int32) (t_start : Int32) (t_end : Int32) (t_value : Int32) (h_numbers : Nat → Nat → Int32) (h_bits : Nat → Int32) (h_size : Nat → Int32) (w_isKept : Int32) (w_told : Nat → Int32) (a1 : Int32) (a2 : Int32) (a3 : Int32) (a4 : Int32) (a5 : Int32) (res : Int32 × (Nat → Nat → Int32) × (Nat → Int32)) (hf : fX6_copy n a1 a2 a3 a4 a5 h_numbers h_bits h_size w_told = some res) : Met l yX6_copy wsX6_copy ({ frames := 2, cells := 0, slots := 0, locals := 88 }) (va_Pc [.ref (ga g 0), .int a1, .int a2, .int a3, .int a4, .int a5] (cI g (pk3 (p0_paths, p0_water, p0_wall, p0_kind, p0_place, p0_facing, p0_age, p0_seeds, p0_season, p0_z, p0_spots) (p1_paths, p1_water, p1_wall, p1_kind, p1_place, p1_facing, p1_age, p1_seeds, p1_season, p1_z, p1_spots) (p2_paths, p2_water, p2_wall, p2_kind, p2_place, p2_facing, p2_age, p2_seeds, p2_season, p2_z, p2_spots), w_isKept, (t_bytes, t_length, t_sort, t_start, t_end, t_value), (h_numbers, h_bits, h_size), w_told))) (qW (some (.int res.1)) True g.1 (cw g (pk3 (p0_paths, p0_water, p0_wall, p0_kind, p0_place, p0_facing, p0_age, p0_seeds, p0_season, p0_z, p0_spots) (p1_paths, p1_water, p1_wall, p1_kind, p1_place, p1_facing, p1_age, p1_seeds, p1_season, p1_z, p1_spots) (p2_paths, p2_water, p2_wall, p2_kind, p2_place, p2_facing, p2_age, p2_seeds, p2_season, p2_z, p2_spots), w_isKept, (t_bytes, t_length, t_sort, t_start, t_end, t_value), (res.2.1, h_bits, h_size), res.2.2)) (gA g)) 0 0 (gA g) := by
  refine Met.ofW (cc := cX6_copy) (maxL := 8) (ret := (some .int)) (by decide) rfl ?_
  intro p e s m args below meth c s₁ B hml hv
  obtain ⟨rfl, hI⟩ := hv
  have hx := B.exec
  have hb := B.bytes
  have hr := B.returns
  have hts := atoms_spec (ws := wsX6_copy) B.pre
  have hown : s.vm.findClass RX6 = some m.cls := findClass_of_methodNamed B.named
  have hlocks := B.notSynchronized
  have hP := hI.1
  have hB := hI.2
  have hK := hB.1
  have hNW := hB.2.1
  have hS : va_S (gA g) s.heap s.heap [] := va_S.rf
  have iwX4 : ∀ w ∈ wsX40, w ∈ wsX6_copy := fun w h => List.mem_cons_of_mem _ (List.mem_append_left _ (List.mem_append_right _ h))
  have hl := lv_entry ([.ref (ga g 0), .int a1, .int a2, .int a3, .int a4, .int a5]) (n := 8) (Nat.le_of_ble_eq_true rfl)
  rw [lg_entry_eq]
  generalize (lg_sl ([.ref (ga g 0), .int a1, .int a2, .int a3, .int a4, .int a5]) ++ List.replicate (8 - (lg_sl ([.ref (ga g 0), .int a1, .int a2, .int a3, .int a4, .int a5])).length) Slot.unset).toArray = ls at hl ⊢
  have hl : lv_has ls 8 [(0, .ref (ga g 0)), (1, .int a1), (2, .int a2), (3, .int a3), (4, .int a4), (5, .int a5)] := hl
  unfold fX6_copy at hf
  refine lv_aload_n hx hb dX6_copy_0 rfl (lv_at hl 0 rfl) ?_
  refine lv_iload_n hx hb dX6_copy_1 rfl (lv_at hl 1 rfl) ?_
  obtain ⟨q1, hq1, hf⟩ := bd_some hf
  refine kr_S (st1 := [va_rf (Option.map (fun j => ga g (8 + j)) q1)]) (va_runV (As := [.int a1]) (rest := []) ⟨hx, hb, hml, hown, hts⟩ (ct_X6_sheetAt l n g p0_paths p0_water p0_wall p0_kind p0_place p0_facing p0_age p0_seeds p0_season p0_z p0_spots p1_paths p1_water p1_wall p1_kind p1_place p1_facing p1_age p1_seeds p1_season p1_z p1_spots p2_paths p2_water p2_wall p2_kind p2_place p2_facing p2_age p2_seeds p2_season p2_z p2_spots t_bytes t_length t_sort t_start t_end t_value h_numbers h_bits h_size w_isKept w_told a1 q1 hq1) (cwV 1 hts gX6_copy_X6_sheetAt rfl rfl rfl hd_X6_sheetAt ⟨Nat.le_of_ble_eq_true rfl, Nat.le_of_ble_eq_true rfl⟩) ⟨bl_C, va_recv hK hP (ci := 4) (q0 := 0) rfl q_sp, pr_C rfl hB hP hS⟩ rfl rfl hl.1 rfl (lv_room (Nat.le_of_ble_eq_true rfl)) dX6_copy_2 ⟨Nat.le_refl _, Nat.le_refl _⟩) rfl (fun hn2 => ?_)
  rcases q1 with _ | j3
  · have hf := eo_n hf
    refine W.eq (g2 := F0 m 5 ls [.null]) rfl ?_
    refine lv_astoreN (lv' := [(6, .null), (0, .ref (ga g 0)), (1, .int a1), (2, .int a2), (3, .int a3), (4, .int a4), (5, .int a5)]) hx hb dX6_copy_5 hl (by decide) rfl (fun ls hl => ?_)
    refine lv_aload_n hx hb dX6_copy_7 rfl (lv_at hl 1 rfl) ?_
    refine lv_iload_n hx hb dX6_copy_8 rfl (lv_at hl 4 rfl) ?_
    obtain ⟨q5, hq5, hf⟩ := bd_some hf
    refine kr_S (st1 := [va_rf (Option.map (fun j => ga g (8 + j)) q5)]) (va_runV (As := [.int a3]) (rest := []) ⟨hx, hb, hml, hown, hts⟩ (ct_X6_sheetAt l n g p0_paths p0_water p0_wall p0_kind p0_place p0_facing p0_age p0_seeds p0_season p0_z p0_spots p1_paths p1_water p1_wall p1_kind p1_place p1_facing p1_age p1_seeds p1_season p1_z p1_spots p2_paths p2_water p2_wall p2_kind p2_place p2_facing p2_age p2_seeds p2_season p2_z p2_spots t_bytes t_length t_sort t_start t_end t_value h_numbers h_bits h_size w_isKept w_told a3 q5 hq5) (cwV 1 hts gX6_copy_X6_sheetAt rfl rfl rfl hd_X6_sheetAt ⟨Nat.le_of_ble_eq_true rfl, Nat.le_of_ble_eq_true rfl⟩) ⟨bl_C, va_recv hK hP (ci := 4) (q0 := 0) rfl q_sp, pr_C rfl hB hP hS⟩ rfl rfl hl.1 rfl (lv_room (Nat.le_of_ble_eq_true rfl)) dX6_copy_9 ⟨Nat.le_refl _, Nat.le_refl _⟩) rfl (fun hn6 => ?_)
    rcases q5 with _ | j7
    · have hf := eo_n hf
      refine W.eq (g2 := F0 m 12 ls [.null]) rfl ?_
      refine lv_astoreN (lv' := [(7, .null), (6, .null), (0, .ref (ga g 0)), (1, .int a1), (2, .int a2), (3, .int a3), (4, .int a4), (5, .int a5)]) hx hb dX6_copy_12 hl (by decide) rfl (fun ls hl => ?_)
      refine lv_aloadN hx hb dX6_copy_14 (lv_at hl 1 rfl) ?_
      refine lv_ifnullN (tgt := 24) hx hb dX6_copy_16 (by decide) ?_
      refine lv_aload_n hx hb dX6_copy_24 rfl (lv_at hl 2 rfl) ?_
      refine lv_iconst (v := (0 : Int32)) hx hb dX6_copy_25 (by decide) ?_
      obtain ⟨q9, hq9, hf⟩ := bd_some hf
      refine kr_W (st1 := [.int q9.1]) (va_runV (As := [.int (0 : Int32)]) (rest := []) ⟨hx, hb, hml, hown, hts⟩ (ct_X6_finding l n g p0_paths p0_water p0_wall p0_kind p0_place p0_facing p0_age p0_seeds p0_season p0_z p0_spots p1_paths p1_water p1_wall p1_kind p1_place p1_facing p1_age p1_seeds p1_season p1_z p1_spots p2_paths p2_water p2_wall p2_kind p2_place p2_facing p2_age p2_seeds p2_season p2_z p2_spots t_bytes t_length t_sort t_start t_end t_value h_numbers h_bits h_size w_isKept w_told (0 : Int32) q9 hq9) (cwV 1 hts gX6_copy_X6_finding rfl rfl rfl hd_X6_finding ⟨Nat.le_of_ble_eq_true rfl, Nat.le_of_ble_eq_true rfl⟩) ⟨bl_C, va_recv hK hP (ci := 4) (q0 := 0) rfl q_sp, pr_C rfl hB hP hS⟩ rfl rfl hl.1 rfl (lv_room (Nat.le_of_ble_eq_true rfl)) dX6_copy_26 ⟨Nat.le_refl _, Nat.le_refl _⟩) hS rfl (fun hn10 H locs hP hS => ?_)
      have hP : va_P g.1 vwCl (cw g (pk3 (p0_paths, p0_water, p0_wall, p0_kind, p0_place, p0_facing, p0_age, p0_seeds, p0_season, p0_z, p0_spots) (p1_paths, p1_water, p1_wall, p1_kind, p1_place, p1_facing, p1_age, p1_seeds, p1_season, p1_z, p1_spots) (p2_paths, p2_water, p2_wall, p2_kind, p2_place, p2_facing, p2_age, p2_seeds, p2_season, p2_z, p2_spots), w_isKept, (t_bytes, t_length, t_sort, t_start, t_end, t_value), (h_numbers, h_bits, h_size), q9.2)) H := hP
      have hres : (q9.1, h_numbers, q9.2) = res := (Option.some.inj hf)
      have hP := w_eq (congrArg (fun z => cw g (pk3 (p0_paths, p0_water, p0_wall, p0_kind, p0_place, p0_facing, p0_age, p0_seeds, p0_season, p0_z, p0_spots) (p1_paths, p1_water, p1_wall, p1_kind, p1_place, p1_facing, p1_age, p1_seeds, p1_season, p1_z, p1_spots) (p2_paths, p2_water, p2_wall, p2_kind, p2_place, p2_facing, p2_age, p2_seeds, p2_season, p2_z, p2_spots), w_isKept, (t_bytes, t_length, t_sort, t_start, t_end, t_value), (z.2.1, h_bits, h_size), z.2.2)) hres) hP
      exact W.iret (v := q9.1) hx hb hr (fun t ht hW => ⟨congrArg (fun z => Outcome.returned (some (Value.int z.1))) hres, trivial, by rw [ht]; exact hP, hS.F ht⟩) hS.2.2 dX6_copy_29
    · have hf := eo_s hf
      have hj8 := hn6 _ rfl
      refine W.eq (g2 := F0 m 12 ls [.ref (ga g (8 + j7))]) rfl ?_
      refine lv_astore (lv' := [(7, .ref (ga g (8 + j7))), (6, .null), (0, .ref (ga g 0)), (1, .int a1), (2, .int a2), (3, .int a3), (4, .int a4), (5, .int a5)]) hx hb dX6_copy_12 hl (by decide) rfl (fun ls hl => ?_)
      refine lv_aloadN hx hb dX6_copy_14 (lv_at hl 1 rfl) ?_
      refine lv_ifnullN (tgt := 24) hx hb dX6_copy_16 (by decide) ?_
      refine lv_aload_n hx hb dX6_copy_24 rfl (lv_at hl 2 rfl) ?_
      refine lv_iconst (v := (0 : Int32)) hx hb dX6_copy_25 (by decide) ?_
      obtain ⟨q11, hq11, hf⟩ := bd_some hf
      refine kr_W (st1 := [.int q11.1]) (va_runV (As := [.int (0 : Int32)]) (rest := []) ⟨hx, hb, hml, hown, hts⟩ (ct_X6_finding l n g p0_paths p0_water p0_wall p0_kind p0_place p0_facing p0_age p0_seeds p0_season p0_z p0_spots p1_paths p1_water p1_wall p1_kind p1_place p1_facing p1_age p1_seeds p1_season p1_z p1_spots p2_paths p2_water p2_wall p2_kind p2_place p2_facing p2_age p2_seeds p2_season p2_z p2_spots t_bytes t_length t_sort t_start t_end t_value h_numbers h_bits h_size w_isKept w_told (0 : Int32) q11 hq11) (cwV 1 hts gX6_copy_X6_finding rfl rfl rfl hd_X6_finding ⟨Nat.le_of_ble_eq_true rfl, Nat.le_of_ble_eq_true rfl⟩) ⟨bl_C, va_recv hK hP (ci := 4) (q0 := 0) rfl q_sp, pr_C rfl hB hP hS⟩ rfl rfl hl.1 rfl (lv_room (Nat.le_of_ble_eq_true rfl)) dX6_copy_26 ⟨Nat.le_refl _, Nat.le_refl _⟩) hS rfl (fun hn12 H locs hP hS => ?_)
      have hP : va_P g.1 vwCl (cw g (pk3 (p0_paths, p0_water, p0_wall, p0_kind, p0_place, p0_facing, p0_age, p0_seeds, p0_season, p0_z, p0_spots) (p1_paths, p1_water, p1_wall, p1_kind, p1_place, p1_facing, p1_age, p1_seeds, p1_season, p1_z, p1_spots) (p2_paths, p2_water, p2_wall, p2_kind, p2_place, p2_facing, p2_age, p2_seeds, p2_season, p2_z, p2_spots), w_isKept, (t_bytes, t_length, t_sort, t_start, t_end, t_value), (h_numbers, h_bits, h_size), q11.2)) H := hP
      have hres : (q11.1, h_numbers, q11.2) = res := (Option.some.inj hf)
      have hP := w_eq (congrArg (fun z => cw g (pk3 (p0_paths, p0_water, p0_wall, p0_kind, p0_place, p0_facing, p0_age, p0_seeds, p0_season, p0_z, p0_spots) (p1_paths, p1_water, p1_wall, p1_kind, p1_place, p1_facing, p1_age, p1_seeds, p1_season, p1_z, p1_spots) (p2_paths, p2_water, p2_wall, p2_kind, p2_place, p2_facing, p2_age, p2_seeds, p2_season, p2_z, p2_spots), w_isKept, (t_bytes, t_length, t_sort, t_start, t_end, t_value), (z.2.1, h_bits, h_size), z.2.2)) hres) hP
      exact W.iret (v := q11.1) hx hb hr (fun t ht hW => ⟨congrArg (fun z => Outcome.returned (some (Value.int z.1))) hres, trivial, by rw [ht]; exact hP, hS.F ht⟩) hS.2.2 dX6_copy_29
  · have hf := eo_s hf
    have hj4 := hn2 _ rfl
    refine W.eq (g2 := F0 m 5 ls [.ref (ga g (8 + j3))]) rfl ?_
    refine lv_astore (lv' := [(6, .ref (ga g (8 + j3))), (0, .ref (ga g 0)), (1, .int a1), (2, .int a2), (3, .int a3), (4, .int a4), (5, .int a5)]) hx hb dX6_copy_5 hl (by decide) rfl (fun ls hl => ?_)
    refine lv_aload_n hx hb dX6_copy_7 rfl (lv_at hl 1 rfl) ?_
    refine lv_iload_n hx hb dX6_copy_8 rfl (lv_at hl 4 rfl) ?_
    obtain ⟨q13, hq13, hf⟩ := bd_some hf
    refine kr_S (st1 := [va_rf (Option.map (fun j => ga g (8 + j)) q13)]) (va_runV (As := [.int a3]) (rest := []) ⟨hx, hb, hml, hown, hts⟩ (ct_X6_sheetAt l n g p0_paths p0_water p0_wall p0_kind p0_place p0_facing p0_age p0_seeds p0_season p0_z p0_spots p1_paths p1_water p1_wall p1_kind p1_place p1_facing p1_age p1_seeds p1_season p1_z p1_spots p2_paths p2_water p2_wall p2_kind p2_place p2_facing p2_age p2_seeds p2_season p2_z p2_spots t_bytes t_length t_sort t_start t_end t_value h_numbers h_bits h_size w_isKept w_told a3 q13 hq13) (cwV 1 hts gX6_copy_X6_sheetAt rfl rfl rfl hd_X6_sheetAt ⟨Nat.le_of_ble_eq_true rfl, Nat.le_of_ble_eq_true rfl⟩) ⟨bl_C, va_recv hK hP (ci := 4) (q0 := 0) rfl q_sp, pr_C rfl hB hP hS⟩ rfl rfl hl.1 rfl (lv_room (Nat.le_of_ble_eq_true rfl)) dX6_copy_9 ⟨Nat.le_refl _, Nat.le_refl _⟩) rfl (fun hn14 => ?_)
    rcases q13 with _ | j15
    · have hf := eo_n hf
      refine W.eq (g2 := F0 m 12 ls [.null]) rfl ?_
      refine lv_astoreN (lv' := [(7, .null), (6, .ref (ga g (8 + j3))), (0, .ref (ga g 0)), (1, .int a1), (2, .int a2), (3, .int a3), (4, .int a4), (5, .int a5)]) hx hb dX6_copy_12 hl (by decide) rfl (fun ls hl => ?_)
      refine lv_aload hx hb dX6_copy_14 (lv_at hl 1 rfl) ?_
      refine lv_ifnull hx hb dX6_copy_16 ?_
      refine lv_aloadN hx hb dX6_copy_19 (lv_at hl 0 rfl) ?_
      refine lv_ifnonnullN hx hb dX6_copy_21 ?_
      refine lv_aload_n hx hb dX6_copy_24 rfl (lv_at hl 2 rfl) ?_
      refine lv_iconst (v := (0 : Int32)) hx hb dX6_copy_25 (by decide) ?_
      obtain ⟨q17, hq17, hf⟩ := bd_some hf
      refine kr_W (st1 := [.int q17.1]) (va_runV (As := [.int (0 : Int32)]) (rest := []) ⟨hx, hb, hml, hown, hts⟩ (ct_X6_finding l n g p0_paths p0_water p0_wall p0_kind p0_place p0_facing p0_age p0_seeds p0_season p0_z p0_spots p1_paths p1_water p1_wall p1_kind p1_place p1_facing p1_age p1_seeds p1_season p1_z p1_spots p2_paths p2_water p2_wall p2_kind p2_place p2_facing p2_age p2_seeds p2_season p2_z p2_spots t_bytes t_length t_sort t_start t_end t_value h_numbers h_bits h_size w_isKept w_told (0 : Int32) q17 hq17) (cwV 1 hts gX6_copy_X6_finding rfl rfl rfl hd_X6_finding ⟨Nat.le_of_ble_eq_true rfl, Nat.le_of_ble_eq_true rfl⟩) ⟨bl_C, va_recv hK hP (ci := 4) (q0 := 0) rfl q_sp, pr_C rfl hB hP hS⟩ rfl rfl hl.1 rfl (lv_room (Nat.le_of_ble_eq_true rfl)) dX6_copy_26 ⟨Nat.le_refl _, Nat.le_refl _⟩) hS rfl (fun hn18 H locs hP hS => ?_)
      have hP : va_P g.1 vwCl (cw g (pk3 (p0_paths, p0_water, p0_wall, p0_kind, p0_place, p0_facing, p0_age, p0_seeds, p0_season, p0_z, p0_spots) (p1_paths, p1_water, p1_wall, p1_kind, p1_place, p1_facing, p1_age, p1_seeds, p1_season, p1_z, p1_spots) (p2_paths, p2_water, p2_wall, p2_kind, p2_place, p2_facing, p2_age, p2_seeds, p2_season, p2_z, p2_spots), w_isKept, (t_bytes, t_length, t_sort, t_start, t_end, t_value), (h_numbers, h_bits, h_size), q17.2)) H := hP
      have hres : (q17.1, h_numbers, q17.2) = res := (Option.some.inj hf)
      have hP := w_eq (congrArg (fun z => cw g (pk3 (p0_paths, p0_water, p0_wall, p0_kind, p0_place, p0_facing, p0_age, p0_seeds, p0_season, p0_z, p0_spots) (p1_paths, p1_water, p1_wall, p1_kind, p1_place, p1_facing, p1_age, p1_seeds, p1_season, p1_z, p1_spots) (p2_paths, p2_water, p2_wall, p2_kind, p2_place, p2_facing, p2_age, p2_seeds, p2_season, p2_z, p2_spots), w_isKept, (t_bytes, t_length, t_sort, t_start, t_end, t_value), (z.2.1, h_bits, h_size), z.2.2)) hres) hP
      exact W.iret (v := q17.1) hx hb hr (fun t ht hW => ⟨congrArg (fun z => Outcome.returned (some (Value.int z.1))) hres, trivial, by rw [ht]; exact hP, hS.F ht⟩) hS.2.2 dX6_copy_29
    · have hf := eo_s hf
      have hj16 := hn14 _ rfl
      refine W.eq (g2 := F0 m 12 ls [.ref (ga g (8 + j15))]) rfl ?_
      refine lv_astore (lv' := [(7, .ref (ga g (8 + j15))), (6, .ref (ga g (8 + j3))), (0, .ref (ga g 0)), (1, .int a1), (2, .int a2), (3, .int a3), (4, .int a4), (5, .int a5)]) hx hb dX6_copy_12 hl (by decide) rfl (fun ls hl => ?_)
      refine lv_aload hx hb dX6_copy_14 (lv_at hl 1 rfl) ?_
      refine lv_ifnull hx hb dX6_copy_16 ?_
      refine lv_aload hx hb dX6_copy_19 (lv_at hl 0 rfl) ?_
      refine lv_ifnonnull (tgt := 30) hx hb dX6_copy_21 (by decide) ?_
      refine lv_aload hx hb dX6_copy_30 (lv_at hl 1 rfl) ?_
      obtain ⟨q19, hq19, hf⟩ := bd_some hf
      refine kr_S (st1 := [.int q19]) (va_runV (As := []) (rest := []) ⟨hx, hb, hml, hown, hts⟩ (ct_X4_isMissing l n g (pk3 (p0_paths, p0_water, p0_wall, p0_kind, p0_place, p0_facing, p0_age, p0_seeds, p0_season, p0_z, p0_spots) (p1_paths, p1_water, p1_wall, p1_kind, p1_place, p1_facing, p1_age, p1_seeds, p1_season, p1_z, p1_spots) (p2_paths, p2_water, p2_wall, p2_kind, p2_place, p2_facing, p2_age, p2_seeds, p2_season, p2_z, p2_spots), w_isKept, (t_bytes, t_length, t_sort, t_start, t_end, t_value), (h_numbers, h_bits, h_size), w_told) h_numbers h_bits h_size rfl j3 hj4 q19 hq19) (cwV 0 hts gX6_copy_X4_isMissing rfl rfl rfl hd_X4_isMissing ⟨Nat.le_of_ble_eq_true rfl, Nat.le_of_ble_eq_true rfl⟩) ⟨bl_C, va_recv hK hP (ci := 2) (q0 := (8 + j3)) rfl (e_sh hj4 rfl (T := (h_numbers, h_bits, h_size))), pr_C rfl hB hP hS⟩ rfl rfl hl.1 rfl (lv_room (Nat.le_of_ble_eq_true rfl)) dX6_copy_32 ⟨Nat.le_refl _, Nat.le_refl _⟩) rfl (fun hn20 => ?_)
      refine lv_if_ne (tgt := 46) hx hb dX6_copy_35 (by decide) (fun hc21 => ?_) (fun hc21 => ?_)
      · have hf := (if_neg hc21).symm.trans hf
        refine lv_aload_n hx hb dX6_copy_46 rfl (lv_at hl 2 rfl) ?_
        refine lv_iconst (v := (5 : Int32)) hx hb dX6_copy_47 (by decide) ?_
        obtain ⟨q22, hq22, hf⟩ := bd_some hf
        refine kr_W (st1 := [.int q22.1]) (va_runV (As := [.int (5 : Int32)]) (rest := []) ⟨hx, hb, hml, hown, hts⟩ (ct_X6_finding l n g p0_paths p0_water p0_wall p0_kind p0_place p0_facing p0_age p0_seeds p0_season p0_z p0_spots p1_paths p1_water p1_wall p1_kind p1_place p1_facing p1_age p1_seeds p1_season p1_z p1_spots p2_paths p2_water p2_wall p2_kind p2_place p2_facing p2_age p2_seeds p2_season p2_z p2_spots t_bytes t_length t_sort t_start t_end t_value h_numbers h_bits h_size w_isKept w_told (5 : Int32) q22 hq22) (cwV 1 hts gX6_copy_X6_finding rfl rfl rfl hd_X6_finding ⟨Nat.le_of_ble_eq_true rfl, Nat.le_of_ble_eq_true rfl⟩) ⟨bl_C, va_recv hK hP (ci := 4) (q0 := 0) rfl q_sp, pr_C rfl hB hP hS⟩ rfl rfl hl.1 rfl (lv_room (Nat.le_of_ble_eq_true rfl)) dX6_copy_48 ⟨Nat.le_refl _, Nat.le_refl _⟩) hS rfl (fun hn23 H locs hP hS => ?_)
        have hP : va_P g.1 vwCl (cw g (pk3 (p0_paths, p0_water, p0_wall, p0_kind, p0_place, p0_facing, p0_age, p0_seeds, p0_season, p0_z, p0_spots) (p1_paths, p1_water, p1_wall, p1_kind, p1_place, p1_facing, p1_age, p1_seeds, p1_season, p1_z, p1_spots) (p2_paths, p2_water, p2_wall, p2_kind, p2_place, p2_facing, p2_age, p2_seeds, p2_season, p2_z, p2_spots), w_isKept, (t_bytes, t_length, t_sort, t_start, t_end, t_value), (h_numbers, h_bits, h_size), q22.2)) H := hP
        have hres : (q22.1, h_numbers, q22.2) = res := (Option.some.inj hf)
        have hP := w_eq (congrArg (fun z => cw g (pk3 (p0_paths, p0_water, p0_wall, p0_kind, p0_place, p0_facing, p0_age, p0_seeds, p0_season, p0_z, p0_spots) (p1_paths, p1_water, p1_wall, p1_kind, p1_place, p1_facing, p1_age, p1_seeds, p1_season, p1_z, p1_spots) (p2_paths, p2_water, p2_wall, p2_kind, p2_place, p2_facing, p2_age, p2_seeds, p2_season, p2_z, p2_spots), w_isKept, (t_bytes, t_length, t_sort, t_start, t_end, t_value), (z.2.1, h_bits, h_size), z.2.2)) hres) hP
        exact W.iret (v := q22.1) hx hb hr (fun t ht hW => ⟨congrArg (fun z => Outcome.returned (some (Value.int z.1))) hres, trivial, by rw [ht]; exact hP, hS.F ht⟩) hS.2.2 dX6_copy_51
      · have hf := (if_pos hc21).symm.trans hf
        refine lv_aload hx hb dX6_copy_38 (lv_at hl 0 rfl) ?_
        obtain ⟨q24, hq24, hf⟩ := bd_some hf
        refine kr_S (st1 := [.int q24]) (va_runV (As := []) (rest := []) ⟨hx, hb, hml, hown, hts⟩ (ct_X4_isMissing l n g (pk3 (p0_paths, p0_water, p0_wall, p0_kind, p0_place, p0_facing, p0_age, p0_seeds, p0_season, p0_z, p0_spots) (p1_paths, p1_water, p1_wall, p1_kind, p1_place, p1_facing, p1_age, p1_seeds, p1_season, p1_z, p1_spots) (p2_paths, p2_water, p2_wall, p2_kind, p2_place, p2_facing, p2_age, p2_seeds, p2_season, p2_z, p2_spots), w_isKept, (t_bytes, t_length, t_sort, t_start, t_end, t_value), (h_numbers, h_bits, h_size), w_told) h_numbers h_bits h_size rfl j15 hj16 q24 hq24) (cwV 0 hts gX6_copy_X4_isMissing rfl rfl rfl hd_X4_isMissing ⟨Nat.le_of_ble_eq_true rfl, Nat.le_of_ble_eq_true rfl⟩) ⟨bl_C, va_recv hK hP (ci := 2) (q0 := (8 + j15)) rfl (e_sh hj16 rfl (T := (h_numbers, h_bits, h_size))), pr_C rfl hB hP hS⟩ rfl rfl hl.1 rfl (lv_room (Nat.le_of_ble_eq_true rfl)) dX6_copy_40 ⟨Nat.le_refl _, Nat.le_refl _⟩) rfl (fun hn25 => ?_)
        refine lv_if_eq (tgt := 52) hx hb dX6_copy_43 (by decide) (fun hc26 => ?_) (fun hc26 => ?_)
        · have hf := (if_pos hc26).symm.trans hf
          refine lv_aload hx hb dX6_copy_52 (lv_at hl 1 rfl) ?_
          refine va_getN (D := g.1) (ci := 2) (v := .int (h_bits j3)) (C := RX4) (T := TX4) (N := 3) hx hb hts iwX4 hown hK hP (8 + j3) (e_sh hj4 rfl (T := (h_numbers, h_bits, h_size))) rfl 1 (by decide) (nf_X6_286 hNW) (fun _ h9 => h9) rfl dX6_copy_54 ?_
          refine lv_aload hx hb dX6_copy_57 (lv_at hl 0 rfl) ?_
          refine va_getN (D := g.1) (ci := 2) (v := .int (h_bits j15)) (C := RX4) (T := TX4) (N := 3) hx hb hts iwX4 hown hK hP (8 + j15) (e_sh hj16 rfl (T := (h_numbers, h_bits, h_size))) rfl 1 (by decide) (nf_X6_286 hNW) (fun _ h9 => h9) rfl dX6_copy_59 ?_
          refine lv_icmp_eq (tgt := 71) hx hb dX6_copy_62 (by decide) (fun hc27 => ?_) (fun hc27 => ?_)
          · have hf := (if_pos hc27).symm.trans hf
            refine lv_aload hx hb dX6_copy_71 (lv_at hl 1 rfl) ?_
            refine lv_iload_n hx hb dX6_copy_73 rfl (lv_at hl 4 rfl) ?_
            refine lv_iload hx hb dX6_copy_74 (lv_at hl 7 rfl) ?_
            obtain ⟨q28, hq28, hf⟩ := bd_some hf
            refine kr_S (st1 := [.int q28]) (va_runV (As := [.int a2, .int a5]) (rest := []) ⟨hx, hb, hml, hown, hts⟩ (ct_X4_has l n g (pk3 (p0_paths, p0_water, p0_wall, p0_kind, p0_place, p0_facing, p0_age, p0_seeds, p0_season, p0_z, p0_spots) (p1_paths, p1_water, p1_wall, p1_kind, p1_place, p1_facing, p1_age, p1_seeds, p1_season, p1_z, p1_spots) (p2_paths, p2_water, p2_wall, p2_kind, p2_place, p2_facing, p2_age, p2_seeds, p2_season, p2_z, p2_spots), w_isKept, (t_bytes, t_length, t_sort, t_start, t_end, t_value), (h_numbers, h_bits, h_size), w_told) h_numbers h_bits h_size rfl j3 hj4 a2 a5 q28 hq28) (cwV 2 hts gX6_copy_X4_has rfl rfl rfl hd_X4_has ⟨Nat.le_of_ble_eq_true rfl, Nat.le_of_ble_eq_true rfl⟩) ⟨bl_C, va_recv hK hP (ci := 2) (q0 := (8 + j3)) rfl (e_sh hj4 rfl (T := (h_numbers, h_bits, h_size))), pr_C rfl hB hP hS⟩ rfl rfl hl.1 rfl (lv_room (Nat.le_of_ble_eq_true rfl)) dX6_copy_76 ⟨Nat.le_refl _, Nat.le_refl _⟩) rfl (fun hn29 => ?_)
            refine lv_if_eq (tgt := 94) hx hb dX6_copy_79 (by decide) (fun hc30 => ?_) (fun hc30 => ?_)
            · have hf := (if_pos hc30).symm.trans hf
              refine lv_aload_n hx hb dX6_copy_94 rfl (lv_at hl 2 rfl) ?_
              refine lv_iconst (v := (0 : Int32)) hx hb dX6_copy_95 (by decide) ?_
              obtain ⟨q31, hq31, hf⟩ := bd_some hf
              refine kr_W (st1 := [.int q31.1]) (va_runV (As := [.int (0 : Int32)]) (rest := []) ⟨hx, hb, hml, hown, hts⟩ (ct_X6_finding l n g p0_paths p0_water p0_wall p0_kind p0_place p0_facing p0_age p0_seeds p0_season p0_z p0_spots p1_paths p1_water p1_wall p1_kind p1_place p1_facing p1_age p1_seeds p1_season p1_z p1_spots p2_paths p2_water p2_wall p2_kind p2_place p2_facing p2_age p2_seeds p2_season p2_z p2_spots t_bytes t_length t_sort t_start t_end t_value h_numbers h_bits h_size w_isKept w_told (0 : Int32) q31 hq31) (cwV 1 hts gX6_copy_X6_finding rfl rfl rfl hd_X6_finding ⟨Nat.le_of_ble_eq_true rfl, Nat.le_of_ble_eq_true rfl⟩) ⟨bl_C, va_recv hK hP (ci := 4) (q0 := 0) rfl q_sp, pr_C rfl hB hP hS⟩ rfl rfl hl.1 rfl (lv_room (Nat.le_of_ble_eq_true rfl)) dX6_copy_96 ⟨Nat.le_refl _, Nat.le_refl _⟩) hS rfl (fun hn32 H locs hP hS => ?_)
              have hP : va_P g.1 vwCl (cw g (pk3 (p0_paths, p0_water, p0_wall, p0_kind, p0_place, p0_facing, p0_age, p0_seeds, p0_season, p0_z, p0_spots) (p1_paths, p1_water, p1_wall, p1_kind, p1_place, p1_facing, p1_age, p1_seeds, p1_season, p1_z, p1_spots) (p2_paths, p2_water, p2_wall, p2_kind, p2_place, p2_facing, p2_age, p2_seeds, p2_season, p2_z, p2_spots), w_isKept, (t_bytes, t_length, t_sort, t_start, t_end, t_value), (h_numbers, h_bits, h_size), q31.2)) H := hP
              have hres : (q31.1, h_numbers, q31.2) = res := (Option.some.inj hf)
              have hP := w_eq (congrArg (fun z => cw g (pk3 (p0_paths, p0_water, p0_wall, p0_kind, p0_place, p0_facing, p0_age, p0_seeds, p0_season, p0_z, p0_spots) (p1_paths, p1_water, p1_wall, p1_kind, p1_place, p1_facing, p1_age, p1_seeds, p1_season, p1_z, p1_spots) (p2_paths, p2_water, p2_wall, p2_kind, p2_place, p2_facing, p2_age, p2_seeds, p2_season, p2_z, p2_spots), w_isKept, (t_bytes, t_length, t_sort, t_start, t_end, t_value), (z.2.1, h_bits, h_size), z.2.2)) hres) hP
              exact W.iret (v := q31.1) hx hb hr (fun t ht hW => ⟨congrArg (fun z => Outcome.returned (some (Value.int z.1))) hres, trivial, by rw [ht]; exact hP, hS.F ht⟩) hS.2.2 dX6_copy_99
            · have hf := (if_neg hc30).symm.trans hf
              refine lv_aload hx hb dX6_copy_82 (lv_at hl 0 rfl) ?_
              refine lv_iload hx hb dX6_copy_84 (lv_at hl 6 rfl) ?_
              refine lv_iload hx hb dX6_copy_86 (lv_at hl 7 rfl) ?_
              obtain ⟨q33, hq33, hf⟩ := bd_some hf
              refine kr_S (st1 := [.int q33]) (va_runV (As := [.int a4, .int a5]) (rest := []) ⟨hx, hb, hml, hown, hts⟩ (ct_X4_has l n g (pk3 (p0_paths, p0_water, p0_wall, p0_kind, p0_place, p0_facing, p0_age, p0_seeds, p0_season, p0_z, p0_spots) (p1_paths, p1_water, p1_wall, p1_kind, p1_place, p1_facing, p1_age, p1_seeds, p1_season, p1_z, p1_spots) (p2_paths, p2_water, p2_wall, p2_kind, p2_place, p2_facing, p2_age, p2_seeds, p2_season, p2_z, p2_spots), w_isKept, (t_bytes, t_length, t_sort, t_start, t_end, t_value), (h_numbers, h_bits, h_size), w_told) h_numbers h_bits h_size rfl j15 hj16 a4 a5 q33 hq33) (cwV 2 hts gX6_copy_X4_has rfl rfl rfl hd_X4_has ⟨Nat.le_of_ble_eq_true rfl, Nat.le_of_ble_eq_true rfl⟩) ⟨bl_C, va_recv hK hP (ci := 2) (q0 := (8 + j15)) rfl (e_sh hj16 rfl (T := (h_numbers, h_bits, h_size))), pr_C rfl hB hP hS⟩ rfl rfl hl.1 rfl (lv_room (Nat.le_of_ble_eq_true rfl)) dX6_copy_88 ⟨Nat.le_refl _, Nat.le_refl _⟩) rfl (fun hn34 => ?_)
              refine lv_if_ne (tgt := 100) hx hb dX6_copy_91 (by decide) (fun hc35 => ?_) (fun hc35 => ?_)
              · have hf := (if_neg hc35).symm.trans hf
                refine lv_aload hx hb dX6_copy_100 (lv_at hl 0 rfl) ?_
                refine lv_iload hx hb dX6_copy_102 (lv_at hl 6 rfl) ?_
                refine lv_aload hx hb dX6_copy_104 (lv_at hl 1 rfl) ?_
                refine lv_iload_n hx hb dX6_copy_106 rfl (lv_at hl 4 rfl) ?_
                refine lv_iload hx hb dX6_copy_107 (lv_at hl 7 rfl) ?_
                obtain ⟨q36, hq36, hf⟩ := bd_some hf
                refine kr_W (st1 := []) (va_runV (As := [.int a4, .ref (ga g (8 + j3)), .int a2, .int a5]) (rest := []) ⟨hx, hb, hml, hown, hts⟩ (ct_X4_take l n g (fun h => (pk3 (p0_paths, p0_water, p0_wall, p0_kind, p0_place, p0_facing, p0_age, p0_seeds, p0_season, p0_z, p0_spots) (p1_paths, p1_water, p1_wall, p1_kind, p1_place, p1_facing, p1_age, p1_seeds, p1_season, p1_z, p1_spots) (p2_paths, p2_water, p2_wall, p2_kind, p2_place, p2_facing, p2_age, p2_seeds, p2_season, p2_z, p2_spots), w_isKept, (t_bytes, t_length, t_sort, t_start, t_end, t_value), h, w_told)) zH0 h_numbers h_bits h_size j15 hj16 j3 hj4 a4 a2 a5 q36 hq36) (cwV 4 hts gX6_copy_X4_take rfl rfl rfl hd_X4_take ⟨Nat.le_of_ble_eq_true rfl, Nat.le_of_ble_eq_true rfl⟩) ⟨bl_C, va_recv hK hP (ci := 2) (q0 := (8 + j15)) rfl (e_sh hj16 rfl (T := (h_numbers, h_bits, h_size))), pr_C rfl hB hP hS⟩ rfl rfl hl.1 rfl (lv_room (Nat.le_of_ble_eq_true rfl)) dX6_copy_109 ⟨Nat.le_refl _, Nat.le_refl _⟩) hS rfl (fun hn37 H locs hP hS => ?_)
                have hP : va_P g.1 vwCl (cw g (pk3 (p0_paths, p0_water, p0_wall, p0_kind, p0_place, p0_facing, p0_age, p0_seeds, p0_season, p0_z, p0_spots) (p1_paths, p1_water, p1_wall, p1_kind, p1_place, p1_facing, p1_age, p1_seeds, p1_season, p1_z, p1_spots) (p2_paths, p2_water, p2_wall, p2_kind, p2_place, p2_facing, p2_age, p2_seeds, p2_season, p2_z, p2_spots), w_isKept, (t_bytes, t_length, t_sort, t_start, t_end, t_value), (q36, h_bits, h_size), w_told)) H := hP
                refine lv_iload hx hb dX6_copy_112 (lv_at hl 7 rfl) ?_
                have hres : (a5, q36, w_told) = res := (Option.some.inj hf)
                have hP := w_eq (congrArg (fun z => cw g (pk3 (p0_paths, p0_water, p0_wall, p0_kind, p0_place, p0_facing, p0_age, p0_seeds, p0_season, p0_z, p0_spots) (p1_paths, p1_water, p1_wall, p1_kind, p1_place, p1_facing, p1_age, p1_seeds, p1_season, p1_z, p1_spots) (p2_paths, p2_water, p2_wall, p2_kind, p2_place, p2_facing, p2_age, p2_seeds, p2_season, p2_z, p2_spots), w_isKept, (t_bytes, t_length, t_sort, t_start, t_end, t_value), (z.2.1, h_bits, h_size), z.2.2)) hres) hP
                exact W.iret (v := a5) hx hb hr (fun t ht hW => ⟨congrArg (fun z => Outcome.returned (some (Value.int z.1))) hres, trivial, by rw [ht]; exact hP, hS.F ht⟩) hS.2.2 dX6_copy_114
              · have hf := (if_pos hc35).symm.trans hf
                refine lv_aload_n hx hb dX6_copy_94 rfl (lv_at hl 2 rfl) ?_
                refine lv_iconst (v := (0 : Int32)) hx hb dX6_copy_95 (by decide) ?_
                obtain ⟨q38, hq38, hf⟩ := bd_some hf
                refine kr_W (st1 := [.int q38.1]) (va_runV (As := [.int (0 : Int32)]) (rest := []) ⟨hx, hb, hml, hown, hts⟩ (ct_X6_finding l n g p0_paths p0_water p0_wall p0_kind p0_place p0_facing p0_age p0_seeds p0_season p0_z p0_spots p1_paths p1_water p1_wall p1_kind p1_place p1_facing p1_age p1_seeds p1_season p1_z p1_spots p2_paths p2_water p2_wall p2_kind p2_place p2_facing p2_age p2_seeds p2_season p2_z p2_spots t_bytes t_length t_sort t_start t_end t_value h_numbers h_bits h_size w_isKept w_told (0 : Int32) q38 hq38) (cwV 1 hts gX6_copy_X6_finding rfl rfl rfl hd_X6_finding ⟨Nat.le_of_ble_eq_true rfl, Nat.le_of_ble_eq_true rfl⟩) ⟨bl_C, va_recv hK hP (ci := 4) (q0 := 0) rfl q_sp, pr_C rfl hB hP hS⟩ rfl rfl hl.1 rfl (lv_room (Nat.le_of_ble_eq_true rfl)) dX6_copy_96 ⟨Nat.le_refl _, Nat.le_refl _⟩) hS rfl (fun hn39 H locs hP hS => ?_)
                have hP : va_P g.1 vwCl (cw g (pk3 (p0_paths, p0_water, p0_wall, p0_kind, p0_place, p0_facing, p0_age, p0_seeds, p0_season, p0_z, p0_spots) (p1_paths, p1_water, p1_wall, p1_kind, p1_place, p1_facing, p1_age, p1_seeds, p1_season, p1_z, p1_spots) (p2_paths, p2_water, p2_wall, p2_kind, p2_place, p2_facing, p2_age, p2_seeds, p2_season, p2_z, p2_spots), w_isKept, (t_bytes, t_length, t_sort, t_start, t_end, t_value), (h_numbers, h_bits, h_size), q38.2)) H := hP
                have hres : (q38.1, h_numbers, q38.2) = res := (Option.some.inj hf)
                have hP := w_eq (congrArg (fun z => cw g (pk3 (p0_paths, p0_water, p0_wall, p0_kind, p0_place, p0_facing, p0_age, p0_seeds, p0_season, p0_z, p0_spots) (p1_paths, p1_water, p1_wall, p1_kind, p1_place, p1_facing, p1_age, p1_seeds, p1_season, p1_z, p1_spots) (p2_paths, p2_water, p2_wall, p2_kind, p2_place, p2_facing, p2_age, p2_seeds, p2_season, p2_z, p2_spots), w_isKept, (t_bytes, t_length, t_sort, t_start, t_end, t_value), (z.2.1, h_bits, h_size), z.2.2)) hres) hP
                exact W.iret (v := q38.1) hx hb hr (fun t ht hW => ⟨congrArg (fun z => Outcome.returned (some (Value.int z.1))) hres, trivial, by rw [ht]; exact hP, hS.F ht⟩) hS.2.2 dX6_copy_99
          · have hf := (if_neg hc27).symm.trans hf
            refine lv_aload_n hx hb dX6_copy_65 rfl (lv_at hl 2 rfl) ?_
            refine lv_iconst (v := (2 : Int32)) hx hb dX6_copy_66 (by decide) ?_
            obtain ⟨q40, hq40, hf⟩ := bd_some hf
            refine kr_W (st1 := [.int q40.1]) (va_runV (As := [.int (2 : Int32)]) (rest := []) ⟨hx, hb, hml, hown, hts⟩ (ct_X6_finding l n g p0_paths p0_water p0_wall p0_kind p0_place p0_facing p0_age p0_seeds p0_season p0_z p0_spots p1_paths p1_water p1_wall p1_kind p1_place p1_facing p1_age p1_seeds p1_season p1_z p1_spots p2_paths p2_water p2_wall p2_kind p2_place p2_facing p2_age p2_seeds p2_season p2_z p2_spots t_bytes t_length t_sort t_start t_end t_value h_numbers h_bits h_size w_isKept w_told (2 : Int32) q40 hq40) (cwV 1 hts gX6_copy_X6_finding rfl rfl rfl hd_X6_finding ⟨Nat.le_of_ble_eq_true rfl, Nat.le_of_ble_eq_true rfl⟩) ⟨bl_C, va_recv hK hP (ci := 4) (q0 := 0) rfl q_sp, pr_C rfl hB hP hS⟩ rfl rfl hl.1 rfl (lv_room (Nat.le_of_ble_eq_true rfl)) dX6_copy_67 ⟨Nat.le_refl _, Nat.le_refl _⟩) hS rfl (fun hn41 H locs hP hS => ?_)
            have hP : va_P g.1 vwCl (cw g (pk3 (p0_paths, p0_water, p0_wall, p0_kind, p0_place, p0_facing, p0_age, p0_seeds, p0_season, p0_z, p0_spots) (p1_paths, p1_water, p1_wall, p1_kind, p1_place, p1_facing, p1_age, p1_seeds, p1_season, p1_z, p1_spots) (p2_paths, p2_water, p2_wall, p2_kind, p2_place, p2_facing, p2_age, p2_seeds, p2_season, p2_z, p2_spots), w_isKept, (t_bytes, t_length, t_sort, t_start, t_end, t_value), (h_numbers, h_bits, h_size), q40.2)) H := hP
            have hres : (q40.1, h_numbers, q40.2) = res := (Option.some.inj hf)
            have hP := w_eq (congrArg (fun z => cw g (pk3 (p0_paths, p0_water, p0_wall, p0_kind, p0_place, p0_facing, p0_age, p0_seeds, p0_season, p0_z, p0_spots) (p1_paths, p1_water, p1_wall, p1_kind, p1_place, p1_facing, p1_age, p1_seeds, p1_season, p1_z, p1_spots) (p2_paths, p2_water, p2_wall, p2_kind, p2_place, p2_facing, p2_age, p2_seeds, p2_season, p2_z, p2_spots), w_isKept, (t_bytes, t_length, t_sort, t_start, t_end, t_value), (z.2.1, h_bits, h_size), z.2.2)) hres) hP
            exact W.iret (v := q40.1) hx hb hr (fun t ht hW => ⟨congrArg (fun z => Outcome.returned (some (Value.int z.1))) hres, trivial, by rw [ht]; exact hP, hS.F ht⟩) hS.2.2 dX6_copy_70
        · have hf := (if_neg hc26).symm.trans hf
          refine lv_aload_n hx hb dX6_copy_46 rfl (lv_at hl 2 rfl) ?_
          refine lv_iconst (v := (5 : Int32)) hx hb dX6_copy_47 (by decide) ?_
          obtain ⟨q42, hq42, hf⟩ := bd_some hf
          refine kr_W (st1 := [.int q42.1]) (va_runV (As := [.int (5 : Int32)]) (rest := []) ⟨hx, hb, hml, hown, hts⟩ (ct_X6_finding l n g p0_paths p0_water p0_wall p0_kind p0_place p0_facing p0_age p0_seeds p0_season p0_z p0_spots p1_paths p1_water p1_wall p1_kind p1_place p1_facing p1_age p1_seeds p1_season p1_z p1_spots p2_paths p2_water p2_wall p2_kind p2_place p2_facing p2_age p2_seeds p2_season p2_z p2_spots t_bytes t_length t_sort t_start t_end t_value h_numbers h_bits h_size w_isKept w_told (5 : Int32) q42 hq42) (cwV 1 hts gX6_copy_X6_finding rfl rfl rfl hd_X6_finding ⟨Nat.le_of_ble_eq_true rfl, Nat.le_of_ble_eq_true rfl⟩) ⟨bl_C, va_recv hK hP (ci := 4) (q0 := 0) rfl q_sp, pr_C rfl hB hP hS⟩ rfl rfl hl.1 rfl (lv_room (Nat.le_of_ble_eq_true rfl)) dX6_copy_48 ⟨Nat.le_refl _, Nat.le_refl _⟩) hS rfl (fun hn43 H locs hP hS => ?_)
          have hP : va_P g.1 vwCl (cw g (pk3 (p0_paths, p0_water, p0_wall, p0_kind, p0_place, p0_facing, p0_age, p0_seeds, p0_season, p0_z, p0_spots) (p1_paths, p1_water, p1_wall, p1_kind, p1_place, p1_facing, p1_age, p1_seeds, p1_season, p1_z, p1_spots) (p2_paths, p2_water, p2_wall, p2_kind, p2_place, p2_facing, p2_age, p2_seeds, p2_season, p2_z, p2_spots), w_isKept, (t_bytes, t_length, t_sort, t_start, t_end, t_value), (h_numbers, h_bits, h_size), q42.2)) H := hP
          have hres : (q42.1, h_numbers, q42.2) = res := (Option.some.inj hf)
          have hP := w_eq (congrArg (fun z => cw g (pk3 (p0_paths, p0_water, p0_wall, p0_kind, p0_place, p0_facing, p0_age, p0_seeds, p0_season, p0_z, p0_spots) (p1_paths, p1_water, p1_wall, p1_kind, p1_place, p1_facing, p1_age, p1_seeds, p1_season, p1_z, p1_spots) (p2_paths, p2_water, p2_wall, p2_kind, p2_place, p2_facing, p2_age, p2_seeds, p2_season, p2_z, p2_spots), w_isKept, (t_bytes, t_length, t_sort, t_start, t_end, t_value), (z.2.1, h_bits, h_size), z.2.2)) hres) hP
          exact W.iret (v := q42.1) hx hb hr (fun t ht hW => ⟨congrArg (fun z => Outcome.returned (some (Value.int z.1))) hres, trivial, by rw [ht]; exact hP, hS.F ht⟩) hS.2.2 dX6_copy_51
