/-! THE LAW, from its entry -/
theorem bl_mt {D : va_G} {cI cT : ClassId} {K V : Nat → Nat} {ws : va_W} {sz : Nat} {av : List Value} : FrameBlind (va_Pc av (mPre D cI cT K V ws sz)) := fun a U f k q => ⟨q.1, q.2.1, q.2.2.1, va_K.moved (u := U) (U := U.calling f k a) (Vm.Alike.refl U.vm) q.2.2.2.1, NW.same (u := U) (U := U.calling f k a) rfl q.2.2.2.2.1, q.2.2.2.2.2.1, va_AO.moved (u := U) (U := U.calling f k a) (Vm.Alike.refl U.vm) q.2.2.2.2.2.2.1, SR.same (u := U) (U := U.calling f k a) rfl q.2.2.2.2.2.2.2.1, vk_S.moved (u := U) (U := U.calling f k a) (Vm.Alike.refl U.vm) q.2.2.2.2.2.2.2.2⟩
theorem lt7 {k : Nat} (h : k < 7) : k = 0 ∨ k = 1 ∨ k = 2 ∨ k = 3 ∨ k = 4 ∨ k = 5 ∨ k = 6 := by omega
set_option maxHeartbeats 8000000 in
set_option maxRecDepth 100000 in
theorem whole_start {p : Program} {e : Env} {s : State} {m : MethodId} {below : List Frame} {meth : Method} {c : Code} (l : Launch) (hflags : l.flags = flags0) {b L : Nat} {xs : Nat → Int32} (hL : L ≤ 3072) (C0 : lw_At p s m meth c b L xs) : W p l e room_1 s m #[Value.ref b] below meth c s.heap [] 0 0 (lw_Z below #[Value.ref b] s) (entryFrame m ([Value.ref b] : List Value).toArray 4) := by
  obtain ⟨hx, hb, hr, hml, hown0, hts, hX, hbl, hlocks, hgv⟩ := id C0
  have hown : s.vm.findClass RL = some m.cls := hown0
  have hs := flat_of_before _ hgv
  have hA : ∀ q : Nat, s.heap.size ≤ q → (fun q : Nat => s.heap.size ≤ q) q := fun _ h => h
  have hAn : ∀ a : Nat, a < s.heap.size → ¬ (fun q : Nat => s.heap.size ≤ q) a := fun a h => Nat.not_le.mpr h
  obtain ⟨c0, iS0, hKn0⟩ := u_known (C := RX2) (T := TX2) (N := 8) (n := 8) hts inX2 (hts (.instantiable RX2 8) gw_1_13.1)
  obtain ⟨c1, iS1, hKn1⟩ := u_known (C := RX3) (T := TX3) (N := 4) (n := 4) hts inX3 (hts (.instantiable RX3 4) (List.mem_append_right _ (List.mem_of_getElem? (i := 33) (by decide +kernel))))
  obtain ⟨c2, iS2, hKn2⟩ := u_known (C := RX4) (T := TX4) (N := 3) (n := 3) hts inX4 (hts (.instantiable RX4 3) (List.mem_append_right _ (List.mem_of_getElem? (i := 122) (by decide +kernel))))
  obtain ⟨c3, iS3, hKn3⟩ := u_known (C := RX5) (T := TX5) (N := 6) (n := 6) hts inX5 (hts (.instantiable RX5 6) gw_1_19.1)
  obtain ⟨c4, iS4, hKn4⟩ := u_known (C := RX6) (T := TX6) (N := 7) (n := 7) hts inX6 (hts (.instantiable RX6 7) gw_1_1.1)
  obtain ⟨c5, iS5, hKn5⟩ := u_known (C := RX7) (T := TX7) (N := 27) (n := 27) hts inX7 (hts (.instantiable RX7 27) gw_1_4.1)
  obtain ⟨dC, dI, hKc⟩ : ∃ (dC : Nat → ClassId) (dI : Nat → Nat → Nat), ∀ (k : Nat) (q : vw_C), vwCl[k]? = some q → u_Kn s q.1 q.2.1 q.2.2 (dC k) (dI k) := by
    refine ⟨fun k => [c0, c1, c2, c3, c4, c5].getD k c0, fun k => [iS0, iS1, iS2, iS3, iS4, iS5].getD k iS0, ?_⟩
    intro k q hq
    match k, hq with
    | 0, hq => cases hq; exact hKn0
    | 1, hq => cases hq; exact hKn1
    | 2, hq => cases hq; exact hKn2
    | 3, hq => cases hq; exact hKn3
    | 4, hq => cases hq; exact hKn4
    | 5, hq => cases hq; exact hKn5
    | k + 6, hq => simp at hq
  obtain ⟨cI, tI1, tI2⟩ := ty_int (hts (.arrayClass .int) gw_1_22.1)
  obtain ⟨cSd, tS1, tS2⟩ := ty_obj (AO_Seed hts)
  obtain ⟨cSh, tH1, tH2⟩ := ty_obj (AO_Sheet hts)
  obtain ⟨cT, tT1, tT2⟩ := ty_obj (AO_String hts)
  have hKC : va_K (dC, dI) vwCl [(cI, .int), (cSd, .object "SownPaths$Seed"), (cSh, .object "SownPaths$Sheet")] s := ⟨hKc, fun k q h => by
    match k, h with
    | 0, h => cases h; exact ⟨tI1, tI2⟩
    | 1, h => cases h; exact ⟨tS1, tS2⟩
    | 2, h => cases h; exact ⟨tH1, tH2⟩
    | k + 3, h => simp at h⟩
  have hKM : va_K (dC, dI) vwCl [(cI, .int), (cT, .object "java/lang/String")] s := ⟨hKc, fun k q h => by
    match k, h with
    | 0, h => cases h; exact ⟨tI1, tI2⟩
    | 1, h => cases h; exact ⟨tT1, tT2⟩
    | k + 2, h => simp at h⟩
  have hNW : NW s := NW_of hts
  obtain ⟨K, V, hvS, hG, hM⟩ := str_all (A := fun q : Nat => s.heap.size ≤ q) hs hAn
  have hSR : SR K s := SR_of hts hG hM
  have hST := stB_of hts hs hAn hvS
  have hS : va_S (fun q : Nat => s.heap.size ≤ q) s.heap s.heap [] := va_S.rf
  have hP : va_P (dC, dI) vwCl [] s.heap := fun k q h => by simp at h
  have hD : va_D (fun q : Nat => s.heap.size ≤ q) [] := ⟨fun i j p q h => by simp at h, fun k q h => by simp at h⟩
  have hl := lv_entry ([.ref b]) (n := 4) (Nat.le_of_ble_eq_true rfl)
  rw [lg_entry_eq]
  generalize (lg_sl ([.ref b]) ++ List.replicate (4 - (lg_sl ([.ref b])).length) Slot.unset).toArray = ls at hl ⊢
  have hl : lv_has ls 4 [(0, .ref b)] := hl
  refine va_new (ci := 4) (fs := [.null, .null, .null, .int 0, .null, .null, .null]) (C := RX6) (T := TX6) (N := 7) hx hb hts inX6 tyX6 tyX6_ok hown (hts (.classLink RL 7 RX6) gw_1_0.1) (hts (.instantiable RX6 7) gw_1_1.1) (hts (.initialized RX6) gw_1_2.1) hKC hP hD hS hA rfl (fun j hj => by rcases lt7 hj with rfl | rfl | rfl | rfl | rfl | rfl | rfl <;> rfl) (Nat.le_of_ble_eq_true rfl) (Nat.le_of_ble_eq_true rfl) dL_law_0 (fun h0 H hP hD hS => ?_)
  refine W.cs (cells' := 1) (slots' := 7) rfl rfl ?_
  have hP : va_P (dC, dI) vwCl [(h0, .inr (4, [.null, .null, .null, .int 0, .null, .null, .null]))] H := hP
  have hD : va_D (fun q : Nat => s.heap.size ≤ q) [(h0, .inr (4, [.null, .null, .null, .int 0, .null, .null, .null]))] := hD
  refine lv_dup hx hb dL_law_3 rfl ?_
  have hFc := va_free (wc := [(h0, .inr (4, [.null, .null, .null, .int 0, .null, .null, .null]))]) hD hS hA [0] rfl
  refine va_callv (va_runI (As := []) (rest := [.ref h0]) ⟨hx, hb, hml, hown, hts⟩ (ct_X6_init l (dC, dI) cI cSd cSh h0 H.size) (cwI 0 hts gq_X6_init rfl rfl rfl (hts (.initialized RX6) gw_1_2.1) (hts (.methodLink RL 9 yX6_init) gw_1_6.1) (hts (.instanceMethod yX6_init) gw_1_7.1) rfl (by decide +kernel) ⟨Nat.le_of_ble_eq_true rfl, Nat.le_of_ble_eq_true rfl⟩) ⟨bl_ct, fun U hU hW => pre_ct hU hW hP hKC hNW (hD.weaken (fun _ _ _ _ => trivial)) (AO_Seed hts) (AO_Sheet hts)⟩ rfl rfl hl.1 rfl (lv_room (Nat.le_of_ble_eq_true rfl)) dL_law_4 ⟨Nat.le_of_ble_eq_true rfl, Nat.le_of_ble_eq_true rfl⟩) hS (fun q _ h => hFc q h) hFc (fun u9 t9 H1 locs ht9 hvm9 _ hB9 _ hk9 hS => ?_)
  obtain ⟨q1, q2, q3, q4, q5, q6, q7, q8, q9, q10, q11, q12, q13, q14, q15, q16, q17, q18, q19, q20, q21, q22, q23, q24, q25, q26, q27, q28, q29, q30, q31, q32, q33, q34, q35, q36, q37, q38, q39, q40, q41, q42, q43, q44, q45, q46, q47, q48⟩ := u9
  obtain ⟨hP9, hD9⟩ := hB9
  rw [ht9] at hP9
  obtain ⟨hPC, hcap, hgA⟩ := C_of (K := K) (V := V) hP9 (hD9.weaken (fun k q _ h => hFc q.1 h)) _ rfl
  clear hP9 hD9 hP hD hk9 hFc
  generalize hgg : (((dC, dI), (cI, cSd, cSh), fun i => [h0, q1, q13, q25, q37, q39, q40, q38, q41, q43, q45, q47, q42, q44, q46, q48, q2, q14, q26, q4, q16, q28, q3, q15, q27, q5, q6, q7, q8, q9, q10, q11, q12, q17, q18, q19, q20, q21, q22, q23, q24, q29, q30, q31, q32, q33, q34, q35, q36].getD i 0, K, V) : GC) = g at hPC hcap hgA
  have hg0 : h0 = ga g 0 := by rw [← hgg]; rfl
  have hg1 : g.1 = (dC, dI) := by rw [← hgg]
  have hCB : cB g s := by
    rw [← hgg]
    rw [← hgg] at hcap hgA
    exact ⟨hKC, hNW, hcap, hSR, hST.narrow hgA⟩
  have hDC : va_D (fun q : Nat => s.heap.size ≤ q) (cw g (pk3 ((fun _ => 0), 0, 0, (fun _ => 0), (fun _ => 0), (fun _ => 0), (fun _ => 0), 0, 0, 1, (upd (upd (upd (upd (upd (upd (upd (upd (upd (upd (fun _ => 0) 0 (-1 : Int32)) 1 (-1 : Int32)) 2 (-1 : Int32)) 3 (-1 : Int32)) 4 (-1 : Int32)) 5 (-1 : Int32)) 6 (-1 : Int32)) 7 (-1 : Int32)) 8 (-1 : Int32)) 9 (-1 : Int32))) ((fun _ => 0), 0, 0, (fun _ => 0), (fun _ => 0), (fun _ => 0), (fun _ => 0), 0, 0, 1, (upd (upd (upd (upd (upd (upd (upd (upd (upd (upd (fun _ => 0) 0 (-1 : Int32)) 1 (-1 : Int32)) 2 (-1 : Int32)) 3 (-1 : Int32)) 4 (-1 : Int32)) 5 (-1 : Int32)) 6 (-1 : Int32)) 7 (-1 : Int32)) 8 (-1 : Int32)) 9 (-1 : Int32))) ((fun _ => 0), 0, 0, (fun _ => 0), (fun _ => 0), (fun _ => 0), (fun _ => 0), 0, 0, 1, (upd (upd (upd (upd (upd (upd (upd (upd (upd (upd (fun _ => 0) 0 (-1 : Int32)) 1 (-1 : Int32)) 2 (-1 : Int32)) 3 (-1 : Int32)) 4 (-1 : Int32)) 5 (-1 : Int32)) 6 (-1 : Int32)) 7 (-1 : Int32)) 8 (-1 : Int32)) 9 (-1 : Int32))), 0, ((fun _ => 0), 0, 0, 0, 0, 0), ((fun _ _ => 0), (fun _ => 0), (fun _ => 0)), (fun _ => 0))) := (cD hcap _).weaken (fun k q _ h => hgA q.1 h)
  rw [hg1] at hPC
  subst hg0
  clear hgg
  generalize hw1 : cw g (pk3 ((fun _ => 0), 0, 0, (fun _ => 0), (fun _ => 0), (fun _ => 0), (fun _ => 0), 0, 0, 1, (upd (upd (upd (upd (upd (upd (upd (upd (upd (upd (fun _ => 0) 0 (-1 : Int32)) 1 (-1 : Int32)) 2 (-1 : Int32)) 3 (-1 : Int32)) 4 (-1 : Int32)) 5 (-1 : Int32)) 6 (-1 : Int32)) 7 (-1 : Int32)) 8 (-1 : Int32)) 9 (-1 : Int32))) ((fun _ => 0), 0, 0, (fun _ => 0), (fun _ => 0), (fun _ => 0), (fun _ => 0), 0, 0, 1, (upd (upd (upd (upd (upd (upd (upd (upd (upd (upd (fun _ => 0) 0 (-1 : Int32)) 1 (-1 : Int32)) 2 (-1 : Int32)) 3 (-1 : Int32)) 4 (-1 : Int32)) 5 (-1 : Int32)) 6 (-1 : Int32)) 7 (-1 : Int32)) 8 (-1 : Int32)) 9 (-1 : Int32))) ((fun _ => 0), 0, 0, (fun _ => 0), (fun _ => 0), (fun _ => 0), (fun _ => 0), 0, 0, 1, (upd (upd (upd (upd (upd (upd (upd (upd (upd (upd (fun _ => 0) 0 (-1 : Int32)) 1 (-1 : Int32)) 2 (-1 : Int32)) 3 (-1 : Int32)) 4 (-1 : Int32)) 5 (-1 : Int32)) 6 (-1 : Int32)) 7 (-1 : Int32)) 8 (-1 : Int32)) 9 (-1 : Int32))), 0, ((fun _ => 0), 0, 0, 0, 0, 0), ((fun _ _ => 0), (fun _ => 0), (fun _ => 0)), (fun _ => 0)) = w1 at hPC hDC
  have hlen : w1.length = 49 := by rw [← hw1]; rfl
  generalize H1 = H at hPC hS ⊢
  refine W.cs (cells' := 49) (slots' := 598) rfl rfl ?_
  refine lv_astore_n (lv' := [(1, .ref (ga g 0)), (0, .ref b)]) hx hb dL_law_7 rfl hl (by decide) rfl (fun ls hl => ?_)
  refine va_new (ci := 5) (fs := [.null, .null, .null, .int 0, .null, .null, .null, .null, .null, .null, .int 0, .int 0, .int 0, .int 0, .int 0, .int 0, .null, .null, .null, .null, .int 0, .int 0, .null, .null, .null, .null, .null]) (C := RX7) (T := TX7) (N := 27) hx hb hts inX7 tyX7 tyX7_ok hown (hts (.classLink RL 10 RX7) gw_1_3.1) (hts (.instantiable RX7 27) gw_1_4.1) (hts (.initialized RX7) gw_1_5.1) hKM hPC hDC hS hA rfl (fun j hj => by rcases lt27 hj with rfl | rfl | rfl | rfl | rfl | rfl | rfl | rfl | rfl | rfl | rfl | rfl | rfl | rfl | rfl | rfl | rfl | rfl | rfl | rfl | rfl | rfl | rfl | rfl | rfl | rfl | rfl <;> rfl) (Nat.le_of_ble_eq_true rfl) (Nat.le_of_ble_eq_true rfl) dL_law_8 (fun r0 H hP hD hS => ?_)
  refine W.cs (cells' := 50) (slots' := 625) rfl rfl ?_
  refine lv_dup hx hb dL_law_11 rfl ?_
  have at49 : (w1 ++ [(r0, .inr (5, [.null, .null, .null, .int 0, .null, .null, .null, .null, .null, .null, .int 0, .int 0, .int 0, .int 0, .int 0, .int 0, .null, .null, .null, .null, .int 0, .int 0, .null, .null, .null, .null, .null]))])[49]? = some (r0, .inr (5, [.null, .null, .null, .int 0, .null, .null, .null, .null, .null, .null, .int 0, .int 0, .int 0, .int 0, .int 0, .int 0, .null, .null, .null, .null, .int 0, .int 0, .null, .null, .null, .null, .null])) := by rw [← hlen]; simp
  have hPm := hP.sub (ws' := [(r0, .inr (5, [.null, .null, .null, .int 0, .null, .null, .null, .null, .null, .null, .int 0, .int 0, .int 0, .int 0, .int 0, .int 0, .null, .null, .null, .null, .int 0, .int 0, .null, .null, .null, .null, .null]))]) [49] (by simp only [List.filterMap_cons, List.filterMap_nil, at49])
  have hDm := hD.sub (ws' := [(r0, .inr (5, [.null, .null, .null, .int 0, .null, .null, .null, .null, .null, .null, .int 0, .int 0, .int 0, .int 0, .int 0, .int 0, .null, .null, .null, .null, .int 0, .int 0, .null, .null, .null, .null, .null]))]) [49] (by decide) (by simp only [List.map_cons, List.map_nil, at49])
  have hFm := va_free (wc := [(r0, .inr (5, [.null, .null, .null, .int 0, .null, .null, .null, .null, .null, .null, .int 0, .int 0, .int 0, .int 0, .int 0, .int 0, .null, .null, .null, .null, .int 0, .int 0, .null, .null, .null, .null, .null]))]) hD hS hA [49] (by simp only [List.map_cons, List.map_nil, at49])
  have hPw : va_P (dC, dI) vwCl w1 H := fun k q hk => hP k q (by rw [List.getElem?_append_left (List.getElem?_eq_some_iff.mp hk).1]; exact hk)
  have hnot : ∀ (k : Nat) (q : Nat × va_E), w1[k]? = some q → ¬ va_A [(r0, .inr (5, [.null, .null, .null, .int 0, .null, .null, .null, .null, .null, .null, .int 0, .int 0, .int 0, .int 0, .int 0, .int 0, .null, .null, .null, .null, .int 0, .int 0, .null, .null, .null, .null, .null]))] H.size q.1 := by
    intro k q hk hq
    have hk1 := (List.getElem?_eq_some_iff.mp hk).1
    rcases hq with ⟨k2, e2, h2⟩ | h2
    · have hk2 : k2 < 1 := (List.getElem?_eq_some_iff.mp h2).1
      have : k2 = 0 := by omega
      subst this
      have e3 : r0 = q.1 := congrArg Prod.fst (Option.some.inj h2)
      have := hD.1 k 49 q _ (by rw [List.getElem?_append_left hk1]; exact hk) at49 e3.symm
      omega
    · have := (hPw k q hk).lt
      omega
  refine va_callv (va_runI (As := []) (rest := [.ref r0]) ⟨hx, hb, hml, hown, hts⟩ (ct_X7_init l (dC, dI) cI cT K V r0 H.size) (cwI 0 hts gq_X7_init rfl rfl rfl (hts (.initialized RX7) gw_1_5.1) (hts (.methodLink RL 12 yX7_init) gw_3_2.1) (hts (.instanceMethod yX7_init) gw_3_3.1) rfl (by decide +kernel) ⟨Nat.le_of_ble_eq_true rfl, Nat.le_of_ble_eq_true rfl⟩) ⟨bl_mt, fun U hU hW => ⟨rfl, by rw [hU], by rw [hU]; exact hPm, va_K.moved hW.alike hKM, hNW.warm hW, hDm.weaken (fun _ _ _ _ => trivial), va_AO.moved hW.alike (AO_String hts), hSR.warm hW, by rw [hU]; exact vk_S.moved hW.alike ((hvS.kept (fun a h1 h2 => hS.2.1 a h1 h2)).narrow hFm)⟩⟩ rfl rfl hl.1 rfl (lv_room (Nat.le_of_ble_eq_true rfl)) dL_law_12 ⟨Nat.le_of_ble_eq_true rfl, Nat.le_of_ble_eq_true rfl⟩) hS (fun q _ h => hFm q h) hFm (fun u9 t9 H2 locs ht9 hvm9 _ hB9 _ hk9 hS => ?_)
  obtain ⟨r1, r2, r3, r4, r5, r6, r7, r8, r9, r10, r11, r12, r13, r14, r15, r16, r17, r18⟩ := u9
  obtain ⟨hP9, hD9⟩ := hB9
  rw [ht9] at hP9
  obtain ⟨hPM, hmap, hmA⟩ := M_of (mK0 := K) (mV0 := V) hP9 hD9 _ rfl
  clear hP9 hD9
  generalize hgg : (((dC, dI), (cI, cT), fun i => [r0, r1, r2, r3, r4, r5, r6, r7, r8, r9, r10, r11, r12, r13, r14, r15, r16, r17, r18].getD i 0, K, V) : GM) = g2 at hPM hmap hmA
  have hm0 : r0 = gm g2 0 := by rw [← hgg]; rfl
  have hm1 : g2.1 = (dC, dI) := by rw [← hgg]
  have hMA : ∀ q, mA g2 q → s.heap.size ≤ q := fun q h => hFm q (hmA q h)
  have hMB : mB g2 s := by
    rw [← hgg]
    rw [← hgg] at hmap hMA
    exact ⟨hKM, hNW, hmap, hSR, hST.narrow hMA⟩
  have hdj : ∀ q, gA g q → ¬ mA g2 q := by
    rintro q ⟨i, hi, rfl⟩ hq
    have li : i < w1.length := by omega
    have h1 := List.getElem?_eq_getElem li
    have h2 := hnot i _ h1
    have h4 : (w1[i]).1 = ga g i := (cw_ad (g := g) (by rw [hw1]; exact h1)).2
    refine h2 ?_
    rw [h4]; exact hmA _ hq
  have hP2 : va_P (dC, dI) vwCl w1 H2 := hPw.kept (fun k q hk => hk9 q.1 (hPw k q hk).lt (hnot k q hk))
  refine W.cs (cells' := 68) (slots' := 1928) rfl rfl ?_
  rw [← hw1, ← hg1] at hP2
  subst hm0
  refine lv_astore_n (lv' := [(2, .ref (gm g2 0)), (1, .ref (ga g 0)), (0, .ref b)]) hx hb dL_law_15 rfl hl (by decide) rfl (fun ls hl => ?_)
  refine lv_iconst (v := (0 : Int32)) hx hb dL_law_16 (by decide) ?_
  refine lv_istore_n (lv' := [(3, .int 0), (2, .ref (gm g2 0)), (1, .ref (ga g 0)), (0, .ref b)]) hx hb dL_law_17 rfl hl (by decide) rfl (fun ls hl => ?_)
  exact law_loop hr hlocks ⟨hx, hb, hml, hown, hts, hX, hbl, hL, hCB, hMB, hgA, hMA, hdj⟩ (L + 1) 0 0 (Nat.zero_le L) (by omega) (Nat.zero_le _) H2 _ ⟨_, _, _, _, _, _, _, _, _, _, _, _, _, _, _, _, _, _, _, _, _, _, _, _, _, _, _, _, _, _, _, _, _, _, _, _, _, _, _, _, _, _, _, _, _, _, _, _, _, _, _, _, _, _, _, _, _, _, _, _, _, _, _, _, _, _, _, _, RR_0 _ _, hP2, hPM, hS⟩ ls (lv_sub hl [3, 2, 1, 0] rfl)
