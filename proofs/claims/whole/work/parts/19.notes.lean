set_option maxHeartbeats 4000000 in
set_option maxRecDepth 100000 in
theorem c_X2_init (l : Launch) (D : va_G) (cI cL : ClassId) (h : Nat) (sz : Nat) : Met l yX2_init wsX2_init ({ frames := 2, cells := 6, slots := 90, locals := 80 }) (t_wPc D cI cL [.ref h] [(h, .inr (2, [.null, .null, .null, .int (nI 0)]))] sz) (t_Qv D cI cL (fun w1 => ∃ i1 : Nat, ∃ i2 : Nat, ∃ j1 : Nat, ∃ j2 : Nat, ∃ k1 : Nat, ∃ k2 : Nat, w1 = [(h, .inr (2, [.ref i1, .ref j1, .ref k1, .int (nI 0)])), (i1, .inr (4, [.ref i2])), (i2, .inl (cI, 29, .inl (fun _ => nI 0))), (j1, .inr (4, [.ref j2])), (j2, .inl (cI, 29, .inl (fun _ => nI 0))), (k1, .inr (4, [.ref k2])), (k2, .inl (cI, 29, .inl (fun _ => nI 0)))]) (va_A [(h, .inr (2, [.null, .null, .null, .int (nI 0)]))] sz)) 6 90 (va_A [(h, .inr (2, [.null, .null, .null, .int (nI 0)]))] sz) := by
  refine t_ofW (Qc := t_Qv D cI cL (fun w1 => ∃ i1 : Nat, ∃ i2 : Nat, ∃ j1 : Nat, ∃ j2 : Nat, ∃ k1 : Nat, ∃ k2 : Nat, w1 = [(h, .inr (2, [.ref i1, .ref j1, .ref k1, .int (nI 0)])), (i1, .inr (4, [.ref i2])), (i2, .inl (cI, 29, .inl (fun _ => nI 0))), (j1, .inr (4, [.ref j2])), (j2, .inl (cI, 29, .inl (fun _ => nI 0))), (k1, .inr (4, [.ref k2])), (k2, .inl (cI, 29, .inl (fun _ => nI 0)))])) (by decide) rfl (Nat.le_of_ble_eq_true rfl) ?_
  intro p e s m below meth c ls A hx hb hml hown hts hr hlocks hin hK hP hD hS hA hl
  have hown : s.vm.findClass RX2 = some m.cls := hown
  have hl : lv_has ls 1 [(0, .ref h)] := hl
  refine lv_aload_n hx hb dX2_init_0 rfl (lv_at hl 0 rfl) ?_
  refine W.objInit hx hb hown (hts (.methodLink RX2 3 objectInit) (List.mem_of_getElem? (i := 1) rfl)) (hts (.instanceMethod objectInit) (List.mem_of_getElem? (i := 2) rfl)) (hts (.code objectInit ⟨#[0xb1]⟩ 1 none) (List.mem_of_getElem? (i := 3) rfl)) rfl (by rw [hml]; exact hl.1) rfl dX2_init_1 (Nat.le_of_ble_eq_true rfl) (Nat.le_of_ble_eq_true rfl) ?_
  refine W.eq (g2 := F0 m 4 ls []) rfl ?_
  refine lv_aload_n hx hb dX2_init_4 rfl (lv_at hl 0 rfl) ?_
  refine va_new (ci := 4) (fs := [.null]) (C := RX4) (T := TX4) (N := 1) hx hb hts (fun _ h => List.mem_cons_of_mem _ (List.mem_append_left _ (List.mem_append_right _ h))) tyX4 tyX4_ok hown (hts (.classLink RX2 9 RX4) (List.mem_of_getElem? (i := 4) rfl)) (hts (.instantiable RX4 1) (List.mem_of_getElem? (i := 5) rfl)) (hts (.initialized RX4) (List.mem_of_getElem? (i := 6) rfl)) hK hP hD hS hA rfl (fun j hj => by rcases (show j = 0 by omega) with rfl <;> rfl) (Nat.le_of_ble_eq_true rfl) (Nat.le_of_ble_eq_true rfl) dX2_init_5 (fun b_1 H hP hD hS => ?_)
  have hP : va_P D vwCl [(h, .inr (2, [.null, .null, .null, .int (nI 0)])), (b_1, .inr (4, [.null]))] H := hP
  have hD : va_D A [(h, .inr (2, [.null, .null, .null, .int (nI 0)])), (b_1, .inr (4, [.null]))] := hD
  refine W.widen (k := 1) (n := 1) (by omega) (by omega) ?_
  refine lv_dup hx hb dX2_init_8 rfl ?_
  refine lv_bipush (v := ((nI 29) : Int32)) hx hb dX2_init_9 (by decide +kernel) ?_
  have hPc := hP.sub (ws' := [(b_1, .inr (4, [.null]))]) [1] rfl
  have hDc := hD.sub (ws' := [(b_1, .inr (4, [.null]))]) [1] (by decide +kernel) rfl
  have hFc := va_free (wc := [(b_1, .inr (4, [.null]))]) hD hS hA [1] rfl
  refine va_callv (va_runI (As := [.int (nI 29)]) (rest := [.ref b_1, .ref h]) ⟨hx, hb, hml, hown, hts⟩ (c_X4_init_29 l D cI cL b_1 H.size) (cwI 1 hts gX2_init_X4_init rfl rfl rfl (hts (.initialized RX4) (List.mem_of_getElem? (i := 6) rfl)) (hts (.methodLink RX2 11 yX4_init) (List.mem_of_getElem? (i := 10) rfl)) (hts (.instanceMethod yX4_init) (List.mem_of_getElem? (i := 11) rfl)) rfl (by decide +kernel) ⟨Nat.le_of_ble_eq_true rfl, Nat.le_of_ble_eq_true rfl⟩) ⟨t_wPc_blind, fun U hU hW => ⟨rfl, by rw [hU], by rw [hU]; exact hPc, va_K.moved hW.alike hK, hDc.weaken (fun _ _ _ _ => trivial)⟩⟩ rfl rfl hl.1 rfl (lv_room (Nat.le_of_ble_eq_true rfl)) dX2_init_11 ⟨Nat.le_of_ble_eq_true rfl, Nat.le_of_ble_eq_true rfl⟩) hS (fun q _ h => hFc q h) hFc (fun u_3 t H1 locs ht hvm hw hB hz1 hk1 hS => ?_)
  obtain ⟨hP1, hK1, hD1⟩ := hB
  rw [ht] at hP1
  obtain ⟨b_4, hw⟩ := hw
  have hw : u_3 = [(b_1, .inr (4, [.ref b_4])), (b_4, .inl (cI, 29, .inl (fun _ => nI 0)))] := hw
  subst hw
  obtain ⟨hP, hD⟩ := va_join (wr := [(h, .inr (2, [.null, .null, .null, .int (nI 0)]))]) (w1 := [(b_1, .inr (4, [.ref b_4])), (b_4, .inl (cI, 29, .inl (fun _ => nI 0)))]) hP hD [1] [0] rfl rfl (by decide +kernel) (by decide +kernel) hk1 hFc hP1 hD1
  clear hP1 hD1 hK1 hPc hDc hFc ht hvm hz1 hk1
  have hP : va_P D vwCl [(h, .inr (2, [.null, .null, .null, .int (nI 0)])), (b_1, .inr (4, [.ref b_4])), (b_4, .inl (cI, 29, .inl (fun _ => nI 0)))] H1 := hP
  have hD : va_D A [(h, .inr (2, [.null, .null, .null, .int (nI 0)])), (b_1, .inr (4, [.ref b_4])), (b_4, .inl (cI, 29, .inl (fun _ => nI 0)))] := hD
  generalize H1 = H at hP hS ⊢
  refine W.widen (k := 2) (n := 30) (by omega) (by omega) ?_
  refine va_putF (D := D) (ci := 2) (v := .ref b_1) (ty := .object "PitchTracker$Row") (C := RX2) (T := TX2) (N := 4) hx hb hts (fun _ h => List.mem_cons_of_mem _ (List.mem_append_right _ h)) tyX2 tyX2_ok nmX2 hown hK hP hD hS 0 rfl rfl 0 (by decide) (hts (.fieldLink RX2 14 "PitchTracker$Notes" "starts" "LPitchTracker$Row;") (List.mem_of_getElem? (i := 7) rfl)) (fun _ h9 => h9) rfl hin rfl (by decide +kernel) rfl rfl (Nat.le_of_ble_eq_true rfl) dX2_init_14 (fun H locs hP hD hS => ?_)
  have hP : va_P D vwCl [(h, .inr (2, [.ref b_1, .null, .null, .int (nI 0)])), (b_1, .inr (4, [.ref b_4])), (b_4, .inl (cI, 29, .inl (fun _ => nI 0)))] H := hP
  have hD : va_D A [(h, .inr (2, [.ref b_1, .null, .null, .int (nI 0)])), (b_1, .inr (4, [.ref b_4])), (b_4, .inl (cI, 29, .inl (fun _ => nI 0)))] := hD
  refine lv_aload_n hx hb dX2_init_17 rfl (lv_at hl 0 rfl) ?_
  refine va_new (ci := 4) (fs := [.null]) (C := RX4) (T := TX4) (N := 1) hx hb hts (fun _ h => List.mem_cons_of_mem _ (List.mem_append_left _ (List.mem_append_right _ h))) tyX4 tyX4_ok hown (hts (.classLink RX2 9 RX4) (List.mem_of_getElem? (i := 4) rfl)) (hts (.instantiable RX4 1) (List.mem_of_getElem? (i := 5) rfl)) (hts (.initialized RX4) (List.mem_of_getElem? (i := 6) rfl)) hK hP hD hS hA rfl (fun j hj => by rcases (show j = 0 by omega) with rfl <;> rfl) (Nat.le_of_ble_eq_true rfl) (Nat.le_of_ble_eq_true rfl) dX2_init_18 (fun b_5 H hP hD hS => ?_)
  have hP : va_P D vwCl [(h, .inr (2, [.ref b_1, .null, .null, .int (nI 0)])), (b_1, .inr (4, [.ref b_4])), (b_4, .inl (cI, 29, .inl (fun _ => nI 0))), (b_5, .inr (4, [.null]))] H := hP
  have hD : va_D A [(h, .inr (2, [.ref b_1, .null, .null, .int (nI 0)])), (b_1, .inr (4, [.ref b_4])), (b_4, .inl (cI, 29, .inl (fun _ => nI 0))), (b_5, .inr (4, [.null]))] := hD
  refine W.widen (k := 3) (n := 31) (by omega) (by omega) ?_
  refine lv_dup hx hb dX2_init_21 rfl ?_
  refine lv_bipush (v := ((nI 29) : Int32)) hx hb dX2_init_22 (by decide +kernel) ?_
  have hPc := hP.sub (ws' := [(b_5, .inr (4, [.null]))]) [3] rfl
  have hDc := hD.sub (ws' := [(b_5, .inr (4, [.null]))]) [3] (by decide +kernel) rfl
  have hFc := va_free (wc := [(b_5, .inr (4, [.null]))]) hD hS hA [3] rfl
  refine va_callv (va_runI (As := [.int (nI 29)]) (rest := [.ref b_5, .ref h]) ⟨hx, hb, hml, hown, hts⟩ (c_X4_init_29 l D cI cL b_5 H.size) (cwI 1 hts gX2_init_X4_init rfl rfl rfl (hts (.initialized RX4) (List.mem_of_getElem? (i := 6) rfl)) (hts (.methodLink RX2 11 yX4_init) (List.mem_of_getElem? (i := 10) rfl)) (hts (.instanceMethod yX4_init) (List.mem_of_getElem? (i := 11) rfl)) rfl (by decide +kernel) ⟨Nat.le_of_ble_eq_true rfl, Nat.le_of_ble_eq_true rfl⟩) ⟨t_wPc_blind, fun U hU hW => ⟨rfl, by rw [hU], by rw [hU]; exact hPc, va_K.moved hW.alike hK, hDc.weaken (fun _ _ _ _ => trivial)⟩⟩ rfl rfl hl.1 rfl (lv_room (Nat.le_of_ble_eq_true rfl)) dX2_init_24 ⟨Nat.le_of_ble_eq_true rfl, Nat.le_of_ble_eq_true rfl⟩) hS (fun q _ h => hFc q h) hFc (fun u_7 t H1 locs ht hvm hw hB hz1 hk1 hS => ?_)
  obtain ⟨hP1, hK1, hD1⟩ := hB
  rw [ht] at hP1
  obtain ⟨b_8, hw⟩ := hw
  have hw : u_7 = [(b_5, .inr (4, [.ref b_8])), (b_8, .inl (cI, 29, .inl (fun _ => nI 0)))] := hw
  subst hw
  obtain ⟨hP, hD⟩ := va_join (wr := [(h, .inr (2, [.ref b_1, .null, .null, .int (nI 0)])), (b_1, .inr (4, [.ref b_4])), (b_4, .inl (cI, 29, .inl (fun _ => nI 0)))]) (w1 := [(b_5, .inr (4, [.ref b_8])), (b_8, .inl (cI, 29, .inl (fun _ => nI 0)))]) hP hD [3] [0, 1, 2] rfl rfl (by decide +kernel) (by decide +kernel) hk1 hFc hP1 hD1
  clear hP1 hD1 hK1 hPc hDc hFc ht hvm hz1 hk1
  have hP : va_P D vwCl [(h, .inr (2, [.ref b_1, .null, .null, .int (nI 0)])), (b_1, .inr (4, [.ref b_4])), (b_4, .inl (cI, 29, .inl (fun _ => nI 0))), (b_5, .inr (4, [.ref b_8])), (b_8, .inl (cI, 29, .inl (fun _ => nI 0)))] H1 := hP
  have hD : va_D A [(h, .inr (2, [.ref b_1, .null, .null, .int (nI 0)])), (b_1, .inr (4, [.ref b_4])), (b_4, .inl (cI, 29, .inl (fun _ => nI 0))), (b_5, .inr (4, [.ref b_8])), (b_8, .inl (cI, 29, .inl (fun _ => nI 0)))] := hD
  generalize H1 = H at hP hS ⊢
  refine W.widen (k := 4) (n := 60) (by omega) (by omega) ?_
  refine va_putF (D := D) (ci := 2) (v := .ref b_5) (ty := .object "PitchTracker$Row") (C := RX2) (T := TX2) (N := 4) hx hb hts (fun _ h => List.mem_cons_of_mem _ (List.mem_append_right _ h)) tyX2 tyX2_ok nmX2 hown hK hP hD hS 0 rfl rfl 1 (by decide) (hts (.fieldLink RX2 20 "PitchTracker$Notes" "lengths" "LPitchTracker$Row;") (List.mem_of_getElem? (i := 8) rfl)) (fun _ h9 => h9) rfl hin rfl (by decide +kernel) rfl rfl (Nat.le_of_ble_eq_true rfl) dX2_init_27 (fun H locs hP hD hS => ?_)
  have hP : va_P D vwCl [(h, .inr (2, [.ref b_1, .ref b_5, .null, .int (nI 0)])), (b_1, .inr (4, [.ref b_4])), (b_4, .inl (cI, 29, .inl (fun _ => nI 0))), (b_5, .inr (4, [.ref b_8])), (b_8, .inl (cI, 29, .inl (fun _ => nI 0)))] H := hP
  have hD : va_D A [(h, .inr (2, [.ref b_1, .ref b_5, .null, .int (nI 0)])), (b_1, .inr (4, [.ref b_4])), (b_4, .inl (cI, 29, .inl (fun _ => nI 0))), (b_5, .inr (4, [.ref b_8])), (b_8, .inl (cI, 29, .inl (fun _ => nI 0)))] := hD
  refine lv_aload_n hx hb dX2_init_30 rfl (lv_at hl 0 rfl) ?_
  refine va_new (ci := 4) (fs := [.null]) (C := RX4) (T := TX4) (N := 1) hx hb hts (fun _ h => List.mem_cons_of_mem _ (List.mem_append_left _ (List.mem_append_right _ h))) tyX4 tyX4_ok hown (hts (.classLink RX2 9 RX4) (List.mem_of_getElem? (i := 4) rfl)) (hts (.instantiable RX4 1) (List.mem_of_getElem? (i := 5) rfl)) (hts (.initialized RX4) (List.mem_of_getElem? (i := 6) rfl)) hK hP hD hS hA rfl (fun j hj => by rcases (show j = 0 by omega) with rfl <;> rfl) (Nat.le_of_ble_eq_true rfl) (Nat.le_of_ble_eq_true rfl) dX2_init_31 (fun b_9 H hP hD hS => ?_)
  have hP : va_P D vwCl [(h, .inr (2, [.ref b_1, .ref b_5, .null, .int (nI 0)])), (b_1, .inr (4, [.ref b_4])), (b_4, .inl (cI, 29, .inl (fun _ => nI 0))), (b_5, .inr (4, [.ref b_8])), (b_8, .inl (cI, 29, .inl (fun _ => nI 0))), (b_9, .inr (4, [.null]))] H := hP
  have hD : va_D A [(h, .inr (2, [.ref b_1, .ref b_5, .null, .int (nI 0)])), (b_1, .inr (4, [.ref b_4])), (b_4, .inl (cI, 29, .inl (fun _ => nI 0))), (b_5, .inr (4, [.ref b_8])), (b_8, .inl (cI, 29, .inl (fun _ => nI 0))), (b_9, .inr (4, [.null]))] := hD
  refine W.widen (k := 5) (n := 61) (by omega) (by omega) ?_
  refine lv_dup hx hb dX2_init_34 rfl ?_
  refine lv_bipush (v := ((nI 29) : Int32)) hx hb dX2_init_35 (by decide +kernel) ?_
  have hPc := hP.sub (ws' := [(b_9, .inr (4, [.null]))]) [5] rfl
  have hDc := hD.sub (ws' := [(b_9, .inr (4, [.null]))]) [5] (by decide +kernel) rfl
  have hFc := va_free (wc := [(b_9, .inr (4, [.null]))]) hD hS hA [5] rfl
  refine va_callv (va_runI (As := [.int (nI 29)]) (rest := [.ref b_9, .ref h]) ⟨hx, hb, hml, hown, hts⟩ (c_X4_init_29 l D cI cL b_9 H.size) (cwI 1 hts gX2_init_X4_init rfl rfl rfl (hts (.initialized RX4) (List.mem_of_getElem? (i := 6) rfl)) (hts (.methodLink RX2 11 yX4_init) (List.mem_of_getElem? (i := 10) rfl)) (hts (.instanceMethod yX4_init) (List.mem_of_getElem? (i := 11) rfl)) rfl (by decide +kernel) ⟨Nat.le_of_ble_eq_true rfl, Nat.le_of_ble_eq_true rfl⟩) ⟨t_wPc_blind, fun U hU hW => ⟨rfl, by rw [hU], by rw [hU]; exact hPc, va_K.moved hW.alike hK, hDc.weaken (fun _ _ _ _ => trivial)⟩⟩ rfl rfl hl.1 rfl (lv_room (Nat.le_of_ble_eq_true rfl)) dX2_init_37 ⟨Nat.le_of_ble_eq_true rfl, Nat.le_of_ble_eq_true rfl⟩) hS (fun q _ h => hFc q h) hFc (fun u_11 t H1 locs ht hvm hw hB hz1 hk1 hS => ?_)
  obtain ⟨hP1, hK1, hD1⟩ := hB
  rw [ht] at hP1
  obtain ⟨b_12, hw⟩ := hw
  have hw : u_11 = [(b_9, .inr (4, [.ref b_12])), (b_12, .inl (cI, 29, .inl (fun _ => nI 0)))] := hw
  subst hw
  obtain ⟨hP, hD⟩ := va_join (wr := [(h, .inr (2, [.ref b_1, .ref b_5, .null, .int (nI 0)])), (b_1, .inr (4, [.ref b_4])), (b_4, .inl (cI, 29, .inl (fun _ => nI 0))), (b_5, .inr (4, [.ref b_8])), (b_8, .inl (cI, 29, .inl (fun _ => nI 0)))]) (w1 := [(b_9, .inr (4, [.ref b_12])), (b_12, .inl (cI, 29, .inl (fun _ => nI 0)))]) hP hD [5] [0, 1, 2, 3, 4] rfl rfl (by decide +kernel) (by decide +kernel) hk1 hFc hP1 hD1
  clear hP1 hD1 hK1 hPc hDc hFc ht hvm hz1 hk1
  have hP : va_P D vwCl [(h, .inr (2, [.ref b_1, .ref b_5, .null, .int (nI 0)])), (b_1, .inr (4, [.ref b_4])), (b_4, .inl (cI, 29, .inl (fun _ => nI 0))), (b_5, .inr (4, [.ref b_8])), (b_8, .inl (cI, 29, .inl (fun _ => nI 0))), (b_9, .inr (4, [.ref b_12])), (b_12, .inl (cI, 29, .inl (fun _ => nI 0)))] H1 := hP
  have hD : va_D A [(h, .inr (2, [.ref b_1, .ref b_5, .null, .int (nI 0)])), (b_1, .inr (4, [.ref b_4])), (b_4, .inl (cI, 29, .inl (fun _ => nI 0))), (b_5, .inr (4, [.ref b_8])), (b_8, .inl (cI, 29, .inl (fun _ => nI 0))), (b_9, .inr (4, [.ref b_12])), (b_12, .inl (cI, 29, .inl (fun _ => nI 0)))] := hD
  generalize H1 = H at hP hS ⊢
  refine W.widen (k := 6) (n := 90) (by omega) (by omega) ?_
  refine va_putF (D := D) (ci := 2) (v := .ref b_9) (ty := .object "PitchTracker$Row") (C := RX2) (T := TX2) (N := 4) hx hb hts (fun _ h => List.mem_cons_of_mem _ (List.mem_append_right _ h)) tyX2 tyX2_ok nmX2 hown hK hP hD hS 0 rfl rfl 2 (by decide) (hts (.fieldLink RX2 23 "PitchTracker$Notes" "ofFrames" "LPitchTracker$Row;") (List.mem_of_getElem? (i := 9) rfl)) (fun _ h9 => h9) rfl hin rfl (by decide +kernel) rfl rfl (Nat.le_of_ble_eq_true rfl) dX2_init_40 (fun H locs hP hD hS => ?_)
  have hP : va_P D vwCl [(h, .inr (2, [.ref b_1, .ref b_5, .ref b_9, .int (nI 0)])), (b_1, .inr (4, [.ref b_4])), (b_4, .inl (cI, 29, .inl (fun _ => nI 0))), (b_5, .inr (4, [.ref b_8])), (b_8, .inl (cI, 29, .inl (fun _ => nI 0))), (b_9, .inr (4, [.ref b_12])), (b_12, .inl (cI, 29, .inl (fun _ => nI 0)))] H := hP
  have hD : va_D A [(h, .inr (2, [.ref b_1, .ref b_5, .ref b_9, .int (nI 0)])), (b_1, .inr (4, [.ref b_4])), (b_4, .inl (cI, 29, .inl (fun _ => nI 0))), (b_5, .inr (4, [.ref b_8])), (b_8, .inl (cI, 29, .inl (fun _ => nI 0))), (b_9, .inr (4, [.ref b_12])), (b_12, .inl (cI, 29, .inl (fun _ => nI 0)))] := hD
  have hP9 := hP
  have hD9 := hD
  exact W.vret hx hb hr (fun t ht hW => ⟨⟨[(h, .inr (2, [.ref b_1, .ref b_5, .ref b_9, .int (nI 0)])), (b_1, .inr (4, [.ref b_4])), (b_4, .inl (cI, 29, .inl (fun _ => nI 0))), (b_5, .inr (4, [.ref b_8])), (b_8, .inl (cI, 29, .inl (fun _ => nI 0))), (b_9, .inr (4, [.ref b_12])), (b_12, .inl (cI, 29, .inl (fun _ => nI 0)))], rfl, ⟨b_1, b_4, b_5, b_8, b_9, b_12, rfl⟩, ⟨by rw [ht]; exact hP9, va_K.moved hW.alike hK, hD9⟩⟩, hS.F ht⟩) hS.2.2 dX2_init_43 hlocks

set_option maxHeartbeats 4000000 in
set_option maxRecDepth 100000 in
theorem c_X2_count (l : Launch) (D : va_G) (cI cL : ClassId) (h i1 j1 k1 ct : Nat) : Met l yX2_count wsX2_count ({ frames := 0, cells := 0, slots := 0, locals := 0 }) (t_rPc D cI cL [.ref h] [(h, .inr (2, [.ref i1, .ref j1, .ref k1, .int (nI ct)]))]) (vp_Si (fun r => r = (nI ct))) 0 0 (fun _ => False) := by
  refine t_ofR (by decide) rfl (Nat.le_of_ble_eq_true rfl) ?_
  intro p e s m below meth c ls hx hb hml hown hts hr hlocks hK hP hl
  have hown : s.vm.findClass RX2 = some m.cls := hown
  have hl : lv_has ls 1 [(0, .ref h)] := hl
  refine lv_aload_n hx hb dX2_count_0 rfl (lv_at hl 0 rfl) ?_
  refine va_get (D := D) (ci := 2) (v := .int (nI ct)) (C := RX2) (T := TX2) (N := 4) hx hb hts (fun _ h => List.mem_cons_of_mem _ (List.mem_append_right _ h)) hown hK hP 0 rfl rfl 3 (by decide) (hts (.fieldLink RX2 26 "PitchTracker$Notes" "count" "I") (List.mem_of_getElem? (i := 1) rfl)) (fun _ h9 => h9) rfl dX2_count_1 ?_
  exact W.iret (v := (nI ct)) hx hb hr (fun t ht hW => ⟨_, rfl, rfl, ht⟩) (fun q h => by cases h) dX2_count_4 hlocks

set_option maxHeartbeats 4000000 in
set_option maxRecDepth 100000 in
theorem c_X2_startOf (l : Launch) (D : va_G) (cI cL : ClassId) (h i1 j1 k1 i2 ct : Nat) (st : Nat → Int32) (k : Nat) (hk : k < 29) : Met l yX2_startOf wsX2_startOf ({ frames := 1, cells := 0, slots := 0, locals := 40 }) (t_rPc D cI cL [.ref h, .int (nI k)] [(h, .inr (2, [.ref i1, .ref j1, .ref k1, .int (nI ct)])), (i1, .inr (4, [.ref i2])), (i2, .inl (cI, 29, .inl st))]) (vp_Si (fun r => r = (st k))) 0 0 (fun _ => False) := by
  refine t_ofR (by decide) rfl (Nat.le_of_ble_eq_true rfl) ?_
  intro p e s m below meth c ls hx hb hml hown hts hr hlocks hK hP hl
  have hown : s.vm.findClass RX2 = some m.cls := hown
  have hl : lv_has ls 2 [(0, .ref h), (1, .int (nI k))] := hl
  refine lv_aload_n hx hb dX2_startOf_0 rfl (lv_at hl 0 rfl) ?_
  refine va_get (D := D) (ci := 2) (v := .ref i1) (C := RX2) (T := TX2) (N := 4) hx hb hts (fun _ h => List.mem_cons_of_mem _ (List.mem_append_left _ (List.mem_append_right _ h))) hown hK hP 0 rfl rfl 0 (by decide) (hts (.fieldLink RX2 14 "PitchTracker$Notes" "starts" "LPitchTracker$Row;") (List.mem_of_getElem? (i := 1) rfl)) (fun _ h9 => h9) rfl dX2_startOf_1 ?_
  refine lv_iload_n hx hb dX2_startOf_4 rfl (lv_at hl 1 rfl) ?_
  have hPc := hP.sub (ws' := [(i1, .inr (4, [.ref i2])), (i2, .inl (cI, 29, .inl st))]) [1, 2] rfl
  refine vp_callSi (W.runV (As := [.int (nI k)]) (rest := []) ⟨hx, hb, hml, hown, hts⟩ (c_X4_at l D cI cL i1 i2 29 st k (by omega) (by omega)) (cwV 1 hts gX2_startOf_X4_at rfl rfl rfl (by decide +kernel) ⟨Nat.le_of_ble_eq_true rfl, Nat.le_of_ble_eq_true rfl⟩) ⟨t_rPc_blind, va_recv hK hPc (ci := 4) (q0 := 0) rfl rfl, fun U hU hW => ⟨rfl, by rw [hU]; exact hPc, va_K.moved hW.alike hK⟩⟩ rfl rfl hl.1 rfl (lv_room (Nat.le_of_ble_eq_true rfl)) dX2_startOf_5 ⟨Nat.le_of_ble_eq_true rfl, Nat.le_of_ble_eq_true rfl⟩) (fun r_1 hr_1 => ?_)
  subst hr_1
  exact W.iret (v := (st k)) hx hb hr (fun t ht hW => ⟨_, rfl, rfl, ht⟩) (fun q h => by cases h) dX2_startOf_8 hlocks

set_option maxHeartbeats 4000000 in
set_option maxRecDepth 100000 in
theorem c_X2_lengthOf (l : Launch) (D : va_G) (cI cL : ClassId) (h i1 j1 k1 j2 ct : Nat) (ln : Nat → Int32) (k : Nat) (hk : k < 29) : Met l yX2_lengthOf wsX2_lengthOf ({ frames := 1, cells := 0, slots := 0, locals := 40 }) (t_rPc D cI cL [.ref h, .int (nI k)] [(h, .inr (2, [.ref i1, .ref j1, .ref k1, .int (nI ct)])), (j1, .inr (4, [.ref j2])), (j2, .inl (cI, 29, .inl ln))]) (vp_Si (fun r => r = (ln k))) 0 0 (fun _ => False) := by
  refine t_ofR (by decide) rfl (Nat.le_of_ble_eq_true rfl) ?_
  intro p e s m below meth c ls hx hb hml hown hts hr hlocks hK hP hl
  have hown : s.vm.findClass RX2 = some m.cls := hown
  have hl : lv_has ls 2 [(0, .ref h), (1, .int (nI k))] := hl
  refine lv_aload_n hx hb dX2_lengthOf_0 rfl (lv_at hl 0 rfl) ?_
  refine va_get (D := D) (ci := 2) (v := .ref j1) (C := RX2) (T := TX2) (N := 4) hx hb hts (fun _ h => List.mem_cons_of_mem _ (List.mem_append_left _ (List.mem_append_right _ h))) hown hK hP 0 rfl rfl 1 (by decide) (hts (.fieldLink RX2 20 "PitchTracker$Notes" "lengths" "LPitchTracker$Row;") (List.mem_of_getElem? (i := 1) rfl)) (fun _ h9 => h9) rfl dX2_lengthOf_1 ?_
  refine lv_iload_n hx hb dX2_lengthOf_4 rfl (lv_at hl 1 rfl) ?_
  have hPc := hP.sub (ws' := [(j1, .inr (4, [.ref j2])), (j2, .inl (cI, 29, .inl ln))]) [1, 2] rfl
  refine vp_callSi (W.runV (As := [.int (nI k)]) (rest := []) ⟨hx, hb, hml, hown, hts⟩ (c_X4_at l D cI cL j1 j2 29 ln k (by omega) (by omega)) (cwV 1 hts gX2_lengthOf_X4_at rfl rfl rfl (by decide +kernel) ⟨Nat.le_of_ble_eq_true rfl, Nat.le_of_ble_eq_true rfl⟩) ⟨t_rPc_blind, va_recv hK hPc (ci := 4) (q0 := 0) rfl rfl, fun U hU hW => ⟨rfl, by rw [hU]; exact hPc, va_K.moved hW.alike hK⟩⟩ rfl rfl hl.1 rfl (lv_room (Nat.le_of_ble_eq_true rfl)) dX2_lengthOf_5 ⟨Nat.le_of_ble_eq_true rfl, Nat.le_of_ble_eq_true rfl⟩) (fun r_1 hr_1 => ?_)
  subst hr_1
  exact W.iret (v := (ln k)) hx hb hr (fun t ht hW => ⟨_, rfl, rfl, ht⟩) (fun q h => by cases h) dX2_lengthOf_8 hlocks

set_option maxHeartbeats 4000000 in
set_option maxRecDepth 100000 in
theorem c_X2_holding (l : Launch) (D : va_G) (cI cL : ClassId) (h i1 j1 k1 k2 ct : Nat) (of : Nat → Int32) (k : Nat) (hk : k < 29) : Met l yX2_holding wsX2_holding ({ frames := 1, cells := 0, slots := 0, locals := 40 }) (t_rPc D cI cL [.ref h, .int (nI k)] [(h, .inr (2, [.ref i1, .ref j1, .ref k1, .int (nI ct)])), (k1, .inr (4, [.ref k2])), (k2, .inl (cI, 29, .inl of))]) (vp_Si (fun r => r = (of k))) 0 0 (fun _ => False) := by
  refine t_ofR (by decide) rfl (Nat.le_of_ble_eq_true rfl) ?_
  intro p e s m below meth c ls hx hb hml hown hts hr hlocks hK hP hl
  have hown : s.vm.findClass RX2 = some m.cls := hown
  have hl : lv_has ls 2 [(0, .ref h), (1, .int (nI k))] := hl
  refine lv_aload_n hx hb dX2_holding_0 rfl (lv_at hl 0 rfl) ?_
  refine va_get (D := D) (ci := 2) (v := .ref k1) (C := RX2) (T := TX2) (N := 4) hx hb hts (fun _ h => List.mem_cons_of_mem _ (List.mem_append_left _ (List.mem_append_right _ h))) hown hK hP 0 rfl rfl 2 (by decide) (hts (.fieldLink RX2 23 "PitchTracker$Notes" "ofFrames" "LPitchTracker$Row;") (List.mem_of_getElem? (i := 1) rfl)) (fun _ h9 => h9) rfl dX2_holding_1 ?_
  refine lv_iload_n hx hb dX2_holding_4 rfl (lv_at hl 1 rfl) ?_
  have hPc := hP.sub (ws' := [(k1, .inr (4, [.ref k2])), (k2, .inl (cI, 29, .inl of))]) [1, 2] rfl
  refine vp_callSi (W.runV (As := [.int (nI k)]) (rest := []) ⟨hx, hb, hml, hown, hts⟩ (c_X4_at l D cI cL k1 k2 29 of k (by omega) (by omega)) (cwV 1 hts gX2_holding_X4_at rfl rfl rfl (by decide +kernel) ⟨Nat.le_of_ble_eq_true rfl, Nat.le_of_ble_eq_true rfl⟩) ⟨t_rPc_blind, va_recv hK hPc (ci := 4) (q0 := 0) rfl rfl, fun U hU hW => ⟨rfl, by rw [hU]; exact hPc, va_K.moved hW.alike hK⟩⟩ rfl rfl hl.1 rfl (lv_room (Nat.le_of_ble_eq_true rfl)) dX2_holding_5 ⟨Nat.le_of_ble_eq_true rfl, Nat.le_of_ble_eq_true rfl⟩) (fun r_1 hr_1 => ?_)
  subst hr_1
  exact W.iret (v := (of k)) hx hb hr (fun t ht hW => ⟨_, rfl, rfl, ht⟩) (fun q h => by cases h) dX2_holding_8 hlocks

set_option maxHeartbeats 4000000 in
set_option maxRecDepth 100000 in
theorem c_X2_beginsNote (l : Launch) (D : va_G) (cI cL : ClassId) (ph p1 q1 q2 tm : Nat) (ba : Int32) (pa : Nat → Int32) (so sa sn : Nat) (x : Nat → Int32) (k : Nat) (hk : k < 29) : Met l yX2_beginsNote wsX2_beginsNote ({ frames := 4, cells := 0, slots := 0, locals := 160 }) (t_rPc D cI cL [.ref ph, .ref so, .int (nI k)] [(ph, .inr (3, [.int (nI tm), .int ba, .ref p1, .ref q1])), (q1, .inr (4, [.ref q2])), (q2, .inl (cI, 29, .inl pa)), (so, .inr (5, [.ref sa, .int (nI sn)])), (sa, .inl (cI, 1024, .inl x))]) (vp_Si (fun r => r = t_b (t_beg pa (t_on x) k))) 0 0 (fun _ => False) := by
  refine t_ofR (by decide) rfl (Nat.le_of_ble_eq_true rfl) ?_
  intro p e s m below meth c ls hx hb hml hown hts hr hlocks hK hP hl
  have hown : s.vm.findClass RX2 = some m.cls := hown
  have hl : lv_has ls 3 [(0, .ref ph), (1, .ref so), (2, .int (nI k))] := hl
  refine lv_iload_n hx hb dX2_beginsNote_0 rfl (lv_at hl 2 rfl) ?_
  refine tv_if_eq (tgt := 19) hx hb dX2_beginsNote_1 (by decide) (by omega) (fun q1_1 => ?_) (fun q1_1 => ?_)
  · refine lv_iconst (v := ((nI 1) : Int32)) hx hb dX2_beginsNote_19 (by decide +kernel) ?_
    exact W.zret (v := (nI 1)) hx hb hr rfl (fun t ht hW => ⟨_, rfl, (t_b_t (t_beg_0 q1_1)), ht⟩) (fun q h => by cases h) dX2_beginsNote_20 hlocks
  · refine lv_aload_n hx hb dX2_beginsNote_4 rfl (lv_at hl 0 rfl) ?_
    refine lv_iload_n hx hb dX2_beginsNote_5 rfl (lv_at hl 2 rfl) ?_
    refine lv_iconst (v := ((nI 1) : Int32)) hx hb dX2_beginsNote_6 (by decide +kernel) ?_
    refine tv_isub (a := k) (b := 1) hx hb dX2_beginsNote_7 (by omega) ?_
    have hPc := hP.sub (ws' := [(ph, .inr (3, [.int (nI tm), .int ba, .ref p1, .ref q1])), (q1, .inr (4, [.ref q2])), (q2, .inl (cI, 29, .inl pa))]) [0, 1, 2] rfl
    refine vp_callSi (W.runV (As := [.int (nI (k - 1))]) (rest := []) ⟨hx, hb, hml, hown, hts⟩ (c_X3_patternOf l D cI cL ph p1 q1 q2 tm ba pa (k - 1) (by omega)) (cwV 1 hts gX2_beginsNote_X3_patternOf rfl rfl rfl (by decide +kernel) ⟨Nat.le_of_ble_eq_true rfl, Nat.le_of_ble_eq_true rfl⟩) ⟨t_rPc_blind, va_recv hK hPc (ci := 3) (q0 := 0) rfl rfl, fun U hU hW => ⟨rfl, by rw [hU]; exact hPc, va_K.moved hW.alike hK⟩⟩ rfl rfl hl.1 rfl (lv_room (Nat.le_of_ble_eq_true rfl)) dX2_beginsNote_8 ⟨Nat.le_of_ble_eq_true rfl, Nat.le_of_ble_eq_true rfl⟩) (fun r_2 hr_2 => ?_)
    subst hr_2
    refine lv_aload_n hx hb dX2_beginsNote_11 rfl (lv_at hl 0 rfl) ?_
    refine lv_iload_n hx hb dX2_beginsNote_12 rfl (lv_at hl 2 rfl) ?_
    have hPc := hP.sub (ws' := [(ph, .inr (3, [.int (nI tm), .int ba, .ref p1, .ref q1])), (q1, .inr (4, [.ref q2])), (q2, .inl (cI, 29, .inl pa))]) [0, 1, 2] rfl
    refine vp_callSi (W.runV (As := [.int (nI k)]) (rest := [.int (pa (k - 1))]) ⟨hx, hb, hml, hown, hts⟩ (c_X3_patternOf l D cI cL ph p1 q1 q2 tm ba pa k (by omega)) (cwV 1 hts gX2_beginsNote_X3_patternOf rfl rfl rfl (by decide +kernel) ⟨Nat.le_of_ble_eq_true rfl, Nat.le_of_ble_eq_true rfl⟩) ⟨t_rPc_blind, va_recv hK hPc (ci := 3) (q0 := 0) rfl rfl, fun U hU hW => ⟨rfl, by rw [hU]; exact hPc, va_K.moved hW.alike hK⟩⟩ rfl rfl hl.1 rfl (lv_room (Nat.le_of_ble_eq_true rfl)) dX2_beginsNote_13 ⟨Nat.le_of_ble_eq_true rfl, Nat.le_of_ble_eq_true rfl⟩) (fun r_3 hr_3 => ?_)
    subst hr_3
    refine lv_icmp_eq (tgt := 21) hx hb dX2_beginsNote_16 (by decide) (fun q16_4 => ?_) (fun q16_4 => ?_)
    · refine lv_aload_n hx hb dX2_beginsNote_21 rfl (lv_at hl 1 rfl) ?_
      refine lv_iload_n hx hb dX2_beginsNote_22 rfl (lv_at hl 2 rfl) ?_
      have hPc := hP.sub (ws' := [(so, .inr (5, [.ref sa, .int (nI sn)])), (sa, .inl (cI, 1024, .inl x))]) [3, 4] rfl
      refine vp_callSi (W.runV (As := [.int (nI k)]) (rest := []) ⟨hx, hb, hml, hown, hts⟩ (c_X5_startsIn l D cI cL so sa sn x k (by omega)) (cwV 1 hts gX2_beginsNote_X5_startsIn rfl rfl rfl (by decide +kernel) ⟨Nat.le_of_ble_eq_true rfl, Nat.le_of_ble_eq_true rfl⟩) ⟨t_rPc_blind, va_recv hK hPc (ci := 5) (q0 := 0) rfl rfl, fun U hU hW => ⟨rfl, by rw [hU]; exact hPc, va_K.moved hW.alike hK⟩⟩ rfl rfl hl.1 rfl (lv_room (Nat.le_of_ble_eq_true rfl)) dX2_beginsNote_23 ⟨Nat.le_of_ble_eq_true rfl, Nat.le_of_ble_eq_true rfl⟩) (fun r_5 hr_5 => ?_)
      subst hr_5
      refine tv_if_eqB (tgt := 43) hx hb dX2_beginsNote_26 (by decide) (fun q26_6 => ?_) (fun q26_6 => ?_)
      · refine lv_iconst (v := ((nI 0) : Int32)) hx hb dX2_beginsNote_43 (by decide +kernel) ?_
        exact W.zret (v := (nI 0)) hx hb hr rfl (fun t ht hW => ⟨_, rfl, (t_b_f (by rw [t_beg_2 (on := t_on x) q1_1 q16_4, q26_6]; rfl)), ht⟩) (fun q h => by cases h) dX2_beginsNote_44 hlocks
      · refine lv_aload_n hx hb dX2_beginsNote_29 rfl (lv_at hl 1 rfl) ?_
        refine lv_iload_n hx hb dX2_beginsNote_30 rfl (lv_at hl 2 rfl) ?_
        refine lv_iconst (v := ((nI 1) : Int32)) hx hb dX2_beginsNote_31 (by decide +kernel) ?_
        refine tv_isub (a := k) (b := 1) hx hb dX2_beginsNote_32 (by omega) ?_
        have hPc := hP.sub (ws' := [(so, .inr (5, [.ref sa, .int (nI sn)])), (sa, .inl (cI, 1024, .inl x))]) [3, 4] rfl
        refine vp_callSi (W.runV (As := [.int (nI (k - 1))]) (rest := []) ⟨hx, hb, hml, hown, hts⟩ (c_X5_startsIn l D cI cL so sa sn x (k - 1) (by omega)) (cwV 1 hts gX2_beginsNote_X5_startsIn rfl rfl rfl (by decide +kernel) ⟨Nat.le_of_ble_eq_true rfl, Nat.le_of_ble_eq_true rfl⟩) ⟨t_rPc_blind, va_recv hK hPc (ci := 5) (q0 := 0) rfl rfl, fun U hU hW => ⟨rfl, by rw [hU]; exact hPc, va_K.moved hW.alike hK⟩⟩ rfl rfl hl.1 rfl (lv_room (Nat.le_of_ble_eq_true rfl)) dX2_beginsNote_33 ⟨Nat.le_of_ble_eq_true rfl, Nat.le_of_ble_eq_true rfl⟩) (fun r_7 hr_7 => ?_)
        subst hr_7
        refine tv_if_neB (tgt := 43) hx hb dX2_beginsNote_36 (by decide) (fun q36_8 => ?_) (fun q36_8 => ?_)
        · refine lv_iconst (v := ((nI 0) : Int32)) hx hb dX2_beginsNote_43 (by decide +kernel) ?_
          exact W.zret (v := (nI 0)) hx hb hr rfl (fun t ht hW => ⟨_, rfl, (t_b_f (by rw [t_beg_2 (on := t_on x) q1_1 q16_4, q26_6, q36_8]; rfl)), ht⟩) (fun q h => by cases h) dX2_beginsNote_44 hlocks
        · refine lv_iconst (v := ((nI 1) : Int32)) hx hb dX2_beginsNote_39 (by decide +kernel) ?_
          refine lv_goto (tgt := 44) hx hb dX2_beginsNote_40 (by decide) ?_
          exact W.zret (v := (nI 1)) hx hb hr rfl (fun t ht hW => ⟨_, rfl, (t_b_t (by rw [t_beg_2 (on := t_on x) q1_1 q16_4, q26_6, q36_8]; rfl)), ht⟩) (fun q h => by cases h) dX2_beginsNote_44 hlocks
    · refine lv_iconst (v := ((nI 1) : Int32)) hx hb dX2_beginsNote_19 (by decide +kernel) ?_
      exact W.zret (v := (nI 1)) hx hb hr rfl (fun t ht hW => ⟨_, rfl, (t_b_t (t_beg_1 q1_1 q16_4)), ht⟩) (fun q h => by cases h) dX2_beginsNote_20 hlocks

set_option maxHeartbeats 4000000 in
set_option maxRecDepth 100000 in
theorem c_X2_cut (l : Launch) (D : va_G) (cI cL : ClassId) (h i1 i2 j1 j2 k1 k2 ct : Nat) (st ln of : Nat → Int32) (ph p1 q1 q2 tm : Nat) (ba : Int32) (pa : Nat → Int32) (so sa sn : Nat) (x : Nat → Int32) (n : Nat) (hn : n ≤ 29) (sz : Nat) : Met l yX2_cut wsX2_cut ({ frames := 5, cells := 0, slots := 0, locals := 200 }) (t_wPc D cI cL [.ref h, .ref ph, .ref so, .int (nI n)] [(h, .inr (2, [.ref i1, .ref j1, .ref k1, .int (nI ct)])), (i1, .inr (4, [.ref i2])), (i2, .inl (cI, 29, .inl st)), (j1, .inr (4, [.ref j2])), (j2, .inl (cI, 29, .inl ln)), (k1, .inr (4, [.ref k2])), (k2, .inl (cI, 29, .inl of)), (ph, .inr (3, [.int (nI tm), .int ba, .ref p1, .ref q1])), (q1, .inr (4, [.ref q2])), (q2, .inl (cI, 29, .inl pa)), (so, .inr (5, [.ref sa, .int (nI sn)])), (sa, .inl (cI, 1024, .inl x))] sz) (t_Qv D cI cL (fun w1 => ∃ st2 : Nat → Int32, ∃ ln2 : Nat → Int32, ∃ of2 : Nat → Int32, w1 = [(h, .inr (2, [.ref i1, .ref j1, .ref k1, .int (nI (t_nn pa (t_on x) n))])), (i1, .inr (4, [.ref i2])), (i2, .inl (cI, 29, .inl st2)), (j1, .inr (4, [.ref j2])), (j2, .inl (cI, 29, .inl ln2)), (k1, .inr (4, [.ref k2])), (k2, .inl (cI, 29, .inl of2)), (ph, .inr (3, [.int (nI tm), .int ba, .ref p1, .ref q1])), (q1, .inr (4, [.ref q2])), (q2, .inl (cI, 29, .inl pa)), (so, .inr (5, [.ref sa, .int (nI sn)])), (sa, .inl (cI, 1024, .inl x))] ∧ t_nts pa (t_on x) n st2 ln2 of2) (va_A [(h, .inr (2, [.ref i1, .ref j1, .ref k1, .int (nI ct)])), (i1, .inr (4, [.ref i2])), (i2, .inl (cI, 29, .inl st)), (j1, .inr (4, [.ref j2])), (j2, .inl (cI, 29, .inl ln)), (k1, .inr (4, [.ref k2])), (k2, .inl (cI, 29, .inl of)), (ph, .inr (3, [.int (nI tm), .int ba, .ref p1, .ref q1])), (q1, .inr (4, [.ref q2])), (q2, .inl (cI, 29, .inl pa)), (so, .inr (5, [.ref sa, .int (nI sn)])), (sa, .inl (cI, 1024, .inl x))] sz)) 0 0 (va_A [(h, .inr (2, [.ref i1, .ref j1, .ref k1, .int (nI ct)])), (i1, .inr (4, [.ref i2])), (i2, .inl (cI, 29, .inl st)), (j1, .inr (4, [.ref j2])), (j2, .inl (cI, 29, .inl ln)), (k1, .inr (4, [.ref k2])), (k2, .inl (cI, 29, .inl of)), (ph, .inr (3, [.int (nI tm), .int ba, .ref p1, .ref q1])), (q1, .inr (4, [.ref q2])), (q2, .inl (cI, 29, .inl pa)), (so, .inr (5, [.ref sa, .int (nI sn)])), (sa, .inl (cI, 1024, .inl x))] sz) := by
  refine t_ofW (Qc := t_Qv D cI cL (fun w1 => ∃ st2 : Nat → Int32, ∃ ln2 : Nat → Int32, ∃ of2 : Nat → Int32, w1 = [(h, .inr (2, [.ref i1, .ref j1, .ref k1, .int (nI (t_nn pa (t_on x) n))])), (i1, .inr (4, [.ref i2])), (i2, .inl (cI, 29, .inl st2)), (j1, .inr (4, [.ref j2])), (j2, .inl (cI, 29, .inl ln2)), (k1, .inr (4, [.ref k2])), (k2, .inl (cI, 29, .inl of2)), (ph, .inr (3, [.int (nI tm), .int ba, .ref p1, .ref q1])), (q1, .inr (4, [.ref q2])), (q2, .inl (cI, 29, .inl pa)), (so, .inr (5, [.ref sa, .int (nI sn)])), (sa, .inl (cI, 1024, .inl x))] ∧ t_nts pa (t_on x) n st2 ln2 of2)) (by decide) rfl (Nat.le_of_ble_eq_true rfl) ?_
  intro p e s m below meth c ls A hx hb hml hown hts hr hlocks hin hK hP hD hS hA hl
  have hown : s.vm.findClass RX2 = some m.cls := hown
  have hl : lv_has ls 5 [(0, .ref h), (1, .ref ph), (2, .ref so), (3, .int (nI n))] := hl
  refine lv_aload_n hx hb dX2_cut_0 rfl (lv_at hl 0 rfl) ?_
  refine lv_iconst (v := ((nI 0) : Int32)) hx hb dX2_cut_1 (by decide +kernel) ?_
  refine va_put (D := D) (ci := 2) (v := .int (nI 0)) (ty := .int) (C := RX2) (T := TX2) (N := 4) hx hb hts (fun _ h => List.mem_cons_of_mem _ (List.mem_append_left _ (List.mem_append_left _ (List.mem_append_left _ (List.mem_append_right _ h))))) tyX2 tyX2_ok nmX2 hown hK hP hD hS 0 rfl rfl 3 (by decide) (hts (.fieldLink RX2 26 "PitchTracker$Notes" "count" "I") (List.mem_of_getElem? (i := 1) rfl)) (fun _ h9 => h9) rfl (by decide +kernel) rfl rfl (Nat.le_of_ble_eq_true rfl) dX2_cut_2 (fun H locs hP hD hS => ?_)
  have hP : va_P D vwCl [(h, .inr (2, [.ref i1, .ref j1, .ref k1, .int (nI 0)])), (i1, .inr (4, [.ref i2])), (i2, .inl (cI, 29, .inl st)), (j1, .inr (4, [.ref j2])), (j2, .inl (cI, 29, .inl ln)), (k1, .inr (4, [.ref k2])), (k2, .inl (cI, 29, .inl of)), (ph, .inr (3, [.int (nI tm), .int ba, .ref p1, .ref q1])), (q1, .inr (4, [.ref q2])), (q2, .inl (cI, 29, .inl pa)), (so, .inr (5, [.ref sa, .int (nI sn)])), (sa, .inl (cI, 1024, .inl x))] H := hP
  have hD : va_D A [(h, .inr (2, [.ref i1, .ref j1, .ref k1, .int (nI 0)])), (i1, .inr (4, [.ref i2])), (i2, .inl (cI, 29, .inl st)), (j1, .inr (4, [.ref j2])), (j2, .inl (cI, 29, .inl ln)), (k1, .inr (4, [.ref k2])), (k2, .inl (cI, 29, .inl of)), (ph, .inr (3, [.int (nI tm), .int ba, .ref p1, .ref q1])), (q1, .inr (4, [.ref q2])), (q2, .inl (cI, 29, .inl pa)), (so, .inr (5, [.ref sa, .int (nI sn)])), (sa, .inl (cI, 1024, .inl x))] := hD
  refine lv_iconst (v := ((nI 0) : Int32)) hx hb dX2_cut_5 (by decide +kernel) ?_
  refine lv_istore (lv' := [(4, .int (nI 0)), (0, .ref h), (1, .ref ph), (2, .ref so), (3, .int (nI n))]) hx hb dX2_cut_6 hl (by decide) rfl (fun ls hl => ?_)
  have loop_1 : ∀ (n_3 : Nat) (i : Nat) (st1 : Nat → Int32) (ln1 : Nat → Int32) (of1 : Nat → Int32) (hm_4 : n - i < n_3) (hi : i ≤ n) (hv : t_nts pa (t_on x) i st1 ln1 of1) (H : Heap) (locs : List Loc) (hP : va_P D vwCl [(h, .inr (2, [.ref i1, .ref j1, .ref k1, .int (nI (t_nn pa (t_on x) i))])), (i1, .inr (4, [.ref i2])), (i2, .inl (cI, 29, .inl st1)), (j1, .inr (4, [.ref j2])), (j2, .inl (cI, 29, .inl ln1)), (k1, .inr (4, [.ref k2])), (k2, .inl (cI, 29, .inl of1)), (ph, .inr (3, [.int (nI tm), .int ba, .ref p1, .ref q1])), (q1, .inr (4, [.ref q2])), (q2, .inl (cI, 29, .inl pa)), (so, .inr (5, [.ref sa, .int (nI sn)])), (sa, .inl (cI, 1024, .inl x))] H) (hD : va_D A [(h, .inr (2, [.ref i1, .ref j1, .ref k1, .int (nI (t_nn pa (t_on x) i))])), (i1, .inr (4, [.ref i2])), (i2, .inl (cI, 29, .inl st1)), (j1, .inr (4, [.ref j2])), (j2, .inl (cI, 29, .inl ln1)), (k1, .inr (4, [.ref k2])), (k2, .inl (cI, 29, .inl of1)), (ph, .inr (3, [.int (nI tm), .int ba, .ref p1, .ref q1])), (q1, .inr (4, [.ref q2])), (q2, .inl (cI, 29, .inl pa)), (so, .inr (5, [.ref sa, .int (nI sn)])), (sa, .inl (cI, 1024, .inl x))]) (hS : va_S A s.heap H locs) (ls : Array Slot) (hl : lv_has ls 5 [(4, .int (nI i)), (0, .ref h), (1, .ref ph), (2, .ref so), (3, .int (nI n))]), W p l e ({ frames := 5, cells := 0, slots := 0, locals := 200 }) s m ([.ref h, .ref ph, .ref so, .int (nI n)] : List Value).toArray below meth c H locs 0 0 (MQ below (t_Qv D cI cL (fun w1 => ∃ st2 : Nat → Int32, ∃ ln2 : Nat → Int32, ∃ of2 : Nat → Int32, w1 = [(h, .inr (2, [.ref i1, .ref j1, .ref k1, .int (nI (t_nn pa (t_on x) n))])), (i1, .inr (4, [.ref i2])), (i2, .inl (cI, 29, .inl st2)), (j1, .inr (4, [.ref j2])), (j2, .inl (cI, 29, .inl ln2)), (k1, .inr (4, [.ref k2])), (k2, .inl (cI, 29, .inl of2)), (ph, .inr (3, [.int (nI tm), .int ba, .ref p1, .ref q1])), (q1, .inr (4, [.ref q2])), (q2, .inl (cI, 29, .inl pa)), (so, .inr (5, [.ref sa, .int (nI sn)])), (sa, .inl (cI, 1024, .inl x))] ∧ t_nts pa (t_on x) n st2 ln2 of2) A) ([.ref h, .ref ph, .ref so, .int (nI n)] : List Value).toArray s 0 0 A) (F0 m 8 ls []) := by
    intro n_3
    induction n_3 with
    | zero => intro i st1 ln1 of1 hm_4; exact absurd hm_4 (Nat.not_lt_zero _)
    | succ n_3 ih_2 =>
      intro i st1 ln1 of1 hm_4 hi hv H locs hP hD hS ls hl
      refine lv_iload hx hb dX2_cut_8 (lv_at hl 0 rfl) ?_
      refine lv_iload_n hx hb dX2_cut_10 rfl (lv_at hl 4 rfl) ?_
      refine tv_icmp_ge (tgt := 121) hx hb dX2_cut_11 (by decide) (by omega) (by omega) (fun q11_5 => ?_) (fun q11_5 => ?_)
      · obtain rfl : i = n := (by omega)
        have hP9 := hP
        have hD9 := hD
        exact W.vret hx hb hr (fun t ht hW => ⟨⟨[(h, .inr (2, [.ref i1, .ref j1, .ref k1, .int (nI (t_nn pa (t_on x) i))])), (i1, .inr (4, [.ref i2])), (i2, .inl (cI, 29, .inl st1)), (j1, .inr (4, [.ref j2])), (j2, .inl (cI, 29, .inl ln1)), (k1, .inr (4, [.ref k2])), (k2, .inl (cI, 29, .inl of1)), (ph, .inr (3, [.int (nI tm), .int ba, .ref p1, .ref q1])), (q1, .inr (4, [.ref q2])), (q2, .inl (cI, 29, .inl pa)), (so, .inr (5, [.ref sa, .int (nI sn)])), (sa, .inl (cI, 1024, .inl x))], rfl, ⟨st1, ln1, of1, rfl, hv⟩, ⟨by rw [ht]; exact hP9, va_K.moved hW.alike hK, hD9⟩⟩, hS.F ht⟩) hS.2.2 dX2_cut_121 hlocks
      · have hl0 := t_nn_le (pa := pa) (on := t_on x) i
        refine lv_aload_n hx hb dX2_cut_14 rfl (lv_at hl 2 rfl) ?_
        refine lv_iload hx hb dX2_cut_15 (lv_at hl 0 rfl) ?_
        have hPc := hP.sub (ws' := [(ph, .inr (3, [.int (nI tm), .int ba, .ref p1, .ref q1])), (q1, .inr (4, [.ref q2])), (q2, .inl (cI, 29, .inl pa))]) [7, 8, 9] rfl
        refine vp_callSi (W.runV (As := [.int (nI i)]) (rest := []) ⟨hx, hb, hml, hown, hts⟩ (c_X3_patternOf l D cI cL ph p1 q1 q2 tm ba pa i (by omega)) (cwV 1 hts gX2_cut_X3_patternOf rfl rfl rfl (by decide +kernel) ⟨Nat.le_of_ble_eq_true rfl, Nat.le_of_ble_eq_true rfl⟩) ⟨t_rPc_blind, va_recv hK hPc (ci := 3) (q0 := 0) rfl rfl, fun U hU hW => ⟨rfl, by rw [hU]; exact hPc, va_K.moved hW.alike hK⟩⟩ rfl rfl hl.1 rfl (lv_room (Nat.le_of_ble_eq_true rfl)) dX2_cut_17 ⟨Nat.le_of_ble_eq_true rfl, Nat.le_of_ble_eq_true rfl⟩) (fun r_6 hr_6 => ?_)
        subst hr_6
        refine lv_if_ge (tgt := 36) hx hb dX2_cut_20 (by decide) (fun q20_7 => ?_) (fun q20_7 => ?_)
        · refine lv_aload_n hx hb dX2_cut_36 rfl (lv_at hl 2 rfl) ?_
          refine lv_aload_n hx hb dX2_cut_37 rfl (lv_at hl 3 rfl) ?_
          refine lv_iload hx hb dX2_cut_38 (lv_at hl 0 rfl) ?_
          have hPc := hP.sub (ws' := [(ph, .inr (3, [.int (nI tm), .int ba, .ref p1, .ref q1])), (q1, .inr (4, [.ref q2])), (q2, .inl (cI, 29, .inl pa)), (so, .inr (5, [.ref sa, .int (nI sn)])), (sa, .inl (cI, 1024, .inl x))]) [7, 8, 9, 10, 11] rfl
          refine vp_callSi (W.runS (As := [.ref ph, .ref so, .int (nI i)]) (rest := []) ⟨hx, hb, hml, hown, hts⟩ (c_X2_beginsNote l D cI cL ph p1 q1 q2 tm ba pa so sa sn x i (by omega)) (va_cwS 3 hts gX2_cut_X2_beginsNote rfl rfl rfl (by decide +kernel) ⟨Nat.le_of_ble_eq_true rfl, Nat.le_of_ble_eq_true rfl⟩) ⟨t_rPc_blind, fun U hU hW => ⟨rfl, by rw [hU]; exact hPc, va_K.moved hW.alike hK⟩⟩ rfl rfl hl.1 rfl (lv_room (Nat.le_of_ble_eq_true rfl)) dX2_cut_40 ⟨Nat.le_of_ble_eq_true rfl, Nat.le_of_ble_eq_true rfl⟩) (fun r_8 hr_8 => ?_)
          subst hr_8
          refine tv_if_eqB (tgt := 69) hx hb dX2_cut_43 (by decide) (fun q43_9 => ?_) (fun q43_9 => ?_)
          · have hv0 : ¬ pa i < 0 := t_nge q20_7
            have hps := t_nn_pos (on := t_on x) hv0
            have hle := t_nn_le (pa := pa) (on := t_on x) (i + 1)
            have hsl := t_sts_le (pa := pa) (on := t_on x) (i + 1) (t_nn pa (t_on x) (i + 1) - 1)
            have hcn := t_nn_c hv0 q43_9
            have hP : va_P D vwCl [(h, .inr (2, [.ref i1, .ref j1, .ref k1, .int (nI (t_nn pa (t_on x) (i + 1)))])), (i1, .inr (4, [.ref i2])), (i2, .inl (cI, 29, .inl st1)), (j1, .inr (4, [.ref j2])), (j2, .inl (cI, 29, .inl ln1)), (k1, .inr (4, [.ref k2])), (k2, .inl (cI, 29, .inl of1)), (ph, .inr (3, [.int (nI tm), .int ba, .ref p1, .ref q1])), (q1, .inr (4, [.ref q2])), (q2, .inl (cI, 29, .inl pa)), (so, .inr (5, [.ref sa, .int (nI sn)])), (sa, .inl (cI, 1024, .inl x))] H := by rw [hcn]; exact hP
            have hD : va_D A [(h, .inr (2, [.ref i1, .ref j1, .ref k1, .int (nI (t_nn pa (t_on x) (i + 1)))])), (i1, .inr (4, [.ref i2])), (i2, .inl (cI, 29, .inl st1)), (j1, .inr (4, [.ref j2])), (j2, .inl (cI, 29, .inl ln1)), (k1, .inr (4, [.ref k2])), (k2, .inl (cI, 29, .inl of1)), (ph, .inr (3, [.int (nI tm), .int ba, .ref p1, .ref q1])), (q1, .inr (4, [.ref q2])), (q2, .inl (cI, 29, .inl pa)), (so, .inr (5, [.ref sa, .int (nI sn)])), (sa, .inl (cI, 1024, .inl x))] := by rw [hcn]; exact hD
            refine lv_aload_n hx hb dX2_cut_69 rfl (lv_at hl 1 rfl) ?_
            refine va_get (D := D) (ci := 2) (v := .ref j1) (C := RX2) (T := TX2) (N := 4) hx hb hts (fun _ h => List.mem_cons_of_mem _ (List.mem_append_left _ (List.mem_append_left _ (List.mem_append_left _ (List.mem_append_right _ h))))) hown hK hP 0 rfl rfl 1 (by decide) (hts (.fieldLink RX2 20 "PitchTracker$Notes" "lengths" "LPitchTracker$Row;") (List.mem_of_getElem? (i := 4) rfl)) (fun _ h9 => h9) rfl dX2_cut_70 ?_
            refine lv_aload_n hx hb dX2_cut_73 rfl (lv_at hl 1 rfl) ?_
            refine va_get (D := D) (ci := 2) (v := .int (nI (t_nn pa (t_on x) (i + 1)))) (C := RX2) (T := TX2) (N := 4) hx hb hts (fun _ h => List.mem_cons_of_mem _ (List.mem_append_left _ (List.mem_append_left _ (List.mem_append_left _ (List.mem_append_right _ h))))) hown hK hP 0 rfl rfl 3 (by decide) (hts (.fieldLink RX2 26 "PitchTracker$Notes" "count" "I") (List.mem_of_getElem? (i := 1) rfl)) (fun _ h9 => h9) rfl dX2_cut_74 ?_
            refine lv_iconst (v := ((nI 1) : Int32)) hx hb dX2_cut_77 (by decide +kernel) ?_
            refine tv_isub (a := t_nn pa (t_on x) (i + 1)) (b := 1) hx hb dX2_cut_78 (by omega) ?_
            refine lv_iload hx hb dX2_cut_79 (lv_at hl 0 rfl) ?_
            refine lv_iconst (v := ((nI 1) : Int32)) hx hb dX2_cut_81 (by decide +kernel) ?_
            refine tv_iadd (a := i) (b := 1) hx hb dX2_cut_82 ?_
            refine lv_aload_n hx hb dX2_cut_83 rfl (lv_at hl 1 rfl) ?_
            refine va_get (D := D) (ci := 2) (v := .ref i1) (C := RX2) (T := TX2) (N := 4) hx hb hts (fun _ h => List.mem_cons_of_mem _ (List.mem_append_left _ (List.mem_append_left _ (List.mem_append_left _ (List.mem_append_right _ h))))) hown hK hP 0 rfl rfl 0 (by decide) (hts (.fieldLink RX2 14 "PitchTracker$Notes" "starts" "LPitchTracker$Row;") (List.mem_of_getElem? (i := 3) rfl)) (fun _ h9 => h9) rfl dX2_cut_84 ?_
            refine lv_aload_n hx hb dX2_cut_87 rfl (lv_at hl 1 rfl) ?_
            refine va_get (D := D) (ci := 2) (v := .int (nI (t_nn pa (t_on x) (i + 1)))) (C := RX2) (T := TX2) (N := 4) hx hb hts (fun _ h => List.mem_cons_of_mem _ (List.mem_append_left _ (List.mem_append_left _ (List.mem_append_left _ (List.mem_append_right _ h))))) hown hK hP 0 rfl rfl 3 (by decide) (hts (.fieldLink RX2 26 "PitchTracker$Notes" "count" "I") (List.mem_of_getElem? (i := 1) rfl)) (fun _ h9 => h9) rfl dX2_cut_88 ?_
            refine lv_iconst (v := ((nI 1) : Int32)) hx hb dX2_cut_91 (by decide +kernel) ?_
            refine tv_isub (a := t_nn pa (t_on x) (i + 1)) (b := 1) hx hb dX2_cut_92 (by omega) ?_
            have hPc := hP.sub (ws' := [(i1, .inr (4, [.ref i2])), (i2, .inl (cI, 29, .inl st1))]) [1, 2] rfl
            refine vp_callSi (W.runV (As := [.int (nI ((t_nn pa (t_on x) (i + 1)) - 1))]) (rest := [.int (nI (i + 1)), .int (nI ((t_nn pa (t_on x) (i + 1)) - 1)), .ref j1]) ⟨hx, hb, hml, hown, hts⟩ (c_X4_at l D cI cL i1 i2 29 st1 ((t_nn pa (t_on x) (i + 1)) - 1) (by omega) (by omega)) (cwV 1 hts gX2_cut_X4_at rfl rfl rfl (by decide +kernel) ⟨Nat.le_of_ble_eq_true rfl, Nat.le_of_ble_eq_true rfl⟩) ⟨t_rPc_blind, va_recv hK hPc (ci := 4) (q0 := 0) rfl rfl, fun U hU hW => ⟨rfl, by rw [hU]; exact hPc, va_K.moved hW.alike hK⟩⟩ rfl rfl hl.1 rfl (lv_room (Nat.le_of_ble_eq_true rfl)) dX2_cut_93 ⟨Nat.le_of_ble_eq_true rfl, Nat.le_of_ble_eq_true rfl⟩) (fun r_10 hr_10 => ?_)
            subst hr_10
            refine tv_re (y := (nI (t_sts pa (t_on x) (i + 1) (t_nn pa (t_on x) (i + 1) - 1)))) (t_nts_sc hv0 q43_9 hv) ?_
            refine tv_isub (a := i + 1) (b := t_sts pa (t_on x) (i + 1) (t_nn pa (t_on x) (i + 1) - 1)) hx hb dX2_cut_96 (by omega) ?_
            have hPc := hP.sub (ws' := [(j1, .inr (4, [.ref j2])), (j2, .inl (cI, 29, .inl ln1))]) [3, 4] rfl
            have hDc := hD.sub (ws' := [(j1, .inr (4, [.ref j2])), (j2, .inl (cI, 29, .inl ln1))]) [3, 4] (by decide +kernel) rfl
            have hFc := va_free (wc := [(j1, .inr (4, [.ref j2])), (j2, .inl (cI, 29, .inl ln1))]) hD hS hA [3, 4] rfl
            refine va_callv (va_runV (As := [.int (nI ((t_nn pa (t_on x) (i + 1)) - 1)), .int (nI ((i + 1) - (t_sts pa (t_on x) (i + 1) (t_nn pa (t_on x) (i + 1) - 1))))]) (rest := []) ⟨hx, hb, hml, hown, hts⟩ (c_X4_put l D cI cL j1 j2 29 ln1 ((t_nn pa (t_on x) (i + 1)) - 1) ((nI ((i + 1) - (t_sts pa (t_on x) (i + 1) (t_nn pa (t_on x) (i + 1) - 1))))) (by omega) (by omega) H.size) (cwV 2 hts gX2_cut_X4_put rfl rfl rfl (by decide +kernel) ⟨Nat.le_of_ble_eq_true rfl, Nat.le_of_ble_eq_true rfl⟩) ⟨t_wPc_blind, va_recv hK hPc (ci := 4) (q0 := 0) rfl rfl, fun U hU hW => ⟨rfl, by rw [hU], by rw [hU]; exact hPc, va_K.moved hW.alike hK, hDc.weaken (fun _ _ _ _ => trivial)⟩⟩ rfl rfl hl.1 rfl (lv_room (Nat.le_of_ble_eq_true rfl)) dX2_cut_97 ⟨Nat.le_of_ble_eq_true rfl, Nat.le_of_ble_eq_true rfl⟩) hS (fun q _ h => hFc q h) hFc (fun u_12 t H1 locs ht hvm hw hB hz1 hk1 hS => ?_)
            obtain ⟨hP1, hK1, hD1⟩ := hB
            rw [ht] at hP1
            have hw : u_12 = [(j1, .inr (4, [.ref j2])), (j2, .inl (cI, 29, .inl (upd ln1 ((t_nn pa (t_on x) (i + 1)) - 1) ((nI ((i + 1) - (t_sts pa (t_on x) (i + 1) (t_nn pa (t_on x) (i + 1) - 1))))))))] := hw
            subst hw
            obtain ⟨hP, hD⟩ := va_join (wr := [(h, .inr (2, [.ref i1, .ref j1, .ref k1, .int (nI (t_nn pa (t_on x) (i + 1)))])), (i1, .inr (4, [.ref i2])), (i2, .inl (cI, 29, .inl st1)), (k1, .inr (4, [.ref k2])), (k2, .inl (cI, 29, .inl of1)), (ph, .inr (3, [.int (nI tm), .int ba, .ref p1, .ref q1])), (q1, .inr (4, [.ref q2])), (q2, .inl (cI, 29, .inl pa)), (so, .inr (5, [.ref sa, .int (nI sn)])), (sa, .inl (cI, 1024, .inl x))]) (w1 := [(j1, .inr (4, [.ref j2])), (j2, .inl (cI, 29, .inl (upd ln1 ((t_nn pa (t_on x) (i + 1)) - 1) ((nI ((i + 1) - (t_sts pa (t_on x) (i + 1) (t_nn pa (t_on x) (i + 1) - 1))))))))]) hP hD [3, 4] [0, 1, 2, 5, 6, 7, 8, 9, 10, 11] rfl rfl (by decide +kernel) (by decide +kernel) hk1 hFc hP1 hD1
            clear hP1 hD1 hK1 hPc hDc hFc ht hvm hz1 hk1
            have hP := hP.sub (ws' := [(h, .inr (2, [.ref i1, .ref j1, .ref k1, .int (nI (t_nn pa (t_on x) (i + 1)))])), (i1, .inr (4, [.ref i2])), (i2, .inl (cI, 29, .inl st1)), (j1, .inr (4, [.ref j2])), (j2, .inl (cI, 29, .inl (upd ln1 ((t_nn pa (t_on x) (i + 1)) - 1) ((nI ((i + 1) - (t_sts pa (t_on x) (i + 1) (t_nn pa (t_on x) (i + 1) - 1)))))))), (k1, .inr (4, [.ref k2])), (k2, .inl (cI, 29, .inl of1)), (ph, .inr (3, [.int (nI tm), .int ba, .ref p1, .ref q1])), (q1, .inr (4, [.ref q2])), (q2, .inl (cI, 29, .inl pa)), (so, .inr (5, [.ref sa, .int (nI sn)])), (sa, .inl (cI, 1024, .inl x))]) [0, 1, 2, 10, 11, 3, 4, 5, 6, 7, 8, 9] rfl
            have hD := hD.sub (ws' := [(h, .inr (2, [.ref i1, .ref j1, .ref k1, .int (nI (t_nn pa (t_on x) (i + 1)))])), (i1, .inr (4, [.ref i2])), (i2, .inl (cI, 29, .inl st1)), (j1, .inr (4, [.ref j2])), (j2, .inl (cI, 29, .inl (upd ln1 ((t_nn pa (t_on x) (i + 1)) - 1) ((nI ((i + 1) - (t_sts pa (t_on x) (i + 1) (t_nn pa (t_on x) (i + 1) - 1)))))))), (k1, .inr (4, [.ref k2])), (k2, .inl (cI, 29, .inl of1)), (ph, .inr (3, [.int (nI tm), .int ba, .ref p1, .ref q1])), (q1, .inr (4, [.ref q2])), (q2, .inl (cI, 29, .inl pa)), (so, .inr (5, [.ref sa, .int (nI sn)])), (sa, .inl (cI, 1024, .inl x))]) [0, 1, 2, 10, 11, 3, 4, 5, 6, 7, 8, 9] (by decide +kernel) rfl
            generalize H1 = H at hP hS ⊢
            refine lv_aload_n hx hb dX2_cut_100 rfl (lv_at hl 1 rfl) ?_
            refine va_get (D := D) (ci := 2) (v := .ref k1) (C := RX2) (T := TX2) (N := 4) hx hb hts (fun _ h => List.mem_cons_of_mem _ (List.mem_append_left _ (List.mem_append_left _ (List.mem_append_left _ (List.mem_append_right _ h))))) hown hK hP 0 rfl rfl 2 (by decide) (hts (.fieldLink RX2 23 "PitchTracker$Notes" "ofFrames" "LPitchTracker$Row;") (List.mem_of_getElem? (i := 2) rfl)) (fun _ h9 => h9) rfl dX2_cut_101 ?_
            refine lv_iload hx hb dX2_cut_104 (lv_at hl 0 rfl) ?_
            refine lv_aload_n hx hb dX2_cut_106 rfl (lv_at hl 1 rfl) ?_
            refine va_get (D := D) (ci := 2) (v := .int (nI (t_nn pa (t_on x) (i + 1)))) (C := RX2) (T := TX2) (N := 4) hx hb hts (fun _ h => List.mem_cons_of_mem _ (List.mem_append_left _ (List.mem_append_left _ (List.mem_append_left _ (List.mem_append_right _ h))))) hown hK hP 0 rfl rfl 3 (by decide) (hts (.fieldLink RX2 26 "PitchTracker$Notes" "count" "I") (List.mem_of_getElem? (i := 1) rfl)) (fun _ h9 => h9) rfl dX2_cut_107 ?_
            refine lv_iconst (v := ((nI 1) : Int32)) hx hb dX2_cut_110 (by decide +kernel) ?_
            refine tv_isub (a := t_nn pa (t_on x) (i + 1)) (b := 1) hx hb dX2_cut_111 (by omega) ?_
            have hPc := hP.sub (ws' := [(k1, .inr (4, [.ref k2])), (k2, .inl (cI, 29, .inl of1))]) [5, 6] rfl
            have hDc := hD.sub (ws' := [(k1, .inr (4, [.ref k2])), (k2, .inl (cI, 29, .inl of1))]) [5, 6] (by decide +kernel) rfl
            have hFc := va_free (wc := [(k1, .inr (4, [.ref k2])), (k2, .inl (cI, 29, .inl of1))]) hD hS hA [5, 6] rfl
            refine va_callv (va_runV (As := [.int (nI i), .int (nI ((t_nn pa (t_on x) (i + 1)) - 1))]) (rest := []) ⟨hx, hb, hml, hown, hts⟩ (c_X4_put l D cI cL k1 k2 29 of1 i ((nI ((t_nn pa (t_on x) (i + 1)) - 1))) (by omega) (by omega) H.size) (cwV 2 hts gX2_cut_X4_put rfl rfl rfl (by decide +kernel) ⟨Nat.le_of_ble_eq_true rfl, Nat.le_of_ble_eq_true rfl⟩) ⟨t_wPc_blind, va_recv hK hPc (ci := 4) (q0 := 0) rfl rfl, fun U hU hW => ⟨rfl, by rw [hU], by rw [hU]; exact hPc, va_K.moved hW.alike hK, hDc.weaken (fun _ _ _ _ => trivial)⟩⟩ rfl rfl hl.1 rfl (lv_room (Nat.le_of_ble_eq_true rfl)) dX2_cut_112 ⟨Nat.le_of_ble_eq_true rfl, Nat.le_of_ble_eq_true rfl⟩) hS (fun q _ h => hFc q h) hFc (fun u_14 t H1 locs ht hvm hw hB hz1 hk1 hS => ?_)
            obtain ⟨hP1, hK1, hD1⟩ := hB
            rw [ht] at hP1
            have hw : u_14 = [(k1, .inr (4, [.ref k2])), (k2, .inl (cI, 29, .inl (upd of1 i ((nI ((t_nn pa (t_on x) (i + 1)) - 1))))))] := hw
            subst hw
            obtain ⟨hP, hD⟩ := va_join (wr := [(h, .inr (2, [.ref i1, .ref j1, .ref k1, .int (nI (t_nn pa (t_on x) (i + 1)))])), (i1, .inr (4, [.ref i2])), (i2, .inl (cI, 29, .inl st1)), (j1, .inr (4, [.ref j2])), (j2, .inl (cI, 29, .inl (upd ln1 ((t_nn pa (t_on x) (i + 1)) - 1) ((nI ((i + 1) - (t_sts pa (t_on x) (i + 1) (t_nn pa (t_on x) (i + 1) - 1)))))))), (ph, .inr (3, [.int (nI tm), .int ba, .ref p1, .ref q1])), (q1, .inr (4, [.ref q2])), (q2, .inl (cI, 29, .inl pa)), (so, .inr (5, [.ref sa, .int (nI sn)])), (sa, .inl (cI, 1024, .inl x))]) (w1 := [(k1, .inr (4, [.ref k2])), (k2, .inl (cI, 29, .inl (upd of1 i ((nI ((t_nn pa (t_on x) (i + 1)) - 1))))))]) hP hD [5, 6] [0, 1, 2, 3, 4, 7, 8, 9, 10, 11] rfl rfl (by decide +kernel) (by decide +kernel) hk1 hFc hP1 hD1
            clear hP1 hD1 hK1 hPc hDc hFc ht hvm hz1 hk1
            have hP := hP.sub (ws' := [(h, .inr (2, [.ref i1, .ref j1, .ref k1, .int (nI (t_nn pa (t_on x) (i + 1)))])), (i1, .inr (4, [.ref i2])), (i2, .inl (cI, 29, .inl st1)), (j1, .inr (4, [.ref j2])), (j2, .inl (cI, 29, .inl (upd ln1 ((t_nn pa (t_on x) (i + 1)) - 1) ((nI ((i + 1) - (t_sts pa (t_on x) (i + 1) (t_nn pa (t_on x) (i + 1) - 1)))))))), (k1, .inr (4, [.ref k2])), (k2, .inl (cI, 29, .inl (upd of1 i ((nI ((t_nn pa (t_on x) (i + 1)) - 1)))))), (ph, .inr (3, [.int (nI tm), .int ba, .ref p1, .ref q1])), (q1, .inr (4, [.ref q2])), (q2, .inl (cI, 29, .inl pa)), (so, .inr (5, [.ref sa, .int (nI sn)])), (sa, .inl (cI, 1024, .inl x))]) [0, 1, 2, 3, 4, 10, 11, 5, 6, 7, 8, 9] rfl
            have hD := hD.sub (ws' := [(h, .inr (2, [.ref i1, .ref j1, .ref k1, .int (nI (t_nn pa (t_on x) (i + 1)))])), (i1, .inr (4, [.ref i2])), (i2, .inl (cI, 29, .inl st1)), (j1, .inr (4, [.ref j2])), (j2, .inl (cI, 29, .inl (upd ln1 ((t_nn pa (t_on x) (i + 1)) - 1) ((nI ((i + 1) - (t_sts pa (t_on x) (i + 1) (t_nn pa (t_on x) (i + 1) - 1)))))))), (k1, .inr (4, [.ref k2])), (k2, .inl (cI, 29, .inl (upd of1 i ((nI ((t_nn pa (t_on x) (i + 1)) - 1)))))), (ph, .inr (3, [.int (nI tm), .int ba, .ref p1, .ref q1])), (q1, .inr (4, [.ref q2])), (q2, .inl (cI, 29, .inl pa)), (so, .inr (5, [.ref sa, .int (nI sn)])), (sa, .inl (cI, 1024, .inl x))]) [0, 1, 2, 3, 4, 10, 11, 5, 6, 7, 8, 9] (by decide +kernel) rfl
            generalize H1 = H at hP hS ⊢
            refine lv_iinc (v := (nI (i + 1))) (lv' := [(4, .int (nI (i + 1))), (0, .ref h), (1, .ref ph), (2, .ref so), (3, .int (nI n))]) hx hb dX2_cut_115 hl (k := 0) rfl (nI_add i 1) (by decide) rfl (fun ls hl => ?_)
            refine lv_goto (tgt := 8) hx hb dX2_cut_118 (by decide) ?_
            exact ih_2 (i + 1) st1 (upd ln1 ((t_nn pa (t_on x) (i + 1)) - 1) ((nI ((i + 1) - (t_sts pa (t_on x) (i + 1) (t_nn pa (t_on x) (i + 1) - 1)))))) (upd of1 i ((nI ((t_nn pa (t_on x) (i + 1)) - 1)))) (by omega) (by omega) (t_nts_vc hv0 q43_9 hv) _ _ (hP.sub [0, 1, 2, 3, 4, 5, 6, 7, 8, 9, 10, 11] rfl) (hD.sub [0, 1, 2, 3, 4, 5, 6, 7, 8, 9, 10, 11] (by decide +kernel) rfl) hS _ (lv_sub hl [0, 1, 2, 3, 4] rfl)
          · refine lv_aload_n hx hb dX2_cut_46 rfl (lv_at hl 1 rfl) ?_
            refine va_get (D := D) (ci := 2) (v := .ref i1) (C := RX2) (T := TX2) (N := 4) hx hb hts (fun _ h => List.mem_cons_of_mem _ (List.mem_append_left _ (List.mem_append_left _ (List.mem_append_left _ (List.mem_append_right _ h))))) hown hK hP 0 rfl rfl 0 (by decide) (hts (.fieldLink RX2 14 "PitchTracker$Notes" "starts" "LPitchTracker$Row;") (List.mem_of_getElem? (i := 3) rfl)) (fun _ h9 => h9) rfl dX2_cut_47 ?_
            refine lv_aload_n hx hb dX2_cut_50 rfl (lv_at hl 1 rfl) ?_
            refine va_get (D := D) (ci := 2) (v := .int (nI (t_nn pa (t_on x) i))) (C := RX2) (T := TX2) (N := 4) hx hb hts (fun _ h => List.mem_cons_of_mem _ (List.mem_append_left _ (List.mem_append_left _ (List.mem_append_left _ (List.mem_append_right _ h))))) hown hK hP 0 rfl rfl 3 (by decide) (hts (.fieldLink RX2 26 "PitchTracker$Notes" "count" "I") (List.mem_of_getElem? (i := 1) rfl)) (fun _ h9 => h9) rfl dX2_cut_51 ?_
            refine lv_iload hx hb dX2_cut_54 (lv_at hl 0 rfl) ?_
            have hPc := hP.sub (ws' := [(i1, .inr (4, [.ref i2])), (i2, .inl (cI, 29, .inl st1))]) [1, 2] rfl
            have hDc := hD.sub (ws' := [(i1, .inr (4, [.ref i2])), (i2, .inl (cI, 29, .inl st1))]) [1, 2] (by decide +kernel) rfl
            have hFc := va_free (wc := [(i1, .inr (4, [.ref i2])), (i2, .inl (cI, 29, .inl st1))]) hD hS hA [1, 2] rfl
            refine va_callv (va_runV (As := [.int (nI (t_nn pa (t_on x) i)), .int (nI i)]) (rest := []) ⟨hx, hb, hml, hown, hts⟩ (c_X4_put l D cI cL i1 i2 29 st1 (t_nn pa (t_on x) i) ((nI i)) (by omega) (by omega) H.size) (cwV 2 hts gX2_cut_X4_put rfl rfl rfl (by decide +kernel) ⟨Nat.le_of_ble_eq_true rfl, Nat.le_of_ble_eq_true rfl⟩) ⟨t_wPc_blind, va_recv hK hPc (ci := 4) (q0 := 0) rfl rfl, fun U hU hW => ⟨rfl, by rw [hU], by rw [hU]; exact hPc, va_K.moved hW.alike hK, hDc.weaken (fun _ _ _ _ => trivial)⟩⟩ rfl rfl hl.1 rfl (lv_room (Nat.le_of_ble_eq_true rfl)) dX2_cut_56 ⟨Nat.le_of_ble_eq_true rfl, Nat.le_of_ble_eq_true rfl⟩) hS (fun q _ h => hFc q h) hFc (fun u_16 t H1 locs ht hvm hw hB hz1 hk1 hS => ?_)
            obtain ⟨hP1, hK1, hD1⟩ := hB
            rw [ht] at hP1
            have hw : u_16 = [(i1, .inr (4, [.ref i2])), (i2, .inl (cI, 29, .inl (upd st1 (t_nn pa (t_on x) i) ((nI i)))))] := hw
            subst hw
            obtain ⟨hP, hD⟩ := va_join (wr := [(h, .inr (2, [.ref i1, .ref j1, .ref k1, .int (nI (t_nn pa (t_on x) i))])), (j1, .inr (4, [.ref j2])), (j2, .inl (cI, 29, .inl ln1)), (k1, .inr (4, [.ref k2])), (k2, .inl (cI, 29, .inl of1)), (ph, .inr (3, [.int (nI tm), .int ba, .ref p1, .ref q1])), (q1, .inr (4, [.ref q2])), (q2, .inl (cI, 29, .inl pa)), (so, .inr (5, [.ref sa, .int (nI sn)])), (sa, .inl (cI, 1024, .inl x))]) (w1 := [(i1, .inr (4, [.ref i2])), (i2, .inl (cI, 29, .inl (upd st1 (t_nn pa (t_on x) i) ((nI i)))))]) hP hD [1, 2] [0, 3, 4, 5, 6, 7, 8, 9, 10, 11] rfl rfl (by decide +kernel) (by decide +kernel) hk1 hFc hP1 hD1
            clear hP1 hD1 hK1 hPc hDc hFc ht hvm hz1 hk1
            have hP := hP.sub (ws' := [(h, .inr (2, [.ref i1, .ref j1, .ref k1, .int (nI (t_nn pa (t_on x) i))])), (i1, .inr (4, [.ref i2])), (i2, .inl (cI, 29, .inl (upd st1 (t_nn pa (t_on x) i) ((nI i))))), (j1, .inr (4, [.ref j2])), (j2, .inl (cI, 29, .inl ln1)), (k1, .inr (4, [.ref k2])), (k2, .inl (cI, 29, .inl of1)), (ph, .inr (3, [.int (nI tm), .int ba, .ref p1, .ref q1])), (q1, .inr (4, [.ref q2])), (q2, .inl (cI, 29, .inl pa)), (so, .inr (5, [.ref sa, .int (nI sn)])), (sa, .inl (cI, 1024, .inl x))]) [0, 10, 11, 1, 2, 3, 4, 5, 6, 7, 8, 9] rfl
            have hD := hD.sub (ws' := [(h, .inr (2, [.ref i1, .ref j1, .ref k1, .int (nI (t_nn pa (t_on x) i))])), (i1, .inr (4, [.ref i2])), (i2, .inl (cI, 29, .inl (upd st1 (t_nn pa (t_on x) i) ((nI i))))), (j1, .inr (4, [.ref j2])), (j2, .inl (cI, 29, .inl ln1)), (k1, .inr (4, [.ref k2])), (k2, .inl (cI, 29, .inl of1)), (ph, .inr (3, [.int (nI tm), .int ba, .ref p1, .ref q1])), (q1, .inr (4, [.ref q2])), (q2, .inl (cI, 29, .inl pa)), (so, .inr (5, [.ref sa, .int (nI sn)])), (sa, .inl (cI, 1024, .inl x))]) [0, 10, 11, 1, 2, 3, 4, 5, 6, 7, 8, 9] (by decide +kernel) rfl
            generalize H1 = H at hP hS ⊢
            refine lv_aload_n hx hb dX2_cut_59 rfl (lv_at hl 1 rfl) ?_
            refine lv_dup hx hb dX2_cut_60 rfl ?_
            refine va_get (D := D) (ci := 2) (v := .int (nI (t_nn pa (t_on x) i))) (C := RX2) (T := TX2) (N := 4) hx hb hts (fun _ h => List.mem_cons_of_mem _ (List.mem_append_left _ (List.mem_append_left _ (List.mem_append_left _ (List.mem_append_right _ h))))) hown hK hP 0 rfl rfl 3 (by decide) (hts (.fieldLink RX2 26 "PitchTracker$Notes" "count" "I") (List.mem_of_getElem? (i := 1) rfl)) (fun _ h9 => h9) rfl dX2_cut_61 ?_
            refine lv_iconst (v := ((nI 1) : Int32)) hx hb dX2_cut_64 (by decide +kernel) ?_
            refine tv_iadd (a := t_nn pa (t_on x) i) (b := 1) hx hb dX2_cut_65 ?_
            refine va_put (D := D) (ci := 2) (v := .int (nI ((t_nn pa (t_on x) i) + 1))) (ty := .int) (C := RX2) (T := TX2) (N := 4) hx hb hts (fun _ h => List.mem_cons_of_mem _ (List.mem_append_left _ (List.mem_append_left _ (List.mem_append_left _ (List.mem_append_right _ h))))) tyX2 tyX2_ok nmX2 hown hK hP hD hS 0 rfl rfl 3 (by decide) (hts (.fieldLink RX2 26 "PitchTracker$Notes" "count" "I") (List.mem_of_getElem? (i := 1) rfl)) (fun _ h9 => h9) rfl (by decide +kernel) rfl rfl (Nat.le_of_ble_eq_true rfl) dX2_cut_66 (fun H locs hP hD hS => ?_)
            have hP : va_P D vwCl [(h, .inr (2, [.ref i1, .ref j1, .ref k1, .int (nI ((t_nn pa (t_on x) i) + 1))])), (i1, .inr (4, [.ref i2])), (i2, .inl (cI, 29, .inl (upd st1 (t_nn pa (t_on x) i) ((nI i))))), (j1, .inr (4, [.ref j2])), (j2, .inl (cI, 29, .inl ln1)), (k1, .inr (4, [.ref k2])), (k2, .inl (cI, 29, .inl of1)), (ph, .inr (3, [.int (nI tm), .int ba, .ref p1, .ref q1])), (q1, .inr (4, [.ref q2])), (q2, .inl (cI, 29, .inl pa)), (so, .inr (5, [.ref sa, .int (nI sn)])), (sa, .inl (cI, 1024, .inl x))] H := hP
            have hD : va_D A [(h, .inr (2, [.ref i1, .ref j1, .ref k1, .int (nI ((t_nn pa (t_on x) i) + 1))])), (i1, .inr (4, [.ref i2])), (i2, .inl (cI, 29, .inl (upd st1 (t_nn pa (t_on x) i) ((nI i))))), (j1, .inr (4, [.ref j2])), (j2, .inl (cI, 29, .inl ln1)), (k1, .inr (4, [.ref k2])), (k2, .inl (cI, 29, .inl of1)), (ph, .inr (3, [.int (nI tm), .int ba, .ref p1, .ref q1])), (q1, .inr (4, [.ref q2])), (q2, .inl (cI, 29, .inl pa)), (so, .inr (5, [.ref sa, .int (nI sn)])), (sa, .inl (cI, 1024, .inl x))] := hD
            have hv0 : ¬ pa i < 0 := t_nge q20_7
            have hps := t_nn_pos (on := t_on x) hv0
            have hle := t_nn_le (pa := pa) (on := t_on x) (i + 1)
            have hsl := t_sts_le (pa := pa) (on := t_on x) (i + 1) (t_nn pa (t_on x) (i + 1) - 1)
            have hcn := t_nn_b hv0 q43_9
            have hP : va_P D vwCl [(h, .inr (2, [.ref i1, .ref j1, .ref k1, .int (nI (t_nn pa (t_on x) (i + 1)))])), (i1, .inr (4, [.ref i2])), (i2, .inl (cI, 29, .inl (upd st1 (t_nn pa (t_on x) i) ((nI i))))), (j1, .inr (4, [.ref j2])), (j2, .inl (cI, 29, .inl ln1)), (k1, .inr (4, [.ref k2])), (k2, .inl (cI, 29, .inl of1)), (ph, .inr (3, [.int (nI tm), .int ba, .ref p1, .ref q1])), (q1, .inr (4, [.ref q2])), (q2, .inl (cI, 29, .inl pa)), (so, .inr (5, [.ref sa, .int (nI sn)])), (sa, .inl (cI, 1024, .inl x))] H := by rw [hcn]; exact hP
            have hD : va_D A [(h, .inr (2, [.ref i1, .ref j1, .ref k1, .int (nI (t_nn pa (t_on x) (i + 1)))])), (i1, .inr (4, [.ref i2])), (i2, .inl (cI, 29, .inl (upd st1 (t_nn pa (t_on x) i) ((nI i))))), (j1, .inr (4, [.ref j2])), (j2, .inl (cI, 29, .inl ln1)), (k1, .inr (4, [.ref k2])), (k2, .inl (cI, 29, .inl of1)), (ph, .inr (3, [.int (nI tm), .int ba, .ref p1, .ref q1])), (q1, .inr (4, [.ref q2])), (q2, .inl (cI, 29, .inl pa)), (so, .inr (5, [.ref sa, .int (nI sn)])), (sa, .inl (cI, 1024, .inl x))] := by rw [hcn]; exact hD
            refine lv_aload_n hx hb dX2_cut_69 rfl (lv_at hl 1 rfl) ?_
            refine va_get (D := D) (ci := 2) (v := .ref j1) (C := RX2) (T := TX2) (N := 4) hx hb hts (fun _ h => List.mem_cons_of_mem _ (List.mem_append_left _ (List.mem_append_left _ (List.mem_append_left _ (List.mem_append_right _ h))))) hown hK hP 0 rfl rfl 1 (by decide) (hts (.fieldLink RX2 20 "PitchTracker$Notes" "lengths" "LPitchTracker$Row;") (List.mem_of_getElem? (i := 4) rfl)) (fun _ h9 => h9) rfl dX2_cut_70 ?_
            refine lv_aload_n hx hb dX2_cut_73 rfl (lv_at hl 1 rfl) ?_
            refine va_get (D := D) (ci := 2) (v := .int (nI (t_nn pa (t_on x) (i + 1)))) (C := RX2) (T := TX2) (N := 4) hx hb hts (fun _ h => List.mem_cons_of_mem _ (List.mem_append_left _ (List.mem_append_left _ (List.mem_append_left _ (List.mem_append_right _ h))))) hown hK hP 0 rfl rfl 3 (by decide) (hts (.fieldLink RX2 26 "PitchTracker$Notes" "count" "I") (List.mem_of_getElem? (i := 1) rfl)) (fun _ h9 => h9) rfl dX2_cut_74 ?_
            refine lv_iconst (v := ((nI 1) : Int32)) hx hb dX2_cut_77 (by decide +kernel) ?_
            refine tv_isub (a := t_nn pa (t_on x) (i + 1)) (b := 1) hx hb dX2_cut_78 (by omega) ?_
            refine lv_iload hx hb dX2_cut_79 (lv_at hl 0 rfl) ?_
            refine lv_iconst (v := ((nI 1) : Int32)) hx hb dX2_cut_81 (by decide +kernel) ?_
            refine tv_iadd (a := i) (b := 1) hx hb dX2_cut_82 ?_
            refine lv_aload_n hx hb dX2_cut_83 rfl (lv_at hl 1 rfl) ?_
            refine va_get (D := D) (ci := 2) (v := .ref i1) (C := RX2) (T := TX2) (N := 4) hx hb hts (fun _ h => List.mem_cons_of_mem _ (List.mem_append_left _ (List.mem_append_left _ (List.mem_append_left _ (List.mem_append_right _ h))))) hown hK hP 0 rfl rfl 0 (by decide) (hts (.fieldLink RX2 14 "PitchTracker$Notes" "starts" "LPitchTracker$Row;") (List.mem_of_getElem? (i := 3) rfl)) (fun _ h9 => h9) rfl dX2_cut_84 ?_
            refine lv_aload_n hx hb dX2_cut_87 rfl (lv_at hl 1 rfl) ?_
            refine va_get (D := D) (ci := 2) (v := .int (nI (t_nn pa (t_on x) (i + 1)))) (C := RX2) (T := TX2) (N := 4) hx hb hts (fun _ h => List.mem_cons_of_mem _ (List.mem_append_left _ (List.mem_append_left _ (List.mem_append_left _ (List.mem_append_right _ h))))) hown hK hP 0 rfl rfl 3 (by decide) (hts (.fieldLink RX2 26 "PitchTracker$Notes" "count" "I") (List.mem_of_getElem? (i := 1) rfl)) (fun _ h9 => h9) rfl dX2_cut_88 ?_
            refine lv_iconst (v := ((nI 1) : Int32)) hx hb dX2_cut_91 (by decide +kernel) ?_
            refine tv_isub (a := t_nn pa (t_on x) (i + 1)) (b := 1) hx hb dX2_cut_92 (by omega) ?_
            have hPc := hP.sub (ws' := [(i1, .inr (4, [.ref i2])), (i2, .inl (cI, 29, .inl ((upd st1 (t_nn pa (t_on x) i) ((nI i))))))]) [1, 2] rfl
            refine vp_callSi (W.runV (As := [.int (nI ((t_nn pa (t_on x) (i + 1)) - 1))]) (rest := [.int (nI (i + 1)), .int (nI ((t_nn pa (t_on x) (i + 1)) - 1)), .ref j1]) ⟨hx, hb, hml, hown, hts⟩ (c_X4_at l D cI cL i1 i2 29 (upd st1 (t_nn pa (t_on x) i) ((nI i))) ((t_nn pa (t_on x) (i + 1)) - 1) (by omega) (by omega)) (cwV 1 hts gX2_cut_X4_at rfl rfl rfl (by decide +kernel) ⟨Nat.le_of_ble_eq_true rfl, Nat.le_of_ble_eq_true rfl⟩) ⟨t_rPc_blind, va_recv hK hPc (ci := 4) (q0 := 0) rfl rfl, fun U hU hW => ⟨rfl, by rw [hU]; exact hPc, va_K.moved hW.alike hK⟩⟩ rfl rfl hl.1 rfl (lv_room (Nat.le_of_ble_eq_true rfl)) dX2_cut_93 ⟨Nat.le_of_ble_eq_true rfl, Nat.le_of_ble_eq_true rfl⟩) (fun r_17 hr_17 => ?_)
            subst hr_17
            refine tv_re (y := (nI (t_sts pa (t_on x) (i + 1) (t_nn pa (t_on x) (i + 1) - 1)))) (t_nts_sb (ln := ln1) (of := of1) hv0 q43_9) ?_
            refine tv_isub (a := i + 1) (b := t_sts pa (t_on x) (i + 1) (t_nn pa (t_on x) (i + 1) - 1)) hx hb dX2_cut_96 (by omega) ?_
            have hPc := hP.sub (ws' := [(j1, .inr (4, [.ref j2])), (j2, .inl (cI, 29, .inl ln1))]) [3, 4] rfl
            have hDc := hD.sub (ws' := [(j1, .inr (4, [.ref j2])), (j2, .inl (cI, 29, .inl ln1))]) [3, 4] (by decide +kernel) rfl
            have hFc := va_free (wc := [(j1, .inr (4, [.ref j2])), (j2, .inl (cI, 29, .inl ln1))]) hD hS hA [3, 4] rfl
            refine va_callv (va_runV (As := [.int (nI ((t_nn pa (t_on x) (i + 1)) - 1)), .int (nI ((i + 1) - (t_sts pa (t_on x) (i + 1) (t_nn pa (t_on x) (i + 1) - 1))))]) (rest := []) ⟨hx, hb, hml, hown, hts⟩ (c_X4_put l D cI cL j1 j2 29 ln1 ((t_nn pa (t_on x) (i + 1)) - 1) ((nI ((i + 1) - (t_sts pa (t_on x) (i + 1) (t_nn pa (t_on x) (i + 1) - 1))))) (by omega) (by omega) H.size) (cwV 2 hts gX2_cut_X4_put rfl rfl rfl (by decide +kernel) ⟨Nat.le_of_ble_eq_true rfl, Nat.le_of_ble_eq_true rfl⟩) ⟨t_wPc_blind, va_recv hK hPc (ci := 4) (q0 := 0) rfl rfl, fun U hU hW => ⟨rfl, by rw [hU], by rw [hU]; exact hPc, va_K.moved hW.alike hK, hDc.weaken (fun _ _ _ _ => trivial)⟩⟩ rfl rfl hl.1 rfl (lv_room (Nat.le_of_ble_eq_true rfl)) dX2_cut_97 ⟨Nat.le_of_ble_eq_true rfl, Nat.le_of_ble_eq_true rfl⟩) hS (fun q _ h => hFc q h) hFc (fun u_19 t H1 locs ht hvm hw hB hz1 hk1 hS => ?_)
            obtain ⟨hP1, hK1, hD1⟩ := hB
            rw [ht] at hP1
            have hw : u_19 = [(j1, .inr (4, [.ref j2])), (j2, .inl (cI, 29, .inl (upd ln1 ((t_nn pa (t_on x) (i + 1)) - 1) ((nI ((i + 1) - (t_sts pa (t_on x) (i + 1) (t_nn pa (t_on x) (i + 1) - 1))))))))] := hw
            subst hw
            obtain ⟨hP, hD⟩ := va_join (wr := [(h, .inr (2, [.ref i1, .ref j1, .ref k1, .int (nI (t_nn pa (t_on x) (i + 1)))])), (i1, .inr (4, [.ref i2])), (i2, .inl (cI, 29, .inl (upd st1 (t_nn pa (t_on x) i) ((nI i))))), (k1, .inr (4, [.ref k2])), (k2, .inl (cI, 29, .inl of1)), (ph, .inr (3, [.int (nI tm), .int ba, .ref p1, .ref q1])), (q1, .inr (4, [.ref q2])), (q2, .inl (cI, 29, .inl pa)), (so, .inr (5, [.ref sa, .int (nI sn)])), (sa, .inl (cI, 1024, .inl x))]) (w1 := [(j1, .inr (4, [.ref j2])), (j2, .inl (cI, 29, .inl (upd ln1 ((t_nn pa (t_on x) (i + 1)) - 1) ((nI ((i + 1) - (t_sts pa (t_on x) (i + 1) (t_nn pa (t_on x) (i + 1) - 1))))))))]) hP hD [3, 4] [0, 1, 2, 5, 6, 7, 8, 9, 10, 11] rfl rfl (by decide +kernel) (by decide +kernel) hk1 hFc hP1 hD1
            clear hP1 hD1 hK1 hPc hDc hFc ht hvm hz1 hk1
            have hP := hP.sub (ws' := [(h, .inr (2, [.ref i1, .ref j1, .ref k1, .int (nI (t_nn pa (t_on x) (i + 1)))])), (i1, .inr (4, [.ref i2])), (i2, .inl (cI, 29, .inl (upd st1 (t_nn pa (t_on x) i) ((nI i))))), (j1, .inr (4, [.ref j2])), (j2, .inl (cI, 29, .inl (upd ln1 ((t_nn pa (t_on x) (i + 1)) - 1) ((nI ((i + 1) - (t_sts pa (t_on x) (i + 1) (t_nn pa (t_on x) (i + 1) - 1)))))))), (k1, .inr (4, [.ref k2])), (k2, .inl (cI, 29, .inl of1)), (ph, .inr (3, [.int (nI tm), .int ba, .ref p1, .ref q1])), (q1, .inr (4, [.ref q2])), (q2, .inl (cI, 29, .inl pa)), (so, .inr (5, [.ref sa, .int (nI sn)])), (sa, .inl (cI, 1024, .inl x))]) [0, 1, 2, 10, 11, 3, 4, 5, 6, 7, 8, 9] rfl
            have hD := hD.sub (ws' := [(h, .inr (2, [.ref i1, .ref j1, .ref k1, .int (nI (t_nn pa (t_on x) (i + 1)))])), (i1, .inr (4, [.ref i2])), (i2, .inl (cI, 29, .inl (upd st1 (t_nn pa (t_on x) i) ((nI i))))), (j1, .inr (4, [.ref j2])), (j2, .inl (cI, 29, .inl (upd ln1 ((t_nn pa (t_on x) (i + 1)) - 1) ((nI ((i + 1) - (t_sts pa (t_on x) (i + 1) (t_nn pa (t_on x) (i + 1) - 1)))))))), (k1, .inr (4, [.ref k2])), (k2, .inl (cI, 29, .inl of1)), (ph, .inr (3, [.int (nI tm), .int ba, .ref p1, .ref q1])), (q1, .inr (4, [.ref q2])), (q2, .inl (cI, 29, .inl pa)), (so, .inr (5, [.ref sa, .int (nI sn)])), (sa, .inl (cI, 1024, .inl x))]) [0, 1, 2, 10, 11, 3, 4, 5, 6, 7, 8, 9] (by decide +kernel) rfl
            generalize H1 = H at hP hS ⊢
            refine lv_aload_n hx hb dX2_cut_100 rfl (lv_at hl 1 rfl) ?_
            refine va_get (D := D) (ci := 2) (v := .ref k1) (C := RX2) (T := TX2) (N := 4) hx hb hts (fun _ h => List.mem_cons_of_mem _ (List.mem_append_left _ (List.mem_append_left _ (List.mem_append_left _ (List.mem_append_right _ h))))) hown hK hP 0 rfl rfl 2 (by decide) (hts (.fieldLink RX2 23 "PitchTracker$Notes" "ofFrames" "LPitchTracker$Row;") (List.mem_of_getElem? (i := 2) rfl)) (fun _ h9 => h9) rfl dX2_cut_101 ?_
            refine lv_iload hx hb dX2_cut_104 (lv_at hl 0 rfl) ?_
            refine lv_aload_n hx hb dX2_cut_106 rfl (lv_at hl 1 rfl) ?_
            refine va_get (D := D) (ci := 2) (v := .int (nI (t_nn pa (t_on x) (i + 1)))) (C := RX2) (T := TX2) (N := 4) hx hb hts (fun _ h => List.mem_cons_of_mem _ (List.mem_append_left _ (List.mem_append_left _ (List.mem_append_left _ (List.mem_append_right _ h))))) hown hK hP 0 rfl rfl 3 (by decide) (hts (.fieldLink RX2 26 "PitchTracker$Notes" "count" "I") (List.mem_of_getElem? (i := 1) rfl)) (fun _ h9 => h9) rfl dX2_cut_107 ?_
            refine lv_iconst (v := ((nI 1) : Int32)) hx hb dX2_cut_110 (by decide +kernel) ?_
            refine tv_isub (a := t_nn pa (t_on x) (i + 1)) (b := 1) hx hb dX2_cut_111 (by omega) ?_
            have hPc := hP.sub (ws' := [(k1, .inr (4, [.ref k2])), (k2, .inl (cI, 29, .inl of1))]) [5, 6] rfl
            have hDc := hD.sub (ws' := [(k1, .inr (4, [.ref k2])), (k2, .inl (cI, 29, .inl of1))]) [5, 6] (by decide +kernel) rfl
            have hFc := va_free (wc := [(k1, .inr (4, [.ref k2])), (k2, .inl (cI, 29, .inl of1))]) hD hS hA [5, 6] rfl
            refine va_callv (va_runV (As := [.int (nI i), .int (nI ((t_nn pa (t_on x) (i + 1)) - 1))]) (rest := []) ⟨hx, hb, hml, hown, hts⟩ (c_X4_put l D cI cL k1 k2 29 of1 i ((nI ((t_nn pa (t_on x) (i + 1)) - 1))) (by omega) (by omega) H.size) (cwV 2 hts gX2_cut_X4_put rfl rfl rfl (by decide +kernel) ⟨Nat.le_of_ble_eq_true rfl, Nat.le_of_ble_eq_true rfl⟩) ⟨t_wPc_blind, va_recv hK hPc (ci := 4) (q0 := 0) rfl rfl, fun U hU hW => ⟨rfl, by rw [hU], by rw [hU]; exact hPc, va_K.moved hW.alike hK, hDc.weaken (fun _ _ _ _ => trivial)⟩⟩ rfl rfl hl.1 rfl (lv_room (Nat.le_of_ble_eq_true rfl)) dX2_cut_112 ⟨Nat.le_of_ble_eq_true rfl, Nat.le_of_ble_eq_true rfl⟩) hS (fun q _ h => hFc q h) hFc (fun u_21 t H1 locs ht hvm hw hB hz1 hk1 hS => ?_)
            obtain ⟨hP1, hK1, hD1⟩ := hB
            rw [ht] at hP1
            have hw : u_21 = [(k1, .inr (4, [.ref k2])), (k2, .inl (cI, 29, .inl (upd of1 i ((nI ((t_nn pa (t_on x) (i + 1)) - 1))))))] := hw
            subst hw
            obtain ⟨hP, hD⟩ := va_join (wr := [(h, .inr (2, [.ref i1, .ref j1, .ref k1, .int (nI (t_nn pa (t_on x) (i + 1)))])), (i1, .inr (4, [.ref i2])), (i2, .inl (cI, 29, .inl (upd st1 (t_nn pa (t_on x) i) ((nI i))))), (j1, .inr (4, [.ref j2])), (j2, .inl (cI, 29, .inl (upd ln1 ((t_nn pa (t_on x) (i + 1)) - 1) ((nI ((i + 1) - (t_sts pa (t_on x) (i + 1) (t_nn pa (t_on x) (i + 1) - 1)))))))), (ph, .inr (3, [.int (nI tm), .int ba, .ref p1, .ref q1])), (q1, .inr (4, [.ref q2])), (q2, .inl (cI, 29, .inl pa)), (so, .inr (5, [.ref sa, .int (nI sn)])), (sa, .inl (cI, 1024, .inl x))]) (w1 := [(k1, .inr (4, [.ref k2])), (k2, .inl (cI, 29, .inl (upd of1 i ((nI ((t_nn pa (t_on x) (i + 1)) - 1))))))]) hP hD [5, 6] [0, 1, 2, 3, 4, 7, 8, 9, 10, 11] rfl rfl (by decide +kernel) (by decide +kernel) hk1 hFc hP1 hD1
            clear hP1 hD1 hK1 hPc hDc hFc ht hvm hz1 hk1
            have hP := hP.sub (ws' := [(h, .inr (2, [.ref i1, .ref j1, .ref k1, .int (nI (t_nn pa (t_on x) (i + 1)))])), (i1, .inr (4, [.ref i2])), (i2, .inl (cI, 29, .inl (upd st1 (t_nn pa (t_on x) i) ((nI i))))), (j1, .inr (4, [.ref j2])), (j2, .inl (cI, 29, .inl (upd ln1 ((t_nn pa (t_on x) (i + 1)) - 1) ((nI ((i + 1) - (t_sts pa (t_on x) (i + 1) (t_nn pa (t_on x) (i + 1) - 1)))))))), (k1, .inr (4, [.ref k2])), (k2, .inl (cI, 29, .inl (upd of1 i ((nI ((t_nn pa (t_on x) (i + 1)) - 1)))))), (ph, .inr (3, [.int (nI tm), .int ba, .ref p1, .ref q1])), (q1, .inr (4, [.ref q2])), (q2, .inl (cI, 29, .inl pa)), (so, .inr (5, [.ref sa, .int (nI sn)])), (sa, .inl (cI, 1024, .inl x))]) [0, 1, 2, 3, 4, 10, 11, 5, 6, 7, 8, 9] rfl
            have hD := hD.sub (ws' := [(h, .inr (2, [.ref i1, .ref j1, .ref k1, .int (nI (t_nn pa (t_on x) (i + 1)))])), (i1, .inr (4, [.ref i2])), (i2, .inl (cI, 29, .inl (upd st1 (t_nn pa (t_on x) i) ((nI i))))), (j1, .inr (4, [.ref j2])), (j2, .inl (cI, 29, .inl (upd ln1 ((t_nn pa (t_on x) (i + 1)) - 1) ((nI ((i + 1) - (t_sts pa (t_on x) (i + 1) (t_nn pa (t_on x) (i + 1) - 1)))))))), (k1, .inr (4, [.ref k2])), (k2, .inl (cI, 29, .inl (upd of1 i ((nI ((t_nn pa (t_on x) (i + 1)) - 1)))))), (ph, .inr (3, [.int (nI tm), .int ba, .ref p1, .ref q1])), (q1, .inr (4, [.ref q2])), (q2, .inl (cI, 29, .inl pa)), (so, .inr (5, [.ref sa, .int (nI sn)])), (sa, .inl (cI, 1024, .inl x))]) [0, 1, 2, 3, 4, 10, 11, 5, 6, 7, 8, 9] (by decide +kernel) rfl
            generalize H1 = H at hP hS ⊢
            refine lv_iinc (v := (nI (i + 1))) (lv' := [(4, .int (nI (i + 1))), (0, .ref h), (1, .ref ph), (2, .ref so), (3, .int (nI n))]) hx hb dX2_cut_115 hl (k := 0) rfl (nI_add i 1) (by decide) rfl (fun ls hl => ?_)
            refine lv_goto (tgt := 8) hx hb dX2_cut_118 (by decide) ?_
            exact ih_2 (i + 1) (upd st1 (t_nn pa (t_on x) i) ((nI i))) (upd ln1 ((t_nn pa (t_on x) (i + 1)) - 1) ((nI ((i + 1) - (t_sts pa (t_on x) (i + 1) (t_nn pa (t_on x) (i + 1) - 1)))))) (upd of1 i ((nI ((t_nn pa (t_on x) (i + 1)) - 1)))) (by omega) (by omega) (t_nts_vb hv0 q43_9 hv) _ _ (hP.sub [0, 1, 2, 3, 4, 5, 6, 7, 8, 9, 10, 11] rfl) (hD.sub [0, 1, 2, 3, 4, 5, 6, 7, 8, 9, 10, 11] (by decide +kernel) rfl) hS _ (lv_sub hl [0, 1, 2, 3, 4] rfl)
        · refine lv_aload_n hx hb dX2_cut_23 rfl (lv_at hl 1 rfl) ?_
          refine va_get (D := D) (ci := 2) (v := .ref k1) (C := RX2) (T := TX2) (N := 4) hx hb hts (fun _ h => List.mem_cons_of_mem _ (List.mem_append_left _ (List.mem_append_left _ (List.mem_append_left _ (List.mem_append_right _ h))))) hown hK hP 0 rfl rfl 2 (by decide) (hts (.fieldLink RX2 23 "PitchTracker$Notes" "ofFrames" "LPitchTracker$Row;") (List.mem_of_getElem? (i := 2) rfl)) (fun _ h9 => h9) rfl dX2_cut_24 ?_
          refine lv_iload hx hb dX2_cut_27 (lv_at hl 0 rfl) ?_
          refine lv_iconst (v := ((-1) : Int32)) hx hb dX2_cut_29 (by decide +kernel) ?_
          have hPc := hP.sub (ws' := [(k1, .inr (4, [.ref k2])), (k2, .inl (cI, 29, .inl of1))]) [5, 6] rfl
          have hDc := hD.sub (ws' := [(k1, .inr (4, [.ref k2])), (k2, .inl (cI, 29, .inl of1))]) [5, 6] (by decide +kernel) rfl
          have hFc := va_free (wc := [(k1, .inr (4, [.ref k2])), (k2, .inl (cI, 29, .inl of1))]) hD hS hA [5, 6] rfl
          refine va_callv (va_runV (As := [.int (nI i), .int (-1)]) (rest := []) ⟨hx, hb, hml, hown, hts⟩ (c_X4_put l D cI cL k1 k2 29 of1 i ((-1)) (by omega) (by omega) H.size) (cwV 2 hts gX2_cut_X4_put rfl rfl rfl (by decide +kernel) ⟨Nat.le_of_ble_eq_true rfl, Nat.le_of_ble_eq_true rfl⟩) ⟨t_wPc_blind, va_recv hK hPc (ci := 4) (q0 := 0) rfl rfl, fun U hU hW => ⟨rfl, by rw [hU], by rw [hU]; exact hPc, va_K.moved hW.alike hK, hDc.weaken (fun _ _ _ _ => trivial)⟩⟩ rfl rfl hl.1 rfl (lv_room (Nat.le_of_ble_eq_true rfl)) dX2_cut_30 ⟨Nat.le_of_ble_eq_true rfl, Nat.le_of_ble_eq_true rfl⟩) hS (fun q _ h => hFc q h) hFc (fun u_23 t H1 locs ht hvm hw hB hz1 hk1 hS => ?_)
          obtain ⟨hP1, hK1, hD1⟩ := hB
          rw [ht] at hP1
          have hw : u_23 = [(k1, .inr (4, [.ref k2])), (k2, .inl (cI, 29, .inl (upd of1 i ((-1)))))] := hw
          subst hw
          obtain ⟨hP, hD⟩ := va_join (wr := [(h, .inr (2, [.ref i1, .ref j1, .ref k1, .int (nI (t_nn pa (t_on x) i))])), (i1, .inr (4, [.ref i2])), (i2, .inl (cI, 29, .inl st1)), (j1, .inr (4, [.ref j2])), (j2, .inl (cI, 29, .inl ln1)), (ph, .inr (3, [.int (nI tm), .int ba, .ref p1, .ref q1])), (q1, .inr (4, [.ref q2])), (q2, .inl (cI, 29, .inl pa)), (so, .inr (5, [.ref sa, .int (nI sn)])), (sa, .inl (cI, 1024, .inl x))]) (w1 := [(k1, .inr (4, [.ref k2])), (k2, .inl (cI, 29, .inl (upd of1 i ((-1)))))]) hP hD [5, 6] [0, 1, 2, 3, 4, 7, 8, 9, 10, 11] rfl rfl (by decide +kernel) (by decide +kernel) hk1 hFc hP1 hD1
          clear hP1 hD1 hK1 hPc hDc hFc ht hvm hz1 hk1
          have hP := hP.sub (ws' := [(h, .inr (2, [.ref i1, .ref j1, .ref k1, .int (nI (t_nn pa (t_on x) i))])), (i1, .inr (4, [.ref i2])), (i2, .inl (cI, 29, .inl st1)), (j1, .inr (4, [.ref j2])), (j2, .inl (cI, 29, .inl ln1)), (k1, .inr (4, [.ref k2])), (k2, .inl (cI, 29, .inl (upd of1 i ((-1))))), (ph, .inr (3, [.int (nI tm), .int ba, .ref p1, .ref q1])), (q1, .inr (4, [.ref q2])), (q2, .inl (cI, 29, .inl pa)), (so, .inr (5, [.ref sa, .int (nI sn)])), (sa, .inl (cI, 1024, .inl x))]) [0, 1, 2, 3, 4, 10, 11, 5, 6, 7, 8, 9] rfl
          have hD := hD.sub (ws' := [(h, .inr (2, [.ref i1, .ref j1, .ref k1, .int (nI (t_nn pa (t_on x) i))])), (i1, .inr (4, [.ref i2])), (i2, .inl (cI, 29, .inl st1)), (j1, .inr (4, [.ref j2])), (j2, .inl (cI, 29, .inl ln1)), (k1, .inr (4, [.ref k2])), (k2, .inl (cI, 29, .inl (upd of1 i ((-1))))), (ph, .inr (3, [.int (nI tm), .int ba, .ref p1, .ref q1])), (q1, .inr (4, [.ref q2])), (q2, .inl (cI, 29, .inl pa)), (so, .inr (5, [.ref sa, .int (nI sn)])), (sa, .inl (cI, 1024, .inl x))]) [0, 1, 2, 3, 4, 10, 11, 5, 6, 7, 8, 9] (by decide +kernel) rfl
          generalize H1 = H at hP hS ⊢
          refine lv_goto (tgt := 115) hx hb dX2_cut_33 (by decide) ?_
          have hcn := t_nn_u (on := t_on x) (t_neg q20_7)
          have hP : va_P D vwCl [(h, .inr (2, [.ref i1, .ref j1, .ref k1, .int (nI (t_nn pa (t_on x) (i + 1)))])), (i1, .inr (4, [.ref i2])), (i2, .inl (cI, 29, .inl st1)), (j1, .inr (4, [.ref j2])), (j2, .inl (cI, 29, .inl ln1)), (k1, .inr (4, [.ref k2])), (k2, .inl (cI, 29, .inl (upd of1 i ((-1))))), (ph, .inr (3, [.int (nI tm), .int ba, .ref p1, .ref q1])), (q1, .inr (4, [.ref q2])), (q2, .inl (cI, 29, .inl pa)), (so, .inr (5, [.ref sa, .int (nI sn)])), (sa, .inl (cI, 1024, .inl x))] H := by rw [hcn]; exact hP
          have hD : va_D A [(h, .inr (2, [.ref i1, .ref j1, .ref k1, .int (nI (t_nn pa (t_on x) (i + 1)))])), (i1, .inr (4, [.ref i2])), (i2, .inl (cI, 29, .inl st1)), (j1, .inr (4, [.ref j2])), (j2, .inl (cI, 29, .inl ln1)), (k1, .inr (4, [.ref k2])), (k2, .inl (cI, 29, .inl (upd of1 i ((-1))))), (ph, .inr (3, [.int (nI tm), .int ba, .ref p1, .ref q1])), (q1, .inr (4, [.ref q2])), (q2, .inl (cI, 29, .inl pa)), (so, .inr (5, [.ref sa, .int (nI sn)])), (sa, .inl (cI, 1024, .inl x))] := by rw [hcn]; exact hD
          refine lv_iinc (v := (nI (i + 1))) (lv' := [(4, .int (nI (i + 1))), (0, .ref h), (1, .ref ph), (2, .ref so), (3, .int (nI n))]) hx hb dX2_cut_115 hl (k := 0) rfl (nI_add i 1) (by decide) rfl (fun ls hl => ?_)
          refine lv_goto (tgt := 8) hx hb dX2_cut_118 (by decide) ?_
          exact ih_2 (i + 1) st1 ln1 (upd of1 i ((-1))) (by omega) (by omega) (t_nts_u (t_neg q20_7) hv) _ _ (hP.sub [0, 1, 2, 3, 4, 5, 6, 7, 8, 9, 10, 11] rfl) (hD.sub [0, 1, 2, 3, 4, 5, 6, 7, 8, 9, 10, 11] (by decide +kernel) rfl) hS _ (lv_sub hl [0, 1, 2, 3, 4] rfl)
  exact loop_1 (n - 0 + 1) 0 st ln of (Nat.lt_succ_self _) (Nat.zero_le _) t_nts_0 _ _ (hP.sub [0, 1, 2, 3, 4, 5, 6, 7, 8, 9, 10, 11] rfl) (hD.sub [0, 1, 2, 3, 4, 5, 6, 7, 8, 9, 10, 11] (by decide +kernel) rfl) hS _ (lv_sub hl [0, 1, 2, 3, 4] rfl)
