set_option maxHeartbeats 4000000 in
set_option maxRecDepth 100000 in
theorem c_X0_init (l : Launch) (D : va_G) (cI cL : ClassId) (h : Nat) (sz : Nat) : Met l yX0_init wsX0_init ({ frames := 3, cells := 6, slots := 556, locals := 120 }) (t_wPc D cI cL [.ref h] [(h, .inr (0, [.null, .null, .null, .int (nI 0), .int (nI 0)]))] sz) (t_Qv D cI cL (fun w1 => ∃ c1 : Nat, ∃ cb : Nat, ∃ l1 : Nat, ∃ lb : Nat, ∃ o1 : Nat, ∃ ob : Nat, w1 = [(h, .inr (0, [.ref c1, .ref l1, .ref o1, .int ((nI 20)), .int (nI 0)])), (c1, .inr (4, [.ref cb])), (cb, .inl (cI, 29, .inl (fun _ => nI 0))), (l1, .inr (6, [.int (nI 9), .ref lb])), (lb, .inl (cI, 261, .inl (fun _ => nI 0))), (o1, .inr (6, [.int (nI 9), .ref ob])), (ob, .inl (cI, 261, .inl (fun _ => nI 0)))]) (va_A [(h, .inr (0, [.null, .null, .null, .int (nI 0), .int (nI 0)]))] sz)) 6 556 (va_A [(h, .inr (0, [.null, .null, .null, .int (nI 0), .int (nI 0)]))] sz) := by
  refine t_ofW (Qc := t_Qv D cI cL (fun w1 => ∃ c1 : Nat, ∃ cb : Nat, ∃ l1 : Nat, ∃ lb : Nat, ∃ o1 : Nat, ∃ ob : Nat, w1 = [(h, .inr (0, [.ref c1, .ref l1, .ref o1, .int ((nI 20)), .int (nI 0)])), (c1, .inr (4, [.ref cb])), (cb, .inl (cI, 29, .inl (fun _ => nI 0))), (l1, .inr (6, [.int (nI 9), .ref lb])), (lb, .inl (cI, 261, .inl (fun _ => nI 0))), (o1, .inr (6, [.int (nI 9), .ref ob])), (ob, .inl (cI, 261, .inl (fun _ => nI 0)))])) (by decide) rfl (Nat.le_of_ble_eq_true rfl) ?_
  intro p e s m below meth c ls A hx hb hml hown hts hr hlocks hin hK hP hD hS hA hl
  have hown : s.vm.findClass RX0 = some m.cls := hown
  have hl : lv_has ls 1 [(0, .ref h)] := hl
  refine lv_aload_n hx hb dX0_init_0 rfl (lv_at hl 0 rfl) ?_
  refine W.objInit hx hb hown (hts (.methodLink RX0 3 objectInit) (List.mem_of_getElem? (i := 1) rfl)) (hts (.instanceMethod objectInit) (List.mem_of_getElem? (i := 2) rfl)) (hts (.code objectInit ⟨#[0xb1]⟩ 1 none) (List.mem_of_getElem? (i := 3) rfl)) rfl (by rw [hml]; exact hl.1) rfl dX0_init_1 (Nat.le_of_ble_eq_true rfl) (Nat.le_of_ble_eq_true rfl) ?_
  refine W.eq (g2 := F0 m 4 ls []) rfl ?_
  refine lv_aload_n hx hb dX0_init_4 rfl (lv_at hl 0 rfl) ?_
  refine va_new (ci := 4) (fs := [.null]) (C := RX4) (T := TX4) (N := 1) hx hb hts (fun _ h => List.mem_cons_of_mem _ (List.mem_append_left _ (List.mem_append_left _ (List.mem_append_right _ h)))) tyX4 tyX4_ok hown (hts (.classLink RX0 9 RX4) (List.mem_of_getElem? (i := 4) rfl)) (hts (.instantiable RX4 1) (List.mem_of_getElem? (i := 5) rfl)) (hts (.initialized RX4) (List.mem_of_getElem? (i := 6) rfl)) hK hP hD hS hA rfl (fun j hj => by rcases (show j = 0 by omega) with rfl <;> rfl) (Nat.le_of_ble_eq_true rfl) (Nat.le_of_ble_eq_true rfl) dX0_init_5 (fun b_1 H hP hD hS => ?_)
  have hP : va_P D vwCl [(h, .inr (0, [.null, .null, .null, .int (nI 0), .int (nI 0)])), (b_1, .inr (4, [.null]))] H := hP
  have hD : va_D A [(h, .inr (0, [.null, .null, .null, .int (nI 0), .int (nI 0)])), (b_1, .inr (4, [.null]))] := hD
  refine W.widen (k := 1) (n := 1) (by omega) (by omega) ?_
  refine lv_dup hx hb dX0_init_8 rfl ?_
  refine lv_bipush (v := ((nI 29) : Int32)) hx hb dX0_init_9 (by decide +kernel) ?_
  have hPc := hP.sub (ws' := [(b_1, .inr (4, [.null]))]) [1] rfl
  have hDc := hD.sub (ws' := [(b_1, .inr (4, [.null]))]) [1] (by decide +kernel) rfl
  have hFc := va_free (wc := [(b_1, .inr (4, [.null]))]) hD hS hA [1] rfl
  refine va_callv (va_runI (As := [.int (nI 29)]) (rest := [.ref b_1, .ref h]) ⟨hx, hb, hml, hown, hts⟩ (c_X4_init_29 l D cI cL b_1 H.size) (cwI 1 hts gX0_init_X4_init rfl rfl rfl (hts (.initialized RX4) (List.mem_of_getElem? (i := 6) rfl)) (hts (.methodLink RX0 11 yX4_init) (List.mem_of_getElem? (i := 14) rfl)) (hts (.instanceMethod yX4_init) (List.mem_of_getElem? (i := 15) rfl)) rfl (by decide +kernel) ⟨Nat.le_of_ble_eq_true rfl, Nat.le_of_ble_eq_true rfl⟩) ⟨t_wPc_blind, fun U hU hW => ⟨rfl, by rw [hU], by rw [hU]; exact hPc, va_K.moved hW.alike hK, hDc.weaken (fun _ _ _ _ => trivial)⟩⟩ rfl rfl hl.1 rfl (lv_room (Nat.le_of_ble_eq_true rfl)) dX0_init_11 ⟨Nat.le_of_ble_eq_true rfl, Nat.le_of_ble_eq_true rfl⟩) hS (fun q _ h => hFc q h) hFc (fun u_3 t H1 locs ht hvm hw hB hz1 hk1 hS => ?_)
  obtain ⟨hP1, hK1, hD1⟩ := hB
  rw [ht] at hP1
  obtain ⟨b_4, hw⟩ := hw
  have hw : u_3 = [(b_1, .inr (4, [.ref b_4])), (b_4, .inl (cI, 29, .inl (fun _ => nI 0)))] := hw
  subst hw
  obtain ⟨hP, hD⟩ := va_join (wr := [(h, .inr (0, [.null, .null, .null, .int (nI 0), .int (nI 0)]))]) (w1 := [(b_1, .inr (4, [.ref b_4])), (b_4, .inl (cI, 29, .inl (fun _ => nI 0)))]) hP hD [1] [0] rfl rfl (by decide +kernel) (by decide +kernel) hk1 hFc hP1 hD1
  clear hP1 hD1 hK1 hPc hDc hFc ht hvm hz1 hk1
  have hP : va_P D vwCl [(h, .inr (0, [.null, .null, .null, .int (nI 0), .int (nI 0)])), (b_1, .inr (4, [.ref b_4])), (b_4, .inl (cI, 29, .inl (fun _ => nI 0)))] H1 := hP
  have hD : va_D A [(h, .inr (0, [.null, .null, .null, .int (nI 0), .int (nI 0)])), (b_1, .inr (4, [.ref b_4])), (b_4, .inl (cI, 29, .inl (fun _ => nI 0)))] := hD
  generalize H1 = H at hP hS ⊢
  refine W.widen (k := 2) (n := 30) (by omega) (by omega) ?_
  refine va_putF (D := D) (ci := 0) (v := .ref b_1) (ty := .object "PitchTracker$Row") (C := RX0) (T := TX0) (N := 5) hx hb hts (fun _ h => List.mem_cons_of_mem _ (List.mem_append_left _ (List.mem_append_right _ h))) tyX0 tyX0_ok nmX0 hown hK hP hD hS 0 rfl rfl 0 (by decide) (hts (.fieldLink RX0 14 "PitchTracker$Candidates" "counts" "LPitchTracker$Row;") (List.mem_of_getElem? (i := 7) rfl)) (fun _ h9 => h9) rfl hin rfl (by decide +kernel) rfl rfl (Nat.le_of_ble_eq_true rfl) dX0_init_14 (fun H locs hP hD hS => ?_)
  have hP : va_P D vwCl [(h, .inr (0, [.ref b_1, .null, .null, .int (nI 0), .int (nI 0)])), (b_1, .inr (4, [.ref b_4])), (b_4, .inl (cI, 29, .inl (fun _ => nI 0)))] H := hP
  have hD : va_D A [(h, .inr (0, [.ref b_1, .null, .null, .int (nI 0), .int (nI 0)])), (b_1, .inr (4, [.ref b_4])), (b_4, .inl (cI, 29, .inl (fun _ => nI 0)))] := hD
  refine lv_aload_n hx hb dX0_init_17 rfl (lv_at hl 0 rfl) ?_
  refine va_new (ci := 6) (fs := [.int (nI 0), .null]) (C := RX6) (T := TX6) (N := 2) hx hb hts (fun _ h => List.mem_cons_of_mem _ (List.mem_append_right _ h)) tyX6 tyX6_ok hown (hts (.classLink RX0 20 RX6) (List.mem_of_getElem? (i := 8) rfl)) (hts (.instantiable RX6 2) (List.mem_of_getElem? (i := 9) rfl)) (hts (.initialized RX6) (List.mem_of_getElem? (i := 10) rfl)) hK hP hD hS hA rfl (fun j hj => by rcases (show j = 0 ∨ j = 1 by omega) with rfl | rfl <;> rfl) (Nat.le_of_ble_eq_true rfl) (Nat.le_of_ble_eq_true rfl) dX0_init_18 (fun b_5 H hP hD hS => ?_)
  have hP : va_P D vwCl [(h, .inr (0, [.ref b_1, .null, .null, .int (nI 0), .int (nI 0)])), (b_1, .inr (4, [.ref b_4])), (b_4, .inl (cI, 29, .inl (fun _ => nI 0))), (b_5, .inr (6, [.int (nI 0), .null]))] H := hP
  have hD : va_D A [(h, .inr (0, [.ref b_1, .null, .null, .int (nI 0), .int (nI 0)])), (b_1, .inr (4, [.ref b_4])), (b_4, .inl (cI, 29, .inl (fun _ => nI 0))), (b_5, .inr (6, [.int (nI 0), .null]))] := hD
  refine W.widen (k := 3) (n := 32) (by omega) (by omega) ?_
  refine lv_dup hx hb dX0_init_21 rfl ?_
  refine lv_bipush (v := ((nI 9) : Int32)) hx hb dX0_init_22 (by decide +kernel) ?_
  have hPc := hP.sub (ws' := [(b_5, .inr (6, [.int (nI 0), .null]))]) [3] rfl
  have hDc := hD.sub (ws' := [(b_5, .inr (6, [.int (nI 0), .null]))]) [3] (by decide +kernel) rfl
  have hFc := va_free (wc := [(b_5, .inr (6, [.int (nI 0), .null]))]) hD hS hA [3] rfl
  refine va_callv (va_runI (As := [.int (nI 9)]) (rest := [.ref b_5, .ref h]) ⟨hx, hb, hml, hown, hts⟩ (c_X6_init_9 l D cI cL b_5 H.size) (cwI 1 hts gX0_init_X6_init rfl rfl rfl (hts (.initialized RX6) (List.mem_of_getElem? (i := 10) rfl)) (hts (.methodLink RX0 22 yX6_init) (List.mem_of_getElem? (i := 20) rfl)) (hts (.instanceMethod yX6_init) (List.mem_of_getElem? (i := 21) rfl)) rfl (by decide +kernel) ⟨Nat.le_of_ble_eq_true rfl, Nat.le_of_ble_eq_true rfl⟩) ⟨t_wPc_blind, fun U hU hW => ⟨rfl, by rw [hU], by rw [hU]; exact hPc, va_K.moved hW.alike hK, hDc.weaken (fun _ _ _ _ => trivial)⟩⟩ rfl rfl hl.1 rfl (lv_room (Nat.le_of_ble_eq_true rfl)) dX0_init_24 ⟨Nat.le_of_ble_eq_true rfl, Nat.le_of_ble_eq_true rfl⟩) hS (fun q _ h => hFc q h) hFc (fun u_7 t H1 locs ht hvm hw hB hz1 hk1 hS => ?_)
  obtain ⟨hP1, hK1, hD1⟩ := hB
  rw [ht] at hP1
  obtain ⟨b_8, hw⟩ := hw
  have hw : u_7 = [(b_5, .inr (6, [.int (nI 9), .ref b_8])), (b_8, .inl (cI, 261, .inl (fun _ => nI 0)))] := hw
  subst hw
  obtain ⟨hP, hD⟩ := va_join (wr := [(h, .inr (0, [.ref b_1, .null, .null, .int (nI 0), .int (nI 0)])), (b_1, .inr (4, [.ref b_4])), (b_4, .inl (cI, 29, .inl (fun _ => nI 0)))]) (w1 := [(b_5, .inr (6, [.int (nI 9), .ref b_8])), (b_8, .inl (cI, 261, .inl (fun _ => nI 0)))]) hP hD [3] [0, 1, 2] rfl rfl (by decide +kernel) (by decide +kernel) hk1 hFc hP1 hD1
  clear hP1 hD1 hK1 hPc hDc hFc ht hvm hz1 hk1
  have hP : va_P D vwCl [(h, .inr (0, [.ref b_1, .null, .null, .int (nI 0), .int (nI 0)])), (b_1, .inr (4, [.ref b_4])), (b_4, .inl (cI, 29, .inl (fun _ => nI 0))), (b_5, .inr (6, [.int (nI 9), .ref b_8])), (b_8, .inl (cI, 261, .inl (fun _ => nI 0)))] H1 := hP
  have hD : va_D A [(h, .inr (0, [.ref b_1, .null, .null, .int (nI 0), .int (nI 0)])), (b_1, .inr (4, [.ref b_4])), (b_4, .inl (cI, 29, .inl (fun _ => nI 0))), (b_5, .inr (6, [.int (nI 9), .ref b_8])), (b_8, .inl (cI, 261, .inl (fun _ => nI 0)))] := hD
  generalize H1 = H at hP hS ⊢
  refine W.widen (k := 4) (n := 293) (by omega) (by omega) ?_
  refine va_putF (D := D) (ci := 0) (v := .ref b_5) (ty := .object "PitchTracker$Table") (C := RX0) (T := TX0) (N := 5) hx hb hts (fun _ h => List.mem_cons_of_mem _ (List.mem_append_left _ (List.mem_append_right _ h))) tyX0 tyX0_ok nmX0 hown hK hP hD hS 0 rfl rfl 1 (by decide) (hts (.fieldLink RX0 23 "PitchTracker$Candidates" "lags" "LPitchTracker$Table;") (List.mem_of_getElem? (i := 11) rfl)) (fun _ h9 => h9) rfl hin rfl (by decide +kernel) rfl rfl (Nat.le_of_ble_eq_true rfl) dX0_init_27 (fun H locs hP hD hS => ?_)
  have hP : va_P D vwCl [(h, .inr (0, [.ref b_1, .ref b_5, .null, .int (nI 0), .int (nI 0)])), (b_1, .inr (4, [.ref b_4])), (b_4, .inl (cI, 29, .inl (fun _ => nI 0))), (b_5, .inr (6, [.int (nI 9), .ref b_8])), (b_8, .inl (cI, 261, .inl (fun _ => nI 0)))] H := hP
  have hD : va_D A [(h, .inr (0, [.ref b_1, .ref b_5, .null, .int (nI 0), .int (nI 0)])), (b_1, .inr (4, [.ref b_4])), (b_4, .inl (cI, 29, .inl (fun _ => nI 0))), (b_5, .inr (6, [.int (nI 9), .ref b_8])), (b_8, .inl (cI, 261, .inl (fun _ => nI 0)))] := hD
  refine lv_aload_n hx hb dX0_init_30 rfl (lv_at hl 0 rfl) ?_
  refine va_new (ci := 6) (fs := [.int (nI 0), .null]) (C := RX6) (T := TX6) (N := 2) hx hb hts (fun _ h => List.mem_cons_of_mem _ (List.mem_append_right _ h)) tyX6 tyX6_ok hown (hts (.classLink RX0 20 RX6) (List.mem_of_getElem? (i := 8) rfl)) (hts (.instantiable RX6 2) (List.mem_of_getElem? (i := 9) rfl)) (hts (.initialized RX6) (List.mem_of_getElem? (i := 10) rfl)) hK hP hD hS hA rfl (fun j hj => by rcases (show j = 0 ∨ j = 1 by omega) with rfl | rfl <;> rfl) (Nat.le_of_ble_eq_true rfl) (Nat.le_of_ble_eq_true rfl) dX0_init_31 (fun b_9 H hP hD hS => ?_)
  have hP : va_P D vwCl [(h, .inr (0, [.ref b_1, .ref b_5, .null, .int (nI 0), .int (nI 0)])), (b_1, .inr (4, [.ref b_4])), (b_4, .inl (cI, 29, .inl (fun _ => nI 0))), (b_5, .inr (6, [.int (nI 9), .ref b_8])), (b_8, .inl (cI, 261, .inl (fun _ => nI 0))), (b_9, .inr (6, [.int (nI 0), .null]))] H := hP
  have hD : va_D A [(h, .inr (0, [.ref b_1, .ref b_5, .null, .int (nI 0), .int (nI 0)])), (b_1, .inr (4, [.ref b_4])), (b_4, .inl (cI, 29, .inl (fun _ => nI 0))), (b_5, .inr (6, [.int (nI 9), .ref b_8])), (b_8, .inl (cI, 261, .inl (fun _ => nI 0))), (b_9, .inr (6, [.int (nI 0), .null]))] := hD
  refine W.widen (k := 5) (n := 295) (by omega) (by omega) ?_
  refine lv_dup hx hb dX0_init_34 rfl ?_
  refine lv_bipush (v := ((nI 9) : Int32)) hx hb dX0_init_35 (by decide +kernel) ?_
  have hPc := hP.sub (ws' := [(b_9, .inr (6, [.int (nI 0), .null]))]) [5] rfl
  have hDc := hD.sub (ws' := [(b_9, .inr (6, [.int (nI 0), .null]))]) [5] (by decide +kernel) rfl
  have hFc := va_free (wc := [(b_9, .inr (6, [.int (nI 0), .null]))]) hD hS hA [5] rfl
  refine va_callv (va_runI (As := [.int (nI 9)]) (rest := [.ref b_9, .ref h]) ⟨hx, hb, hml, hown, hts⟩ (c_X6_init_9 l D cI cL b_9 H.size) (cwI 1 hts gX0_init_X6_init rfl rfl rfl (hts (.initialized RX6) (List.mem_of_getElem? (i := 10) rfl)) (hts (.methodLink RX0 22 yX6_init) (List.mem_of_getElem? (i := 20) rfl)) (hts (.instanceMethod yX6_init) (List.mem_of_getElem? (i := 21) rfl)) rfl (by decide +kernel) ⟨Nat.le_of_ble_eq_true rfl, Nat.le_of_ble_eq_true rfl⟩) ⟨t_wPc_blind, fun U hU hW => ⟨rfl, by rw [hU], by rw [hU]; exact hPc, va_K.moved hW.alike hK, hDc.weaken (fun _ _ _ _ => trivial)⟩⟩ rfl rfl hl.1 rfl (lv_room (Nat.le_of_ble_eq_true rfl)) dX0_init_37 ⟨Nat.le_of_ble_eq_true rfl, Nat.le_of_ble_eq_true rfl⟩) hS (fun q _ h => hFc q h) hFc (fun u_11 t H1 locs ht hvm hw hB hz1 hk1 hS => ?_)
  obtain ⟨hP1, hK1, hD1⟩ := hB
  rw [ht] at hP1
  obtain ⟨b_12, hw⟩ := hw
  have hw : u_11 = [(b_9, .inr (6, [.int (nI 9), .ref b_12])), (b_12, .inl (cI, 261, .inl (fun _ => nI 0)))] := hw
  subst hw
  obtain ⟨hP, hD⟩ := va_join (wr := [(h, .inr (0, [.ref b_1, .ref b_5, .null, .int (nI 0), .int (nI 0)])), (b_1, .inr (4, [.ref b_4])), (b_4, .inl (cI, 29, .inl (fun _ => nI 0))), (b_5, .inr (6, [.int (nI 9), .ref b_8])), (b_8, .inl (cI, 261, .inl (fun _ => nI 0)))]) (w1 := [(b_9, .inr (6, [.int (nI 9), .ref b_12])), (b_12, .inl (cI, 261, .inl (fun _ => nI 0)))]) hP hD [5] [0, 1, 2, 3, 4] rfl rfl (by decide +kernel) (by decide +kernel) hk1 hFc hP1 hD1
  clear hP1 hD1 hK1 hPc hDc hFc ht hvm hz1 hk1
  have hP : va_P D vwCl [(h, .inr (0, [.ref b_1, .ref b_5, .null, .int (nI 0), .int (nI 0)])), (b_1, .inr (4, [.ref b_4])), (b_4, .inl (cI, 29, .inl (fun _ => nI 0))), (b_5, .inr (6, [.int (nI 9), .ref b_8])), (b_8, .inl (cI, 261, .inl (fun _ => nI 0))), (b_9, .inr (6, [.int (nI 9), .ref b_12])), (b_12, .inl (cI, 261, .inl (fun _ => nI 0)))] H1 := hP
  have hD : va_D A [(h, .inr (0, [.ref b_1, .ref b_5, .null, .int (nI 0), .int (nI 0)])), (b_1, .inr (4, [.ref b_4])), (b_4, .inl (cI, 29, .inl (fun _ => nI 0))), (b_5, .inr (6, [.int (nI 9), .ref b_8])), (b_8, .inl (cI, 261, .inl (fun _ => nI 0))), (b_9, .inr (6, [.int (nI 9), .ref b_12])), (b_12, .inl (cI, 261, .inl (fun _ => nI 0)))] := hD
  generalize H1 = H at hP hS ⊢
  refine W.widen (k := 6) (n := 556) (by omega) (by omega) ?_
  refine va_putF (D := D) (ci := 0) (v := .ref b_9) (ty := .object "PitchTracker$Table") (C := RX0) (T := TX0) (N := 5) hx hb hts (fun _ h => List.mem_cons_of_mem _ (List.mem_append_left _ (List.mem_append_right _ h))) tyX0 tyX0_ok nmX0 hown hK hP hD hS 0 rfl rfl 2 (by decide) (hts (.fieldLink RX0 27 "PitchTracker$Candidates" "costs" "LPitchTracker$Table;") (List.mem_of_getElem? (i := 12) rfl)) (fun _ h9 => h9) rfl hin rfl (by decide +kernel) rfl rfl (Nat.le_of_ble_eq_true rfl) dX0_init_40 (fun H locs hP hD hS => ?_)
  have hP : va_P D vwCl [(h, .inr (0, [.ref b_1, .ref b_5, .ref b_9, .int (nI 0), .int (nI 0)])), (b_1, .inr (4, [.ref b_4])), (b_4, .inl (cI, 29, .inl (fun _ => nI 0))), (b_5, .inr (6, [.int (nI 9), .ref b_8])), (b_8, .inl (cI, 261, .inl (fun _ => nI 0))), (b_9, .inr (6, [.int (nI 9), .ref b_12])), (b_12, .inl (cI, 261, .inl (fun _ => nI 0)))] H := hP
  have hD : va_D A [(h, .inr (0, [.ref b_1, .ref b_5, .ref b_9, .int (nI 0), .int (nI 0)])), (b_1, .inr (4, [.ref b_4])), (b_4, .inl (cI, 29, .inl (fun _ => nI 0))), (b_5, .inr (6, [.int (nI 9), .ref b_8])), (b_8, .inl (cI, 261, .inl (fun _ => nI 0))), (b_9, .inr (6, [.int (nI 9), .ref b_12])), (b_12, .inl (cI, 261, .inl (fun _ => nI 0)))] := hD
  refine lv_aload_n hx hb dX0_init_43 rfl (lv_at hl 0 rfl) ?_
  refine lv_bipush (v := ((nI 20) : Int32)) hx hb dX0_init_44 (by decide +kernel) ?_
  refine va_put (D := D) (ci := 0) (v := .int (nI 20)) (ty := .int) (C := RX0) (T := TX0) (N := 5) hx hb hts (fun _ h => List.mem_cons_of_mem _ (List.mem_append_left _ (List.mem_append_right _ h))) tyX0 tyX0_ok nmX0 hown hK hP hD hS 0 rfl rfl 3 (by decide) (hts (.fieldLink RX0 30 "PitchTracker$Candidates" "threshold" "I") (List.mem_of_getElem? (i := 13) rfl)) (fun _ h9 => h9) rfl (by decide +kernel) rfl rfl (Nat.le_of_ble_eq_true rfl) dX0_init_46 (fun H locs hP hD hS => ?_)
  have hP : va_P D vwCl [(h, .inr (0, [.ref b_1, .ref b_5, .ref b_9, .int (nI 20), .int (nI 0)])), (b_1, .inr (4, [.ref b_4])), (b_4, .inl (cI, 29, .inl (fun _ => nI 0))), (b_5, .inr (6, [.int (nI 9), .ref b_8])), (b_8, .inl (cI, 261, .inl (fun _ => nI 0))), (b_9, .inr (6, [.int (nI 9), .ref b_12])), (b_12, .inl (cI, 261, .inl (fun _ => nI 0)))] H := hP
  have hD : va_D A [(h, .inr (0, [.ref b_1, .ref b_5, .ref b_9, .int (nI 20), .int (nI 0)])), (b_1, .inr (4, [.ref b_4])), (b_4, .inl (cI, 29, .inl (fun _ => nI 0))), (b_5, .inr (6, [.int (nI 9), .ref b_8])), (b_8, .inl (cI, 261, .inl (fun _ => nI 0))), (b_9, .inr (6, [.int (nI 9), .ref b_12])), (b_12, .inl (cI, 261, .inl (fun _ => nI 0)))] := hD
  have hP9 := hP
  have hD9 := hD
  exact W.vret hx hb hr (fun t ht hW => ⟨⟨[(h, .inr (0, [.ref b_1, .ref b_5, .ref b_9, .int (nI 20), .int (nI 0)])), (b_1, .inr (4, [.ref b_4])), (b_4, .inl (cI, 29, .inl (fun _ => nI 0))), (b_5, .inr (6, [.int (nI 9), .ref b_8])), (b_8, .inl (cI, 261, .inl (fun _ => nI 0))), (b_9, .inr (6, [.int (nI 9), .ref b_12])), (b_12, .inl (cI, 261, .inl (fun _ => nI 0)))], rfl, ⟨b_1, b_4, b_5, b_8, b_9, b_12, rfl⟩, ⟨by rw [ht]; exact hP9, va_K.moved hW.alike hK, hD9⟩⟩, hS.F ht⟩) hS.2.2 dX0_init_49 hlocks

set_option maxHeartbeats 4000000 in
set_option maxRecDepth 100000 in
theorem c_X0_threshold (l : Launch) (D : va_G) (cI cL : ClassId) (h c1 l1 o1 cf : Nat) (th : Int32) : Met l yX0_threshold wsX0_threshold ({ frames := 0, cells := 0, slots := 0, locals := 0 }) (t_rPc D cI cL [.ref h] [(h, .inr (0, [.ref c1, .ref l1, .ref o1, .int th, .int (nI cf)]))]) (vp_Si (fun r => r = th)) 0 0 (fun _ => False) := by
  refine t_ofR (by decide) rfl (Nat.le_of_ble_eq_true rfl) ?_
  intro p e s m below meth c ls hx hb hml hown hts hr hlocks hK hP hl
  have hown : s.vm.findClass RX0 = some m.cls := hown
  have hl : lv_has ls 1 [(0, .ref h)] := hl
  refine lv_aload_n hx hb dX0_threshold_0 rfl (lv_at hl 0 rfl) ?_
  refine va_get (D := D) (ci := 0) (v := .int th) (C := RX0) (T := TX0) (N := 5) hx hb hts (fun _ h => List.mem_cons_of_mem _ (List.mem_append_right _ h)) hown hK hP 0 rfl rfl 3 (by decide) (hts (.fieldLink RX0 30 "PitchTracker$Candidates" "threshold" "I") (List.mem_of_getElem? (i := 1) rfl)) (fun _ h9 => h9) rfl dX0_threshold_1 ?_
  exact W.iret (v := th) hx hb hr (fun t ht hW => ⟨_, rfl, rfl, ht⟩) (fun q h => by cases h) dX0_threshold_4 hlocks

set_option maxHeartbeats 4000000 in
set_option maxRecDepth 100000 in
theorem c_X0_forget (l : Launch) (D : va_G) (cI cL : ClassId) (h c1 l1 o1 cf : Nat) (th : Int32) (sz : Nat) : Met l yX0_forget wsX0_forget ({ frames := 0, cells := 0, slots := 0, locals := 0 }) (t_wPc D cI cL [.ref h] [(h, .inr (0, [.ref c1, .ref l1, .ref o1, .int th, .int (nI cf)]))] sz) (t_Qv D cI cL (fun w1 => w1 = [(h, .inr (0, [.ref c1, .ref l1, .ref o1, .int th, .int (nI 0)]))]) (va_A [(h, .inr (0, [.ref c1, .ref l1, .ref o1, .int th, .int (nI cf)]))] sz)) 0 0 (va_A [(h, .inr (0, [.ref c1, .ref l1, .ref o1, .int th, .int (nI cf)]))] sz) := by
  refine t_ofW (Qc := t_Qv D cI cL (fun w1 => w1 = [(h, .inr (0, [.ref c1, .ref l1, .ref o1, .int th, .int (nI 0)]))])) (by decide) rfl (Nat.le_of_ble_eq_true rfl) ?_
  intro p e s m below meth c ls A hx hb hml hown hts hr hlocks hin hK hP hD hS hA hl
  have hown : s.vm.findClass RX0 = some m.cls := hown
  have hl : lv_has ls 1 [(0, .ref h)] := hl
  refine lv_aload_n hx hb dX0_forget_0 rfl (lv_at hl 0 rfl) ?_
  refine lv_iconst (v := ((nI 0) : Int32)) hx hb dX0_forget_1 (by decide +kernel) ?_
  refine va_put (D := D) (ci := 0) (v := .int (nI 0)) (ty := .int) (C := RX0) (T := TX0) (N := 5) hx hb hts (fun _ h => List.mem_cons_of_mem _ (List.mem_append_right _ h)) tyX0 tyX0_ok nmX0 hown hK hP hD hS 0 rfl rfl 4 (by decide) (hts (.fieldLink RX0 37 "PitchTracker$Candidates" "chosenFrames" "I") (List.mem_of_getElem? (i := 1) rfl)) (fun _ h9 => h9) rfl (by decide +kernel) rfl rfl (Nat.le_of_ble_eq_true rfl) dX0_forget_2 (fun H locs hP hD hS => ?_)
  have hP : va_P D vwCl [(h, .inr (0, [.ref c1, .ref l1, .ref o1, .int th, .int (nI 0)]))] H := hP
  have hD : va_D A [(h, .inr (0, [.ref c1, .ref l1, .ref o1, .int th, .int (nI 0)]))] := hD
  have hP9 := hP
  have hD9 := hD
  exact W.vret hx hb hr (fun t ht hW => ⟨⟨[(h, .inr (0, [.ref c1, .ref l1, .ref o1, .int th, .int (nI 0)]))], rfl, rfl, ⟨by rw [ht]; exact hP9, va_K.moved hW.alike hK, hD9⟩⟩, hS.F ht⟩) hS.2.2 dX0_forget_5 hlocks

set_option maxHeartbeats 4000000 in
set_option maxRecDepth 100000 in
theorem c_X0_useThreshold (l : Launch) (D : va_G) (cI cL : ClassId) (h c1 l1 o1 cf : Nat) (th x : Int32) (sz : Nat) : Met l yX0_useThreshold wsX0_useThreshold ({ frames := 1, cells := 0, slots := 0, locals := 40 }) (t_wPc D cI cL [.ref h, .int x] [(h, .inr (0, [.ref c1, .ref l1, .ref o1, .int th, .int (nI cf)]))] sz) (t_Qv D cI cL (fun w1 => w1 = [(h, .inr (0, [.ref c1, .ref l1, .ref o1, .int x, .int (nI 0)]))]) (va_A [(h, .inr (0, [.ref c1, .ref l1, .ref o1, .int th, .int (nI cf)]))] sz)) 0 0 (va_A [(h, .inr (0, [.ref c1, .ref l1, .ref o1, .int th, .int (nI cf)]))] sz) := by
  refine t_ofW (Qc := t_Qv D cI cL (fun w1 => w1 = [(h, .inr (0, [.ref c1, .ref l1, .ref o1, .int x, .int (nI 0)]))])) (by decide) rfl (Nat.le_of_ble_eq_true rfl) ?_
  intro p e s m below meth c ls A hx hb hml hown hts hr hlocks hin hK hP hD hS hA hl
  have hown : s.vm.findClass RX0 = some m.cls := hown
  have hl : lv_has ls 2 [(0, .ref h), (1, .int x)] := hl
  refine lv_aload_n hx hb dX0_useThreshold_0 rfl (lv_at hl 0 rfl) ?_
  refine lv_iload_n hx hb dX0_useThreshold_1 rfl (lv_at hl 1 rfl) ?_
  refine va_put (D := D) (ci := 0) (v := .int x) (ty := .int) (C := RX0) (T := TX0) (N := 5) hx hb hts (fun _ h => List.mem_cons_of_mem _ (List.mem_append_right _ h)) tyX0 tyX0_ok nmX0 hown hK hP hD hS 0 rfl rfl 3 (by decide) (hts (.fieldLink RX0 30 "PitchTracker$Candidates" "threshold" "I") (List.mem_of_getElem? (i := 1) rfl)) (fun _ h9 => h9) rfl (by decide +kernel) rfl rfl (Nat.le_of_ble_eq_true rfl) dX0_useThreshold_2 (fun H locs hP hD hS => ?_)
  have hP : va_P D vwCl [(h, .inr (0, [.ref c1, .ref l1, .ref o1, .int x, .int (nI cf)]))] H := hP
  have hD : va_D A [(h, .inr (0, [.ref c1, .ref l1, .ref o1, .int x, .int (nI cf)]))] := hD
  refine lv_aload_n hx hb dX0_useThreshold_5 rfl (lv_at hl 0 rfl) ?_
  have hPc := hP.sub (ws' := [(h, .inr (0, [.ref c1, .ref l1, .ref o1, .int x, .int (nI cf)]))]) [0] rfl
  have hDc := hD.sub (ws' := [(h, .inr (0, [.ref c1, .ref l1, .ref o1, .int x, .int (nI cf)]))]) [0] (by decide +kernel) rfl
  have hFc := va_free (wc := [(h, .inr (0, [.ref c1, .ref l1, .ref o1, .int x, .int (nI cf)]))]) hD hS hA [0] rfl
  refine va_callv (va_runV (As := []) (rest := []) ⟨hx, hb, hml, hown, hts⟩ (c_X0_forget l D cI cL h c1 l1 o1 cf x H.size) (cwV 0 hts gX0_useThreshold_X0_forget rfl rfl rfl (by decide +kernel) ⟨Nat.le_of_ble_eq_true rfl, Nat.le_of_ble_eq_true rfl⟩) ⟨t_wPc_blind, va_recv hK hPc (ci := 0) (q0 := 0) rfl rfl, fun U hU hW => ⟨rfl, by rw [hU], by rw [hU]; exact hPc, va_K.moved hW.alike hK, hDc.weaken (fun _ _ _ _ => trivial)⟩⟩ rfl rfl hl.1 rfl (lv_room (Nat.le_of_ble_eq_true rfl)) dX0_useThreshold_6 ⟨Nat.le_of_ble_eq_true rfl, Nat.le_of_ble_eq_true rfl⟩) hS (fun q _ h => hFc q h) hFc (fun u_2 t H1 locs ht hvm hw hB hz1 hk1 hS => ?_)
  obtain ⟨hP1, hK1, hD1⟩ := hB
  rw [ht] at hP1
  have hw : u_2 = [(h, .inr (0, [.ref c1, .ref l1, .ref o1, .int x, .int (nI 0)]))] := hw
  subst hw
  obtain ⟨hP, hD⟩ := va_join (wr := []) (w1 := [(h, .inr (0, [.ref c1, .ref l1, .ref o1, .int x, .int (nI 0)]))]) hP hD [0] [] rfl rfl (by decide +kernel) (by decide +kernel) hk1 hFc hP1 hD1
  clear hP1 hD1 hK1 hPc hDc hFc ht hvm hz1 hk1
  have hP : va_P D vwCl [(h, .inr (0, [.ref c1, .ref l1, .ref o1, .int x, .int (nI 0)]))] H1 := hP
  have hD : va_D A [(h, .inr (0, [.ref c1, .ref l1, .ref o1, .int x, .int (nI 0)]))] := hD
  generalize H1 = H at hP hS ⊢
  have hP9 := hP
  have hD9 := hD
  exact W.vret hx hb hr (fun t ht hW => ⟨⟨[(h, .inr (0, [.ref c1, .ref l1, .ref o1, .int x, .int (nI 0)]))], rfl, rfl, ⟨by rw [ht]; exact hP9, va_K.moved hW.alike hK, hD9⟩⟩, hS.F ht⟩) hS.2.2 dX0_useThreshold_9 hlocks

set_option maxHeartbeats 4000000 in
set_option maxRecDepth 100000 in
theorem c_X0_isCandidate (l : Launch) (D : va_G) (cI cL : ClassId) (h c1 l1 o1 cf : Nat) (th : Int32) (dh t1 a1 t2 a2 mf : Nat) (f g : Nat → Int32) (k j : Nat) (hk : k < 29) (hj1 : 2 ≤ j) (hj2 : j ≤ 63) : Met l yX0_isCandidate wsX0_isCandidate ({ frames := 4, cells := 0, slots := 0, locals := 160 }) (t_rPc D cI cL [.ref h, .ref dh, .int (nI k), .int (nI j)] [(h, .inr (0, [.ref c1, .ref l1, .ref o1, .int th, .int (nI cf)])), (dh, .inr (1, [.ref t1, .ref t2, .int (nI mf)])), (t1, .inr (6, [.int (nI 65), .ref a1])), (a1, .inl (cI, 1885, .inl f)), (t2, .inr (6, [.int (nI 65), .ref a2])), (a2, .inl (cI, 1885, .inl g))]) (vp_Si (fun r => r = t_b (t_cand (t_r65 f k) (t_r65 g k) th j))) 0 0 (fun _ => False) := by
  refine t_ofR (by decide) rfl (Nat.le_of_ble_eq_true rfl) ?_
  intro p e s m below meth c ls hx hb hml hown hts hr hlocks hK hP hl
  have hown : s.vm.findClass RX0 = some m.cls := hown
  have hl : lv_has ls 4 [(0, .ref h), (1, .ref dh), (2, .int (nI k)), (3, .int (nI j))] := hl
  refine lv_aload_n hx hb dX0_isCandidate_0 rfl (lv_at hl 1 rfl) ?_
  refine lv_iload_n hx hb dX0_isCandidate_1 rfl (lv_at hl 2 rfl) ?_
  refine lv_iload_n hx hb dX0_isCandidate_2 rfl (lv_at hl 3 rfl) ?_
  refine lv_aload_n hx hb dX0_isCandidate_3 rfl (lv_at hl 0 rfl) ?_
  refine va_get (D := D) (ci := 0) (v := .int th) (C := RX0) (T := TX0) (N := 5) hx hb hts (fun _ h => List.mem_cons_of_mem _ (List.mem_append_left _ (List.mem_append_left _ (List.mem_append_right _ h)))) hown hK hP 0 rfl rfl 3 (by decide) (hts (.fieldLink RX0 30 "PitchTracker$Candidates" "threshold" "I") (List.mem_of_getElem? (i := 1) rfl)) (fun _ h9 => h9) rfl dX0_isCandidate_4 ?_
  have hPc := hP.sub (ws' := [(dh, .inr (1, [.ref t1, .ref t2, .int (nI mf)])), (t1, .inr (6, [.int (nI 65), .ref a1])), (a1, .inl (cI, 1885, .inl f)), (t2, .inr (6, [.int (nI 65), .ref a2])), (a2, .inl (cI, 1885, .inl g))]) [1, 2, 3, 4, 5] rfl
  refine vp_callSi (W.runV (As := [.int (nI k), .int (nI j), .int th]) (rest := []) ⟨hx, hb, hml, hown, hts⟩ (c_X1_isMeanBelow l D cI cL dh t1 a1 t2 a2 mf f g k j th (by omega) (by omega)) (cwV 3 hts gX0_isCandidate_X1_isMeanBelow rfl rfl rfl (by decide +kernel) ⟨Nat.le_of_ble_eq_true rfl, Nat.le_of_ble_eq_true rfl⟩) ⟨t_rPc_blind, va_recv hK hPc (ci := 1) (q0 := 0) rfl rfl, fun U hU hW => ⟨rfl, by rw [hU]; exact hPc, va_K.moved hW.alike hK⟩⟩ rfl rfl hl.1 rfl (lv_room (Nat.le_of_ble_eq_true rfl)) dX0_isCandidate_7 ⟨Nat.le_of_ble_eq_true rfl, Nat.le_of_ble_eq_true rfl⟩) (fun r_1 hr_1 => ?_)
  subst hr_1
  refine tv_if_eqB (tgt := 41) hx hb dX0_isCandidate_10 (by decide) (fun q10_2 => ?_) (fun q10_2 => ?_)
  · refine lv_iconst (v := ((nI 0) : Int32)) hx hb dX0_isCandidate_41 (by decide +kernel) ?_
    exact W.zret (v := (nI 0)) hx hb hr rfl (fun t ht hW => ⟨_, rfl, (t_b_f (t_cand_1 q10_2)), ht⟩) (fun q h => by cases h) dX0_isCandidate_42 hlocks
  · refine lv_aload_n hx hb dX0_isCandidate_13 rfl (lv_at hl 1 rfl) ?_
    refine lv_iload_n hx hb dX0_isCandidate_14 rfl (lv_at hl 2 rfl) ?_
    refine lv_iload_n hx hb dX0_isCandidate_15 rfl (lv_at hl 3 rfl) ?_
    refine lv_iload_n hx hb dX0_isCandidate_16 rfl (lv_at hl 3 rfl) ?_
    refine lv_iconst (v := ((nI 1) : Int32)) hx hb dX0_isCandidate_17 (by decide +kernel) ?_
    refine tv_isub (a := j) (b := 1) hx hb dX0_isCandidate_18 (by omega) ?_
    have hPc := hP.sub (ws' := [(dh, .inr (1, [.ref t1, .ref t2, .int (nI mf)])), (t1, .inr (6, [.int (nI 65), .ref a1])), (a1, .inl (cI, 1885, .inl f)), (t2, .inr (6, [.int (nI 65), .ref a2])), (a2, .inl (cI, 1885, .inl g))]) [1, 2, 3, 4, 5] rfl
    refine vp_callSi (W.runV (As := [.int (nI k), .int (nI j), .int (nI (j - 1))]) (rest := []) ⟨hx, hb, hml, hown, hts⟩ (c_X1_isMeanLess l D cI cL dh t1 a1 t2 a2 mf f g k j (j - 1) (by omega) (by omega) (by omega)) (cwV 3 hts gX0_isCandidate_X1_isMeanLess rfl rfl rfl (by decide +kernel) ⟨Nat.le_of_ble_eq_true rfl, Nat.le_of_ble_eq_true rfl⟩) ⟨t_rPc_blind, va_recv hK hPc (ci := 1) (q0 := 0) rfl rfl, fun U hU hW => ⟨rfl, by rw [hU]; exact hPc, va_K.moved hW.alike hK⟩⟩ rfl rfl hl.1 rfl (lv_room (Nat.le_of_ble_eq_true rfl)) dX0_isCandidate_19 ⟨Nat.le_of_ble_eq_true rfl, Nat.le_of_ble_eq_true rfl⟩) (fun r_3 hr_3 => ?_)
    subst hr_3
    refine tv_if_eqB (tgt := 41) hx hb dX0_isCandidate_22 (by decide) (fun q22_4 => ?_) (fun q22_4 => ?_)
    · refine lv_iconst (v := ((nI 0) : Int32)) hx hb dX0_isCandidate_41 (by decide +kernel) ?_
      exact W.zret (v := (nI 0)) hx hb hr rfl (fun t ht hW => ⟨_, rfl, (t_b_f (t_cand_2 q22_4)), ht⟩) (fun q h => by cases h) dX0_isCandidate_42 hlocks
    · refine lv_aload_n hx hb dX0_isCandidate_25 rfl (lv_at hl 1 rfl) ?_
      refine lv_iload_n hx hb dX0_isCandidate_26 rfl (lv_at hl 2 rfl) ?_
      refine lv_iload_n hx hb dX0_isCandidate_27 rfl (lv_at hl 3 rfl) ?_
      refine lv_iconst (v := ((nI 1) : Int32)) hx hb dX0_isCandidate_28 (by decide +kernel) ?_
      refine tv_iadd (a := j) (b := 1) hx hb dX0_isCandidate_29 ?_
      refine lv_iload_n hx hb dX0_isCandidate_30 rfl (lv_at hl 3 rfl) ?_
      have hPc := hP.sub (ws' := [(dh, .inr (1, [.ref t1, .ref t2, .int (nI mf)])), (t1, .inr (6, [.int (nI 65), .ref a1])), (a1, .inl (cI, 1885, .inl f)), (t2, .inr (6, [.int (nI 65), .ref a2])), (a2, .inl (cI, 1885, .inl g))]) [1, 2, 3, 4, 5] rfl
      refine vp_callSi (W.runV (As := [.int (nI k), .int (nI (j + 1)), .int (nI j)]) (rest := []) ⟨hx, hb, hml, hown, hts⟩ (c_X1_isMeanLess l D cI cL dh t1 a1 t2 a2 mf f g k (j + 1) j (by omega) (by omega) (by omega)) (cwV 3 hts gX0_isCandidate_X1_isMeanLess rfl rfl rfl (by decide +kernel) ⟨Nat.le_of_ble_eq_true rfl, Nat.le_of_ble_eq_true rfl⟩) ⟨t_rPc_blind, va_recv hK hPc (ci := 1) (q0 := 0) rfl rfl, fun U hU hW => ⟨rfl, by rw [hU]; exact hPc, va_K.moved hW.alike hK⟩⟩ rfl rfl hl.1 rfl (lv_room (Nat.le_of_ble_eq_true rfl)) dX0_isCandidate_31 ⟨Nat.le_of_ble_eq_true rfl, Nat.le_of_ble_eq_true rfl⟩) (fun r_5 hr_5 => ?_)
      subst hr_5
      refine tv_if_neB (tgt := 41) hx hb dX0_isCandidate_34 (by decide) (fun q34_6 => ?_) (fun q34_6 => ?_)
      · refine lv_iconst (v := ((nI 0) : Int32)) hx hb dX0_isCandidate_41 (by decide +kernel) ?_
        exact W.zret (v := (nI 0)) hx hb hr rfl (fun t ht hW => ⟨_, rfl, (t_b_f (t_cand_3 q34_6)), ht⟩) (fun q h => by cases h) dX0_isCandidate_42 hlocks
      · refine lv_iconst (v := ((nI 1) : Int32)) hx hb dX0_isCandidate_37 (by decide +kernel) ?_
        refine lv_goto (tgt := 42) hx hb dX0_isCandidate_38 (by decide) ?_
        exact W.zret (v := (nI 1)) hx hb hr rfl (fun t ht hW => ⟨_, rfl, (t_b_t (t_cand_4 q10_2 q22_4 q34_6)), ht⟩) (fun q h => by cases h) dX0_isCandidate_42 hlocks

set_option maxHeartbeats 4000000 in
set_option maxRecDepth 100000 in
theorem c_X0_chooseInFrame (l : Launch) (D : va_G) (cI cL : ClassId) (h c1 cb l1 lb o1 ob cf : Nat) (th : Int32) (cn la co : Nat → Int32) (dh t1 a1 t2 a2 mf : Nat) (f g : Nat → Int32) (k : Nat) (hk : k < 29) (sz : Nat) : Met l yX0_chooseInFrame wsX0_chooseInFrame ({ frames := 5, cells := 0, slots := 0, locals := 200 }) (t_wPcX D cI cL [.ref h, .ref dh, .int (nI k)] [(h, .inr (0, [.ref c1, .ref l1, .ref o1, .int th, .int (nI cf)])), (c1, .inr (4, [.ref cb])), (cb, .inl (cI, 29, .inl cn)), (l1, .inr (6, [.int (nI 9), .ref lb])), (lb, .inl (cI, 261, .inl la)), (o1, .inr (6, [.int (nI 9), .ref ob])), (ob, .inl (cI, 261, .inl co)), (dh, .inr (1, [.ref t1, .ref t2, .int (nI mf)])), (t1, .inr (6, [.int (nI 65), .ref a1])), (a1, .inl (cI, 1885, .inl f)), (t2, .inr (6, [.int (nI 65), .ref a2])), (a2, .inl (cI, 1885, .inl g))] sz) (t_Qv D cI cL (fun w1 => ∃ cn2 : Nat → Int32, ∃ la2 : Nat → Int32, ∃ co2 : Nat → Int32, w1 = [(h, .inr (0, [.ref c1, .ref l1, .ref o1, .int th, .int (nI cf)])), (c1, .inr (4, [.ref cb])), (cb, .inl (cI, 29, .inl cn2)), (l1, .inr (6, [.int (nI 9), .ref lb])), (lb, .inl (cI, 261, .inl la2)), (o1, .inr (6, [.int (nI 9), .ref ob])), (ob, .inl (cI, 261, .inl co2)), (dh, .inr (1, [.ref t1, .ref t2, .int (nI mf)])), (t1, .inr (6, [.int (nI 65), .ref a1])), (a1, .inl (cI, 1885, .inl f)), (t2, .inr (6, [.int (nI 65), .ref a2])), (a2, .inl (cI, 1885, .inl g))] ∧ cn2 = upd cn k (nI (t_cs (t_r65 f k) (t_r65 g k) th).length) ∧ t_chd (t_mean (t_r65 f k) (t_r65 g k)) k (t_cs (t_r65 f k) (t_r65 g k) th) la co la2 co2) (va_A [(h, .inr (0, [.ref c1, .ref l1, .ref o1, .int th, .int (nI cf)])), (c1, .inr (4, [.ref cb])), (cb, .inl (cI, 29, .inl cn)), (l1, .inr (6, [.int (nI 9), .ref lb])), (lb, .inl (cI, 261, .inl la)), (o1, .inr (6, [.int (nI 9), .ref ob])), (ob, .inl (cI, 261, .inl co)), (dh, .inr (1, [.ref t1, .ref t2, .int (nI mf)])), (t1, .inr (6, [.int (nI 65), .ref a1])), (a1, .inl (cI, 1885, .inl f)), (t2, .inr (6, [.int (nI 65), .ref a2])), (a2, .inl (cI, 1885, .inl g))] sz)) 0 0 (va_A [(h, .inr (0, [.ref c1, .ref l1, .ref o1, .int th, .int (nI cf)])), (c1, .inr (4, [.ref cb])), (cb, .inl (cI, 29, .inl cn)), (l1, .inr (6, [.int (nI 9), .ref lb])), (lb, .inl (cI, 261, .inl la)), (o1, .inr (6, [.int (nI 9), .ref ob])), (ob, .inl (cI, 261, .inl co)), (dh, .inr (1, [.ref t1, .ref t2, .int (nI mf)])), (t1, .inr (6, [.int (nI 65), .ref a1])), (a1, .inl (cI, 1885, .inl f)), (t2, .inr (6, [.int (nI 65), .ref a2])), (a2, .inl (cI, 1885, .inl g))] sz) := by
  refine t_ofWX (Qc := t_Qv D cI cL (fun w1 => ∃ cn2 : Nat → Int32, ∃ la2 : Nat → Int32, ∃ co2 : Nat → Int32, w1 = [(h, .inr (0, [.ref c1, .ref l1, .ref o1, .int th, .int (nI cf)])), (c1, .inr (4, [.ref cb])), (cb, .inl (cI, 29, .inl cn2)), (l1, .inr (6, [.int (nI 9), .ref lb])), (lb, .inl (cI, 261, .inl la2)), (o1, .inr (6, [.int (nI 9), .ref ob])), (ob, .inl (cI, 261, .inl co2)), (dh, .inr (1, [.ref t1, .ref t2, .int (nI mf)])), (t1, .inr (6, [.int (nI 65), .ref a1])), (a1, .inl (cI, 1885, .inl f)), (t2, .inr (6, [.int (nI 65), .ref a2])), (a2, .inl (cI, 1885, .inl g))] ∧ cn2 = upd cn k (nI (t_cs (t_r65 f k) (t_r65 g k) th).length) ∧ t_chd (t_mean (t_r65 f k) (t_r65 g k)) k (t_cs (t_r65 f k) (t_r65 g k) th) la co la2 co2)) (by decide) rfl (Nat.le_of_ble_eq_true rfl) ?_
  intro p e s m below meth c ls A hx hb hml hown hts hr hlocks hin hK hP hD hS hA hX hl
  have hown : s.vm.findClass RX0 = some m.cls := hown
  have hl : lv_has ls 5 [(0, .ref h), (1, .ref dh), (2, .int (nI k))] := hl
  refine lv_iconst (v := ((nI 0) : Int32)) hx hb dX0_chooseInFrame_0 (by decide +kernel) ?_
  refine lv_istore_n (lv' := [(3, .int (nI 0)), (0, .ref h), (1, .ref dh), (2, .int (nI k))]) hx hb dX0_chooseInFrame_1 rfl hl (by decide) rfl (fun ls hl => ?_)
  refine lv_iconst (v := ((nI 2) : Int32)) hx hb dX0_chooseInFrame_2 (by decide +kernel) ?_
  refine lv_istore (lv' := [(4, .int (nI 2)), (3, .int (nI 0)), (0, .ref h), (1, .ref dh), (2, .int (nI k))]) hx hb dX0_chooseInFrame_3 hl (by decide) rfl (fun ls hl => ?_)
  have loop_1 : ∀ (n_3 : Nat) (i : Nat) (la1 : Nat → Int32) (co1 : Nat → Int32) (hm_4 : 62 - i < n_3) (hi : i ≤ 62) (hv : t_chd (t_mean (t_r65 f k) (t_r65 g k)) k (t_cl (t_cand (t_r65 f k) (t_r65 g k) th) i) la co la1 co1) (H : Heap) (locs : List Loc) (hP : va_P D vwCl [(h, .inr (0, [.ref c1, .ref l1, .ref o1, .int th, .int (nI cf)])), (c1, .inr (4, [.ref cb])), (cb, .inl (cI, 29, .inl cn)), (l1, .inr (6, [.int (nI 9), .ref lb])), (lb, .inl (cI, 261, .inl la1)), (o1, .inr (6, [.int (nI 9), .ref ob])), (ob, .inl (cI, 261, .inl co1)), (dh, .inr (1, [.ref t1, .ref t2, .int (nI mf)])), (t1, .inr (6, [.int (nI 65), .ref a1])), (a1, .inl (cI, 1885, .inl f)), (t2, .inr (6, [.int (nI 65), .ref a2])), (a2, .inl (cI, 1885, .inl g))] H) (hD : va_D A [(h, .inr (0, [.ref c1, .ref l1, .ref o1, .int th, .int (nI cf)])), (c1, .inr (4, [.ref cb])), (cb, .inl (cI, 29, .inl cn)), (l1, .inr (6, [.int (nI 9), .ref lb])), (lb, .inl (cI, 261, .inl la1)), (o1, .inr (6, [.int (nI 9), .ref ob])), (ob, .inl (cI, 261, .inl co1)), (dh, .inr (1, [.ref t1, .ref t2, .int (nI mf)])), (t1, .inr (6, [.int (nI 65), .ref a1])), (a1, .inl (cI, 1885, .inl f)), (t2, .inr (6, [.int (nI 65), .ref a2])), (a2, .inl (cI, 1885, .inl g))]) (hS : va_S A s.heap H locs) (ls : Array Slot) (hl : lv_has ls 5 [(4, .int (nI (i + 2))), (3, .int (nI ((t_cl (t_cand (t_r65 f k) (t_r65 g k) th) i).length))), (0, .ref h), (1, .ref dh), (2, .int (nI k))]), W p l e ({ frames := 5, cells := 0, slots := 0, locals := 200 }) s m ([.ref h, .ref dh, .int (nI k)] : List Value).toArray below meth c H locs 0 0 (MQ below (t_Qv D cI cL (fun w1 => ∃ cn2 : Nat → Int32, ∃ la2 : Nat → Int32, ∃ co2 : Nat → Int32, w1 = [(h, .inr (0, [.ref c1, .ref l1, .ref o1, .int th, .int (nI cf)])), (c1, .inr (4, [.ref cb])), (cb, .inl (cI, 29, .inl cn2)), (l1, .inr (6, [.int (nI 9), .ref lb])), (lb, .inl (cI, 261, .inl la2)), (o1, .inr (6, [.int (nI 9), .ref ob])), (ob, .inl (cI, 261, .inl co2)), (dh, .inr (1, [.ref t1, .ref t2, .int (nI mf)])), (t1, .inr (6, [.int (nI 65), .ref a1])), (a1, .inl (cI, 1885, .inl f)), (t2, .inr (6, [.int (nI 65), .ref a2])), (a2, .inl (cI, 1885, .inl g))] ∧ cn2 = upd cn k (nI (t_cs (t_r65 f k) (t_r65 g k) th).length) ∧ t_chd (t_mean (t_r65 f k) (t_r65 g k)) k (t_cs (t_r65 f k) (t_r65 g k) th) la co la2 co2) A) ([.ref h, .ref dh, .int (nI k)] : List Value).toArray s 0 0 A) (F0 m 5 ls []) := by
    intro n_3
    induction n_3 with
    | zero => intro i la1 co1 hm_4; exact absurd hm_4 (Nat.not_lt_zero _)
    | succ n_3 ih_2 =>
      intro i la1 co1 hm_4 hi hv H locs hP hD hS ls hl
      refine lv_iload hx hb dX0_chooseInFrame_5 (lv_at hl 0 rfl) ?_
      refine lv_bipush (v := ((nI 64) : Int32)) hx hb dX0_chooseInFrame_7 (by decide +kernel) ?_
      refine tv_icmp_ge (tgt := 65) hx hb dX0_chooseInFrame_9 (by decide) (by omega) (by omega) (fun q9_5 => ?_) (fun q9_5 => ?_)
      · refine lv_aload_n hx hb dX0_chooseInFrame_65 rfl (lv_at hl 2 rfl) ?_
        refine va_get (D := D) (ci := 0) (v := .ref c1) (C := RX0) (T := TX0) (N := 5) hx hb hts (fun _ h => List.mem_cons_of_mem _ (List.mem_append_left _ (List.mem_append_left _ (List.mem_append_left _ (List.mem_append_right _ h))))) hown hK hP 0 rfl rfl 0 (by decide) (hts (.fieldLink RX0 14 "PitchTracker$Candidates" "counts" "LPitchTracker$Row;") (List.mem_of_getElem? (i := 3) rfl)) (fun _ h9 => h9) rfl dX0_chooseInFrame_66 ?_
        refine lv_iload_n hx hb dX0_chooseInFrame_69 rfl (lv_at hl 4 rfl) ?_
        refine lv_iload_n hx hb dX0_chooseInFrame_70 rfl (lv_at hl 1 rfl) ?_
        have hPc := hP.sub (ws' := [(c1, .inr (4, [.ref cb])), (cb, .inl (cI, 29, .inl cn))]) [1, 2] rfl
        have hDc := hD.sub (ws' := [(c1, .inr (4, [.ref cb])), (cb, .inl (cI, 29, .inl cn))]) [1, 2] (by decide +kernel) rfl
        have hFc := va_free (wc := [(c1, .inr (4, [.ref cb])), (cb, .inl (cI, 29, .inl cn))]) hD hS hA [1, 2] rfl
        refine va_callv (va_runV (As := [.int (nI k), .int (nI ((t_cl (t_cand (t_r65 f k) (t_r65 g k) th) i).length))]) (rest := []) ⟨hx, hb, hml, hown, hts⟩ (c_X4_put l D cI cL c1 cb 29 cn k ((nI ((t_cl (t_cand (t_r65 f k) (t_r65 g k) th) i).length))) (by omega) (by omega) H.size) (cwV 2 hts gX0_chooseInFrame_X4_put rfl rfl rfl (by decide +kernel) ⟨Nat.le_of_ble_eq_true rfl, Nat.le_of_ble_eq_true rfl⟩) ⟨t_wPc_blind, va_recv hK hPc (ci := 4) (q0 := 0) rfl rfl, fun U hU hW => ⟨rfl, by rw [hU], by rw [hU]; exact hPc, va_K.moved hW.alike hK, hDc.weaken (fun _ _ _ _ => trivial)⟩⟩ rfl rfl hl.1 rfl (lv_room (Nat.le_of_ble_eq_true rfl)) dX0_chooseInFrame_71 ⟨Nat.le_of_ble_eq_true rfl, Nat.le_of_ble_eq_true rfl⟩) hS (fun q _ h => hFc q h) hFc (fun u_7 t H1 locs ht hvm hw hB hz1 hk1 hS => ?_)
        obtain ⟨hP1, hK1, hD1⟩ := hB
        rw [ht] at hP1
        have hw : u_7 = [(c1, .inr (4, [.ref cb])), (cb, .inl (cI, 29, .inl (upd cn k ((nI ((t_cl (t_cand (t_r65 f k) (t_r65 g k) th) i).length))))))] := hw
        subst hw
        obtain ⟨hP, hD⟩ := va_join (wr := [(h, .inr (0, [.ref c1, .ref l1, .ref o1, .int th, .int (nI cf)])), (l1, .inr (6, [.int (nI 9), .ref lb])), (lb, .inl (cI, 261, .inl la1)), (o1, .inr (6, [.int (nI 9), .ref ob])), (ob, .inl (cI, 261, .inl co1)), (dh, .inr (1, [.ref t1, .ref t2, .int (nI mf)])), (t1, .inr (6, [.int (nI 65), .ref a1])), (a1, .inl (cI, 1885, .inl f)), (t2, .inr (6, [.int (nI 65), .ref a2])), (a2, .inl (cI, 1885, .inl g))]) (w1 := [(c1, .inr (4, [.ref cb])), (cb, .inl (cI, 29, .inl (upd cn k ((nI ((t_cl (t_cand (t_r65 f k) (t_r65 g k) th) i).length))))))]) hP hD [1, 2] [0, 3, 4, 5, 6, 7, 8, 9, 10, 11] rfl rfl (by decide +kernel) (by decide +kernel) hk1 hFc hP1 hD1
        clear hP1 hD1 hK1 hPc hDc hFc ht hvm hz1 hk1
        have hP := hP.sub (ws' := [(h, .inr (0, [.ref c1, .ref l1, .ref o1, .int th, .int (nI cf)])), (c1, .inr (4, [.ref cb])), (cb, .inl (cI, 29, .inl (upd cn k ((nI ((t_cl (t_cand (t_r65 f k) (t_r65 g k) th) i).length)))))), (l1, .inr (6, [.int (nI 9), .ref lb])), (lb, .inl (cI, 261, .inl la1)), (o1, .inr (6, [.int (nI 9), .ref ob])), (ob, .inl (cI, 261, .inl co1)), (dh, .inr (1, [.ref t1, .ref t2, .int (nI mf)])), (t1, .inr (6, [.int (nI 65), .ref a1])), (a1, .inl (cI, 1885, .inl f)), (t2, .inr (6, [.int (nI 65), .ref a2])), (a2, .inl (cI, 1885, .inl g))]) [0, 10, 11, 1, 2, 3, 4, 5, 6, 7, 8, 9] rfl
        have hD := hD.sub (ws' := [(h, .inr (0, [.ref c1, .ref l1, .ref o1, .int th, .int (nI cf)])), (c1, .inr (4, [.ref cb])), (cb, .inl (cI, 29, .inl (upd cn k ((nI ((t_cl (t_cand (t_r65 f k) (t_r65 g k) th) i).length)))))), (l1, .inr (6, [.int (nI 9), .ref lb])), (lb, .inl (cI, 261, .inl la1)), (o1, .inr (6, [.int (nI 9), .ref ob])), (ob, .inl (cI, 261, .inl co1)), (dh, .inr (1, [.ref t1, .ref t2, .int (nI mf)])), (t1, .inr (6, [.int (nI 65), .ref a1])), (a1, .inl (cI, 1885, .inl f)), (t2, .inr (6, [.int (nI 65), .ref a2])), (a2, .inl (cI, 1885, .inl g))]) [0, 10, 11, 1, 2, 3, 4, 5, 6, 7, 8, 9] (by decide +kernel) rfl
        generalize H1 = H at hP hS ⊢
        have hP9 := hP
        have hD9 := hD
        exact W.vret hx hb hr (fun t ht hW => ⟨⟨[(h, .inr (0, [.ref c1, .ref l1, .ref o1, .int th, .int (nI cf)])), (c1, .inr (4, [.ref cb])), (cb, .inl (cI, 29, .inl (upd cn k ((nI ((t_cl (t_cand (t_r65 f k) (t_r65 g k) th) i).length)))))), (l1, .inr (6, [.int (nI 9), .ref lb])), (lb, .inl (cI, 261, .inl la1)), (o1, .inr (6, [.int (nI 9), .ref ob])), (ob, .inl (cI, 261, .inl co1)), (dh, .inr (1, [.ref t1, .ref t2, .int (nI mf)])), (t1, .inr (6, [.int (nI 65), .ref a1])), (a1, .inl (cI, 1885, .inl f)), (t2, .inr (6, [.int (nI 65), .ref a2])), (a2, .inl (cI, 1885, .inl g))], rfl, ⟨(upd cn k ((nI ((t_cl (t_cand (t_r65 f k) (t_r65 g k) th) i).length)))), la1, co1, rfl, (by rw [(show t_cl (t_cand (t_r65 f k) (t_r65 g k) th) i = t_cs (t_r65 f k) (t_r65 g k) th by obtain rfl : i = 62 := (by omega); rfl)]), (by rw [← (show t_cl (t_cand (t_r65 f k) (t_r65 g k) th) i = t_cs (t_r65 f k) (t_r65 g k) th by obtain rfl : i = 62 := (by omega); rfl)]; exact hv)⟩, ⟨by rw [ht]; exact hP9, va_K.moved hW.alike hK, hD9⟩⟩, hS.F ht⟩) hS.2.2 dX0_chooseInFrame_74 hlocks
      · have hcl := t_cl_le (t_cand (t_r65 f k) (t_r65 g k) th) i
        refine lv_iload_n hx hb dX0_chooseInFrame_12 rfl (lv_at hl 1 rfl) ?_
        refine lv_bipush (v := ((nI 8) : Int32)) hx hb dX0_chooseInFrame_13 (by decide +kernel) ?_
        refine tv_icmp_ge (tgt := 65) hx hb dX0_chooseInFrame_15 (by decide) (by omega) (by omega) (fun q15_8 => ?_) (fun q15_8 => ?_)
        · refine lv_aload_n hx hb dX0_chooseInFrame_65 rfl (lv_at hl 2 rfl) ?_
          refine va_get (D := D) (ci := 0) (v := .ref c1) (C := RX0) (T := TX0) (N := 5) hx hb hts (fun _ h => List.mem_cons_of_mem _ (List.mem_append_left _ (List.mem_append_left _ (List.mem_append_left _ (List.mem_append_right _ h))))) hown hK hP 0 rfl rfl 0 (by decide) (hts (.fieldLink RX0 14 "PitchTracker$Candidates" "counts" "LPitchTracker$Row;") (List.mem_of_getElem? (i := 3) rfl)) (fun _ h9 => h9) rfl dX0_chooseInFrame_66 ?_
          refine lv_iload_n hx hb dX0_chooseInFrame_69 rfl (lv_at hl 4 rfl) ?_
          refine lv_iload_n hx hb dX0_chooseInFrame_70 rfl (lv_at hl 1 rfl) ?_
          have hPc := hP.sub (ws' := [(c1, .inr (4, [.ref cb])), (cb, .inl (cI, 29, .inl cn))]) [1, 2] rfl
          have hDc := hD.sub (ws' := [(c1, .inr (4, [.ref cb])), (cb, .inl (cI, 29, .inl cn))]) [1, 2] (by decide +kernel) rfl
          have hFc := va_free (wc := [(c1, .inr (4, [.ref cb])), (cb, .inl (cI, 29, .inl cn))]) hD hS hA [1, 2] rfl
          refine va_callv (va_runV (As := [.int (nI k), .int (nI ((t_cl (t_cand (t_r65 f k) (t_r65 g k) th) i).length))]) (rest := []) ⟨hx, hb, hml, hown, hts⟩ (c_X4_put l D cI cL c1 cb 29 cn k ((nI ((t_cl (t_cand (t_r65 f k) (t_r65 g k) th) i).length))) (by omega) (by omega) H.size) (cwV 2 hts gX0_chooseInFrame_X4_put rfl rfl rfl (by decide +kernel) ⟨Nat.le_of_ble_eq_true rfl, Nat.le_of_ble_eq_true rfl⟩) ⟨t_wPc_blind, va_recv hK hPc (ci := 4) (q0 := 0) rfl rfl, fun U hU hW => ⟨rfl, by rw [hU], by rw [hU]; exact hPc, va_K.moved hW.alike hK, hDc.weaken (fun _ _ _ _ => trivial)⟩⟩ rfl rfl hl.1 rfl (lv_room (Nat.le_of_ble_eq_true rfl)) dX0_chooseInFrame_71 ⟨Nat.le_of_ble_eq_true rfl, Nat.le_of_ble_eq_true rfl⟩) hS (fun q _ h => hFc q h) hFc (fun u_10 t H1 locs ht hvm hw hB hz1 hk1 hS => ?_)
          obtain ⟨hP1, hK1, hD1⟩ := hB
          rw [ht] at hP1
          have hw : u_10 = [(c1, .inr (4, [.ref cb])), (cb, .inl (cI, 29, .inl (upd cn k ((nI ((t_cl (t_cand (t_r65 f k) (t_r65 g k) th) i).length))))))] := hw
          subst hw
          obtain ⟨hP, hD⟩ := va_join (wr := [(h, .inr (0, [.ref c1, .ref l1, .ref o1, .int th, .int (nI cf)])), (l1, .inr (6, [.int (nI 9), .ref lb])), (lb, .inl (cI, 261, .inl la1)), (o1, .inr (6, [.int (nI 9), .ref ob])), (ob, .inl (cI, 261, .inl co1)), (dh, .inr (1, [.ref t1, .ref t2, .int (nI mf)])), (t1, .inr (6, [.int (nI 65), .ref a1])), (a1, .inl (cI, 1885, .inl f)), (t2, .inr (6, [.int (nI 65), .ref a2])), (a2, .inl (cI, 1885, .inl g))]) (w1 := [(c1, .inr (4, [.ref cb])), (cb, .inl (cI, 29, .inl (upd cn k ((nI ((t_cl (t_cand (t_r65 f k) (t_r65 g k) th) i).length))))))]) hP hD [1, 2] [0, 3, 4, 5, 6, 7, 8, 9, 10, 11] rfl rfl (by decide +kernel) (by decide +kernel) hk1 hFc hP1 hD1
          clear hP1 hD1 hK1 hPc hDc hFc ht hvm hz1 hk1
          have hP := hP.sub (ws' := [(h, .inr (0, [.ref c1, .ref l1, .ref o1, .int th, .int (nI cf)])), (c1, .inr (4, [.ref cb])), (cb, .inl (cI, 29, .inl (upd cn k ((nI ((t_cl (t_cand (t_r65 f k) (t_r65 g k) th) i).length)))))), (l1, .inr (6, [.int (nI 9), .ref lb])), (lb, .inl (cI, 261, .inl la1)), (o1, .inr (6, [.int (nI 9), .ref ob])), (ob, .inl (cI, 261, .inl co1)), (dh, .inr (1, [.ref t1, .ref t2, .int (nI mf)])), (t1, .inr (6, [.int (nI 65), .ref a1])), (a1, .inl (cI, 1885, .inl f)), (t2, .inr (6, [.int (nI 65), .ref a2])), (a2, .inl (cI, 1885, .inl g))]) [0, 10, 11, 1, 2, 3, 4, 5, 6, 7, 8, 9] rfl
          have hD := hD.sub (ws' := [(h, .inr (0, [.ref c1, .ref l1, .ref o1, .int th, .int (nI cf)])), (c1, .inr (4, [.ref cb])), (cb, .inl (cI, 29, .inl (upd cn k ((nI ((t_cl (t_cand (t_r65 f k) (t_r65 g k) th) i).length)))))), (l1, .inr (6, [.int (nI 9), .ref lb])), (lb, .inl (cI, 261, .inl la1)), (o1, .inr (6, [.int (nI 9), .ref ob])), (ob, .inl (cI, 261, .inl co1)), (dh, .inr (1, [.ref t1, .ref t2, .int (nI mf)])), (t1, .inr (6, [.int (nI 65), .ref a1])), (a1, .inl (cI, 1885, .inl f)), (t2, .inr (6, [.int (nI 65), .ref a2])), (a2, .inl (cI, 1885, .inl g))]) [0, 10, 11, 1, 2, 3, 4, 5, 6, 7, 8, 9] (by decide +kernel) rfl
          generalize H1 = H at hP hS ⊢
          have hP9 := hP
          have hD9 := hD
          exact W.vret hx hb hr (fun t ht hW => ⟨⟨[(h, .inr (0, [.ref c1, .ref l1, .ref o1, .int th, .int (nI cf)])), (c1, .inr (4, [.ref cb])), (cb, .inl (cI, 29, .inl (upd cn k ((nI ((t_cl (t_cand (t_r65 f k) (t_r65 g k) th) i).length)))))), (l1, .inr (6, [.int (nI 9), .ref lb])), (lb, .inl (cI, 261, .inl la1)), (o1, .inr (6, [.int (nI 9), .ref ob])), (ob, .inl (cI, 261, .inl co1)), (dh, .inr (1, [.ref t1, .ref t2, .int (nI mf)])), (t1, .inr (6, [.int (nI 65), .ref a1])), (a1, .inl (cI, 1885, .inl f)), (t2, .inr (6, [.int (nI 65), .ref a2])), (a2, .inl (cI, 1885, .inl g))], rfl, ⟨(upd cn k ((nI ((t_cl (t_cand (t_r65 f k) (t_r65 g k) th) i).length)))), la1, co1, rfl, (by rw [(show t_cl (t_cand (t_r65 f k) (t_r65 g k) th) i = t_cs (t_r65 f k) (t_r65 g k) th by have z := t_cl_full (P := (t_cand (t_r65 f k) (t_r65 g k) th)) (i := i) (by omega) (62 - i); rw [show i + (62 - i) = 62 by omega] at z; exact z.symm)]), (by rw [← (show t_cl (t_cand (t_r65 f k) (t_r65 g k) th) i = t_cs (t_r65 f k) (t_r65 g k) th by have z := t_cl_full (P := (t_cand (t_r65 f k) (t_r65 g k) th)) (i := i) (by omega) (62 - i); rw [show i + (62 - i) = 62 by omega] at z; exact z.symm)]; exact hv)⟩, ⟨by rw [ht]; exact hP9, va_K.moved hW.alike hK, hD9⟩⟩, hS.F ht⟩) hS.2.2 dX0_chooseInFrame_74 hlocks
        · refine lv_aload_n hx hb dX0_chooseInFrame_18 rfl (lv_at hl 2 rfl) ?_
          refine lv_aload_n hx hb dX0_chooseInFrame_19 rfl (lv_at hl 3 rfl) ?_
          refine lv_iload_n hx hb dX0_chooseInFrame_20 rfl (lv_at hl 4 rfl) ?_
          refine lv_iload hx hb dX0_chooseInFrame_21 (lv_at hl 0 rfl) ?_
          have hPc := hP.sub (ws' := [(h, .inr (0, [.ref c1, .ref l1, .ref o1, .int th, .int (nI cf)])), (dh, .inr (1, [.ref t1, .ref t2, .int (nI mf)])), (t1, .inr (6, [.int (nI 65), .ref a1])), (a1, .inl (cI, 1885, .inl f)), (t2, .inr (6, [.int (nI 65), .ref a2])), (a2, .inl (cI, 1885, .inl g))]) [0, 7, 8, 9, 10, 11] rfl
          refine vp_callSi (W.runV (As := [.ref dh, .int (nI k), .int (nI (i + 2))]) (rest := []) ⟨hx, hb, hml, hown, hts⟩ (c_X0_isCandidate l D cI cL h c1 l1 o1 cf th dh t1 a1 t2 a2 mf f g k (i + 2) (by omega) (by omega) (by omega)) (cwV 3 hts gX0_chooseInFrame_X0_isCandidate rfl rfl rfl (by decide +kernel) ⟨Nat.le_of_ble_eq_true rfl, Nat.le_of_ble_eq_true rfl⟩) ⟨t_rPc_blind, va_recv hK hPc (ci := 0) (q0 := 0) rfl rfl, fun U hU hW => ⟨rfl, by rw [hU]; exact hPc, va_K.moved hW.alike hK⟩⟩ rfl rfl hl.1 rfl (lv_room (Nat.le_of_ble_eq_true rfl)) dX0_chooseInFrame_23 ⟨Nat.le_of_ble_eq_true rfl, Nat.le_of_ble_eq_true rfl⟩) (fun r_11 hr_11 => ?_)
          subst hr_11
          refine tv_if_eqB (tgt := 59) hx hb dX0_chooseInFrame_26 (by decide) (fun q26_12 => ?_) (fun q26_12 => ?_)
          · have hle : (nI ((t_cl (t_cand (t_r65 f k) (t_r65 g k) th) i).length)) = (nI ((t_cl (t_cand (t_r65 f k) (t_r65 g k) th) (i + 1)).length)) := (by rw [t_cl_n q26_12])
            rw [hle] at hl
            refine lv_iinc (v := (nI (i + 2 + 1))) (lv' := [(4, .int (nI (i + 2 + 1))), (3, .int (nI ((t_cl (t_cand (t_r65 f k) (t_r65 g k) th) (i + 1)).length))), (0, .ref h), (1, .ref dh), (2, .int (nI k))]) hx hb dX0_chooseInFrame_59 hl (k := 0) rfl (nI_add (i + 2) 1) (by decide) rfl (fun ls hl => ?_)
            refine lv_goto (tgt := 5) hx hb dX0_chooseInFrame_62 (by decide) ?_
            exact ih_2 (i + 1) la1 co1 (by omega) (by omega) (by rw [t_cl_n q26_12]; exact hv) _ _ (hP.sub [0, 1, 2, 3, 4, 5, 6, 7, 8, 9, 10, 11] rfl) (hD.sub [0, 1, 2, 3, 4, 5, 6, 7, 8, 9, 10, 11] (by decide +kernel) rfl) hS _ (lv_sub hl [0, 1, 2, 3, 4] rfl)
          · refine lv_iinc (v := (nI (((t_cl (t_cand (t_r65 f k) (t_r65 g k) th) i).length) + 1))) (lv' := [(3, .int (nI (((t_cl (t_cand (t_r65 f k) (t_r65 g k) th) i).length) + 1))), (4, .int (nI (i + 2))), (0, .ref h), (1, .ref dh), (2, .int (nI k))]) hx hb dX0_chooseInFrame_29 hl (k := 1) rfl (nI_add ((t_cl (t_cand (t_r65 f k) (t_r65 g k) th) i).length) 1) (by decide) rfl (fun ls hl => ?_)
            refine lv_aload_n hx hb dX0_chooseInFrame_32 rfl (lv_at hl 2 rfl) ?_
            refine va_get (D := D) (ci := 0) (v := .ref l1) (C := RX0) (T := TX0) (N := 5) hx hb hts (fun _ h => List.mem_cons_of_mem _ (List.mem_append_left _ (List.mem_append_left _ (List.mem_append_left _ (List.mem_append_right _ h))))) hown hK hP 0 rfl rfl 1 (by decide) (hts (.fieldLink RX0 23 "PitchTracker$Candidates" "lags" "LPitchTracker$Table;") (List.mem_of_getElem? (i := 1) rfl)) (fun _ h9 => h9) rfl dX0_chooseInFrame_33 ?_
            refine lv_iload_n hx hb dX0_chooseInFrame_36 rfl (lv_at hl 4 rfl) ?_
            refine lv_iload_n hx hb dX0_chooseInFrame_37 rfl (lv_at hl 0 rfl) ?_
            refine lv_iload hx hb dX0_chooseInFrame_38 (lv_at hl 1 rfl) ?_
            have hPc := hP.sub (ws' := [(l1, .inr (6, [.int (nI 9), .ref lb])), (lb, .inl (cI, 261, .inl la1))]) [3, 4] rfl
            have hDc := hD.sub (ws' := [(l1, .inr (6, [.int (nI 9), .ref lb])), (lb, .inl (cI, 261, .inl la1))]) [3, 4] (by decide +kernel) rfl
            have hFc := va_free (wc := [(l1, .inr (6, [.int (nI 9), .ref lb])), (lb, .inl (cI, 261, .inl la1))]) hD hS hA [3, 4] rfl
            refine va_callv (va_runV (As := [.int (nI k), .int (nI (((t_cl (t_cand (t_r65 f k) (t_r65 g k) th) i).length) + 1)), .int (nI (i + 2))]) (rest := []) ⟨hx, hb, hml, hown, hts⟩ (c_X6_put l D cI cL l1 lb 261 9 la1 k (((t_cl (t_cand (t_r65 f k) (t_r65 g k) th) i).length) + 1) ((nI (i + 2))) (by omega) (by omega) (by omega) (by omega) H.size) (cwV 3 hts gX0_chooseInFrame_X6_put rfl rfl rfl (by decide +kernel) ⟨Nat.le_of_ble_eq_true rfl, Nat.le_of_ble_eq_true rfl⟩) ⟨t_wPc_blind, va_recv hK hPc (ci := 6) (q0 := 0) rfl rfl, fun U hU hW => ⟨rfl, by rw [hU], by rw [hU]; exact hPc, va_K.moved hW.alike hK, hDc.weaken (fun _ _ _ _ => trivial)⟩⟩ rfl rfl hl.1 rfl (lv_room (Nat.le_of_ble_eq_true rfl)) dX0_chooseInFrame_40 ⟨Nat.le_of_ble_eq_true rfl, Nat.le_of_ble_eq_true rfl⟩) hS (fun q _ h => hFc q h) hFc (fun u_14 t H1 locs ht hvm hw hB hz1 hk1 hS => ?_)
            obtain ⟨hP1, hK1, hD1⟩ := hB
            rw [ht] at hP1
            have hw : u_14 = [(l1, .inr (6, [.int (nI 9), .ref lb])), (lb, .inl (cI, 261, .inl (upd la1 (k * 9 + (((t_cl (t_cand (t_r65 f k) (t_r65 g k) th) i).length) + 1)) ((nI (i + 2))))))] := hw
            subst hw
            obtain ⟨hP, hD⟩ := va_join (wr := [(h, .inr (0, [.ref c1, .ref l1, .ref o1, .int th, .int (nI cf)])), (c1, .inr (4, [.ref cb])), (cb, .inl (cI, 29, .inl cn)), (o1, .inr (6, [.int (nI 9), .ref ob])), (ob, .inl (cI, 261, .inl co1)), (dh, .inr (1, [.ref t1, .ref t2, .int (nI mf)])), (t1, .inr (6, [.int (nI 65), .ref a1])), (a1, .inl (cI, 1885, .inl f)), (t2, .inr (6, [.int (nI 65), .ref a2])), (a2, .inl (cI, 1885, .inl g))]) (w1 := [(l1, .inr (6, [.int (nI 9), .ref lb])), (lb, .inl (cI, 261, .inl (upd la1 (k * 9 + (((t_cl (t_cand (t_r65 f k) (t_r65 g k) th) i).length) + 1)) ((nI (i + 2))))))]) hP hD [3, 4] [0, 1, 2, 5, 6, 7, 8, 9, 10, 11] rfl rfl (by decide +kernel) (by decide +kernel) hk1 hFc hP1 hD1
            clear hP1 hD1 hK1 hPc hDc hFc ht hvm hz1 hk1
            have hP := hP.sub (ws' := [(h, .inr (0, [.ref c1, .ref l1, .ref o1, .int th, .int (nI cf)])), (c1, .inr (4, [.ref cb])), (cb, .inl (cI, 29, .inl cn)), (l1, .inr (6, [.int (nI 9), .ref lb])), (lb, .inl (cI, 261, .inl (upd la1 (k * 9 + (((t_cl (t_cand (t_r65 f k) (t_r65 g k) th) i).length) + 1)) ((nI (i + 2)))))), (o1, .inr (6, [.int (nI 9), .ref ob])), (ob, .inl (cI, 261, .inl co1)), (dh, .inr (1, [.ref t1, .ref t2, .int (nI mf)])), (t1, .inr (6, [.int (nI 65), .ref a1])), (a1, .inl (cI, 1885, .inl f)), (t2, .inr (6, [.int (nI 65), .ref a2])), (a2, .inl (cI, 1885, .inl g))]) [0, 1, 2, 10, 11, 3, 4, 5, 6, 7, 8, 9] rfl
            have hD := hD.sub (ws' := [(h, .inr (0, [.ref c1, .ref l1, .ref o1, .int th, .int (nI cf)])), (c1, .inr (4, [.ref cb])), (cb, .inl (cI, 29, .inl cn)), (l1, .inr (6, [.int (nI 9), .ref lb])), (lb, .inl (cI, 261, .inl (upd la1 (k * 9 + (((t_cl (t_cand (t_r65 f k) (t_r65 g k) th) i).length) + 1)) ((nI (i + 2)))))), (o1, .inr (6, [.int (nI 9), .ref ob])), (ob, .inl (cI, 261, .inl co1)), (dh, .inr (1, [.ref t1, .ref t2, .int (nI mf)])), (t1, .inr (6, [.int (nI 65), .ref a1])), (a1, .inl (cI, 1885, .inl f)), (t2, .inr (6, [.int (nI 65), .ref a2])), (a2, .inl (cI, 1885, .inl g))]) [0, 1, 2, 10, 11, 3, 4, 5, 6, 7, 8, 9] (by decide +kernel) rfl
            generalize H1 = H at hP hS ⊢
            refine lv_aload_n hx hb dX0_chooseInFrame_43 rfl (lv_at hl 2 rfl) ?_
            refine va_get (D := D) (ci := 0) (v := .ref o1) (C := RX0) (T := TX0) (N := 5) hx hb hts (fun _ h => List.mem_cons_of_mem _ (List.mem_append_left _ (List.mem_append_left _ (List.mem_append_left _ (List.mem_append_right _ h))))) hown hK hP 0 rfl rfl 2 (by decide) (hts (.fieldLink RX0 27 "PitchTracker$Candidates" "costs" "LPitchTracker$Table;") (List.mem_of_getElem? (i := 2) rfl)) (fun _ h9 => h9) rfl dX0_chooseInFrame_44 ?_
            refine lv_iload_n hx hb dX0_chooseInFrame_47 rfl (lv_at hl 4 rfl) ?_
            refine lv_iload_n hx hb dX0_chooseInFrame_48 rfl (lv_at hl 0 rfl) ?_
            refine lv_aload_n hx hb dX0_chooseInFrame_49 rfl (lv_at hl 3 rfl) ?_
            refine lv_iload_n hx hb dX0_chooseInFrame_50 rfl (lv_at hl 4 rfl) ?_
            refine lv_iload hx hb dX0_chooseInFrame_51 (lv_at hl 1 rfl) ?_
            have hPc := hP.sub (ws' := [(dh, .inr (1, [.ref t1, .ref t2, .int (nI mf)])), (t1, .inr (6, [.int (nI 65), .ref a1])), (a1, .inl (cI, 1885, .inl f)), (t2, .inr (6, [.int (nI 65), .ref a2])), (a2, .inl (cI, 1885, .inl g))]) [7, 8, 9, 10, 11] rfl
            refine vp_callSi (W.runV (As := [.int (nI k), .int (nI (i + 2))]) (rest := [.int (nI (((t_cl (t_cand (t_r65 f k) (t_r65 g k) th) i).length) + 1)), .int (nI k), .ref o1]) ⟨hx, hb, hml, hown, hts⟩ (c_X1_meanInThousandths l D cI cL dh t1 a1 t2 a2 mf f g k (i + 2) (by omega) (by omega)) (cwV 2 hts gX0_chooseInFrame_X1_meanInThousandths rfl rfl rfl (by decide +kernel) ⟨Nat.le_of_ble_eq_true rfl, Nat.le_of_ble_eq_true rfl⟩) ⟨t_rPcX_blind, va_recv hK hPc (ci := 1) (q0 := 0) rfl rfl, fun U hU hW => ⟨rfl, by rw [hU]; exact hPc, va_K.moved hW.alike hK, by rw [hU]; exact ((hX.kept hS.2.1).narrow (fun q h => h.elim)).moved hW⟩⟩ rfl rfl hl.1 rfl (lv_room (Nat.le_of_ble_eq_true rfl)) dX0_chooseInFrame_53 ⟨Nat.le_of_ble_eq_true rfl, Nat.le_of_ble_eq_true rfl⟩) (fun r_15 hr_15 => ?_)
            subst hr_15
            have hPc := hP.sub (ws' := [(o1, .inr (6, [.int (nI 9), .ref ob])), (ob, .inl (cI, 261, .inl co1))]) [5, 6] rfl
            have hDc := hD.sub (ws' := [(o1, .inr (6, [.int (nI 9), .ref ob])), (ob, .inl (cI, 261, .inl co1))]) [5, 6] (by decide +kernel) rfl
            have hFc := va_free (wc := [(o1, .inr (6, [.int (nI 9), .ref ob])), (ob, .inl (cI, 261, .inl co1))]) hD hS hA [5, 6] rfl
            refine va_callv (va_runV (As := [.int (nI k), .int (nI (((t_cl (t_cand (t_r65 f k) (t_r65 g k) th) i).length) + 1)), .int (t_mean (t_r65 f k) (t_r65 g k) (i + 2))]) (rest := []) ⟨hx, hb, hml, hown, hts⟩ (c_X6_put l D cI cL o1 ob 261 9 co1 k (((t_cl (t_cand (t_r65 f k) (t_r65 g k) th) i).length) + 1) ((t_mean (t_r65 f k) (t_r65 g k) (i + 2))) (by omega) (by omega) (by omega) (by omega) H.size) (cwV 3 hts gX0_chooseInFrame_X6_put rfl rfl rfl (by decide +kernel) ⟨Nat.le_of_ble_eq_true rfl, Nat.le_of_ble_eq_true rfl⟩) ⟨t_wPc_blind, va_recv hK hPc (ci := 6) (q0 := 0) rfl rfl, fun U hU hW => ⟨rfl, by rw [hU], by rw [hU]; exact hPc, va_K.moved hW.alike hK, hDc.weaken (fun _ _ _ _ => trivial)⟩⟩ rfl rfl hl.1 rfl (lv_room (Nat.le_of_ble_eq_true rfl)) dX0_chooseInFrame_56 ⟨Nat.le_of_ble_eq_true rfl, Nat.le_of_ble_eq_true rfl⟩) hS (fun q _ h => hFc q h) hFc (fun u_17 t H1 locs ht hvm hw hB hz1 hk1 hS => ?_)
            obtain ⟨hP1, hK1, hD1⟩ := hB
            rw [ht] at hP1
            have hw : u_17 = [(o1, .inr (6, [.int (nI 9), .ref ob])), (ob, .inl (cI, 261, .inl (upd co1 (k * 9 + (((t_cl (t_cand (t_r65 f k) (t_r65 g k) th) i).length) + 1)) ((t_mean (t_r65 f k) (t_r65 g k) (i + 2))))))] := hw
            subst hw
            obtain ⟨hP, hD⟩ := va_join (wr := [(h, .inr (0, [.ref c1, .ref l1, .ref o1, .int th, .int (nI cf)])), (c1, .inr (4, [.ref cb])), (cb, .inl (cI, 29, .inl cn)), (l1, .inr (6, [.int (nI 9), .ref lb])), (lb, .inl (cI, 261, .inl (upd la1 (k * 9 + (((t_cl (t_cand (t_r65 f k) (t_r65 g k) th) i).length) + 1)) ((nI (i + 2)))))), (dh, .inr (1, [.ref t1, .ref t2, .int (nI mf)])), (t1, .inr (6, [.int (nI 65), .ref a1])), (a1, .inl (cI, 1885, .inl f)), (t2, .inr (6, [.int (nI 65), .ref a2])), (a2, .inl (cI, 1885, .inl g))]) (w1 := [(o1, .inr (6, [.int (nI 9), .ref ob])), (ob, .inl (cI, 261, .inl (upd co1 (k * 9 + (((t_cl (t_cand (t_r65 f k) (t_r65 g k) th) i).length) + 1)) ((t_mean (t_r65 f k) (t_r65 g k) (i + 2))))))]) hP hD [5, 6] [0, 1, 2, 3, 4, 7, 8, 9, 10, 11] rfl rfl (by decide +kernel) (by decide +kernel) hk1 hFc hP1 hD1
            clear hP1 hD1 hK1 hPc hDc hFc ht hvm hz1 hk1
            have hP := hP.sub (ws' := [(h, .inr (0, [.ref c1, .ref l1, .ref o1, .int th, .int (nI cf)])), (c1, .inr (4, [.ref cb])), (cb, .inl (cI, 29, .inl cn)), (l1, .inr (6, [.int (nI 9), .ref lb])), (lb, .inl (cI, 261, .inl (upd la1 (k * 9 + (((t_cl (t_cand (t_r65 f k) (t_r65 g k) th) i).length) + 1)) ((nI (i + 2)))))), (o1, .inr (6, [.int (nI 9), .ref ob])), (ob, .inl (cI, 261, .inl (upd co1 (k * 9 + (((t_cl (t_cand (t_r65 f k) (t_r65 g k) th) i).length) + 1)) ((t_mean (t_r65 f k) (t_r65 g k) (i + 2)))))), (dh, .inr (1, [.ref t1, .ref t2, .int (nI mf)])), (t1, .inr (6, [.int (nI 65), .ref a1])), (a1, .inl (cI, 1885, .inl f)), (t2, .inr (6, [.int (nI 65), .ref a2])), (a2, .inl (cI, 1885, .inl g))]) [0, 1, 2, 3, 4, 10, 11, 5, 6, 7, 8, 9] rfl
            have hD := hD.sub (ws' := [(h, .inr (0, [.ref c1, .ref l1, .ref o1, .int th, .int (nI cf)])), (c1, .inr (4, [.ref cb])), (cb, .inl (cI, 29, .inl cn)), (l1, .inr (6, [.int (nI 9), .ref lb])), (lb, .inl (cI, 261, .inl (upd la1 (k * 9 + (((t_cl (t_cand (t_r65 f k) (t_r65 g k) th) i).length) + 1)) ((nI (i + 2)))))), (o1, .inr (6, [.int (nI 9), .ref ob])), (ob, .inl (cI, 261, .inl (upd co1 (k * 9 + (((t_cl (t_cand (t_r65 f k) (t_r65 g k) th) i).length) + 1)) ((t_mean (t_r65 f k) (t_r65 g k) (i + 2)))))), (dh, .inr (1, [.ref t1, .ref t2, .int (nI mf)])), (t1, .inr (6, [.int (nI 65), .ref a1])), (a1, .inl (cI, 1885, .inl f)), (t2, .inr (6, [.int (nI 65), .ref a2])), (a2, .inl (cI, 1885, .inl g))]) [0, 1, 2, 3, 4, 10, 11, 5, 6, 7, 8, 9] (by decide +kernel) rfl
            generalize H1 = H at hP hS ⊢
            have hle : (nI (((t_cl (t_cand (t_r65 f k) (t_r65 g k) th) i).length) + 1)) = (nI ((t_cl (t_cand (t_r65 f k) (t_r65 g k) th) (i + 1)).length)) := (by rw [t_cl_y q15_8 q26_12, List.length_append]; rfl)
            rw [hle] at hl
            refine lv_iinc (v := (nI (i + 2 + 1))) (lv' := [(4, .int (nI (i + 2 + 1))), (3, .int (nI ((t_cl (t_cand (t_r65 f k) (t_r65 g k) th) (i + 1)).length))), (0, .ref h), (1, .ref dh), (2, .int (nI k))]) hx hb dX0_chooseInFrame_59 hl (k := 1) rfl (nI_add (i + 2) 1) (by decide) rfl (fun ls hl => ?_)
            refine lv_goto (tgt := 5) hx hb dX0_chooseInFrame_62 (by decide) ?_
            exact ih_2 (i + 1) (upd la1 (k * 9 + (((t_cl (t_cand (t_r65 f k) (t_r65 g k) th) i).length) + 1)) ((nI (i + 2)))) (upd co1 (k * 9 + (((t_cl (t_cand (t_r65 f k) (t_r65 g k) th) i).length) + 1)) ((t_mean (t_r65 f k) (t_r65 g k) (i + 2)))) (by omega) (by omega) (by rw [t_cl_y q15_8 q26_12]; exact t_chd_s hv q15_8) _ _ (hP.sub [0, 1, 2, 3, 4, 5, 6, 7, 8, 9, 10, 11] rfl) (hD.sub [0, 1, 2, 3, 4, 5, 6, 7, 8, 9, 10, 11] (by decide +kernel) rfl) hS _ (lv_sub hl [0, 1, 2, 3, 4] rfl)
  exact loop_1 (62 - 0 + 1) 0 la co (Nat.lt_succ_self _) (Nat.zero_le _) t_chd_0 _ _ (hP.sub [0, 1, 2, 3, 4, 5, 6, 7, 8, 9, 10, 11] rfl) (hD.sub [0, 1, 2, 3, 4, 5, 6, 7, 8, 9, 10, 11] (by decide +kernel) rfl) hS _ (lv_sub hl [0, 1, 2, 3, 4] rfl)

set_option maxHeartbeats 4000000 in
set_option maxRecDepth 100000 in
theorem c_X0_choose (l : Launch) (D : va_G) (cI cL : ClassId) (h c1 cb l1 lb o1 ob cf : Nat) (th : Int32) (cn la co : Nat → Int32) (dh t1 a1 t2 a2 mf : Nat) (f g : Nat → Int32) (x : Nat → Int32) (n : Nat) (hn : n ≤ 29) (hcf : cf ≤ n) (hok : t_okd x n f g) (hz0 : t_z0 la) (hoc : t_okc x th cf cn la co) (sz : Nat) : Met l yX0_choose wsX0_choose ({ frames := 6, cells := 0, slots := 0, locals := 240 }) (t_wPcX D cI cL [.ref h, .ref dh, .int (nI n)] [(h, .inr (0, [.ref c1, .ref l1, .ref o1, .int th, .int (nI cf)])), (c1, .inr (4, [.ref cb])), (cb, .inl (cI, 29, .inl cn)), (l1, .inr (6, [.int (nI 9), .ref lb])), (lb, .inl (cI, 261, .inl la)), (o1, .inr (6, [.int (nI 9), .ref ob])), (ob, .inl (cI, 261, .inl co)), (dh, .inr (1, [.ref t1, .ref t2, .int (nI mf)])), (t1, .inr (6, [.int (nI 65), .ref a1])), (a1, .inl (cI, 1885, .inl f)), (t2, .inr (6, [.int (nI 65), .ref a2])), (a2, .inl (cI, 1885, .inl g))] sz) (t_Qv D cI cL (fun w1 => ∃ cn2 : Nat → Int32, ∃ la2 : Nat → Int32, ∃ co2 : Nat → Int32, w1 = [(h, .inr (0, [.ref c1, .ref l1, .ref o1, .int th, .int (nI n)])), (c1, .inr (4, [.ref cb])), (cb, .inl (cI, 29, .inl cn2)), (l1, .inr (6, [.int (nI 9), .ref lb])), (lb, .inl (cI, 261, .inl la2)), (o1, .inr (6, [.int (nI 9), .ref ob])), (ob, .inl (cI, 261, .inl co2)), (dh, .inr (1, [.ref t1, .ref t2, .int (nI mf)])), (t1, .inr (6, [.int (nI 65), .ref a1])), (a1, .inl (cI, 1885, .inl f)), (t2, .inr (6, [.int (nI 65), .ref a2])), (a2, .inl (cI, 1885, .inl g))] ∧ t_z0 la2 ∧ t_okc x th n cn2 la2 co2) (va_A [(h, .inr (0, [.ref c1, .ref l1, .ref o1, .int th, .int (nI cf)])), (c1, .inr (4, [.ref cb])), (cb, .inl (cI, 29, .inl cn)), (l1, .inr (6, [.int (nI 9), .ref lb])), (lb, .inl (cI, 261, .inl la)), (o1, .inr (6, [.int (nI 9), .ref ob])), (ob, .inl (cI, 261, .inl co)), (dh, .inr (1, [.ref t1, .ref t2, .int (nI mf)])), (t1, .inr (6, [.int (nI 65), .ref a1])), (a1, .inl (cI, 1885, .inl f)), (t2, .inr (6, [.int (nI 65), .ref a2])), (a2, .inl (cI, 1885, .inl g))] sz)) 0 0 (va_A [(h, .inr (0, [.ref c1, .ref l1, .ref o1, .int th, .int (nI cf)])), (c1, .inr (4, [.ref cb])), (cb, .inl (cI, 29, .inl cn)), (l1, .inr (6, [.int (nI 9), .ref lb])), (lb, .inl (cI, 261, .inl la)), (o1, .inr (6, [.int (nI 9), .ref ob])), (ob, .inl (cI, 261, .inl co)), (dh, .inr (1, [.ref t1, .ref t2, .int (nI mf)])), (t1, .inr (6, [.int (nI 65), .ref a1])), (a1, .inl (cI, 1885, .inl f)), (t2, .inr (6, [.int (nI 65), .ref a2])), (a2, .inl (cI, 1885, .inl g))] sz) := by
  refine t_ofWX (Qc := t_Qv D cI cL (fun w1 => ∃ cn2 : Nat → Int32, ∃ la2 : Nat → Int32, ∃ co2 : Nat → Int32, w1 = [(h, .inr (0, [.ref c1, .ref l1, .ref o1, .int th, .int (nI n)])), (c1, .inr (4, [.ref cb])), (cb, .inl (cI, 29, .inl cn2)), (l1, .inr (6, [.int (nI 9), .ref lb])), (lb, .inl (cI, 261, .inl la2)), (o1, .inr (6, [.int (nI 9), .ref ob])), (ob, .inl (cI, 261, .inl co2)), (dh, .inr (1, [.ref t1, .ref t2, .int (nI mf)])), (t1, .inr (6, [.int (nI 65), .ref a1])), (a1, .inl (cI, 1885, .inl f)), (t2, .inr (6, [.int (nI 65), .ref a2])), (a2, .inl (cI, 1885, .inl g))] ∧ t_z0 la2 ∧ t_okc x th n cn2 la2 co2)) (by decide) rfl (Nat.le_of_ble_eq_true rfl) ?_
  intro p e s m below meth c ls A hx hb hml hown hts hr hlocks hin hK hP hD hS hA hX hl
  have hown : s.vm.findClass RX0 = some m.cls := hown
  have hl : lv_has ls 4 [(0, .ref h), (1, .ref dh), (2, .int (nI n))] := hl
  refine lv_aload_n hx hb dX0_choose_0 rfl (lv_at hl 0 rfl) ?_
  refine va_get (D := D) (ci := 0) (v := .int (nI cf)) (C := RX0) (T := TX0) (N := 5) hx hb hts (fun _ h => List.mem_cons_of_mem _ (List.mem_append_left _ (List.mem_append_left _ (List.mem_append_left _ (List.mem_append_right _ h))))) hown hK hP 0 rfl rfl 4 (by decide) (hts (.fieldLink RX0 37 "PitchTracker$Candidates" "chosenFrames" "I") (List.mem_of_getElem? (i := 1) rfl)) (fun _ h9 => h9) rfl dX0_choose_1 ?_
  refine lv_istore_n (lv' := [(3, .int (nI cf)), (0, .ref h), (1, .ref dh), (2, .int (nI n))]) hx hb dX0_choose_4 rfl hl (by decide) rfl (fun ls hl => ?_)
  have loop_1 : ∀ (n_3 : Nat) (i : Nat) (cn1 : Nat → Int32) (la1 : Nat → Int32) (co1 : Nat → Int32) (hm_4 : n - i < n_3) (hi : i ≤ n) (hz : t_z0 la1) (hv : t_okc x th i cn1 la1 co1) (H : Heap) (locs : List Loc) (hP : va_P D vwCl [(h, .inr (0, [.ref c1, .ref l1, .ref o1, .int th, .int (nI cf)])), (c1, .inr (4, [.ref cb])), (cb, .inl (cI, 29, .inl cn1)), (l1, .inr (6, [.int (nI 9), .ref lb])), (lb, .inl (cI, 261, .inl la1)), (o1, .inr (6, [.int (nI 9), .ref ob])), (ob, .inl (cI, 261, .inl co1)), (dh, .inr (1, [.ref t1, .ref t2, .int (nI mf)])), (t1, .inr (6, [.int (nI 65), .ref a1])), (a1, .inl (cI, 1885, .inl f)), (t2, .inr (6, [.int (nI 65), .ref a2])), (a2, .inl (cI, 1885, .inl g))] H) (hD : va_D A [(h, .inr (0, [.ref c1, .ref l1, .ref o1, .int th, .int (nI cf)])), (c1, .inr (4, [.ref cb])), (cb, .inl (cI, 29, .inl cn1)), (l1, .inr (6, [.int (nI 9), .ref lb])), (lb, .inl (cI, 261, .inl la1)), (o1, .inr (6, [.int (nI 9), .ref ob])), (ob, .inl (cI, 261, .inl co1)), (dh, .inr (1, [.ref t1, .ref t2, .int (nI mf)])), (t1, .inr (6, [.int (nI 65), .ref a1])), (a1, .inl (cI, 1885, .inl f)), (t2, .inr (6, [.int (nI 65), .ref a2])), (a2, .inl (cI, 1885, .inl g))]) (hS : va_S A s.heap H locs) (ls : Array Slot) (hl : lv_has ls 4 [(3, .int (nI i)), (0, .ref h), (1, .ref dh), (2, .int (nI n))]), W p l e ({ frames := 6, cells := 0, slots := 0, locals := 240 }) s m ([.ref h, .ref dh, .int (nI n)] : List Value).toArray below meth c H locs 0 0 (MQ below (t_Qv D cI cL (fun w1 => ∃ cn2 : Nat → Int32, ∃ la2 : Nat → Int32, ∃ co2 : Nat → Int32, w1 = [(h, .inr (0, [.ref c1, .ref l1, .ref o1, .int th, .int (nI n)])), (c1, .inr (4, [.ref cb])), (cb, .inl (cI, 29, .inl cn2)), (l1, .inr (6, [.int (nI 9), .ref lb])), (lb, .inl (cI, 261, .inl la2)), (o1, .inr (6, [.int (nI 9), .ref ob])), (ob, .inl (cI, 261, .inl co2)), (dh, .inr (1, [.ref t1, .ref t2, .int (nI mf)])), (t1, .inr (6, [.int (nI 65), .ref a1])), (a1, .inl (cI, 1885, .inl f)), (t2, .inr (6, [.int (nI 65), .ref a2])), (a2, .inl (cI, 1885, .inl g))] ∧ t_z0 la2 ∧ t_okc x th n cn2 la2 co2) A) ([.ref h, .ref dh, .int (nI n)] : List Value).toArray s 0 0 A) (F0 m 5 ls []) := by
    intro n_3
    induction n_3 with
    | zero => intro i cn1 la1 co1 hm_4; exact absurd hm_4 (Nat.not_lt_zero _)
    | succ n_3 ih_2 =>
      intro i cn1 la1 co1 hm_4 hi hz hv H locs hP hD hS ls hl
      refine lv_iload_n hx hb dX0_choose_5 rfl (lv_at hl 0 rfl) ?_
      refine lv_iload_n hx hb dX0_choose_6 rfl (lv_at hl 3 rfl) ?_
      refine tv_icmp_ge (tgt := 22) hx hb dX0_choose_7 (by decide) (by omega) (by omega) (fun q7_5 => ?_) (fun q7_5 => ?_)
      · refine lv_aload_n hx hb dX0_choose_22 rfl (lv_at hl 1 rfl) ?_
        refine lv_iload_n hx hb dX0_choose_23 rfl (lv_at hl 3 rfl) ?_
        refine va_put (D := D) (ci := 0) (v := .int (nI n)) (ty := .int) (C := RX0) (T := TX0) (N := 5) hx hb hts (fun _ h => List.mem_cons_of_mem _ (List.mem_append_left _ (List.mem_append_left _ (List.mem_append_left _ (List.mem_append_right _ h))))) tyX0 tyX0_ok nmX0 hown hK hP hD hS 0 rfl rfl 4 (by decide) (hts (.fieldLink RX0 37 "PitchTracker$Candidates" "chosenFrames" "I") (List.mem_of_getElem? (i := 1) rfl)) (fun _ h9 => h9) rfl (by decide +kernel) rfl rfl (Nat.le_of_ble_eq_true rfl) dX0_choose_24 (fun H locs hP hD hS => ?_)
        have hP : va_P D vwCl [(h, .inr (0, [.ref c1, .ref l1, .ref o1, .int th, .int (nI n)])), (c1, .inr (4, [.ref cb])), (cb, .inl (cI, 29, .inl cn1)), (l1, .inr (6, [.int (nI 9), .ref lb])), (lb, .inl (cI, 261, .inl la1)), (o1, .inr (6, [.int (nI 9), .ref ob])), (ob, .inl (cI, 261, .inl co1)), (dh, .inr (1, [.ref t1, .ref t2, .int (nI mf)])), (t1, .inr (6, [.int (nI 65), .ref a1])), (a1, .inl (cI, 1885, .inl f)), (t2, .inr (6, [.int (nI 65), .ref a2])), (a2, .inl (cI, 1885, .inl g))] H := hP
        have hD : va_D A [(h, .inr (0, [.ref c1, .ref l1, .ref o1, .int th, .int (nI n)])), (c1, .inr (4, [.ref cb])), (cb, .inl (cI, 29, .inl cn1)), (l1, .inr (6, [.int (nI 9), .ref lb])), (lb, .inl (cI, 261, .inl la1)), (o1, .inr (6, [.int (nI 9), .ref ob])), (ob, .inl (cI, 261, .inl co1)), (dh, .inr (1, [.ref t1, .ref t2, .int (nI mf)])), (t1, .inr (6, [.int (nI 65), .ref a1])), (a1, .inl (cI, 1885, .inl f)), (t2, .inr (6, [.int (nI 65), .ref a2])), (a2, .inl (cI, 1885, .inl g))] := hD
        have hP9 := hP
        have hD9 := hD
        exact W.vret hx hb hr (fun t ht hW => ⟨⟨[(h, .inr (0, [.ref c1, .ref l1, .ref o1, .int th, .int (nI n)])), (c1, .inr (4, [.ref cb])), (cb, .inl (cI, 29, .inl cn1)), (l1, .inr (6, [.int (nI 9), .ref lb])), (lb, .inl (cI, 261, .inl la1)), (o1, .inr (6, [.int (nI 9), .ref ob])), (ob, .inl (cI, 261, .inl co1)), (dh, .inr (1, [.ref t1, .ref t2, .int (nI mf)])), (t1, .inr (6, [.int (nI 65), .ref a1])), (a1, .inl (cI, 1885, .inl f)), (t2, .inr (6, [.int (nI 65), .ref a2])), (a2, .inl (cI, 1885, .inl g))], rfl, ⟨cn1, la1, co1, rfl, hz, (by obtain rfl : i = n := (by omega); exact hv)⟩, ⟨by rw [ht]; exact hP9, va_K.moved hW.alike hK, hD9⟩⟩, hS.F ht⟩) hS.2.2 dX0_choose_27 hlocks
      · refine lv_aload_n hx hb dX0_choose_10 rfl (lv_at hl 1 rfl) ?_
        refine lv_aload_n hx hb dX0_choose_11 rfl (lv_at hl 2 rfl) ?_
        refine lv_iload_n hx hb dX0_choose_12 rfl (lv_at hl 0 rfl) ?_
        have hPc := hP.sub (ws' := [(h, .inr (0, [.ref c1, .ref l1, .ref o1, .int th, .int (nI cf)])), (c1, .inr (4, [.ref cb])), (cb, .inl (cI, 29, .inl cn1)), (l1, .inr (6, [.int (nI 9), .ref lb])), (lb, .inl (cI, 261, .inl la1)), (o1, .inr (6, [.int (nI 9), .ref ob])), (ob, .inl (cI, 261, .inl co1)), (dh, .inr (1, [.ref t1, .ref t2, .int (nI mf)])), (t1, .inr (6, [.int (nI 65), .ref a1])), (a1, .inl (cI, 1885, .inl f)), (t2, .inr (6, [.int (nI 65), .ref a2])), (a2, .inl (cI, 1885, .inl g))]) [0, 1, 2, 3, 4, 5, 6, 7, 8, 9, 10, 11] rfl
        have hDc := hD.sub (ws' := [(h, .inr (0, [.ref c1, .ref l1, .ref o1, .int th, .int (nI cf)])), (c1, .inr (4, [.ref cb])), (cb, .inl (cI, 29, .inl cn1)), (l1, .inr (6, [.int (nI 9), .ref lb])), (lb, .inl (cI, 261, .inl la1)), (o1, .inr (6, [.int (nI 9), .ref ob])), (ob, .inl (cI, 261, .inl co1)), (dh, .inr (1, [.ref t1, .ref t2, .int (nI mf)])), (t1, .inr (6, [.int (nI 65), .ref a1])), (a1, .inl (cI, 1885, .inl f)), (t2, .inr (6, [.int (nI 65), .ref a2])), (a2, .inl (cI, 1885, .inl g))]) [0, 1, 2, 3, 4, 5, 6, 7, 8, 9, 10, 11] (by decide +kernel) rfl
        have hFc := va_free (wc := [(h, .inr (0, [.ref c1, .ref l1, .ref o1, .int th, .int (nI cf)])), (c1, .inr (4, [.ref cb])), (cb, .inl (cI, 29, .inl cn1)), (l1, .inr (6, [.int (nI 9), .ref lb])), (lb, .inl (cI, 261, .inl la1)), (o1, .inr (6, [.int (nI 9), .ref ob])), (ob, .inl (cI, 261, .inl co1)), (dh, .inr (1, [.ref t1, .ref t2, .int (nI mf)])), (t1, .inr (6, [.int (nI 65), .ref a1])), (a1, .inl (cI, 1885, .inl f)), (t2, .inr (6, [.int (nI 65), .ref a2])), (a2, .inl (cI, 1885, .inl g))]) hD hS hA [0, 1, 2, 3, 4, 5, 6, 7, 8, 9, 10, 11] rfl
        refine va_callv (va_runV (As := [.ref dh, .int (nI i)]) (rest := []) ⟨hx, hb, hml, hown, hts⟩ (c_X0_chooseInFrame l D cI cL h c1 cb l1 lb o1 ob cf th cn1 la1 co1 dh t1 a1 t2 a2 mf f g i (by omega) H.size) (cwV 2 hts gX0_choose_X0_chooseInFrame rfl rfl rfl (by decide +kernel) ⟨Nat.le_of_ble_eq_true rfl, Nat.le_of_ble_eq_true rfl⟩) ⟨t_wPcX_blind, va_recv hK hPc (ci := 0) (q0 := 0) rfl rfl, fun U hU hW => ⟨rfl, by rw [hU], by rw [hU]; exact hPc, va_K.moved hW.alike hK, hDc.weaken (fun _ _ _ _ => trivial), by rw [hU]; exact ((hX.kept hS.2.1).narrow hFc).moved hW⟩⟩ rfl rfl hl.1 rfl (lv_room (Nat.le_of_ble_eq_true rfl)) dX0_choose_13 ⟨Nat.le_of_ble_eq_true rfl, Nat.le_of_ble_eq_true rfl⟩) hS (fun q _ h => hFc q h) hFc (fun u_7 t H1 locs ht hvm hw hB hz1 hk1 hS => ?_)
        obtain ⟨hP1, hK1, hD1⟩ := hB
        rw [ht] at hP1
        obtain ⟨f_8, f_9, f_10, hw, hp_11, hp_12⟩ := hw
        have hw : u_7 = [(h, .inr (0, [.ref c1, .ref l1, .ref o1, .int th, .int (nI cf)])), (c1, .inr (4, [.ref cb])), (cb, .inl (cI, 29, .inl f_8)), (l1, .inr (6, [.int (nI 9), .ref lb])), (lb, .inl (cI, 261, .inl f_9)), (o1, .inr (6, [.int (nI 9), .ref ob])), (ob, .inl (cI, 261, .inl f_10)), (dh, .inr (1, [.ref t1, .ref t2, .int (nI mf)])), (t1, .inr (6, [.int (nI 65), .ref a1])), (a1, .inl (cI, 1885, .inl f)), (t2, .inr (6, [.int (nI 65), .ref a2])), (a2, .inl (cI, 1885, .inl g))] := hw
        subst hw
        have hp_11 : f_8 = upd cn1 i (nI (t_cs (t_r65 f i) (t_r65 g i) th).length) := hp_11
        have hp_12 : t_chd (t_mean (t_r65 f i) (t_r65 g i)) i (t_cs (t_r65 f i) (t_r65 g i) th) la1 co1 f_9 f_10 := hp_12
        obtain ⟨hP, hD⟩ := va_join (wr := []) (w1 := [(h, .inr (0, [.ref c1, .ref l1, .ref o1, .int th, .int (nI cf)])), (c1, .inr (4, [.ref cb])), (cb, .inl (cI, 29, .inl f_8)), (l1, .inr (6, [.int (nI 9), .ref lb])), (lb, .inl (cI, 261, .inl f_9)), (o1, .inr (6, [.int (nI 9), .ref ob])), (ob, .inl (cI, 261, .inl f_10)), (dh, .inr (1, [.ref t1, .ref t2, .int (nI mf)])), (t1, .inr (6, [.int (nI 65), .ref a1])), (a1, .inl (cI, 1885, .inl f)), (t2, .inr (6, [.int (nI 65), .ref a2])), (a2, .inl (cI, 1885, .inl g))]) hP hD [0, 1, 2, 3, 4, 5, 6, 7, 8, 9, 10, 11] [] rfl rfl (by decide +kernel) (by decide +kernel) hk1 hFc hP1 hD1
        clear hP1 hD1 hK1 hPc hDc hFc ht hvm hz1 hk1
        have hP : va_P D vwCl [(h, .inr (0, [.ref c1, .ref l1, .ref o1, .int th, .int (nI cf)])), (c1, .inr (4, [.ref cb])), (cb, .inl (cI, 29, .inl f_8)), (l1, .inr (6, [.int (nI 9), .ref lb])), (lb, .inl (cI, 261, .inl f_9)), (o1, .inr (6, [.int (nI 9), .ref ob])), (ob, .inl (cI, 261, .inl f_10)), (dh, .inr (1, [.ref t1, .ref t2, .int (nI mf)])), (t1, .inr (6, [.int (nI 65), .ref a1])), (a1, .inl (cI, 1885, .inl f)), (t2, .inr (6, [.int (nI 65), .ref a2])), (a2, .inl (cI, 1885, .inl g))] H1 := hP
        have hD : va_D A [(h, .inr (0, [.ref c1, .ref l1, .ref o1, .int th, .int (nI cf)])), (c1, .inr (4, [.ref cb])), (cb, .inl (cI, 29, .inl f_8)), (l1, .inr (6, [.int (nI 9), .ref lb])), (lb, .inl (cI, 261, .inl f_9)), (o1, .inr (6, [.int (nI 9), .ref ob])), (ob, .inl (cI, 261, .inl f_10)), (dh, .inr (1, [.ref t1, .ref t2, .int (nI mf)])), (t1, .inr (6, [.int (nI 65), .ref a1])), (a1, .inl (cI, 1885, .inl f)), (t2, .inr (6, [.int (nI 65), .ref a2])), (a2, .inl (cI, 1885, .inl g))] := hD
        generalize H1 = H at hP hS ⊢
        refine lv_iinc (v := (nI (i + 1))) (lv' := [(3, .int (nI (i + 1))), (0, .ref h), (1, .ref dh), (2, .int (nI n))]) hx hb dX0_choose_16 hl (k := 0) rfl (nI_add i 1) (by decide) rfl (fun ls hl => ?_)
        refine lv_goto (tgt := 5) hx hb dX0_choose_19 (by decide) ?_
        exact ih_2 (i + 1) f_8 f_9 f_10 (by omega) (by omega) (t_z0_s hz hp_12.1) (t_okc_s hok (by omega) hv hp_11 hp_12) _ _ (hP.sub [0, 1, 2, 3, 4, 5, 6, 7, 8, 9, 10, 11] rfl) (hD.sub [0, 1, 2, 3, 4, 5, 6, 7, 8, 9, 10, 11] (by decide +kernel) rfl) hS _ (lv_sub hl [0, 1, 2, 3] rfl)
  exact loop_1 (n - cf + 1) cf cn la co (Nat.lt_succ_self _) hcf hz0 hoc _ _ (hP.sub [0, 1, 2, 3, 4, 5, 6, 7, 8, 9, 10, 11] rfl) (hD.sub [0, 1, 2, 3, 4, 5, 6, 7, 8, 9, 10, 11] (by decide +kernel) rfl) hS _ (lv_sub hl [0, 1, 2, 3] rfl)

set_option maxHeartbeats 4000000 in
set_option maxRecDepth 100000 in
theorem c_X0_howMany (l : Launch) (D : va_G) (cI cL : ClassId) (h c1 cb l1 o1 cf : Nat) (th : Int32) (cn : Nat → Int32) (k : Nat) (hk : k < 29) : Met l yX0_howMany wsX0_howMany ({ frames := 1, cells := 0, slots := 0, locals := 40 }) (t_rPc D cI cL [.ref h, .int (nI k)] [(h, .inr (0, [.ref c1, .ref l1, .ref o1, .int th, .int (nI cf)])), (c1, .inr (4, [.ref cb])), (cb, .inl (cI, 29, .inl cn))]) (vp_Si (fun r => r = (cn k))) 0 0 (fun _ => False) := by
  refine t_ofR (by decide) rfl (Nat.le_of_ble_eq_true rfl) ?_
  intro p e s m below meth c ls hx hb hml hown hts hr hlocks hK hP hl
  have hown : s.vm.findClass RX0 = some m.cls := hown
  have hl : lv_has ls 2 [(0, .ref h), (1, .int (nI k))] := hl
  refine lv_aload_n hx hb dX0_howMany_0 rfl (lv_at hl 0 rfl) ?_
  refine va_get (D := D) (ci := 0) (v := .ref c1) (C := RX0) (T := TX0) (N := 5) hx hb hts (fun _ h => List.mem_cons_of_mem _ (List.mem_append_left _ (List.mem_append_right _ h))) hown hK hP 0 rfl rfl 0 (by decide) (hts (.fieldLink RX0 14 "PitchTracker$Candidates" "counts" "LPitchTracker$Row;") (List.mem_of_getElem? (i := 1) rfl)) (fun _ h9 => h9) rfl dX0_howMany_1 ?_
  refine lv_iload_n hx hb dX0_howMany_4 rfl (lv_at hl 1 rfl) ?_
  have hPc := hP.sub (ws' := [(c1, .inr (4, [.ref cb])), (cb, .inl (cI, 29, .inl cn))]) [1, 2] rfl
  refine vp_callSi (W.runV (As := [.int (nI k)]) (rest := []) ⟨hx, hb, hml, hown, hts⟩ (c_X4_at l D cI cL c1 cb 29 cn k (by omega) (by omega)) (cwV 1 hts gX0_howMany_X4_at rfl rfl rfl (by decide +kernel) ⟨Nat.le_of_ble_eq_true rfl, Nat.le_of_ble_eq_true rfl⟩) ⟨t_rPc_blind, va_recv hK hPc (ci := 4) (q0 := 0) rfl rfl, fun U hU hW => ⟨rfl, by rw [hU]; exact hPc, va_K.moved hW.alike hK⟩⟩ rfl rfl hl.1 rfl (lv_room (Nat.le_of_ble_eq_true rfl)) dX0_howMany_5 ⟨Nat.le_of_ble_eq_true rfl, Nat.le_of_ble_eq_true rfl⟩) (fun r_1 hr_1 => ?_)
  subst hr_1
  exact W.iret (v := (cn k)) hx hb hr (fun t ht hW => ⟨_, rfl, rfl, ht⟩) (fun q h => by cases h) dX0_howMany_8 hlocks

set_option maxHeartbeats 4000000 in
set_option maxRecDepth 100000 in
theorem c_X0_choicesIn (l : Launch) (D : va_G) (cI cL : ClassId) (h c1 cb l1 o1 cf : Nat) (th : Int32) (cn : Nat → Int32) (k : Nat) (hk : k < 29) : Met l yX0_choicesIn wsX0_choicesIn ({ frames := 1, cells := 0, slots := 0, locals := 40 }) (t_rPc D cI cL [.ref h, .int (nI k)] [(h, .inr (0, [.ref c1, .ref l1, .ref o1, .int th, .int (nI cf)])), (c1, .inr (4, [.ref cb])), (cb, .inl (cI, 29, .inl cn))]) (vp_Si (fun r => r = (cn k + nI 1))) 0 0 (fun _ => False) := by
  refine t_ofR (by decide) rfl (Nat.le_of_ble_eq_true rfl) ?_
  intro p e s m below meth c ls hx hb hml hown hts hr hlocks hK hP hl
  have hown : s.vm.findClass RX0 = some m.cls := hown
  have hl : lv_has ls 2 [(0, .ref h), (1, .int (nI k))] := hl
  refine lv_aload_n hx hb dX0_choicesIn_0 rfl (lv_at hl 0 rfl) ?_
  refine va_get (D := D) (ci := 0) (v := .ref c1) (C := RX0) (T := TX0) (N := 5) hx hb hts (fun _ h => List.mem_cons_of_mem _ (List.mem_append_left _ (List.mem_append_right _ h))) hown hK hP 0 rfl rfl 0 (by decide) (hts (.fieldLink RX0 14 "PitchTracker$Candidates" "counts" "LPitchTracker$Row;") (List.mem_of_getElem? (i := 1) rfl)) (fun _ h9 => h9) rfl dX0_choicesIn_1 ?_
  refine lv_iload_n hx hb dX0_choicesIn_4 rfl (lv_at hl 1 rfl) ?_
  have hPc := hP.sub (ws' := [(c1, .inr (4, [.ref cb])), (cb, .inl (cI, 29, .inl cn))]) [1, 2] rfl
  refine vp_callSi (W.runV (As := [.int (nI k)]) (rest := []) ⟨hx, hb, hml, hown, hts⟩ (c_X4_at l D cI cL c1 cb 29 cn k (by omega) (by omega)) (cwV 1 hts gX0_choicesIn_X4_at rfl rfl rfl (by decide +kernel) ⟨Nat.le_of_ble_eq_true rfl, Nat.le_of_ble_eq_true rfl⟩) ⟨t_rPc_blind, va_recv hK hPc (ci := 4) (q0 := 0) rfl rfl, fun U hU hW => ⟨rfl, by rw [hU]; exact hPc, va_K.moved hW.alike hK⟩⟩ rfl rfl hl.1 rfl (lv_room (Nat.le_of_ble_eq_true rfl)) dX0_choicesIn_5 ⟨Nat.le_of_ble_eq_true rfl, Nat.le_of_ble_eq_true rfl⟩) (fun r_1 hr_1 => ?_)
  subst hr_1
  refine lv_iconst (v := ((nI 1) : Int32)) hx hb dX0_choicesIn_8 (by decide +kernel) ?_
  refine lv_iadd hx hb dX0_choicesIn_9 ?_
  exact W.iret (v := ((cn k) + (nI 1))) hx hb hr (fun t ht hW => ⟨_, rfl, rfl, ht⟩) (fun q h => by cases h) dX0_choicesIn_10 hlocks

set_option maxHeartbeats 4000000 in
set_option maxRecDepth 100000 in
theorem c_X0_choicesIn_m (l : Launch) (D : va_G) (cI cL : ClassId) (h c1 cb l1 o1 cf : Nat) (th : Int32) (cn : Nat → Int32) : Met l yX0_choicesIn wsX0_choicesIn ({ frames := 1, cells := 0, slots := 0, locals := 40 }) (t_rPc D cI cL [.ref h, .int (-1)] [(h, .inr (0, [.ref c1, .ref l1, .ref o1, .int th, .int (nI cf)])), (c1, .inr (4, [.ref cb])), (cb, .inl (cI, 29, .inl cn))]) (vp_Si (fun r => r = (nI 1))) 0 0 (fun _ => False) := by
  refine t_ofR (by decide) rfl (Nat.le_of_ble_eq_true rfl) ?_
  intro p e s m below meth c ls hx hb hml hown hts hr hlocks hK hP hl
  have hown : s.vm.findClass RX0 = some m.cls := hown
  have hl : lv_has ls 2 [(0, .ref h), (1, .int (-1))] := hl
  refine lv_aload_n hx hb dX0_choicesIn_0 rfl (lv_at hl 0 rfl) ?_
  refine va_get (D := D) (ci := 0) (v := .ref c1) (C := RX0) (T := TX0) (N := 5) hx hb hts (fun _ h => List.mem_cons_of_mem _ (List.mem_append_left _ (List.mem_append_right _ h))) hown hK hP 0 rfl rfl 0 (by decide) (hts (.fieldLink RX0 14 "PitchTracker$Candidates" "counts" "LPitchTracker$Row;") (List.mem_of_getElem? (i := 1) rfl)) (fun _ h9 => h9) rfl dX0_choicesIn_1 ?_
  refine lv_iload_n hx hb dX0_choicesIn_4 rfl (lv_at hl 1 rfl) ?_
  have hPc := hP.sub (ws' := [(c1, .inr (4, [.ref cb])), (cb, .inl (cI, 29, .inl cn))]) [1, 2] rfl
  refine vp_callSi (W.runV (As := [.int (-1)]) (rest := []) ⟨hx, hb, hml, hown, hts⟩ (c_X4_at_m l D cI cL c1 cb 29 cn) (cwV 1 hts gX0_choicesIn_X4_at rfl rfl rfl (by decide +kernel) ⟨Nat.le_of_ble_eq_true rfl, Nat.le_of_ble_eq_true rfl⟩) ⟨t_rPc_blind, va_recv hK hPc (ci := 4) (q0 := 0) rfl rfl, fun U hU hW => ⟨rfl, by rw [hU]; exact hPc, va_K.moved hW.alike hK⟩⟩ rfl rfl hl.1 rfl (lv_room (Nat.le_of_ble_eq_true rfl)) dX0_choicesIn_5 ⟨Nat.le_of_ble_eq_true rfl, Nat.le_of_ble_eq_true rfl⟩) (fun r_1 hr_1 => ?_)
  subst hr_1
  refine lv_iconst (v := ((nI 1) : Int32)) hx hb dX0_choicesIn_8 (by decide +kernel) ?_
  refine tv_iadd (a := 0) (b := 1) hx hb dX0_choicesIn_9 ?_
  exact W.iret (v := (nI (0 + 1))) hx hb hr (fun t ht hW => ⟨_, rfl, rfl, ht⟩) (fun q h => by cases h) dX0_choicesIn_10 hlocks

set_option maxHeartbeats 4000000 in
set_option maxRecDepth 100000 in
theorem c_X0_lagOf (l : Launch) (D : va_G) (cI cL : ClassId) (h c1 l1 lb o1 cf : Nat) (th : Int32) (la : Nat → Int32) (k c0 : Nat) (hk : k < 29) (hc : c0 < 9) : Met l yX0_lagOf wsX0_lagOf ({ frames := 2, cells := 0, slots := 0, locals := 80 }) (t_rPc D cI cL [.ref h, .int (nI k), .int (nI c0)] [(h, .inr (0, [.ref c1, .ref l1, .ref o1, .int th, .int (nI cf)])), (l1, .inr (6, [.int (nI 9), .ref lb])), (lb, .inl (cI, 261, .inl la))]) (vp_Si (fun r => r = (la (k * 9 + c0)))) 0 0 (fun _ => False) := by
  refine t_ofR (by decide) rfl (Nat.le_of_ble_eq_true rfl) ?_
  intro p e s m below meth c ls hx hb hml hown hts hr hlocks hK hP hl
  have hown : s.vm.findClass RX0 = some m.cls := hown
  have hl : lv_has ls 3 [(0, .ref h), (1, .int (nI k)), (2, .int (nI c0))] := hl
  refine lv_aload_n hx hb dX0_lagOf_0 rfl (lv_at hl 0 rfl) ?_
  refine va_get (D := D) (ci := 0) (v := .ref l1) (C := RX0) (T := TX0) (N := 5) hx hb hts (fun _ h => List.mem_cons_of_mem _ (List.mem_append_left _ (List.mem_append_right _ h))) hown hK hP 0 rfl rfl 1 (by decide) (hts (.fieldLink RX0 23 "PitchTracker$Candidates" "lags" "LPitchTracker$Table;") (List.mem_of_getElem? (i := 1) rfl)) (fun _ h9 => h9) rfl dX0_lagOf_1 ?_
  refine lv_iload_n hx hb dX0_lagOf_4 rfl (lv_at hl 1 rfl) ?_
  refine lv_iload_n hx hb dX0_lagOf_5 rfl (lv_at hl 2 rfl) ?_
  have hPc := hP.sub (ws' := [(l1, .inr (6, [.int (nI 9), .ref lb])), (lb, .inl (cI, 261, .inl la))]) [1, 2] rfl
  refine vp_callSi (W.runV (As := [.int (nI k), .int (nI c0)]) (rest := []) ⟨hx, hb, hml, hown, hts⟩ (c_X6_at l D cI cL l1 lb 261 9 la k c0 (by omega) (by omega) (by omega) (by omega)) (cwV 2 hts gX0_lagOf_X6_at rfl rfl rfl (by decide +kernel) ⟨Nat.le_of_ble_eq_true rfl, Nat.le_of_ble_eq_true rfl⟩) ⟨t_rPc_blind, va_recv hK hPc (ci := 6) (q0 := 0) rfl rfl, fun U hU hW => ⟨rfl, by rw [hU]; exact hPc, va_K.moved hW.alike hK⟩⟩ rfl rfl hl.1 rfl (lv_room (Nat.le_of_ble_eq_true rfl)) dX0_lagOf_6 ⟨Nat.le_of_ble_eq_true rfl, Nat.le_of_ble_eq_true rfl⟩) (fun r_1 hr_1 => ?_)
  subst hr_1
  exact W.iret (v := (la (k * 9 + c0))) hx hb hr (fun t ht hW => ⟨_, rfl, rfl, ht⟩) (fun q h => by cases h) dX0_lagOf_9 hlocks

set_option maxHeartbeats 4000000 in
set_option maxRecDepth 100000 in
theorem c_X0_costOf (l : Launch) (D : va_G) (cI cL : ClassId) (h c1 l1 o1 ob cf : Nat) (th : Int32) (co : Nat → Int32) (k c0 : Nat) (hk : k < 29) (hc : c0 < 9) : Met l yX0_costOf wsX0_costOf ({ frames := 2, cells := 0, slots := 0, locals := 80 }) (t_rPc D cI cL [.ref h, .int (nI k), .int (nI c0)] [(h, .inr (0, [.ref c1, .ref l1, .ref o1, .int th, .int (nI cf)])), (o1, .inr (6, [.int (nI 9), .ref ob])), (ob, .inl (cI, 261, .inl co))]) (vp_Si (fun r => r = (co (k * 9 + c0)))) 0 0 (fun _ => False) := by
  refine t_ofR (by decide) rfl (Nat.le_of_ble_eq_true rfl) ?_
  intro p e s m below meth c ls hx hb hml hown hts hr hlocks hK hP hl
  have hown : s.vm.findClass RX0 = some m.cls := hown
  have hl : lv_has ls 3 [(0, .ref h), (1, .int (nI k)), (2, .int (nI c0))] := hl
  refine lv_aload_n hx hb dX0_costOf_0 rfl (lv_at hl 0 rfl) ?_
  refine va_get (D := D) (ci := 0) (v := .ref o1) (C := RX0) (T := TX0) (N := 5) hx hb hts (fun _ h => List.mem_cons_of_mem _ (List.mem_append_left _ (List.mem_append_right _ h))) hown hK hP 0 rfl rfl 2 (by decide) (hts (.fieldLink RX0 27 "PitchTracker$Candidates" "costs" "LPitchTracker$Table;") (List.mem_of_getElem? (i := 1) rfl)) (fun _ h9 => h9) rfl dX0_costOf_1 ?_
  refine lv_iload_n hx hb dX0_costOf_4 rfl (lv_at hl 1 rfl) ?_
  refine lv_iload_n hx hb dX0_costOf_5 rfl (lv_at hl 2 rfl) ?_
  have hPc := hP.sub (ws' := [(o1, .inr (6, [.int (nI 9), .ref ob])), (ob, .inl (cI, 261, .inl co))]) [1, 2] rfl
  refine vp_callSi (W.runV (As := [.int (nI k), .int (nI c0)]) (rest := []) ⟨hx, hb, hml, hown, hts⟩ (c_X6_at l D cI cL o1 ob 261 9 co k c0 (by omega) (by omega) (by omega) (by omega)) (cwV 2 hts gX0_costOf_X6_at rfl rfl rfl (by decide +kernel) ⟨Nat.le_of_ble_eq_true rfl, Nat.le_of_ble_eq_true rfl⟩) ⟨t_rPc_blind, va_recv hK hPc (ci := 6) (q0 := 0) rfl rfl, fun U hU hW => ⟨rfl, by rw [hU]; exact hPc, va_K.moved hW.alike hK⟩⟩ rfl rfl hl.1 rfl (lv_room (Nat.le_of_ble_eq_true rfl)) dX0_costOf_6 ⟨Nat.le_of_ble_eq_true rfl, Nat.le_of_ble_eq_true rfl⟩) (fun r_1 hr_1 => ?_)
  subst hr_1
  exact W.iret (v := (co (k * 9 + c0))) hx hb hr (fun t ht hW => ⟨_, rfl, rfl, ht⟩) (fun q h => by cases h) dX0_costOf_9 hlocks
