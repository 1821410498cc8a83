set_option maxHeartbeats 4000000 in
set_option maxRecDepth 100000 in
theorem c_X3_init (l : Launch) (D : va_G) (cI cL : ClassId) (h : Nat) (sz : Nat) : Met l yX3_init wsX3_init ({ frames := 2, cells := 4, slots := 60, locals := 80 }) (t_wPc D cI cL [.ref h] [(h, .inr (3, [.int (nI 0), .int (nI 0), .null, .null]))] sz) (t_Qv D cI cL (fun w1 => ∃ p1 : Nat, ∃ p2 : Nat, ∃ q1 : Nat, ∃ q2 : Nat, w1 = [(h, .inr (3, [.int (nI 0), .int ((nI 4096)), .ref p1, .ref q1])), (p1, .inr (4, [.ref p2])), (p2, .inl (cI, 29, .inl (fun _ => nI 0))), (q1, .inr (4, [.ref q2])), (q2, .inl (cI, 29, .inl (fun _ => nI 0)))]) (va_A [(h, .inr (3, [.int (nI 0), .int (nI 0), .null, .null]))] sz)) 4 60 (va_A [(h, .inr (3, [.int (nI 0), .int (nI 0), .null, .null]))] sz) := by
  refine t_ofW (Qc := t_Qv D cI cL (fun w1 => ∃ p1 : Nat, ∃ p2 : Nat, ∃ q1 : Nat, ∃ q2 : Nat, w1 = [(h, .inr (3, [.int (nI 0), .int ((nI 4096)), .ref p1, .ref q1])), (p1, .inr (4, [.ref p2])), (p2, .inl (cI, 29, .inl (fun _ => nI 0))), (q1, .inr (4, [.ref q2])), (q2, .inl (cI, 29, .inl (fun _ => nI 0)))])) (by decide) rfl (Nat.le_of_ble_eq_true rfl) ?_
  intro p e s m below meth c ls A hx hb hml hown hts hr hlocks hin hK hP hD hS hA hl
  have hown : s.vm.findClass RX3 = some m.cls := hown
  have hl : lv_has ls 1 [(0, .ref h)] := hl
  refine lv_aload_n hx hb dX3_init_0 rfl (lv_at hl 0 rfl) ?_
  refine W.objInit hx hb hown (hts (.methodLink RX3 3 objectInit) (List.mem_of_getElem? (i := 1) rfl)) (hts (.instanceMethod objectInit) (List.mem_of_getElem? (i := 2) rfl)) (hts (.code objectInit ⟨#[0xb1]⟩ 1 none) (List.mem_of_getElem? (i := 3) rfl)) rfl (by rw [hml]; exact hl.1) rfl dX3_init_1 (Nat.le_of_ble_eq_true rfl) (Nat.le_of_ble_eq_true rfl) ?_
  refine W.eq (g2 := F0 m 4 ls []) rfl ?_
  refine lv_aload_n hx hb dX3_init_4 rfl (lv_at hl 0 rfl) ?_
  refine lv_iconst (v := ((nI 0) : Int32)) hx hb dX3_init_5 (by decide +kernel) ?_
  refine va_put (D := D) (ci := 3) (v := .int (nI 0)) (ty := .int) (C := RX3) (T := TX3) (N := 4) hx hb hts (fun _ h => List.mem_cons_of_mem _ (List.mem_append_left _ (List.mem_append_right _ h))) tyX3 tyX3_ok nmX3 hown hK hP hD hS 0 rfl rfl 0 (by decide) (hts (.fieldLink RX3 9 "PitchTracker$Pitches" "temperament" "I") (List.mem_of_getElem? (i := 4) rfl)) (fun _ h9 => h9) rfl (by decide +kernel) rfl rfl (Nat.le_of_ble_eq_true rfl) dX3_init_6 (fun H locs hP hD hS => ?_)
  have hP : va_P D vwCl [(h, .inr (3, [.int (nI 0), .int (nI 0), .null, .null]))] H := hP
  have hD : va_D A [(h, .inr (3, [.int (nI 0), .int (nI 0), .null, .null]))] := hD
  refine lv_aload_n hx hb dX3_init_9 rfl (lv_at hl 0 rfl) ?_
  refine lv_sipush (v := ((nI 4096) : Int32)) hx hb dX3_init_10 (by decide +kernel) ?_
  refine va_put (D := D) (ci := 3) (v := .int (nI 4096)) (ty := .int) (C := RX3) (T := TX3) (N := 4) hx hb hts (fun _ h => List.mem_cons_of_mem _ (List.mem_append_left _ (List.mem_append_right _ h))) tyX3 tyX3_ok nmX3 hown hK hP hD hS 0 rfl rfl 1 (by decide) (hts (.fieldLink RX3 15 "PitchTracker$Pitches" "base" "I") (List.mem_of_getElem? (i := 5) rfl)) (fun _ h9 => h9) rfl (by decide +kernel) rfl rfl (Nat.le_of_ble_eq_true rfl) dX3_init_13 (fun H locs hP hD hS => ?_)
  have hP : va_P D vwCl [(h, .inr (3, [.int (nI 0), .int (nI 4096), .null, .null]))] H := hP
  have hD : va_D A [(h, .inr (3, [.int (nI 0), .int (nI 4096), .null, .null]))] := hD
  refine lv_aload_n hx hb dX3_init_16 rfl (lv_at hl 0 rfl) ?_
  refine va_new (ci := 4) (fs := [.null]) (C := RX4) (T := TX4) (N := 1) hx hb hts (fun _ h => List.mem_cons_of_mem _ (List.mem_append_right _ h)) tyX4 tyX4_ok hown (hts (.classLink RX3 18 RX4) (List.mem_of_getElem? (i := 6) rfl)) (hts (.instantiable RX4 1) (List.mem_of_getElem? (i := 7) rfl)) (hts (.initialized RX4) (List.mem_of_getElem? (i := 8) rfl)) hK hP hD hS hA rfl (fun j hj => by rcases (show j = 0 by omega) with rfl <;> rfl) (Nat.le_of_ble_eq_true rfl) (Nat.le_of_ble_eq_true rfl) dX3_init_17 (fun b_1 H hP hD hS => ?_)
  have hP : va_P D vwCl [(h, .inr (3, [.int (nI 0), .int (nI 4096), .null, .null])), (b_1, .inr (4, [.null]))] H := hP
  have hD : va_D A [(h, .inr (3, [.int (nI 0), .int (nI 4096), .null, .null])), (b_1, .inr (4, [.null]))] := hD
  refine W.widen (k := 1) (n := 1) (by omega) (by omega) ?_
  refine lv_dup hx hb dX3_init_20 rfl ?_
  refine lv_bipush (v := ((nI 29) : Int32)) hx hb dX3_init_21 (by decide +kernel) ?_
  have hPc := hP.sub (ws' := [(b_1, .inr (4, [.null]))]) [1] rfl
  have hDc := hD.sub (ws' := [(b_1, .inr (4, [.null]))]) [1] (by decide +kernel) rfl
  have hFc := va_free (wc := [(b_1, .inr (4, [.null]))]) hD hS hA [1] rfl
  refine va_callv (va_runI (As := [.int (nI 29)]) (rest := [.ref b_1, .ref h]) ⟨hx, hb, hml, hown, hts⟩ (c_X4_init_29 l D cI cL b_1 H.size) (cwI 1 hts gX3_init_X4_init rfl rfl rfl (hts (.initialized RX4) (List.mem_of_getElem? (i := 8) rfl)) (hts (.methodLink RX3 20 yX4_init) (List.mem_of_getElem? (i := 11) rfl)) (hts (.instanceMethod yX4_init) (List.mem_of_getElem? (i := 12) rfl)) rfl (by decide +kernel) ⟨Nat.le_of_ble_eq_true rfl, Nat.le_of_ble_eq_true rfl⟩) ⟨t_wPc_blind, fun U hU hW => ⟨rfl, by rw [hU], by rw [hU]; exact hPc, va_K.moved hW.alike hK, hDc.weaken (fun _ _ _ _ => trivial)⟩⟩ rfl rfl hl.1 rfl (lv_room (Nat.le_of_ble_eq_true rfl)) dX3_init_23 ⟨Nat.le_of_ble_eq_true rfl, Nat.le_of_ble_eq_true rfl⟩) hS (fun q _ h => hFc q h) hFc (fun u_3 t H1 locs ht hvm hw hB hz1 hk1 hS => ?_)
  obtain ⟨hP1, hK1, hD1⟩ := hB
  rw [ht] at hP1
  obtain ⟨b_4, hw⟩ := hw
  have hw : u_3 = [(b_1, .inr (4, [.ref b_4])), (b_4, .inl (cI, 29, .inl (fun _ => nI 0)))] := hw
  subst hw
  obtain ⟨hP, hD⟩ := va_join (wr := [(h, .inr (3, [.int (nI 0), .int (nI 4096), .null, .null]))]) (w1 := [(b_1, .inr (4, [.ref b_4])), (b_4, .inl (cI, 29, .inl (fun _ => nI 0)))]) hP hD [1] [0] rfl rfl (by decide +kernel) (by decide +kernel) hk1 hFc hP1 hD1
  clear hP1 hD1 hK1 hPc hDc hFc ht hvm hz1 hk1
  have hP : va_P D vwCl [(h, .inr (3, [.int (nI 0), .int (nI 4096), .null, .null])), (b_1, .inr (4, [.ref b_4])), (b_4, .inl (cI, 29, .inl (fun _ => nI 0)))] H1 := hP
  have hD : va_D A [(h, .inr (3, [.int (nI 0), .int (nI 4096), .null, .null])), (b_1, .inr (4, [.ref b_4])), (b_4, .inl (cI, 29, .inl (fun _ => nI 0)))] := hD
  generalize H1 = H at hP hS ⊢
  refine W.widen (k := 2) (n := 30) (by omega) (by omega) ?_
  refine va_putF (D := D) (ci := 3) (v := .ref b_1) (ty := .object "PitchTracker$Row") (C := RX3) (T := TX3) (N := 4) hx hb hts (fun _ h => List.mem_cons_of_mem _ (List.mem_append_left _ (List.mem_append_right _ h))) tyX3 tyX3_ok nmX3 hown hK hP hD hS 0 rfl rfl 2 (by decide) (hts (.fieldLink RX3 23 "PitchTracker$Pitches" "periods" "LPitchTracker$Row;") (List.mem_of_getElem? (i := 9) rfl)) (fun _ h9 => h9) rfl hin rfl (by decide +kernel) rfl rfl (Nat.le_of_ble_eq_true rfl) dX3_init_26 (fun H locs hP hD hS => ?_)
  have hP : va_P D vwCl [(h, .inr (3, [.int (nI 0), .int (nI 4096), .ref b_1, .null])), (b_1, .inr (4, [.ref b_4])), (b_4, .inl (cI, 29, .inl (fun _ => nI 0)))] H := hP
  have hD : va_D A [(h, .inr (3, [.int (nI 0), .int (nI 4096), .ref b_1, .null])), (b_1, .inr (4, [.ref b_4])), (b_4, .inl (cI, 29, .inl (fun _ => nI 0)))] := hD
  refine lv_aload_n hx hb dX3_init_29 rfl (lv_at hl 0 rfl) ?_
  refine va_new (ci := 4) (fs := [.null]) (C := RX4) (T := TX4) (N := 1) hx hb hts (fun _ h => List.mem_cons_of_mem _ (List.mem_append_right _ h)) tyX4 tyX4_ok hown (hts (.classLink RX3 18 RX4) (List.mem_of_getElem? (i := 6) rfl)) (hts (.instantiable RX4 1) (List.mem_of_getElem? (i := 7) rfl)) (hts (.initialized RX4) (List.mem_of_getElem? (i := 8) rfl)) hK hP hD hS hA rfl (fun j hj => by rcases (show j = 0 by omega) with rfl <;> rfl) (Nat.le_of_ble_eq_true rfl) (Nat.le_of_ble_eq_true rfl) dX3_init_30 (fun b_5 H hP hD hS => ?_)
  have hP : va_P D vwCl [(h, .inr (3, [.int (nI 0), .int (nI 4096), .ref b_1, .null])), (b_1, .inr (4, [.ref b_4])), (b_4, .inl (cI, 29, .inl (fun _ => nI 0))), (b_5, .inr (4, [.null]))] H := hP
  have hD : va_D A [(h, .inr (3, [.int (nI 0), .int (nI 4096), .ref b_1, .null])), (b_1, .inr (4, [.ref b_4])), (b_4, .inl (cI, 29, .inl (fun _ => nI 0))), (b_5, .inr (4, [.null]))] := hD
  refine W.widen (k := 3) (n := 31) (by omega) (by omega) ?_
  refine lv_dup hx hb dX3_init_33 rfl ?_
  refine lv_bipush (v := ((nI 29) : Int32)) hx hb dX3_init_34 (by decide +kernel) ?_
  have hPc := hP.sub (ws' := [(b_5, .inr (4, [.null]))]) [3] rfl
  have hDc := hD.sub (ws' := [(b_5, .inr (4, [.null]))]) [3] (by decide +kernel) rfl
  have hFc := va_free (wc := [(b_5, .inr (4, [.null]))]) hD hS hA [3] rfl
  refine va_callv (va_runI (As := [.int (nI 29)]) (rest := [.ref b_5, .ref h]) ⟨hx, hb, hml, hown, hts⟩ (c_X4_init_29 l D cI cL b_5 H.size) (cwI 1 hts gX3_init_X4_init rfl rfl rfl (hts (.initialized RX4) (List.mem_of_getElem? (i := 8) rfl)) (hts (.methodLink RX3 20 yX4_init) (List.mem_of_getElem? (i := 11) rfl)) (hts (.instanceMethod yX4_init) (List.mem_of_getElem? (i := 12) rfl)) rfl (by decide +kernel) ⟨Nat.le_of_ble_eq_true rfl, Nat.le_of_ble_eq_true rfl⟩) ⟨t_wPc_blind, fun U hU hW => ⟨rfl, by rw [hU], by rw [hU]; exact hPc, va_K.moved hW.alike hK, hDc.weaken (fun _ _ _ _ => trivial)⟩⟩ rfl rfl hl.1 rfl (lv_room (Nat.le_of_ble_eq_true rfl)) dX3_init_36 ⟨Nat.le_of_ble_eq_true rfl, Nat.le_of_ble_eq_true rfl⟩) hS (fun q _ h => hFc q h) hFc (fun u_7 t H1 locs ht hvm hw hB hz1 hk1 hS => ?_)
  obtain ⟨hP1, hK1, hD1⟩ := hB
  rw [ht] at hP1
  obtain ⟨b_8, hw⟩ := hw
  have hw : u_7 = [(b_5, .inr (4, [.ref b_8])), (b_8, .inl (cI, 29, .inl (fun _ => nI 0)))] := hw
  subst hw
  obtain ⟨hP, hD⟩ := va_join (wr := [(h, .inr (3, [.int (nI 0), .int (nI 4096), .ref b_1, .null])), (b_1, .inr (4, [.ref b_4])), (b_4, .inl (cI, 29, .inl (fun _ => nI 0)))]) (w1 := [(b_5, .inr (4, [.ref b_8])), (b_8, .inl (cI, 29, .inl (fun _ => nI 0)))]) hP hD [3] [0, 1, 2] rfl rfl (by decide +kernel) (by decide +kernel) hk1 hFc hP1 hD1
  clear hP1 hD1 hK1 hPc hDc hFc ht hvm hz1 hk1
  have hP : va_P D vwCl [(h, .inr (3, [.int (nI 0), .int (nI 4096), .ref b_1, .null])), (b_1, .inr (4, [.ref b_4])), (b_4, .inl (cI, 29, .inl (fun _ => nI 0))), (b_5, .inr (4, [.ref b_8])), (b_8, .inl (cI, 29, .inl (fun _ => nI 0)))] H1 := hP
  have hD : va_D A [(h, .inr (3, [.int (nI 0), .int (nI 4096), .ref b_1, .null])), (b_1, .inr (4, [.ref b_4])), (b_4, .inl (cI, 29, .inl (fun _ => nI 0))), (b_5, .inr (4, [.ref b_8])), (b_8, .inl (cI, 29, .inl (fun _ => nI 0)))] := hD
  generalize H1 = H at hP hS ⊢
  refine W.widen (k := 4) (n := 60) (by omega) (by omega) ?_
  refine va_putF (D := D) (ci := 3) (v := .ref b_5) (ty := .object "PitchTracker$Row") (C := RX3) (T := TX3) (N := 4) hx hb hts (fun _ h => List.mem_cons_of_mem _ (List.mem_append_left _ (List.mem_append_right _ h))) tyX3 tyX3_ok nmX3 hown hK hP hD hS 0 rfl rfl 3 (by decide) (hts (.fieldLink RX3 27 "PitchTracker$Pitches" "patterns" "LPitchTracker$Row;") (List.mem_of_getElem? (i := 10) rfl)) (fun _ h9 => h9) rfl hin rfl (by decide +kernel) rfl rfl (Nat.le_of_ble_eq_true rfl) dX3_init_39 (fun H locs hP hD hS => ?_)
  have hP : va_P D vwCl [(h, .inr (3, [.int (nI 0), .int (nI 4096), .ref b_1, .ref b_5])), (b_1, .inr (4, [.ref b_4])), (b_4, .inl (cI, 29, .inl (fun _ => nI 0))), (b_5, .inr (4, [.ref b_8])), (b_8, .inl (cI, 29, .inl (fun _ => nI 0)))] H := hP
  have hD : va_D A [(h, .inr (3, [.int (nI 0), .int (nI 4096), .ref b_1, .ref b_5])), (b_1, .inr (4, [.ref b_4])), (b_4, .inl (cI, 29, .inl (fun _ => nI 0))), (b_5, .inr (4, [.ref b_8])), (b_8, .inl (cI, 29, .inl (fun _ => nI 0)))] := hD
  have hP9 := hP
  have hD9 := hD
  exact W.vret hx hb hr (fun t ht hW => ⟨⟨[(h, .inr (3, [.int (nI 0), .int (nI 4096), .ref b_1, .ref b_5])), (b_1, .inr (4, [.ref b_4])), (b_4, .inl (cI, 29, .inl (fun _ => nI 0))), (b_5, .inr (4, [.ref b_8])), (b_8, .inl (cI, 29, .inl (fun _ => nI 0)))], rfl, ⟨b_1, b_4, b_5, b_8, rfl⟩, ⟨by rw [ht]; exact hP9, va_K.moved hW.alike hK, hD9⟩⟩, hS.F ht⟩) hS.2.2 dX3_init_42 hlocks

set_option maxHeartbeats 4000000 in
set_option maxRecDepth 100000 in
theorem c_X3_useTemperament (l : Launch) (D : va_G) (cI cL : ClassId) (h p1 q1 tm : Nat) (ba : Int32) (t2 : Nat) (b2 : Int32) (sz : Nat) : Met l yX3_useTemperament wsX3_useTemperament ({ frames := 0, cells := 0, slots := 0, locals := 0 }) (t_wPc D cI cL [.ref h, .int (nI t2), .int b2] [(h, .inr (3, [.int (nI tm), .int ba, .ref p1, .ref q1]))] sz) (t_Qv D cI cL (fun w1 => w1 = [(h, .inr (3, [.int (nI t2), .int b2, .ref p1, .ref q1]))]) (va_A [(h, .inr (3, [.int (nI tm), .int ba, .ref p1, .ref q1]))] sz)) 0 0 (va_A [(h, .inr (3, [.int (nI tm), .int ba, .ref p1, .ref q1]))] sz) := by
  refine t_ofW (Qc := t_Qv D cI cL (fun w1 => w1 = [(h, .inr (3, [.int (nI t2), .int b2, .ref p1, .ref q1]))])) (by decide) rfl (Nat.le_of_ble_eq_true rfl) ?_
  intro p e s m below meth c ls A hx hb hml hown hts hr hlocks hin hK hP hD hS hA hl
  have hown : s.vm.findClass RX3 = some m.cls := hown
  have hl : lv_has ls 3 [(0, .ref h), (1, .int (nI t2)), (2, .int b2)] := hl
  refine lv_aload_n hx hb dX3_useTemperament_0 rfl (lv_at hl 0 rfl) ?_
  refine lv_iload_n hx hb dX3_useTemperament_1 rfl (lv_at hl 1 rfl) ?_
  refine va_put (D := D) (ci := 3) (v := .int (nI t2)) (ty := .int) (C := RX3) (T := TX3) (N := 4) hx hb hts (fun _ h => List.mem_cons_of_mem _ (List.mem_append_right _ h)) tyX3 tyX3_ok nmX3 hown hK hP hD hS 0 rfl rfl 0 (by decide) (hts (.fieldLink RX3 9 "PitchTracker$Pitches" "temperament" "I") (List.mem_of_getElem? (i := 1) rfl)) (fun _ h9 => h9) rfl (by decide +kernel) rfl rfl (Nat.le_of_ble_eq_true rfl) dX3_useTemperament_2 (fun H locs hP hD hS => ?_)
  have hP : va_P D vwCl [(h, .inr (3, [.int (nI t2), .int ba, .ref p1, .ref q1]))] H := hP
  have hD : va_D A [(h, .inr (3, [.int (nI t2), .int ba, .ref p1, .ref q1]))] := hD
  refine lv_aload_n hx hb dX3_useTemperament_5 rfl (lv_at hl 0 rfl) ?_
  refine lv_iload_n hx hb dX3_useTemperament_6 rfl (lv_at hl 2 rfl) ?_
  refine va_put (D := D) (ci := 3) (v := .int b2) (ty := .int) (C := RX3) (T := TX3) (N := 4) hx hb hts (fun _ h => List.mem_cons_of_mem _ (List.mem_append_right _ h)) tyX3 tyX3_ok nmX3 hown hK hP hD hS 0 rfl rfl 1 (by decide) (hts (.fieldLink RX3 15 "PitchTracker$Pitches" "base" "I") (List.mem_of_getElem? (i := 2) rfl)) (fun _ h9 => h9) rfl (by decide +kernel) rfl rfl (Nat.le_of_ble_eq_true rfl) dX3_useTemperament_7 (fun H locs hP hD hS => ?_)
  have hP : va_P D vwCl [(h, .inr (3, [.int (nI t2), .int b2, .ref p1, .ref q1]))] H := hP
  have hD : va_D A [(h, .inr (3, [.int (nI t2), .int b2, .ref p1, .ref q1]))] := hD
  have hP9 := hP
  have hD9 := hD
  exact W.vret hx hb hr (fun t ht hW => ⟨⟨[(h, .inr (3, [.int (nI t2), .int b2, .ref p1, .ref q1]))], rfl, rfl, ⟨by rw [ht]; exact hP9, va_K.moved hW.alike hK, hD9⟩⟩, hS.F ht⟩) hS.2.2 dX3_useTemperament_10 hlocks

set_option maxHeartbeats 4000000 in
set_option maxRecDepth 100000 in
theorem c_X3_periodOf (l : Launch) (D : va_G) (cI cL : ClassId) (h p1 p2 q1 tm : Nat) (ba : Int32) (pe : Nat → Int32) (k : Nat) (hk : k < 29) : Met l yX3_periodOf wsX3_periodOf ({ frames := 1, cells := 0, slots := 0, locals := 40 }) (t_rPc D cI cL [.ref h, .int (nI k)] [(h, .inr (3, [.int (nI tm), .int ba, .ref p1, .ref q1])), (p1, .inr (4, [.ref p2])), (p2, .inl (cI, 29, .inl pe))]) (vp_Si (fun r => r = (pe k))) 0 0 (fun _ => False) := by
  refine t_ofR (by decide) rfl (Nat.le_of_ble_eq_true rfl) ?_
  intro p e s m below meth c ls hx hb hml hown hts hr hlocks hK hP hl
  have hown : s.vm.findClass RX3 = some m.cls := hown
  have hl : lv_has ls 2 [(0, .ref h), (1, .int (nI k))] := hl
  refine lv_aload_n hx hb dX3_periodOf_0 rfl (lv_at hl 0 rfl) ?_
  refine va_get (D := D) (ci := 3) (v := .ref p1) (C := RX3) (T := TX3) (N := 4) hx hb hts (fun _ h => List.mem_cons_of_mem _ (List.mem_append_left _ (List.mem_append_right _ h))) hown hK hP 0 rfl rfl 2 (by decide) (hts (.fieldLink RX3 23 "PitchTracker$Pitches" "periods" "LPitchTracker$Row;") (List.mem_of_getElem? (i := 1) rfl)) (fun _ h9 => h9) rfl dX3_periodOf_1 ?_
  refine lv_iload_n hx hb dX3_periodOf_4 rfl (lv_at hl 1 rfl) ?_
  have hPc := hP.sub (ws' := [(p1, .inr (4, [.ref p2])), (p2, .inl (cI, 29, .inl pe))]) [1, 2] rfl
  refine vp_callSi (W.runV (As := [.int (nI k)]) (rest := []) ⟨hx, hb, hml, hown, hts⟩ (c_X4_at l D cI cL p1 p2 29 pe k (by omega) (by omega)) (cwV 1 hts gX3_periodOf_X4_at rfl rfl rfl (by decide +kernel) ⟨Nat.le_of_ble_eq_true rfl, Nat.le_of_ble_eq_true rfl⟩) ⟨t_rPc_blind, va_recv hK hPc (ci := 4) (q0 := 0) rfl rfl, fun U hU hW => ⟨rfl, by rw [hU]; exact hPc, va_K.moved hW.alike hK⟩⟩ rfl rfl hl.1 rfl (lv_room (Nat.le_of_ble_eq_true rfl)) dX3_periodOf_5 ⟨Nat.le_of_ble_eq_true rfl, Nat.le_of_ble_eq_true rfl⟩) (fun r_1 hr_1 => ?_)
  subst hr_1
  exact W.iret (v := (pe k)) hx hb hr (fun t ht hW => ⟨_, rfl, rfl, ht⟩) (fun q h => by cases h) dX3_periodOf_8 hlocks

set_option maxHeartbeats 4000000 in
set_option maxRecDepth 100000 in
theorem c_X3_patternOf (l : Launch) (D : va_G) (cI cL : ClassId) (h p1 q1 q2 tm : Nat) (ba : Int32) (pa : Nat → Int32) (k : Nat) (hk : k < 29) : Met l yX3_patternOf wsX3_patternOf ({ frames := 1, cells := 0, slots := 0, locals := 40 }) (t_rPc D cI cL [.ref h, .int (nI k)] [(h, .inr (3, [.int (nI tm), .int ba, .ref p1, .ref q1])), (q1, .inr (4, [.ref q2])), (q2, .inl (cI, 29, .inl pa))]) (vp_Si (fun r => r = (pa k))) 0 0 (fun _ => False) := by
  refine t_ofR (by decide) rfl (Nat.le_of_ble_eq_true rfl) ?_
  intro p e s m below meth c ls hx hb hml hown hts hr hlocks hK hP hl
  have hown : s.vm.findClass RX3 = some m.cls := hown
  have hl : lv_has ls 2 [(0, .ref h), (1, .int (nI k))] := hl
  refine lv_aload_n hx hb dX3_patternOf_0 rfl (lv_at hl 0 rfl) ?_
  refine va_get (D := D) (ci := 3) (v := .ref q1) (C := RX3) (T := TX3) (N := 4) hx hb hts (fun _ h => List.mem_cons_of_mem _ (List.mem_append_left _ (List.mem_append_right _ h))) hown hK hP 0 rfl rfl 3 (by decide) (hts (.fieldLink RX3 27 "PitchTracker$Pitches" "patterns" "LPitchTracker$Row;") (List.mem_of_getElem? (i := 1) rfl)) (fun _ h9 => h9) rfl dX3_patternOf_1 ?_
  refine lv_iload_n hx hb dX3_patternOf_4 rfl (lv_at hl 1 rfl) ?_
  have hPc := hP.sub (ws' := [(q1, .inr (4, [.ref q2])), (q2, .inl (cI, 29, .inl pa))]) [1, 2] rfl
  refine vp_callSi (W.runV (As := [.int (nI k)]) (rest := []) ⟨hx, hb, hml, hown, hts⟩ (c_X4_at l D cI cL q1 q2 29 pa k (by omega) (by omega)) (cwV 1 hts gX3_patternOf_X4_at rfl rfl rfl (by decide +kernel) ⟨Nat.le_of_ble_eq_true rfl, Nat.le_of_ble_eq_true rfl⟩) ⟨t_rPc_blind, va_recv hK hPc (ci := 4) (q0 := 0) rfl rfl, fun U hU hW => ⟨rfl, by rw [hU]; exact hPc, va_K.moved hW.alike hK⟩⟩ rfl rfl hl.1 rfl (lv_room (Nat.le_of_ble_eq_true rfl)) dX3_patternOf_5 ⟨Nat.le_of_ble_eq_true rfl, Nat.le_of_ble_eq_true rfl⟩) (fun r_1 hr_1 => ?_)
  subst hr_1
  exact W.iret (v := (pa k)) hx hb hr (fun t ht hW => ⟨_, rfl, rfl, ht⟩) (fun q h => by cases h) dX3_patternOf_8 hlocks

set_option maxHeartbeats 4000000 in
set_option maxRecDepth 100000 in
theorem c_X3_nameOf (l : Launch) (D : va_G) (cI cL : ClassId) (h p1 q1 q2 tm : Nat) (ba : Int32) (pa : Nat → Int32) (k : Nat) (hk : k < 29) : Met l yX3_nameOf wsX3_nameOf ({ frames := 1, cells := 0, slots := 0, locals := 40 }) (t_rPc D cI cL [.ref h, .int (nI k)] [(h, .inr (3, [.int (nI tm), .int ba, .ref p1, .ref q1])), (q1, .inr (4, [.ref q2])), (q2, .inl (cI, 29, .inl pa))]) (vp_Si (fun r => r = (t_nm (pa k)))) 0 0 (fun _ => False) := by
  refine t_ofR (by decide) rfl (Nat.le_of_ble_eq_true rfl) ?_
  intro p e s m below meth c ls hx hb hml hown hts hr hlocks hK hP hl
  have hown : s.vm.findClass RX3 = some m.cls := hown
  have hl : lv_has ls 3 [(0, .ref h), (1, .int (nI k))] := hl
  refine lv_aload_n hx hb dX3_nameOf_0 rfl (lv_at hl 0 rfl) ?_
  refine va_get (D := D) (ci := 3) (v := .ref q1) (C := RX3) (T := TX3) (N := 4) hx hb hts (fun _ h => List.mem_cons_of_mem _ (List.mem_append_left _ (List.mem_append_right _ h))) hown hK hP 0 rfl rfl 3 (by decide) (hts (.fieldLink RX3 27 "PitchTracker$Pitches" "patterns" "LPitchTracker$Row;") (List.mem_of_getElem? (i := 1) rfl)) (fun _ h9 => h9) rfl dX3_nameOf_1 ?_
  refine lv_iload_n hx hb dX3_nameOf_4 rfl (lv_at hl 1 rfl) ?_
  have hPc := hP.sub (ws' := [(q1, .inr (4, [.ref q2])), (q2, .inl (cI, 29, .inl pa))]) [1, 2] rfl
  refine vp_callSi (W.runV (As := [.int (nI k)]) (rest := []) ⟨hx, hb, hml, hown, hts⟩ (c_X4_at l D cI cL q1 q2 29 pa k (by omega) (by omega)) (cwV 1 hts gX3_nameOf_X4_at rfl rfl rfl (by decide +kernel) ⟨Nat.le_of_ble_eq_true rfl, Nat.le_of_ble_eq_true rfl⟩) ⟨t_rPc_blind, va_recv hK hPc (ci := 4) (q0 := 0) rfl rfl, fun U hU hW => ⟨rfl, by rw [hU]; exact hPc, va_K.moved hW.alike hK⟩⟩ rfl rfl hl.1 rfl (lv_room (Nat.le_of_ble_eq_true rfl)) dX3_nameOf_5 ⟨Nat.le_of_ble_eq_true rfl, Nat.le_of_ble_eq_true rfl⟩) (fun r_1 hr_1 => ?_)
  subst hr_1
  refine lv_istore_n (lv' := [(2, .int (pa k)), (0, .ref h), (1, .int (nI k))]) hx hb dX3_nameOf_8 rfl hl (by decide) rfl (fun ls hl => ?_)
  refine lv_iload_n hx hb dX3_nameOf_9 rfl (lv_at hl 0 rfl) ?_
  refine lv_if_ge (tgt := 17) hx hb dX3_nameOf_10 (by decide) (fun q10_2 => ?_) (fun q10_2 => ?_)
  · refine lv_iload_n hx hb dX3_nameOf_17 rfl (lv_at hl 0 rfl) ?_
    refine lv_bipush (v := ((nI 12) : Int32)) hx hb dX3_nameOf_18 (by decide +kernel) ?_
    refine lv_irem hx hb dX3_nameOf_20 (by decide) ?_
    exact W.iret (v := ((pa k) - (pa k) / (nI 12) * (nI 12))) hx hb hr (fun t ht hW => ⟨_, rfl, (if_neg (t_nlt32 q10_2)).symm, ht⟩) (fun q h => by cases h) dX3_nameOf_21 hlocks
  · refine lv_iconst (v := ((-1) : Int32)) hx hb dX3_nameOf_13 (by decide +kernel) ?_
    refine lv_goto (tgt := 21) hx hb dX3_nameOf_14 (by decide) ?_
    exact W.iret (v := (-1)) hx hb hr (fun t ht hW => ⟨_, rfl, (if_pos (t_nle32 q10_2)).symm, ht⟩) (fun q h => by cases h) dX3_nameOf_21 hlocks

set_option maxHeartbeats 4000000 in
set_option maxRecDepth 100000 in
theorem c_X3_octaveOf (l : Launch) (D : va_G) (cI cL : ClassId) (h p1 q1 q2 tm : Nat) (ba : Int32) (pa : Nat → Int32) (k : Nat) (hk : k < 29) : Met l yX3_octaveOf wsX3_octaveOf ({ frames := 1, cells := 0, slots := 0, locals := 40 }) (t_rPc D cI cL [.ref h, .int (nI k)] [(h, .inr (3, [.int (nI tm), .int ba, .ref p1, .ref q1])), (q1, .inr (4, [.ref q2])), (q2, .inl (cI, 29, .inl pa))]) (vp_Si (fun r => r = (t_oc (pa k)))) 0 0 (fun _ => False) := by
  refine t_ofR (by decide) rfl (Nat.le_of_ble_eq_true rfl) ?_
  intro p e s m below meth c ls hx hb hml hown hts hr hlocks hK hP hl
  have hown : s.vm.findClass RX3 = some m.cls := hown
  have hl : lv_has ls 3 [(0, .ref h), (1, .int (nI k))] := hl
  refine lv_aload_n hx hb dX3_octaveOf_0 rfl (lv_at hl 0 rfl) ?_
  refine va_get (D := D) (ci := 3) (v := .ref q1) (C := RX3) (T := TX3) (N := 4) hx hb hts (fun _ h => List.mem_cons_of_mem _ (List.mem_append_left _ (List.mem_append_right _ h))) hown hK hP 0 rfl rfl 3 (by decide) (hts (.fieldLink RX3 27 "PitchTracker$Pitches" "patterns" "LPitchTracker$Row;") (List.mem_of_getElem? (i := 1) rfl)) (fun _ h9 => h9) rfl dX3_octaveOf_1 ?_
  refine lv_iload_n hx hb dX3_octaveOf_4 rfl (lv_at hl 1 rfl) ?_
  have hPc := hP.sub (ws' := [(q1, .inr (4, [.ref q2])), (q2, .inl (cI, 29, .inl pa))]) [1, 2] rfl
  refine vp_callSi (W.runV (As := [.int (nI k)]) (rest := []) ⟨hx, hb, hml, hown, hts⟩ (c_X4_at l D cI cL q1 q2 29 pa k (by omega) (by omega)) (cwV 1 hts gX3_octaveOf_X4_at rfl rfl rfl (by decide +kernel) ⟨Nat.le_of_ble_eq_true rfl, Nat.le_of_ble_eq_true rfl⟩) ⟨t_rPc_blind, va_recv hK hPc (ci := 4) (q0 := 0) rfl rfl, fun U hU hW => ⟨rfl, by rw [hU]; exact hPc, va_K.moved hW.alike hK⟩⟩ rfl rfl hl.1 rfl (lv_room (Nat.le_of_ble_eq_true rfl)) dX3_octaveOf_5 ⟨Nat.le_of_ble_eq_true rfl, Nat.le_of_ble_eq_true rfl⟩) (fun r_1 hr_1 => ?_)
  subst hr_1
  refine lv_istore_n (lv' := [(2, .int (pa k)), (0, .ref h), (1, .int (nI k))]) hx hb dX3_octaveOf_8 rfl hl (by decide) rfl (fun ls hl => ?_)
  refine lv_iload_n hx hb dX3_octaveOf_9 rfl (lv_at hl 0 rfl) ?_
  refine lv_if_ge (tgt := 17) hx hb dX3_octaveOf_10 (by decide) (fun q10_2 => ?_) (fun q10_2 => ?_)
  · refine lv_iload_n hx hb dX3_octaveOf_17 rfl (lv_at hl 0 rfl) ?_
    refine lv_bipush (v := ((nI 12) : Int32)) hx hb dX3_octaveOf_18 (by decide +kernel) ?_
    refine lv_idiv hx hb dX3_octaveOf_20 (by decide) ?_
    exact W.iret (v := ((pa k) / (nI 12))) hx hb hr (fun t ht hW => ⟨_, rfl, (if_neg (t_nlt32 q10_2)).symm, ht⟩) (fun q h => by cases h) dX3_octaveOf_21 hlocks
  · refine lv_iconst (v := ((-1) : Int32)) hx hb dX3_octaveOf_13 (by decide +kernel) ?_
    refine lv_goto (tgt := 21) hx hb dX3_octaveOf_14 (by decide) ?_
    exact W.iret (v := (-1)) hx hb hr (fun t ht hW => ⟨_, rfl, (if_pos (t_nle32 q10_2)).symm, ht⟩) (fun q h => by cases h) dX3_octaveOf_21 hlocks

set_option maxHeartbeats 4000000 in
set_option maxRecDepth 100000 in
theorem c_X3_partOf (l : Launch) (D : va_G) (cI cL : ClassId) (h p1 q1 tm : Nat) (ba : Int32) (k : Nat) (htm : tm ≤ 2) (hk : k < 12) : Met l yX3_partOf wsX3_partOf ({ frames := 0, cells := 0, slots := 0, locals := 0 }) (t_rPcX D cI cL [.ref h, .int (nI k)] [(h, .inr (3, [.int (nI tm), .int ba, .ref p1, .ref q1]))]) (vp_Si (fun r => r = (t_parts (tm * 12 + k)))) 0 0 (fun _ => False) := by
  refine t_ofRX (by decide) rfl (Nat.le_of_ble_eq_true rfl) ?_
  intro p e s m below meth c ls hx hb hml hown hts hr hlocks hK hP hX hl
  have hown : s.vm.findClass RX3 = some m.cls := hown
  have hl : lv_has ls 3 [(0, .ref h), (1, .int (nI k))] := hl
  obtain ⟨pa0, hZ, hT⟩ := hX.2.1
  refine lv_aload_n hx hb dX3_partOf_0 rfl (lv_at hl 0 rfl) ?_
  refine va_get (D := D) (ci := 3) (v := .int (nI tm)) (C := RX3) (T := TX3) (N := 4) hx hb hts (fun _ h => List.mem_cons_of_mem _ (List.mem_append_right _ h)) hown hK hP 0 rfl rfl 0 (by decide) (hts (.fieldLink RX3 9 "PitchTracker$Pitches" "temperament" "I") (List.mem_of_getElem? (i := 1) rfl)) (fun _ h9 => h9) rfl dX3_partOf_1 ?_
  refine lv_bipush (v := ((nI 12) : Int32)) hx hb dX3_partOf_4 (by decide +kernel) ?_
  refine tv_imul (a := tm) (b := 12) hx hb dX3_partOf_6 ?_
  refine lv_iload_n hx hb dX3_partOf_7 rfl (lv_at hl 1 rfl) ?_
  refine tv_iadd (a := tm * 12) (b := k) hx hb dX3_partOf_8 ?_
  refine lv_istore_n (lv' := [(2, .int (nI ((tm * 12) + k))), (0, .ref h), (1, .int (nI k))]) hx hb dX3_partOf_9 rfl hl (by decide) rfl (fun ls hl => ?_)
  refine lv_iload_n hx hb dX3_partOf_10 rfl (lv_at hl 0 rfl) ?_
  refine tv_if_lt (tgt := 30) hx hb dX3_partOf_11 (by decide) (by omega) ?_
  refine lv_iload_n hx hb dX3_partOf_14 rfl (lv_at hl 0 rfl) ?_
  refine va_gets hx hb hZ va_S.rf hown (hts (.fieldLink RX3 74 "PitchTracker$Pitches" "PARTS" "[I") (List.mem_of_getElem? (i := 2) rfl)) (fun _ h9 => h9) dX3_partOf_15 ?_
  refine va_tlen (v := nI 36) hx hb hT va_S.rf rfl dX3_partOf_18 ?_
  refine tv_icmp_ge (tgt := 30) hx hb dX3_partOf_19 (by decide) (by omega) (by omega) (fun q19_1 => absurd q19_1 (by omega)) (fun q19_1 => ?_)
  refine va_gets hx hb hZ va_S.rf hown (hts (.fieldLink RX3 74 "PitchTracker$Pitches" "PARTS" "[I") (List.mem_of_getElem? (i := 2) rfl)) (fun _ h9 => h9) dX3_partOf_22 ?_
  refine lv_iload_n hx hb dX3_partOf_25 rfl (lv_at hl 0 rfl) ?_
  refine va_ti (v := .int (t_parts ((tm * 12) + k))) hx hb hT va_S.rf (vp_in_nI (by omega) (by omega)) (by rw [nI_clamp (by omega)]) dX3_partOf_26 ?_
  refine lv_goto (tgt := 31) hx hb dX3_partOf_27 (by decide) ?_
  exact W.iret (v := (t_parts ((tm * 12) + k))) hx hb hr (fun t ht hW => ⟨_, rfl, rfl, ht⟩) (fun q h => by cases h) dX3_partOf_31 hlocks

set_option maxHeartbeats 4000000 in
set_option maxRecDepth 100000 in
theorem c_X3_refine (l : Launch) (D : va_G) (cI cL : ClassId) (dh t1 a1 t2 a2 mf : Nat) (f g : Nat → Int32) (k j : Nat) (hk : k < 29) (hj : 2 ≤ j) (hj2 : j ≤ 63) : Met l yX3_refine wsX3_refine ({ frames := 3, cells := 0, slots := 0, locals := 120 }) (t_rPcX D cI cL [.ref dh, .int (nI k), .int (nI j)] [(dh, .inr (1, [.ref t1, .ref t2, .int (nI mf)])), (t1, .inr (6, [.int (nI 65), .ref a1])), (a1, .inl (cI, 1885, .inl f)), (t2, .inr (6, [.int (nI 65), .ref a2])), (a2, .inl (cI, 1885, .inl g))]) (vp_Si (fun r => r = (t_per (f (k * 65 + (j - 1))) (f (k * 65 + j)) (f (k * 65 + (j + 1))) j))) 0 0 (fun _ => False) := by
  refine t_ofRX (by decide) rfl (Nat.le_of_ble_eq_true rfl) ?_
  intro p e s m below meth c ls hx hb hml hown hts hr hlocks hK hP hX hl
  have hown : s.vm.findClass RX3 = some m.cls := hown
  have hl : lv_has ls 7 [(0, .ref dh), (1, .int (nI k)), (2, .int (nI j))] := hl
  refine lv_aload_n hx hb dX3_refine_0 rfl (lv_at hl 0 rfl) ?_
  refine lv_iload_n hx hb dX3_refine_1 rfl (lv_at hl 1 rfl) ?_
  refine lv_iload_n hx hb dX3_refine_2 rfl (lv_at hl 2 rfl) ?_
  refine lv_iconst (v := ((nI 1) : Int32)) hx hb dX3_refine_3 (by decide +kernel) ?_
  refine tv_isub (a := j) (b := 1) hx hb dX3_refine_4 (by omega) ?_
  have hPc := hP.sub (ws' := [(dh, .inr (1, [.ref t1, .ref t2, .int (nI mf)])), (t1, .inr (6, [.int (nI 65), .ref a1])), (a1, .inl (cI, 1885, .inl f)), (t2, .inr (6, [.int (nI 65), .ref a2])), (a2, .inl (cI, 1885, .inl g))]) [0, 1, 2, 3, 4] rfl
  refine vp_callSi (W.runV (As := [.int (nI k), .int (nI (j - 1))]) (rest := []) ⟨hx, hb, hml, hown, hts⟩ (c_X1_at l D cI cL dh t1 a1 t2 a2 mf f g k (j - 1) (by omega) (by omega)) (cwV 2 hts gX3_refine_X1_at rfl rfl rfl (by decide +kernel) ⟨Nat.le_of_ble_eq_true rfl, Nat.le_of_ble_eq_true rfl⟩) ⟨t_rPc_blind, va_recv hK hPc (ci := 1) (q0 := 0) rfl rfl, fun U hU hW => ⟨rfl, by rw [hU]; exact hPc, va_K.moved hW.alike hK⟩⟩ rfl rfl hl.1 rfl (lv_room (Nat.le_of_ble_eq_true rfl)) dX3_refine_5 ⟨Nat.le_of_ble_eq_true rfl, Nat.le_of_ble_eq_true rfl⟩) (fun r_1 hr_1 => ?_)
  subst hr_1
  refine lv_istore_n (lv' := [(3, .int (f (k * 65 + (j - 1)))), (0, .ref dh), (1, .int (nI k)), (2, .int (nI j))]) hx hb dX3_refine_8 rfl hl (by decide) rfl (fun ls hl => ?_)
  refine lv_aload_n hx hb dX3_refine_9 rfl (lv_at hl 1 rfl) ?_
  refine lv_iload_n hx hb dX3_refine_10 rfl (lv_at hl 2 rfl) ?_
  refine lv_iload_n hx hb dX3_refine_11 rfl (lv_at hl 3 rfl) ?_
  have hPc := hP.sub (ws' := [(dh, .inr (1, [.ref t1, .ref t2, .int (nI mf)])), (t1, .inr (6, [.int (nI 65), .ref a1])), (a1, .inl (cI, 1885, .inl f)), (t2, .inr (6, [.int (nI 65), .ref a2])), (a2, .inl (cI, 1885, .inl g))]) [0, 1, 2, 3, 4] rfl
  refine vp_callSi (W.runV (As := [.int (nI k), .int (nI j)]) (rest := []) ⟨hx, hb, hml, hown, hts⟩ (c_X1_at l D cI cL dh t1 a1 t2 a2 mf f g k j (by omega) (by omega)) (cwV 2 hts gX3_refine_X1_at rfl rfl rfl (by decide +kernel) ⟨Nat.le_of_ble_eq_true rfl, Nat.le_of_ble_eq_true rfl⟩) ⟨t_rPc_blind, va_recv hK hPc (ci := 1) (q0 := 0) rfl rfl, fun U hU hW => ⟨rfl, by rw [hU]; exact hPc, va_K.moved hW.alike hK⟩⟩ rfl rfl hl.1 rfl (lv_room (Nat.le_of_ble_eq_true rfl)) dX3_refine_12 ⟨Nat.le_of_ble_eq_true rfl, Nat.le_of_ble_eq_true rfl⟩) (fun r_2 hr_2 => ?_)
  subst hr_2
  refine lv_istore (lv' := [(4, .int (f (k * 65 + j))), (3, .int (f (k * 65 + (j - 1)))), (0, .ref dh), (1, .int (nI k)), (2, .int (nI j))]) hx hb dX3_refine_15 hl (by decide) rfl (fun ls hl => ?_)
  refine lv_aload_n hx hb dX3_refine_17 rfl (lv_at hl 2 rfl) ?_
  refine lv_iload_n hx hb dX3_refine_18 rfl (lv_at hl 3 rfl) ?_
  refine lv_iload_n hx hb dX3_refine_19 rfl (lv_at hl 4 rfl) ?_
  refine lv_iconst (v := ((nI 1) : Int32)) hx hb dX3_refine_20 (by decide +kernel) ?_
  refine tv_iadd (a := j) (b := 1) hx hb dX3_refine_21 ?_
  have hPc := hP.sub (ws' := [(dh, .inr (1, [.ref t1, .ref t2, .int (nI mf)])), (t1, .inr (6, [.int (nI 65), .ref a1])), (a1, .inl (cI, 1885, .inl f)), (t2, .inr (6, [.int (nI 65), .ref a2])), (a2, .inl (cI, 1885, .inl g))]) [0, 1, 2, 3, 4] rfl
  refine vp_callSi (W.runV (As := [.int (nI k), .int (nI (j + 1))]) (rest := []) ⟨hx, hb, hml, hown, hts⟩ (c_X1_at l D cI cL dh t1 a1 t2 a2 mf f g k (j + 1) (by omega) (by omega)) (cwV 2 hts gX3_refine_X1_at rfl rfl rfl (by decide +kernel) ⟨Nat.le_of_ble_eq_true rfl, Nat.le_of_ble_eq_true rfl⟩) ⟨t_rPc_blind, va_recv hK hPc (ci := 1) (q0 := 0) rfl rfl, fun U hU hW => ⟨rfl, by rw [hU]; exact hPc, va_K.moved hW.alike hK⟩⟩ rfl rfl hl.1 rfl (lv_room (Nat.le_of_ble_eq_true rfl)) dX3_refine_22 ⟨Nat.le_of_ble_eq_true rfl, Nat.le_of_ble_eq_true rfl⟩) (fun r_3 hr_3 => ?_)
  subst hr_3
  refine lv_istore (lv' := [(5, .int (f (k * 65 + (j + 1)))), (4, .int (f (k * 65 + j))), (3, .int (f (k * 65 + (j - 1)))), (0, .ref dh), (1, .int (nI k)), (2, .int (nI j))]) hx hb dX3_refine_25 hl (by decide) rfl (fun ls hl => ?_)
  refine lv_bipush (v := ((nI 32) : Int32)) hx hb dX3_refine_27 (by decide +kernel) ?_
  refine lv_iload_n hx hb dX3_refine_29 rfl (lv_at hl 2 rfl) ?_
  refine lv_iload hx hb dX3_refine_30 (lv_at hl 0 rfl) ?_
  refine lv_isub hx hb dX3_refine_32 ?_
  refine lv_imul hx hb dX3_refine_33 ?_
  refine lv_i2l hx hb dX3_refine_34 rfl ?_
  refine lv_iload_n hx hb dX3_refine_35 rfl (lv_at hl 2 rfl) ?_
  refine lv_iconst (v := ((nI 2) : Int32)) hx hb dX3_refine_36 (by decide +kernel) ?_
  refine lv_iload hx hb dX3_refine_37 (lv_at hl 1 rfl) ?_
  refine lv_imul hx hb dX3_refine_39 ?_
  refine lv_isub hx hb dX3_refine_40 ?_
  refine lv_iload hx hb dX3_refine_41 (lv_at hl 0 rfl) ?_
  refine lv_iadd hx hb dX3_refine_43 ?_
  refine lv_i2l hx hb dX3_refine_44 rfl ?_
  have hPc := hP.sub (ws' := []) [] rfl
  refine vp_callSl (t_runOf <| va_runSN (As := [.long (((nI 32) * ((f (k * 65 + (j - 1))) - (f (k * 65 + (j + 1))))).toInt64), .long ((((f (k * 65 + (j - 1))) - ((nI 2) * (f (k * 65 + j)))) + (f (k * 65 + (j + 1)))).toInt64)]) (rest := []) ⟨hx, hb, hml, hown, hts⟩ (c_X8_quotient l D cI cL (((nI 32) * ((f (k * 65 + (j - 1))) - (f (k * 65 + (j + 1))))).toInt64) ((((f (k * 65 + (j - 1))) - ((nI 2) * (f (k * 65 + j)))) + (f (k * 65 + (j + 1)))).toInt64)) ⟨va_cnB 2 hts gX3_refine_X8_quotient_n53 rfl rfl rfl hX.1.2.1 (hts (.initialized RX8) (List.mem_of_getElem? (i := 22) rfl)) (by decide +kernel) ⟨Nat.le_of_ble_eq_true rfl, Nat.le_of_ble_eq_true rfl⟩, (hts (.static yX8_quotient) (List.mem_of_getElem? (i := 21) rfl)), trivial⟩ ⟨t_rPc_blind, fun U hU hW => ⟨rfl, by rw [hU]; exact hPc, va_K.moved hW.alike hK⟩⟩ rfl rfl hl.1 rfl (lv_room (Nat.le_of_ble_eq_true rfl)) dX3_refine_45 ⟨Nat.le_of_ble_eq_true rfl, Nat.le_of_ble_eq_true rfl⟩) (fun r_4 hr_4 => ?_)
  subst hr_4
  refine lv_l2i hx hb dX3_refine_48 rfl ?_
  refine lv_istore (lv' := [(6, .int ((t_quo (((nI 32) * ((f (k * 65 + (j - 1))) - (f (k * 65 + (j + 1))))).toInt64) ((((f (k * 65 + (j - 1))) - ((nI 2) * (f (k * 65 + j)))) + (f (k * 65 + (j + 1)))).toInt64)).toInt32)), (5, .int (f (k * 65 + (j + 1)))), (4, .int (f (k * 65 + j))), (3, .int (f (k * 65 + (j - 1)))), (0, .ref dh), (1, .int (nI k)), (2, .int (nI j))]) hx hb dX3_refine_49 hl (by decide) rfl (fun ls hl => ?_)
  refine lv_bipush (v := ((nI 64) : Int32)) hx hb dX3_refine_51 (by decide +kernel) ?_
  refine lv_iload_n hx hb dX3_refine_53 rfl (lv_at hl 6 rfl) ?_
  refine tv_imul (a := 64) (b := j) hx hb dX3_refine_54 ?_
  refine lv_bipush (v := ((-32) : Int32)) hx hb dX3_refine_55 (by decide +kernel) ?_
  refine lv_bipush (v := ((nI 32) : Int32)) hx hb dX3_refine_57 (by decide +kernel) ?_
  refine lv_iload hx hb dX3_refine_59 (lv_at hl 0 rfl) ?_
  refine va_mmin hx hb (hml.trans hl.1.symm) hown (hts (.methodLink RX3 57 Lib.Math.min.name) (List.mem_of_getElem? (i := 1) rfl)) (hts (.static Lib.Math.min.name) (List.mem_of_getElem? (i := 2) rfl)) (hts (.initialized "java/lang/Math") (List.mem_of_getElem? (i := 3) rfl)) (hts (.code Lib.Math.min.name Lib.Math.min.code 2 (some .int)) (List.mem_of_getElem? (i := 4) rfl)) (Nat.le_of_ble_eq_true rfl) (Nat.le_of_ble_eq_true rfl) (Nat.le_of_ble_eq_true rfl) (Nat.le_of_ble_eq_true rfl) dX3_refine_61 ?_
  refine va_mmax hx hb (hml.trans hl.1.symm) hown (hts (.methodLink RX3 62 Lib.Math.max.name) (List.mem_of_getElem? (i := 5) rfl)) (hts (.static Lib.Math.max.name) (List.mem_of_getElem? (i := 6) rfl)) (hts (.initialized "java/lang/Math") (List.mem_of_getElem? (i := 3) rfl)) (hts (.code Lib.Math.max.name Lib.Math.max.code 2 (some .int)) (List.mem_of_getElem? (i := 7) rfl)) (Nat.le_of_ble_eq_true rfl) (Nat.le_of_ble_eq_true rfl) (Nat.le_of_ble_eq_true rfl) (Nat.le_of_ble_eq_true rfl) dX3_refine_64 ?_
  refine lv_iadd hx hb dX3_refine_67 ?_
  exact W.iret (v := ((nI (64 * j)) + (if (-32) < (if ((t_quo (((nI 32) * ((f (k * 65 + (j - 1))) - (f (k * 65 + (j + 1))))).toInt64) ((((f (k * 65 + (j - 1))) - ((nI 2) * (f (k * 65 + j)))) + (f (k * 65 + (j + 1)))).toInt64)).toInt32) < (nI 32) then ((t_quo (((nI 32) * ((f (k * 65 + (j - 1))) - (f (k * 65 + (j + 1))))).toInt64) ((((f (k * 65 + (j - 1))) - ((nI 2) * (f (k * 65 + j)))) + (f (k * 65 + (j + 1)))).toInt64)).toInt32) else (nI 32)) then (if ((t_quo (((nI 32) * ((f (k * 65 + (j - 1))) - (f (k * 65 + (j + 1))))).toInt64) ((((f (k * 65 + (j - 1))) - ((nI 2) * (f (k * 65 + j)))) + (f (k * 65 + (j + 1)))).toInt64)).toInt32) < (nI 32) then ((t_quo (((nI 32) * ((f (k * 65 + (j - 1))) - (f (k * 65 + (j + 1))))).toInt64) ((((f (k * 65 + (j - 1))) - ((nI 2) * (f (k * 65 + j)))) + (f (k * 65 + (j + 1)))).toInt64)).toInt32) else (nI 32)) else (-32)))) hx hb hr (fun t ht hW => ⟨_, rfl, rfl, ht⟩) (fun q h => by cases h) dX3_refine_68 hlocks

set_option maxHeartbeats 4000000 in
set_option maxRecDepth 100000 in
theorem c_X3_nearestPattern (l : Launch) (D : va_G) (cI cL : ClassId) (h p1 q1 tm : Nat) (ba : Int32) (pq : Int32) (htm : tm ≤ 2) : Met l yX3_nearestPattern wsX3_nearestPattern ({ frames := 1, cells := 0, slots := 0, locals := 60 }) (t_rPcX D cI cL [.ref h, .int pq] [(h, .inr (3, [.int (nI tm), .int ba, .ref p1, .ref q1]))]) (vp_Si (fun r => r = (nI (t_near ba tm pq)))) 0 0 (fun _ => False) := by
  refine t_ofRX (by decide) rfl (Nat.le_of_ble_eq_true rfl) ?_
  intro p e s m below meth c ls hx hb hml hown hts hr hlocks hK hP hX hl
  have hown : s.vm.findClass RX3 = some m.cls := hown
  have hl : lv_has ls 13 [(0, .ref h), (1, .int pq)] := hl
  refine lv_iload_n hx hb dX3_nearestPattern_0 rfl (lv_at hl 1 rfl) ?_
  refine lv_i2l hx hb dX3_nearestPattern_1 rfl ?_
  refine lv_ldc2 (v := 10000) hx hb hown (hts (.constantLong RX3 65 (10000)) (List.mem_of_getElem? (i := 1) rfl)) dX3_nearestPattern_2 ?_
  refine lv_lmul hx hb dX3_nearestPattern_5 ?_
  refine lv_bipush (v := ((nI 6) : Int32)) hx hb dX3_nearestPattern_6 (by decide +kernel) ?_
  refine lv_lshl hx hb dX3_nearestPattern_8 rfl ?_
  refine lv_lstore_n (lv' := [(2, .long ((pq.toInt64 * 10000) <<< ((nI 6).toInt64 &&& 63))), (0, .ref h), (1, .int pq)]) hx hb dX3_nearestPattern_9 rfl hl (by decide) rfl (fun ls hl => ?_)
  refine lv_iconst (v := ((nI 0) : Int32)) hx hb dX3_nearestPattern_10 (by decide +kernel) ?_
  refine lv_istore (lv' := [(4, .int (nI 0)), (2, .long ((pq.toInt64 * 10000) <<< ((nI 6).toInt64 &&& 63))), (0, .ref h), (1, .int pq)]) hx hb dX3_nearestPattern_11 hl (by decide) rfl (fun ls hl => ?_)
  refine lv_lconst (v := 0) hx hb dX3_nearestPattern_13 (by decide +kernel) ?_
  refine lv_lstore (lv' := [(5, .long 0), (4, .int (nI 0)), (2, .long ((pq.toInt64 * 10000) <<< ((nI 6).toInt64 &&& 63))), (0, .ref h), (1, .int pq)]) hx hb dX3_nearestPattern_14 hl (by decide) rfl (fun ls hl => ?_)
  refine lv_iconst (v := ((nI 0) : Int32)) hx hb dX3_nearestPattern_16 (by decide +kernel) ?_
  refine lv_istore (lv' := [(7, .int (nI 0)), (5, .long 0), (4, .int (nI 0)), (2, .long ((pq.toInt64 * 10000) <<< ((nI 6).toInt64 &&& 63))), (0, .ref h), (1, .int pq)]) hx hb dX3_nearestPattern_17 hl (by decide) rfl (fun ls hl => ?_)
  have loop_1 : ∀ (n_3 : Nat) (i : Nat) (hm_4 : 84 - i < n_3) (hi : i ≤ 84) (ls : Array Slot) (hl : lv_has ls 13 [(7, .int (nI i)), (5, .long ((t_mqL (t_far ba tm pq) i).1)), (4, .int (nI ((t_mqL (t_far ba tm pq) i).2))), (2, .long ((pq.toInt64 * 10000) <<< ((nI 6).toInt64 &&& 63))), (0, .ref h), (1, .int pq)]), W p l e ({ frames := 1, cells := 0, slots := 0, locals := 60 }) s m ([.ref h, .int pq] : List Value).toArray below meth c s.heap [] 0 0 (MQ below (vp_Si (fun r => r = (nI (t_near ba tm pq)))) ([.ref h, .int pq] : List Value).toArray s 0 0 (fun _ => False)) (F0 m 19 ls []) := by
    intro n_3
    induction n_3 with
    | zero => intro i hm_4; exact absurd hm_4 (Nat.not_lt_zero _)
    | succ n_3 ih_2 =>
      intro i hm_4 hi ls hl
      refine lv_iload hx hb dX3_nearestPattern_19 (lv_at hl 0 rfl) ?_
      refine lv_bipush (v := ((nI 84) : Int32)) hx hb dX3_nearestPattern_21 (by decide +kernel) ?_
      refine tv_icmp_ge (tgt := 93) hx hb dX3_nearestPattern_23 (by decide) (by omega) (by omega) (fun q23_5 => ?_) (fun q23_5 => ?_)
      · refine lv_iload hx hb dX3_nearestPattern_93 (lv_at hl 2 rfl) ?_
        exact W.iret (v := (nI ((t_mqL (t_far ba tm pq) i).2))) hx hb hr (fun t ht hW => ⟨_, rfl, (by obtain rfl : i = 84 := (by omega); rfl), ht⟩) (fun q h => by cases h) dX3_nearestPattern_95 hlocks
      · refine lv_iload hx hb dX3_nearestPattern_26 (lv_at hl 0 rfl) ?_
        refine lv_bipush (v := ((nI 12) : Int32)) hx hb dX3_nearestPattern_28 (by decide +kernel) ?_
        refine lv_idiv hx hb dX3_nearestPattern_30 (by decide) ?_
        refine tv_re (y := (nI (i / 12))) (pk_div (by omega) (by omega) (by omega)) ?_
        refine lv_istore (lv' := [(8, .int (nI (i / 12))), (7, .int (nI i)), (5, .long ((t_mqL (t_far ba tm pq) i).1)), (4, .int (nI ((t_mqL (t_far ba tm pq) i).2))), (2, .long ((pq.toInt64 * 10000) <<< ((nI 6).toInt64 &&& 63))), (0, .ref h), (1, .int pq)]) hx hb dX3_nearestPattern_31 hl (by decide) rfl (fun ls hl => ?_)
        refine lv_aload_n hx hb dX3_nearestPattern_33 rfl (lv_at hl 5 rfl) ?_
        refine va_get (D := D) (ci := 3) (v := .int ba) (C := RX3) (T := TX3) (N := 4) hx hb hts (fun _ h => List.mem_cons_of_mem _ (List.mem_append_right _ h)) hown hK hP 0 rfl rfl 1 (by decide) (hts (.fieldLink RX3 15 "PitchTracker$Pitches" "base" "I") (List.mem_of_getElem? (i := 2) rfl)) (fun _ h9 => h9) rfl dX3_nearestPattern_34 ?_
        refine lv_i2l hx hb dX3_nearestPattern_37 rfl ?_
        refine lv_aload_n hx hb dX3_nearestPattern_38 rfl (lv_at hl 5 rfl) ?_
        refine lv_iload hx hb dX3_nearestPattern_39 (lv_at hl 1 rfl) ?_
        refine lv_bipush (v := ((nI 12) : Int32)) hx hb dX3_nearestPattern_41 (by decide +kernel) ?_
        refine lv_irem hx hb dX3_nearestPattern_43 (by decide) ?_
        refine tv_re (y := (nI (i % 12))) (pk_rem (by omega) (by omega) (by omega)) ?_
        have hPc := hP.sub (ws' := [(h, .inr (3, [.int (nI tm), .int ba, .ref p1, .ref q1]))]) [0] rfl
        refine vp_callSi (W.runV (As := [.int (nI (i % 12))]) (rest := [.long (ba.toInt64)]) ⟨hx, hb, hml, hown, hts⟩ (c_X3_partOf l D cI cL h p1 q1 tm ba (i % 12) (by omega) (by omega)) (cwV 1 hts gX3_nearestPattern_X3_partOf rfl rfl rfl (by decide +kernel) ⟨Nat.le_of_ble_eq_true rfl, Nat.le_of_ble_eq_true rfl⟩) ⟨t_rPcX_blind, va_recv hK hPc (ci := 3) (q0 := 0) rfl rfl, fun U hU hW => ⟨rfl, by rw [hU]; exact hPc, va_K.moved hW.alike hK, by rw [hU]; exact (hX).moved hW⟩⟩ rfl rfl hl.1 rfl (lv_room (Nat.le_of_ble_eq_true rfl)) dX3_nearestPattern_44 ⟨Nat.le_of_ble_eq_true rfl, Nat.le_of_ble_eq_true rfl⟩) (fun r_6 hr_6 => ?_)
        subst hr_6
        refine lv_i2l hx hb dX3_nearestPattern_47 rfl ?_
        refine lv_lmul hx hb dX3_nearestPattern_48 ?_
        refine lv_bipush (v := ((nI 6) : Int32)) hx hb dX3_nearestPattern_49 (by decide +kernel) ?_
        refine lv_iload hx hb dX3_nearestPattern_51 (lv_at hl 0 rfl) ?_
        refine tv_isub (a := 6) (b := i / 12) hx hb dX3_nearestPattern_53 (by omega) ?_
        refine lv_lshl hx hb dX3_nearestPattern_54 rfl ?_
        refine lv_lstore (lv' := [(9, .long ((ba.toInt64 * ((t_parts (tm * 12 + (i % 12))).toInt64)) <<< ((nI (6 - (i / 12))).toInt64 &&& 63))), (8, .int (nI (i / 12))), (7, .int (nI i)), (5, .long ((t_mqL (t_far ba tm pq) i).1)), (4, .int (nI ((t_mqL (t_far ba tm pq) i).2))), (2, .long ((pq.toInt64 * 10000) <<< ((nI 6).toInt64 &&& 63))), (0, .ref h), (1, .int pq)]) hx hb dX3_nearestPattern_55 hl (by decide) rfl (fun ls hl => ?_)
        refine lv_lload hx hb dX3_nearestPattern_57 (lv_at hl 0 rfl) ?_
        refine lv_lload_n hx hb dX3_nearestPattern_59 rfl (lv_at hl 5 rfl) ?_
        refine lv_lsub hx hb dX3_nearestPattern_60 ?_
        refine va_mabs_long hx hb (hml.trans hl.1.symm) hown (hts (.methodLink RX3 70 Lib.MathLoose.abs_long.x) (List.mem_of_getElem? (i := 3) rfl)) (hts (.static Lib.MathLoose.abs_long.x) (List.mem_of_getElem? (i := 4) rfl)) (hts (.initialized "java/lang/Math") (List.mem_of_getElem? (i := 5) rfl)) (hts (.code Lib.MathLoose.abs_long.x Lib.MathLoose.abs_long.code 2 (some .long)) (List.mem_of_getElem? (i := 6) rfl)) (Nat.le_of_ble_eq_true rfl) (Nat.le_of_ble_eq_true rfl) (Nat.le_of_ble_eq_true rfl) (Nat.le_of_ble_eq_true rfl) dX3_nearestPattern_61 ?_
        refine tv_reL (y := (t_far ba tm pq) i) rfl ?_
        refine lv_lstore (lv' := [(11, .long ((t_far ba tm pq) i)), (9, .long ((ba.toInt64 * ((t_parts (tm * 12 + (i % 12))).toInt64)) <<< ((nI (6 - (i / 12))).toInt64 &&& 63))), (8, .int (nI (i / 12))), (7, .int (nI i)), (5, .long ((t_mqL (t_far ba tm pq) i).1)), (4, .int (nI ((t_mqL (t_far ba tm pq) i).2))), (2, .long ((pq.toInt64 * 10000) <<< ((nI 6).toInt64 &&& 63))), (0, .ref h), (1, .int pq)]) hx hb dX3_nearestPattern_64 hl (by decide) rfl (fun ls hl => ?_)
        refine lv_iload hx hb dX3_nearestPattern_66 (lv_at hl 3 rfl) ?_
        refine tv_if_eq (tgt := 79) hx hb dX3_nearestPattern_68 (by decide) (by omega) (fun q68_7 => ?_) (fun q68_7 => ?_)
        · refine lv_lload hx hb dX3_nearestPattern_79 (lv_at hl 0 rfl) ?_
          refine lv_lstore (lv' := [(5, .long ((t_far ba tm pq) i)), (11, .long ((t_far ba tm pq) i)), (9, .long ((ba.toInt64 * ((t_parts (tm * 12 + (i % 12))).toInt64)) <<< ((nI (6 - (i / 12))).toInt64 &&& 63))), (8, .int (nI (i / 12))), (7, .int (nI i)), (4, .int (nI ((t_mqL (t_far ba tm pq) i).2))), (2, .long ((pq.toInt64 * 10000) <<< ((nI 6).toInt64 &&& 63))), (0, .ref h), (1, .int pq)]) hx hb dX3_nearestPattern_81 hl (by decide) rfl (fun ls hl => ?_)
          refine lv_iload hx hb dX3_nearestPattern_83 (lv_at hl 4 rfl) ?_
          refine lv_istore (lv' := [(4, .int (nI i)), (5, .long ((t_far ba tm pq) i)), (11, .long ((t_far ba tm pq) i)), (9, .long ((ba.toInt64 * ((t_parts (tm * 12 + (i % 12))).toInt64)) <<< ((nI (6 - (i / 12))).toInt64 &&& 63))), (8, .int (nI (i / 12))), (7, .int (nI i)), (2, .long ((pq.toInt64 * 10000) <<< ((nI 6).toInt64 &&& 63))), (0, .ref h), (1, .int pq)]) hx hb dX3_nearestPattern_85 hl (by decide) rfl (fun ls hl => ?_)
          have hl : lv_has ls 13 [(4, .int (nI ((t_mqL (t_far ba tm pq) (i + 1)).2))), (5, .long ((t_mqL (t_far ba tm pq) (i + 1)).1)), (7, .int (nI i)), (2, .long ((pq.toInt64 * 10000) <<< ((nI 6).toInt64 &&& 63))), (0, .ref h), (1, .int pq)] := by rw [(t_mqL_0 (v := (t_far ba tm pq)) q68_7)]; exact lv_sub hl [0, 1, 5, 6, 7, 8] rfl
          refine lv_iinc (v := (nI (i + 1))) (lv' := [(7, .int (nI (i + 1))), (4, .int (nI ((t_mqL (t_far ba tm pq) (i + 1)).2))), (5, .long ((t_mqL (t_far ba tm pq) (i + 1)).1)), (2, .long ((pq.toInt64 * 10000) <<< ((nI 6).toInt64 &&& 63))), (0, .ref h), (1, .int pq)]) hx hb dX3_nearestPattern_87 hl (k := 2) rfl (nI_add i 1) (by decide) rfl (fun ls hl => ?_)
          refine lv_goto (tgt := 19) hx hb dX3_nearestPattern_90 (by decide) ?_
          exact ih_2 (i + 1) (by omega) (by omega) _ (lv_sub hl [0, 2, 1, 3, 4, 5] rfl)
        · refine lv_lload hx hb dX3_nearestPattern_71 (lv_at hl 0 rfl) ?_
          refine lv_lload hx hb dX3_nearestPattern_73 (lv_at hl 4 rfl) ?_
          refine W.lcmp hx hb dX3_nearestPattern_75 ?_
          refine tv_cmp_ge (tgt := 87) hx hb dX3_nearestPattern_76 (by decide) (fun q76_8 => ?_) (fun q76_8 => ?_)
          · have hl : lv_has ls 13 [(7, .int (nI i)), (5, .long ((t_mqL (t_far ba tm pq) (i + 1)).1)), (4, .int (nI ((t_mqL (t_far ba tm pq) (i + 1)).2))), (2, .long ((pq.toInt64 * 10000) <<< ((nI 6).toInt64 &&& 63))), (0, .ref h), (1, .int pq)] := by rw [(t_mqL_n (v := (t_far ba tm pq)) q68_7 (t_nlt q76_8))]; exact lv_sub hl [3, 4, 5, 6, 7, 8] rfl
            refine lv_iinc (v := (nI (i + 1))) (lv' := [(7, .int (nI (i + 1))), (5, .long ((t_mqL (t_far ba tm pq) (i + 1)).1)), (4, .int (nI ((t_mqL (t_far ba tm pq) (i + 1)).2))), (2, .long ((pq.toInt64 * 10000) <<< ((nI 6).toInt64 &&& 63))), (0, .ref h), (1, .int pq)]) hx hb dX3_nearestPattern_87 hl (k := 0) rfl (nI_add i 1) (by decide) rfl (fun ls hl => ?_)
            refine lv_goto (tgt := 19) hx hb dX3_nearestPattern_90 (by decide) ?_
            exact ih_2 (i + 1) (by omega) (by omega) _ (lv_sub hl [0, 1, 2, 3, 4, 5] rfl)
          · refine lv_lload hx hb dX3_nearestPattern_79 (lv_at hl 0 rfl) ?_
            refine lv_lstore (lv' := [(5, .long ((t_far ba tm pq) i)), (11, .long ((t_far ba tm pq) i)), (9, .long ((ba.toInt64 * ((t_parts (tm * 12 + (i % 12))).toInt64)) <<< ((nI (6 - (i / 12))).toInt64 &&& 63))), (8, .int (nI (i / 12))), (7, .int (nI i)), (4, .int (nI ((t_mqL (t_far ba tm pq) i).2))), (2, .long ((pq.toInt64 * 10000) <<< ((nI 6).toInt64 &&& 63))), (0, .ref h), (1, .int pq)]) hx hb dX3_nearestPattern_81 hl (by decide) rfl (fun ls hl => ?_)
            refine lv_iload hx hb dX3_nearestPattern_83 (lv_at hl 4 rfl) ?_
            refine lv_istore (lv' := [(4, .int (nI i)), (5, .long ((t_far ba tm pq) i)), (11, .long ((t_far ba tm pq) i)), (9, .long ((ba.toInt64 * ((t_parts (tm * 12 + (i % 12))).toInt64)) <<< ((nI (6 - (i / 12))).toInt64 &&& 63))), (8, .int (nI (i / 12))), (7, .int (nI i)), (2, .long ((pq.toInt64 * 10000) <<< ((nI 6).toInt64 &&& 63))), (0, .ref h), (1, .int pq)]) hx hb dX3_nearestPattern_85 hl (by decide) rfl (fun ls hl => ?_)
            have hl : lv_has ls 13 [(4, .int (nI ((t_mqL (t_far ba tm pq) (i + 1)).2))), (5, .long ((t_mqL (t_far ba tm pq) (i + 1)).1)), (7, .int (nI i)), (2, .long ((pq.toInt64 * 10000) <<< ((nI 6).toInt64 &&& 63))), (0, .ref h), (1, .int pq)] := by rw [(t_mqL_y (v := (t_far ba tm pq)) q68_7 (t_nle q76_8))]; exact lv_sub hl [0, 1, 5, 6, 7, 8] rfl
            refine lv_iinc (v := (nI (i + 1))) (lv' := [(7, .int (nI (i + 1))), (4, .int (nI ((t_mqL (t_far ba tm pq) (i + 1)).2))), (5, .long ((t_mqL (t_far ba tm pq) (i + 1)).1)), (2, .long ((pq.toInt64 * 10000) <<< ((nI 6).toInt64 &&& 63))), (0, .ref h), (1, .int pq)]) hx hb dX3_nearestPattern_87 hl (k := 2) rfl (nI_add i 1) (by decide) rfl (fun ls hl => ?_)
            refine lv_goto (tgt := 19) hx hb dX3_nearestPattern_90 (by decide) ?_
            exact ih_2 (i + 1) (by omega) (by omega) _ (lv_sub hl [0, 2, 1, 3, 4, 5] rfl)
  exact loop_1 (84 - 0 + 1) 0 (Nat.lt_succ_self _) (Nat.zero_le _) _ (lv_sub hl [0, 1, 2, 3, 4, 5] rfl)

set_option maxHeartbeats 4000000 in
set_option maxRecDepth 100000 in
theorem c_X3_find (l : Launch) (D : va_G) (cI cL : ClassId) (h p1 p2 q1 q2 tm : Nat) (ba : Int32) (pe pa : Nat → Int32) (th0 u1 v1 y1 y2 : Nat) (un ju ch tc : Int32) (tr : Nat → Int32) (dh t1 a1 t2 a2 mf : Nat) (f g : Nat → Int32) (x : Nat → Int32) (lg : Nat → Nat) (n : Nat) (hn : n ≤ 29) (htm : tm ≤ 2) (hok : t_okd x n f g) (htr : ∀ k, k < n → tr k = nI (lg k) ∧ (lg k = 0 ∨ (2 ≤ lg k ∧ lg k ≤ 63))) (sz : Nat) : Met l yX3_find wsX3_find ({ frames := 4, cells := 0, slots := 0, locals := 160 }) (t_wPcX D cI cL [.ref h, .ref th0, .ref dh, .int (nI n)] [(h, .inr (3, [.int (nI tm), .int ba, .ref p1, .ref q1])), (p1, .inr (4, [.ref p2])), (p2, .inl (cI, 29, .inl pe)), (q1, .inr (4, [.ref q2])), (q2, .inl (cI, 29, .inl pa)), (th0, .inr (7, [.int un, .int ju, .int ch, .ref u1, .ref v1, .ref y1, .int tc])), (y1, .inr (4, [.ref y2])), (y2, .inl (cI, 29, .inl tr)), (dh, .inr (1, [.ref t1, .ref t2, .int (nI mf)])), (t1, .inr (6, [.int (nI 65), .ref a1])), (a1, .inl (cI, 1885, .inl f)), (t2, .inr (6, [.int (nI 65), .ref a2])), (a2, .inl (cI, 1885, .inl g))] sz) (t_Qv D cI cL (fun w1 => ∃ pe2 : Nat → Int32, ∃ pa2 : Nat → Int32, w1 = [(h, .inr (3, [.int (nI tm), .int ba, .ref p1, .ref q1])), (p1, .inr (4, [.ref p2])), (p2, .inl (cI, 29, .inl pe2)), (q1, .inr (4, [.ref q2])), (q2, .inl (cI, 29, .inl pa2)), (th0, .inr (7, [.int un, .int ju, .int ch, .ref u1, .ref v1, .ref y1, .int tc])), (y1, .inr (4, [.ref y2])), (y2, .inl (cI, 29, .inl tr)), (dh, .inr (1, [.ref t1, .ref t2, .int (nI mf)])), (t1, .inr (6, [.int (nI 65), .ref a1])), (a1, .inl (cI, 1885, .inl f)), (t2, .inr (6, [.int (nI 65), .ref a2])), (a2, .inl (cI, 1885, .inl g))] ∧ t_pit x ba tm lg n pe2 pa2) (va_A [(h, .inr (3, [.int (nI tm), .int ba, .ref p1, .ref q1])), (p1, .inr (4, [.ref p2])), (p2, .inl (cI, 29, .inl pe)), (q1, .inr (4, [.ref q2])), (q2, .inl (cI, 29, .inl pa)), (th0, .inr (7, [.int un, .int ju, .int ch, .ref u1, .ref v1, .ref y1, .int tc])), (y1, .inr (4, [.ref y2])), (y2, .inl (cI, 29, .inl tr)), (dh, .inr (1, [.ref t1, .ref t2, .int (nI mf)])), (t1, .inr (6, [.int (nI 65), .ref a1])), (a1, .inl (cI, 1885, .inl f)), (t2, .inr (6, [.int (nI 65), .ref a2])), (a2, .inl (cI, 1885, .inl g))] sz)) 0 0 (va_A [(h, .inr (3, [.int (nI tm), .int ba, .ref p1, .ref q1])), (p1, .inr (4, [.ref p2])), (p2, .inl (cI, 29, .inl pe)), (q1, .inr (4, [.ref q2])), (q2, .inl (cI, 29, .inl pa)), (th0, .inr (7, [.int un, .int ju, .int ch, .ref u1, .ref v1, .ref y1, .int tc])), (y1, .inr (4, [.ref y2])), (y2, .inl (cI, 29, .inl tr)), (dh, .inr (1, [.ref t1, .ref t2, .int (nI mf)])), (t1, .inr (6, [.int (nI 65), .ref a1])), (a1, .inl (cI, 1885, .inl f)), (t2, .inr (6, [.int (nI 65), .ref a2])), (a2, .inl (cI, 1885, .inl g))] sz) := by
  refine t_ofWX (Qc := t_Qv D cI cL (fun w1 => ∃ pe2 : Nat → Int32, ∃ pa2 : Nat → Int32, w1 = [(h, .inr (3, [.int (nI tm), .int ba, .ref p1, .ref q1])), (p1, .inr (4, [.ref p2])), (p2, .inl (cI, 29, .inl pe2)), (q1, .inr (4, [.ref q2])), (q2, .inl (cI, 29, .inl pa2)), (th0, .inr (7, [.int un, .int ju, .int ch, .ref u1, .ref v1, .ref y1, .int tc])), (y1, .inr (4, [.ref y2])), (y2, .inl (cI, 29, .inl tr)), (dh, .inr (1, [.ref t1, .ref t2, .int (nI mf)])), (t1, .inr (6, [.int (nI 65), .ref a1])), (a1, .inl (cI, 1885, .inl f)), (t2, .inr (6, [.int (nI 65), .ref a2])), (a2, .inl (cI, 1885, .inl g))] ∧ t_pit x ba tm lg n pe2 pa2)) (by decide) rfl (Nat.le_of_ble_eq_true rfl) ?_
  intro p e s m below meth c ls A hx hb hml hown hts hr hlocks hin hK hP hD hS hA hX hl
  have hown : s.vm.findClass RX3 = some m.cls := hown
  have hl : lv_has ls 7 [(0, .ref h), (1, .ref th0), (2, .ref dh), (3, .int (nI n))] := hl
  refine lv_iconst (v := ((nI 0) : Int32)) hx hb dX3_find_0 (by decide +kernel) ?_
  refine lv_istore (lv' := [(4, .int (nI 0)), (0, .ref h), (1, .ref th0), (2, .ref dh), (3, .int (nI n))]) hx hb dX3_find_1 hl (by decide) rfl (fun ls hl => ?_)
  have loop_1 : ∀ (n_3 : Nat) (i : Nat) (pe1 : Nat → Int32) (pa1 : Nat → Int32) (hm_4 : n - i < n_3) (hi : i ≤ n) (hv : t_pit x ba tm lg i pe1 pa1) (H : Heap) (locs : List Loc) (hP : va_P D vwCl [(h, .inr (3, [.int (nI tm), .int ba, .ref p1, .ref q1])), (p1, .inr (4, [.ref p2])), (p2, .inl (cI, 29, .inl pe1)), (q1, .inr (4, [.ref q2])), (q2, .inl (cI, 29, .inl pa1)), (th0, .inr (7, [.int un, .int ju, .int ch, .ref u1, .ref v1, .ref y1, .int tc])), (y1, .inr (4, [.ref y2])), (y2, .inl (cI, 29, .inl tr)), (dh, .inr (1, [.ref t1, .ref t2, .int (nI mf)])), (t1, .inr (6, [.int (nI 65), .ref a1])), (a1, .inl (cI, 1885, .inl f)), (t2, .inr (6, [.int (nI 65), .ref a2])), (a2, .inl (cI, 1885, .inl g))] H) (hD : va_D A [(h, .inr (3, [.int (nI tm), .int ba, .ref p1, .ref q1])), (p1, .inr (4, [.ref p2])), (p2, .inl (cI, 29, .inl pe1)), (q1, .inr (4, [.ref q2])), (q2, .inl (cI, 29, .inl pa1)), (th0, .inr (7, [.int un, .int ju, .int ch, .ref u1, .ref v1, .ref y1, .int tc])), (y1, .inr (4, [.ref y2])), (y2, .inl (cI, 29, .inl tr)), (dh, .inr (1, [.ref t1, .ref t2, .int (nI mf)])), (t1, .inr (6, [.int (nI 65), .ref a1])), (a1, .inl (cI, 1885, .inl f)), (t2, .inr (6, [.int (nI 65), .ref a2])), (a2, .inl (cI, 1885, .inl g))]) (hS : va_S A s.heap H locs) (ls : Array Slot) (hl : lv_has ls 7 [(4, .int (nI i)), (0, .ref h), (1, .ref th0), (2, .ref dh), (3, .int (nI n))]), W p l e ({ frames := 4, cells := 0, slots := 0, locals := 160 }) s m ([.ref h, .ref th0, .ref dh, .int (nI n)] : List Value).toArray below meth c H locs 0 0 (MQ below (t_Qv D cI cL (fun w1 => ∃ pe2 : Nat → Int32, ∃ pa2 : Nat → Int32, w1 = [(h, .inr (3, [.int (nI tm), .int ba, .ref p1, .ref q1])), (p1, .inr (4, [.ref p2])), (p2, .inl (cI, 29, .inl pe2)), (q1, .inr (4, [.ref q2])), (q2, .inl (cI, 29, .inl pa2)), (th0, .inr (7, [.int un, .int ju, .int ch, .ref u1, .ref v1, .ref y1, .int tc])), (y1, .inr (4, [.ref y2])), (y2, .inl (cI, 29, .inl tr)), (dh, .inr (1, [.ref t1, .ref t2, .int (nI mf)])), (t1, .inr (6, [.int (nI 65), .ref a1])), (a1, .inl (cI, 1885, .inl f)), (t2, .inr (6, [.int (nI 65), .ref a2])), (a2, .inl (cI, 1885, .inl g))] ∧ t_pit x ba tm lg n pe2 pa2) A) ([.ref h, .ref th0, .ref dh, .int (nI n)] : List Value).toArray s 0 0 A) (F0 m 3 ls []) := by
    intro n_3
    induction n_3 with
    | zero => intro i pe1 pa1 hm_4; exact absurd hm_4 (Nat.not_lt_zero _)
    | succ n_3 ih_2 =>
      intro i pe1 pa1 hm_4 hi hv H locs hP hD hS ls hl
      refine lv_iload hx hb dX3_find_3 (lv_at hl 0 rfl) ?_
      refine lv_iload_n hx hb dX3_find_5 rfl (lv_at hl 4 rfl) ?_
      refine tv_icmp_ge (tgt := 77) hx hb dX3_find_6 (by decide) (by omega) (by omega) (fun q6_5 => ?_) (fun q6_5 => ?_)
      · have hP9 := hP
        have hD9 := hD
        exact W.vret hx hb hr (fun t ht hW => ⟨⟨[(h, .inr (3, [.int (nI tm), .int ba, .ref p1, .ref q1])), (p1, .inr (4, [.ref p2])), (p2, .inl (cI, 29, .inl pe1)), (q1, .inr (4, [.ref q2])), (q2, .inl (cI, 29, .inl pa1)), (th0, .inr (7, [.int un, .int ju, .int ch, .ref u1, .ref v1, .ref y1, .int tc])), (y1, .inr (4, [.ref y2])), (y2, .inl (cI, 29, .inl tr)), (dh, .inr (1, [.ref t1, .ref t2, .int (nI mf)])), (t1, .inr (6, [.int (nI 65), .ref a1])), (a1, .inl (cI, 1885, .inl f)), (t2, .inr (6, [.int (nI 65), .ref a2])), (a2, .inl (cI, 1885, .inl g))], rfl, ⟨pe1, pa1, rfl, (by obtain rfl : i = n := (by omega); exact hv)⟩, ⟨by rw [ht]; exact hP9, va_K.moved hW.alike hK, hD9⟩⟩, hS.F ht⟩) hS.2.2 dX3_find_77 hlocks
      · refine lv_aload_n hx hb dX3_find_9 rfl (lv_at hl 2 rfl) ?_
        refine lv_iload hx hb dX3_find_10 (lv_at hl 0 rfl) ?_
        have hPc := hP.sub (ws' := [(th0, .inr (7, [.int un, .int ju, .int ch, .ref u1, .ref v1, .ref y1, .int tc])), (y1, .inr (4, [.ref y2])), (y2, .inl (cI, 29, .inl tr))]) [5, 6, 7] rfl
        refine vp_callSi (W.runV (As := [.int (nI i)]) (rest := []) ⟨hx, hb, hml, hown, hts⟩ (c_X7_lagOf l D cI cL th0 u1 v1 y1 y2 un ju ch tc tr i (by omega)) (cwV 1 hts gX3_find_X7_lagOf rfl rfl rfl (by decide +kernel) ⟨Nat.le_of_ble_eq_true rfl, Nat.le_of_ble_eq_true rfl⟩) ⟨t_rPc_blind, va_recv hK hPc (ci := 7) (q0 := 0) rfl rfl, fun U hU hW => ⟨rfl, by rw [hU]; exact hPc, va_K.moved hW.alike hK⟩⟩ rfl rfl hl.1 rfl (lv_room (Nat.le_of_ble_eq_true rfl)) dX3_find_12 ⟨Nat.le_of_ble_eq_true rfl, Nat.le_of_ble_eq_true rfl⟩) (fun r_6 hr_6 => ?_)
        subst hr_6
        refine tv_re (y := (nI (lg i))) (htr i (by omega)).1 ?_
        have hlg := (htr i (by omega)).2
        refine lv_istore (lv' := [(5, .int (nI (lg i))), (4, .int (nI i)), (0, .ref h), (1, .ref th0), (2, .ref dh), (3, .int (nI n))]) hx hb dX3_find_15 hl (by decide) rfl (fun ls hl => ?_)
        refine lv_iload hx hb dX3_find_17 (lv_at hl 0 rfl) ?_
        refine tv_if_le (tgt := 33) hx hb dX3_find_19 (by decide) (by omega) (fun q19_7 => ?_) (fun q19_7 => ?_)
        · refine lv_iconst (v := ((nI 0) : Int32)) hx hb dX3_find_33 (by decide +kernel) ?_
          refine tv_re (y := (t_pe (t_df x i) (lg i))) (if_pos q19_7).symm ?_
          refine lv_istore (lv' := [(6, .int (t_pe (t_df x i) (lg i))), (5, .int (nI (lg i))), (4, .int (nI i)), (0, .ref h), (1, .ref th0), (2, .ref dh), (3, .int (nI n))]) hx hb dX3_find_34 hl (by decide) rfl (fun ls hl => ?_)
          refine lv_aload_n hx hb dX3_find_36 rfl (lv_at hl 3 rfl) ?_
          refine va_get (D := D) (ci := 3) (v := .ref p1) (C := RX3) (T := TX3) (N := 4) hx hb hts (fun _ h => List.mem_cons_of_mem _ (List.mem_append_left _ (List.mem_append_left _ (List.mem_append_left _ (List.mem_append_left _ (List.mem_append_right _ h)))))) hown hK hP 0 rfl rfl 2 (by decide) (hts (.fieldLink RX3 23 "PitchTracker$Pitches" "periods" "LPitchTracker$Row;") (List.mem_of_getElem? (i := 1) rfl)) (fun _ h9 => h9) rfl dX3_find_37 ?_
          refine lv_iload hx hb dX3_find_40 (lv_at hl 2 rfl) ?_
          refine lv_iload hx hb dX3_find_42 (lv_at hl 0 rfl) ?_
          have hPc := hP.sub (ws' := [(p1, .inr (4, [.ref p2])), (p2, .inl (cI, 29, .inl pe1))]) [1, 2] rfl
          have hDc := hD.sub (ws' := [(p1, .inr (4, [.ref p2])), (p2, .inl (cI, 29, .inl pe1))]) [1, 2] (by decide +kernel) rfl
          have hFc := va_free (wc := [(p1, .inr (4, [.ref p2])), (p2, .inl (cI, 29, .inl pe1))]) hD hS hA [1, 2] rfl
          refine va_callv (va_runV (As := [.int (nI i), .int (t_pe (t_df x i) (lg i))]) (rest := []) ⟨hx, hb, hml, hown, hts⟩ (c_X4_put l D cI cL p1 p2 29 pe1 i ((t_pe (t_df x i) (lg i))) (by omega) (by omega) H.size) (cwV 2 hts gX3_find_X4_put rfl rfl rfl (by decide +kernel) ⟨Nat.le_of_ble_eq_true rfl, Nat.le_of_ble_eq_true rfl⟩) ⟨t_wPc_blind, va_recv hK hPc (ci := 4) (q0 := 0) rfl rfl, fun U hU hW => ⟨rfl, by rw [hU], by rw [hU]; exact hPc, va_K.moved hW.alike hK, hDc.weaken (fun _ _ _ _ => trivial)⟩⟩ rfl rfl hl.1 rfl (lv_room (Nat.le_of_ble_eq_true rfl)) dX3_find_44 ⟨Nat.le_of_ble_eq_true rfl, Nat.le_of_ble_eq_true rfl⟩) hS (fun q _ h => hFc q h) hFc (fun u_9 t H1 locs ht hvm hw hB hz1 hk1 hS => ?_)
          obtain ⟨hP1, hK1, hD1⟩ := hB
          rw [ht] at hP1
          have hw : u_9 = [(p1, .inr (4, [.ref p2])), (p2, .inl (cI, 29, .inl (upd pe1 i ((t_pe (t_df x i) (lg i))))))] := hw
          subst hw
          obtain ⟨hP, hD⟩ := va_join (wr := [(h, .inr (3, [.int (nI tm), .int ba, .ref p1, .ref q1])), (q1, .inr (4, [.ref q2])), (q2, .inl (cI, 29, .inl pa1)), (th0, .inr (7, [.int un, .int ju, .int ch, .ref u1, .ref v1, .ref y1, .int tc])), (y1, .inr (4, [.ref y2])), (y2, .inl (cI, 29, .inl tr)), (dh, .inr (1, [.ref t1, .ref t2, .int (nI mf)])), (t1, .inr (6, [.int (nI 65), .ref a1])), (a1, .inl (cI, 1885, .inl f)), (t2, .inr (6, [.int (nI 65), .ref a2])), (a2, .inl (cI, 1885, .inl g))]) (w1 := [(p1, .inr (4, [.ref p2])), (p2, .inl (cI, 29, .inl (upd pe1 i ((t_pe (t_df x i) (lg i))))))]) hP hD [1, 2] [0, 3, 4, 5, 6, 7, 8, 9, 10, 11, 12] rfl rfl (by decide +kernel) (by decide +kernel) hk1 hFc hP1 hD1
          clear hP1 hD1 hK1 hPc hDc hFc ht hvm hz1 hk1
          have hP := hP.sub (ws' := [(h, .inr (3, [.int (nI tm), .int ba, .ref p1, .ref q1])), (p1, .inr (4, [.ref p2])), (p2, .inl (cI, 29, .inl (upd pe1 i ((t_pe (t_df x i) (lg i)))))), (q1, .inr (4, [.ref q2])), (q2, .inl (cI, 29, .inl pa1)), (th0, .inr (7, [.int un, .int ju, .int ch, .ref u1, .ref v1, .ref y1, .int tc])), (y1, .inr (4, [.ref y2])), (y2, .inl (cI, 29, .inl tr)), (dh, .inr (1, [.ref t1, .ref t2, .int (nI mf)])), (t1, .inr (6, [.int (nI 65), .ref a1])), (a1, .inl (cI, 1885, .inl f)), (t2, .inr (6, [.int (nI 65), .ref a2])), (a2, .inl (cI, 1885, .inl g))]) [0, 11, 12, 1, 2, 3, 4, 5, 6, 7, 8, 9, 10] rfl
          have hD := hD.sub (ws' := [(h, .inr (3, [.int (nI tm), .int ba, .ref p1, .ref q1])), (p1, .inr (4, [.ref p2])), (p2, .inl (cI, 29, .inl (upd pe1 i ((t_pe (t_df x i) (lg i)))))), (q1, .inr (4, [.ref q2])), (q2, .inl (cI, 29, .inl pa1)), (th0, .inr (7, [.int un, .int ju, .int ch, .ref u1, .ref v1, .ref y1, .int tc])), (y1, .inr (4, [.ref y2])), (y2, .inl (cI, 29, .inl tr)), (dh, .inr (1, [.ref t1, .ref t2, .int (nI mf)])), (t1, .inr (6, [.int (nI 65), .ref a1])), (a1, .inl (cI, 1885, .inl f)), (t2, .inr (6, [.int (nI 65), .ref a2])), (a2, .inl (cI, 1885, .inl g))]) [0, 11, 12, 1, 2, 3, 4, 5, 6, 7, 8, 9, 10] (by decide +kernel) rfl
          generalize H1 = H at hP hS ⊢
          refine lv_aload_n hx hb dX3_find_47 rfl (lv_at hl 3 rfl) ?_
          refine va_get (D := D) (ci := 3) (v := .ref q1) (C := RX3) (T := TX3) (N := 4) hx hb hts (fun _ h => List.mem_cons_of_mem _ (List.mem_append_left _ (List.mem_append_left _ (List.mem_append_left _ (List.mem_append_left _ (List.mem_append_right _ h)))))) hown hK hP 0 rfl rfl 3 (by decide) (hts (.fieldLink RX3 27 "PitchTracker$Pitches" "patterns" "LPitchTracker$Row;") (List.mem_of_getElem? (i := 2) rfl)) (fun _ h9 => h9) rfl dX3_find_48 ?_
          refine lv_iload hx hb dX3_find_51 (lv_at hl 2 rfl) ?_
          refine lv_iload hx hb dX3_find_53 (lv_at hl 1 rfl) ?_
          refine tv_if_le (tgt := 67) hx hb dX3_find_55 (by decide) (by omega) (fun q55_10 => ?_) (fun q55_10 => absurd q55_10 (by omega))
          refine lv_iconst (v := ((-1) : Int32)) hx hb dX3_find_67 (by decide +kernel) ?_
          refine tv_re (y := (t_pa ba tm (t_df x i) (lg i))) (if_pos q55_10).symm ?_
          have hPc := hP.sub (ws' := [(q1, .inr (4, [.ref q2])), (q2, .inl (cI, 29, .inl pa1))]) [3, 4] rfl
          have hDc := hD.sub (ws' := [(q1, .inr (4, [.ref q2])), (q2, .inl (cI, 29, .inl pa1))]) [3, 4] (by decide +kernel) rfl
          have hFc := va_free (wc := [(q1, .inr (4, [.ref q2])), (q2, .inl (cI, 29, .inl pa1))]) hD hS hA [3, 4] rfl
          refine va_callv (va_runV (As := [.int (nI i), .int (t_pa ba tm (t_df x i) (lg i))]) (rest := []) ⟨hx, hb, hml, hown, hts⟩ (c_X4_put l D cI cL q1 q2 29 pa1 i ((t_pa ba tm (t_df x i) (lg i))) (by omega) (by omega) H.size) (cwV 2 hts gX3_find_X4_put rfl rfl rfl (by decide +kernel) ⟨Nat.le_of_ble_eq_true rfl, Nat.le_of_ble_eq_true rfl⟩) ⟨t_wPc_blind, va_recv hK hPc (ci := 4) (q0 := 0) rfl rfl, fun U hU hW => ⟨rfl, by rw [hU], by rw [hU]; exact hPc, va_K.moved hW.alike hK, hDc.weaken (fun _ _ _ _ => trivial)⟩⟩ rfl rfl hl.1 rfl (lv_room (Nat.le_of_ble_eq_true rfl)) dX3_find_68 ⟨Nat.le_of_ble_eq_true rfl, Nat.le_of_ble_eq_true rfl⟩) hS (fun q _ h => hFc q h) hFc (fun u_12 t H1 locs ht hvm hw hB hz1 hk1 hS => ?_)
          obtain ⟨hP1, hK1, hD1⟩ := hB
          rw [ht] at hP1
          have hw : u_12 = [(q1, .inr (4, [.ref q2])), (q2, .inl (cI, 29, .inl (upd pa1 i ((t_pa ba tm (t_df x i) (lg i))))))] := hw
          subst hw
          obtain ⟨hP, hD⟩ := va_join (wr := [(h, .inr (3, [.int (nI tm), .int ba, .ref p1, .ref q1])), (p1, .inr (4, [.ref p2])), (p2, .inl (cI, 29, .inl (upd pe1 i ((t_pe (t_df x i) (lg i)))))), (th0, .inr (7, [.int un, .int ju, .int ch, .ref u1, .ref v1, .ref y1, .int tc])), (y1, .inr (4, [.ref y2])), (y2, .inl (cI, 29, .inl tr)), (dh, .inr (1, [.ref t1, .ref t2, .int (nI mf)])), (t1, .inr (6, [.int (nI 65), .ref a1])), (a1, .inl (cI, 1885, .inl f)), (t2, .inr (6, [.int (nI 65), .ref a2])), (a2, .inl (cI, 1885, .inl g))]) (w1 := [(q1, .inr (4, [.ref q2])), (q2, .inl (cI, 29, .inl (upd pa1 i ((t_pa ba tm (t_df x i) (lg i))))))]) hP hD [3, 4] [0, 1, 2, 5, 6, 7, 8, 9, 10, 11, 12] rfl rfl (by decide +kernel) (by decide +kernel) hk1 hFc hP1 hD1
          clear hP1 hD1 hK1 hPc hDc hFc ht hvm hz1 hk1
          have hP := hP.sub (ws' := [(h, .inr (3, [.int (nI tm), .int ba, .ref p1, .ref q1])), (p1, .inr (4, [.ref p2])), (p2, .inl (cI, 29, .inl (upd pe1 i ((t_pe (t_df x i) (lg i)))))), (q1, .inr (4, [.ref q2])), (q2, .inl (cI, 29, .inl (upd pa1 i ((t_pa ba tm (t_df x i) (lg i)))))), (th0, .inr (7, [.int un, .int ju, .int ch, .ref u1, .ref v1, .ref y1, .int tc])), (y1, .inr (4, [.ref y2])), (y2, .inl (cI, 29, .inl tr)), (dh, .inr (1, [.ref t1, .ref t2, .int (nI mf)])), (t1, .inr (6, [.int (nI 65), .ref a1])), (a1, .inl (cI, 1885, .inl f)), (t2, .inr (6, [.int (nI 65), .ref a2])), (a2, .inl (cI, 1885, .inl g))]) [0, 1, 2, 11, 12, 3, 4, 5, 6, 7, 8, 9, 10] rfl
          have hD := hD.sub (ws' := [(h, .inr (3, [.int (nI tm), .int ba, .ref p1, .ref q1])), (p1, .inr (4, [.ref p2])), (p2, .inl (cI, 29, .inl (upd pe1 i ((t_pe (t_df x i) (lg i)))))), (q1, .inr (4, [.ref q2])), (q2, .inl (cI, 29, .inl (upd pa1 i ((t_pa ba tm (t_df x i) (lg i)))))), (th0, .inr (7, [.int un, .int ju, .int ch, .ref u1, .ref v1, .ref y1, .int tc])), (y1, .inr (4, [.ref y2])), (y2, .inl (cI, 29, .inl tr)), (dh, .inr (1, [.ref t1, .ref t2, .int (nI mf)])), (t1, .inr (6, [.int (nI 65), .ref a1])), (a1, .inl (cI, 1885, .inl f)), (t2, .inr (6, [.int (nI 65), .ref a2])), (a2, .inl (cI, 1885, .inl g))]) [0, 1, 2, 11, 12, 3, 4, 5, 6, 7, 8, 9, 10] (by decide +kernel) rfl
          generalize H1 = H at hP hS ⊢
          refine lv_iinc (v := (nI (i + 1))) (lv' := [(4, .int (nI (i + 1))), (6, .int (t_pe (t_df x i) (lg i))), (5, .int (nI (lg i))), (0, .ref h), (1, .ref th0), (2, .ref dh), (3, .int (nI n))]) hx hb dX3_find_71 hl (k := 2) rfl (nI_add i 1) (by decide) rfl (fun ls hl => ?_)
          refine lv_goto (tgt := 3) hx hb dX3_find_74 (by decide) ?_
          exact ih_2 (i + 1) (upd pe1 i ((t_pe (t_df x i) (lg i)))) (upd pa1 i ((t_pa ba tm (t_df x i) (lg i)))) (by omega) (by omega) (t_pit_s hv rfl rfl) _ _ (hP.sub [0, 1, 2, 3, 4, 5, 6, 7, 8, 9, 10, 11, 12] rfl) (hD.sub [0, 1, 2, 3, 4, 5, 6, 7, 8, 9, 10, 11, 12] (by decide +kernel) rfl) hS _ (lv_sub hl [0, 3, 4, 5, 6] rfl)
        · refine lv_aload_n hx hb dX3_find_22 rfl (lv_at hl 4 rfl) ?_
          refine lv_iload hx hb dX3_find_23 (lv_at hl 1 rfl) ?_
          refine lv_iload hx hb dX3_find_25 (lv_at hl 0 rfl) ?_
          have hPc := hP.sub (ws' := [(dh, .inr (1, [.ref t1, .ref t2, .int (nI mf)])), (t1, .inr (6, [.int (nI 65), .ref a1])), (a1, .inl (cI, 1885, .inl f)), (t2, .inr (6, [.int (nI 65), .ref a2])), (a2, .inl (cI, 1885, .inl g))]) [8, 9, 10, 11, 12] rfl
          refine vp_callSi (W.runS (As := [.ref dh, .int (nI i), .int (nI (lg i))]) (rest := []) ⟨hx, hb, hml, hown, hts⟩ (c_X3_refine l D cI cL dh t1 a1 t2 a2 mf f g i (lg i) (by omega) (by omega) (by omega)) (va_cwS 3 hts gX3_find_X3_refine rfl rfl rfl (by decide +kernel) ⟨Nat.le_of_ble_eq_true rfl, Nat.le_of_ble_eq_true rfl⟩) ⟨t_rPcX_blind, fun U hU hW => ⟨rfl, by rw [hU]; exact hPc, va_K.moved hW.alike hK, by rw [hU]; exact ((hX.kept hS.2.1).narrow (fun q h => h.elim)).moved hW⟩⟩ rfl rfl hl.1 rfl (lv_room (Nat.le_of_ble_eq_true rfl)) dX3_find_27 ⟨Nat.le_of_ble_eq_true rfl, Nat.le_of_ble_eq_true rfl⟩) (fun r_13 hr_13 => ?_)
          subst hr_13
          refine tv_re (y := (t_pe (t_df x i) (lg i))) (by unfold t_pe; rw [if_neg (by omega : ¬ lg i = 0), (hok i (by omega) (lg i - 1) (by omega) (by omega)).1, (hok i (by omega) (lg i) (by omega) (by omega)).1, (hok i (by omega) (lg i + 1) (by omega) (by omega)).1]) ?_
          refine lv_goto (tgt := 34) hx hb dX3_find_30 (by decide) ?_
          refine lv_istore (lv' := [(6, .int (t_pe (t_df x i) (lg i))), (5, .int (nI (lg i))), (4, .int (nI i)), (0, .ref h), (1, .ref th0), (2, .ref dh), (3, .int (nI n))]) hx hb dX3_find_34 hl (by decide) rfl (fun ls hl => ?_)
          refine lv_aload_n hx hb dX3_find_36 rfl (lv_at hl 3 rfl) ?_
          refine va_get (D := D) (ci := 3) (v := .ref p1) (C := RX3) (T := TX3) (N := 4) hx hb hts (fun _ h => List.mem_cons_of_mem _ (List.mem_append_left _ (List.mem_append_left _ (List.mem_append_left _ (List.mem_append_left _ (List.mem_append_right _ h)))))) hown hK hP 0 rfl rfl 2 (by decide) (hts (.fieldLink RX3 23 "PitchTracker$Pitches" "periods" "LPitchTracker$Row;") (List.mem_of_getElem? (i := 1) rfl)) (fun _ h9 => h9) rfl dX3_find_37 ?_
          refine lv_iload hx hb dX3_find_40 (lv_at hl 2 rfl) ?_
          refine lv_iload hx hb dX3_find_42 (lv_at hl 0 rfl) ?_
          have hPc := hP.sub (ws' := [(p1, .inr (4, [.ref p2])), (p2, .inl (cI, 29, .inl pe1))]) [1, 2] rfl
          have hDc := hD.sub (ws' := [(p1, .inr (4, [.ref p2])), (p2, .inl (cI, 29, .inl pe1))]) [1, 2] (by decide +kernel) rfl
          have hFc := va_free (wc := [(p1, .inr (4, [.ref p2])), (p2, .inl (cI, 29, .inl pe1))]) hD hS hA [1, 2] rfl
          refine va_callv (va_runV (As := [.int (nI i), .int (t_pe (t_df x i) (lg i))]) (rest := []) ⟨hx, hb, hml, hown, hts⟩ (c_X4_put l D cI cL p1 p2 29 pe1 i ((t_pe (t_df x i) (lg i))) (by omega) (by omega) H.size) (cwV 2 hts gX3_find_X4_put rfl rfl rfl (by decide +kernel) ⟨Nat.le_of_ble_eq_true rfl, Nat.le_of_ble_eq_true rfl⟩) ⟨t_wPc_blind, va_recv hK hPc (ci := 4) (q0 := 0) rfl rfl, fun U hU hW => ⟨rfl, by rw [hU], by rw [hU]; exact hPc, va_K.moved hW.alike hK, hDc.weaken (fun _ _ _ _ => trivial)⟩⟩ rfl rfl hl.1 rfl (lv_room (Nat.le_of_ble_eq_true rfl)) dX3_find_44 ⟨Nat.le_of_ble_eq_true rfl, Nat.le_of_ble_eq_true rfl⟩) hS (fun q _ h => hFc q h) hFc (fun u_15 t H1 locs ht hvm hw hB hz1 hk1 hS => ?_)
          obtain ⟨hP1, hK1, hD1⟩ := hB
          rw [ht] at hP1
          have hw : u_15 = [(p1, .inr (4, [.ref p2])), (p2, .inl (cI, 29, .inl (upd pe1 i ((t_pe (t_df x i) (lg i))))))] := hw
          subst hw
          obtain ⟨hP, hD⟩ := va_join (wr := [(h, .inr (3, [.int (nI tm), .int ba, .ref p1, .ref q1])), (q1, .inr (4, [.ref q2])), (q2, .inl (cI, 29, .inl pa1)), (th0, .inr (7, [.int un, .int ju, .int ch, .ref u1, .ref v1, .ref y1, .int tc])), (y1, .inr (4, [.ref y2])), (y2, .inl (cI, 29, .inl tr)), (dh, .inr (1, [.ref t1, .ref t2, .int (nI mf)])), (t1, .inr (6, [.int (nI 65), .ref a1])), (a1, .inl (cI, 1885, .inl f)), (t2, .inr (6, [.int (nI 65), .ref a2])), (a2, .inl (cI, 1885, .inl g))]) (w1 := [(p1, .inr (4, [.ref p2])), (p2, .inl (cI, 29, .inl (upd pe1 i ((t_pe (t_df x i) (lg i))))))]) hP hD [1, 2] [0, 3, 4, 5, 6, 7, 8, 9, 10, 11, 12] rfl rfl (by decide +kernel) (by decide +kernel) hk1 hFc hP1 hD1
          clear hP1 hD1 hK1 hPc hDc hFc ht hvm hz1 hk1
          have hP := hP.sub (ws' := [(h, .inr (3, [.int (nI tm), .int ba, .ref p1, .ref q1])), (p1, .inr (4, [.ref p2])), (p2, .inl (cI, 29, .inl (upd pe1 i ((t_pe (t_df x i) (lg i)))))), (q1, .inr (4, [.ref q2])), (q2, .inl (cI, 29, .inl pa1)), (th0, .inr (7, [.int un, .int ju, .int ch, .ref u1, .ref v1, .ref y1, .int tc])), (y1, .inr (4, [.ref y2])), (y2, .inl (cI, 29, .inl tr)), (dh, .inr (1, [.ref t1, .ref t2, .int (nI mf)])), (t1, .inr (6, [.int (nI 65), .ref a1])), (a1, .inl (cI, 1885, .inl f)), (t2, .inr (6, [.int (nI 65), .ref a2])), (a2, .inl (cI, 1885, .inl g))]) [0, 11, 12, 1, 2, 3, 4, 5, 6, 7, 8, 9, 10] rfl
          have hD := hD.sub (ws' := [(h, .inr (3, [.int (nI tm), .int ba, .ref p1, .ref q1])), (p1, .inr (4, [.ref p2])), (p2, .inl (cI, 29, .inl (upd pe1 i ((t_pe (t_df x i) (lg i)))))), (q1, .inr (4, [.ref q2])), (q2, .inl (cI, 29, .inl pa1)), (th0, .inr (7, [.int un, .int ju, .int ch, .ref u1, .ref v1, .ref y1, .int tc])), (y1, .inr (4, [.ref y2])), (y2, .inl (cI, 29, .inl tr)), (dh, .inr (1, [.ref t1, .ref t2, .int (nI mf)])), (t1, .inr (6, [.int (nI 65), .ref a1])), (a1, .inl (cI, 1885, .inl f)), (t2, .inr (6, [.int (nI 65), .ref a2])), (a2, .inl (cI, 1885, .inl g))]) [0, 11, 12, 1, 2, 3, 4, 5, 6, 7, 8, 9, 10] (by decide +kernel) rfl
          generalize H1 = H at hP hS ⊢
          refine lv_aload_n hx hb dX3_find_47 rfl (lv_at hl 3 rfl) ?_
          refine va_get (D := D) (ci := 3) (v := .ref q1) (C := RX3) (T := TX3) (N := 4) hx hb hts (fun _ h => List.mem_cons_of_mem _ (List.mem_append_left _ (List.mem_append_left _ (List.mem_append_left _ (List.mem_append_left _ (List.mem_append_right _ h)))))) hown hK hP 0 rfl rfl 3 (by decide) (hts (.fieldLink RX3 27 "PitchTracker$Pitches" "patterns" "LPitchTracker$Row;") (List.mem_of_getElem? (i := 2) rfl)) (fun _ h9 => h9) rfl dX3_find_48 ?_
          refine lv_iload hx hb dX3_find_51 (lv_at hl 2 rfl) ?_
          refine lv_iload hx hb dX3_find_53 (lv_at hl 1 rfl) ?_
          refine tv_if_le (tgt := 67) hx hb dX3_find_55 (by decide) (by omega) (fun q55_16 => absurd q55_16 (by omega)) (fun q55_16 => ?_)
          refine lv_aload_n hx hb dX3_find_58 rfl (lv_at hl 3 rfl) ?_
          refine lv_iload hx hb dX3_find_59 (lv_at hl 0 rfl) ?_
          have hPc := hP.sub (ws' := [(h, .inr (3, [.int (nI tm), .int ba, .ref p1, .ref q1]))]) [0] rfl
          refine vp_callSi (W.runV (As := [.int (t_pe (t_df x i) (lg i))]) (rest := [.int (nI i), .ref q1]) ⟨hx, hb, hml, hown, hts⟩ (c_X3_nearestPattern l D cI cL h p1 q1 tm ba ((t_pe (t_df x i) (lg i))) (by omega)) (cwV 1 hts gX3_find_X3_nearestPattern rfl rfl rfl (by decide +kernel) ⟨Nat.le_of_ble_eq_true rfl, Nat.le_of_ble_eq_true rfl⟩) ⟨t_rPcX_blind, va_recv hK hPc (ci := 3) (q0 := 0) rfl rfl, fun U hU hW => ⟨rfl, by rw [hU]; exact hPc, va_K.moved hW.alike hK, by rw [hU]; exact ((hX.kept hS.2.1).narrow (fun q h => h.elim)).moved hW⟩⟩ rfl rfl hl.1 rfl (lv_room (Nat.le_of_ble_eq_true rfl)) dX3_find_61 ⟨Nat.le_of_ble_eq_true rfl, Nat.le_of_ble_eq_true rfl⟩) (fun r_17 hr_17 => ?_)
          subst hr_17
          refine lv_goto (tgt := 68) hx hb dX3_find_64 (by decide) ?_
          refine tv_re (y := (t_pa ba tm (t_df x i) (lg i))) (if_neg (by omega)).symm ?_
          have hPc := hP.sub (ws' := [(q1, .inr (4, [.ref q2])), (q2, .inl (cI, 29, .inl pa1))]) [3, 4] rfl
          have hDc := hD.sub (ws' := [(q1, .inr (4, [.ref q2])), (q2, .inl (cI, 29, .inl pa1))]) [3, 4] (by decide +kernel) rfl
          have hFc := va_free (wc := [(q1, .inr (4, [.ref q2])), (q2, .inl (cI, 29, .inl pa1))]) hD hS hA [3, 4] rfl
          refine va_callv (va_runV (As := [.int (nI i), .int (t_pa ba tm (t_df x i) (lg i))]) (rest := []) ⟨hx, hb, hml, hown, hts⟩ (c_X4_put l D cI cL q1 q2 29 pa1 i ((t_pa ba tm (t_df x i) (lg i))) (by omega) (by omega) H.size) (cwV 2 hts gX3_find_X4_put rfl rfl rfl (by decide +kernel) ⟨Nat.le_of_ble_eq_true rfl, Nat.le_of_ble_eq_true rfl⟩) ⟨t_wPc_blind, va_recv hK hPc (ci := 4) (q0 := 0) rfl rfl, fun U hU hW => ⟨rfl, by rw [hU], by rw [hU]; exact hPc, va_K.moved hW.alike hK, hDc.weaken (fun _ _ _ _ => trivial)⟩⟩ rfl rfl hl.1 rfl (lv_room (Nat.le_of_ble_eq_true rfl)) dX3_find_68 ⟨Nat.le_of_ble_eq_true rfl, Nat.le_of_ble_eq_true rfl⟩) hS (fun q _ h => hFc q h) hFc (fun u_19 t H1 locs ht hvm hw hB hz1 hk1 hS => ?_)
          obtain ⟨hP1, hK1, hD1⟩ := hB
          rw [ht] at hP1
          have hw : u_19 = [(q1, .inr (4, [.ref q2])), (q2, .inl (cI, 29, .inl (upd pa1 i ((t_pa ba tm (t_df x i) (lg i))))))] := hw
          subst hw
          obtain ⟨hP, hD⟩ := va_join (wr := [(h, .inr (3, [.int (nI tm), .int ba, .ref p1, .ref q1])), (p1, .inr (4, [.ref p2])), (p2, .inl (cI, 29, .inl (upd pe1 i ((t_pe (t_df x i) (lg i)))))), (th0, .inr (7, [.int un, .int ju, .int ch, .ref u1, .ref v1, .ref y1, .int tc])), (y1, .inr (4, [.ref y2])), (y2, .inl (cI, 29, .inl tr)), (dh, .inr (1, [.ref t1, .ref t2, .int (nI mf)])), (t1, .inr (6, [.int (nI 65), .ref a1])), (a1, .inl (cI, 1885, .inl f)), (t2, .inr (6, [.int (nI 65), .ref a2])), (a2, .inl (cI, 1885, .inl g))]) (w1 := [(q1, .inr (4, [.ref q2])), (q2, .inl (cI, 29, .inl (upd pa1 i ((t_pa ba tm (t_df x i) (lg i))))))]) hP hD [3, 4] [0, 1, 2, 5, 6, 7, 8, 9, 10, 11, 12] rfl rfl (by decide +kernel) (by decide +kernel) hk1 hFc hP1 hD1
          clear hP1 hD1 hK1 hPc hDc hFc ht hvm hz1 hk1
          have hP := hP.sub (ws' := [(h, .inr (3, [.int (nI tm), .int ba, .ref p1, .ref q1])), (p1, .inr (4, [.ref p2])), (p2, .inl (cI, 29, .inl (upd pe1 i ((t_pe (t_df x i) (lg i)))))), (q1, .inr (4, [.ref q2])), (q2, .inl (cI, 29, .inl (upd pa1 i ((t_pa ba tm (t_df x i) (lg i)))))), (th0, .inr (7, [.int un, .int ju, .int ch, .ref u1, .ref v1, .ref y1, .int tc])), (y1, .inr (4, [.ref y2])), (y2, .inl (cI, 29, .inl tr)), (dh, .inr (1, [.ref t1, .ref t2, .int (nI mf)])), (t1, .inr (6, [.int (nI 65), .ref a1])), (a1, .inl (cI, 1885, .inl f)), (t2, .inr (6, [.int (nI 65), .ref a2])), (a2, .inl (cI, 1885, .inl g))]) [0, 1, 2, 11, 12, 3, 4, 5, 6, 7, 8, 9, 10] rfl
          have hD := hD.sub (ws' := [(h, .inr (3, [.int (nI tm), .int ba, .ref p1, .ref q1])), (p1, .inr (4, [.ref p2])), (p2, .inl (cI, 29, .inl (upd pe1 i ((t_pe (t_df x i) (lg i)))))), (q1, .inr (4, [.ref q2])), (q2, .inl (cI, 29, .inl (upd pa1 i ((t_pa ba tm (t_df x i) (lg i)))))), (th0, .inr (7, [.int un, .int ju, .int ch, .ref u1, .ref v1, .ref y1, .int tc])), (y1, .inr (4, [.ref y2])), (y2, .inl (cI, 29, .inl tr)), (dh, .inr (1, [.ref t1, .ref t2, .int (nI mf)])), (t1, .inr (6, [.int (nI 65), .ref a1])), (a1, .inl (cI, 1885, .inl f)), (t2, .inr (6, [.int (nI 65), .ref a2])), (a2, .inl (cI, 1885, .inl g))]) [0, 1, 2, 11, 12, 3, 4, 5, 6, 7, 8, 9, 10] (by decide +kernel) rfl
          generalize H1 = H at hP hS ⊢
          refine lv_iinc (v := (nI (i + 1))) (lv' := [(4, .int (nI (i + 1))), (6, .int (t_pe (t_df x i) (lg i))), (5, .int (nI (lg i))), (0, .ref h), (1, .ref th0), (2, .ref dh), (3, .int (nI n))]) hx hb dX3_find_71 hl (k := 2) rfl (nI_add i 1) (by decide) rfl (fun ls hl => ?_)
          refine lv_goto (tgt := 3) hx hb dX3_find_74 (by decide) ?_
          exact ih_2 (i + 1) (upd pe1 i ((t_pe (t_df x i) (lg i)))) (upd pa1 i ((t_pa ba tm (t_df x i) (lg i)))) (by omega) (by omega) (t_pit_s hv rfl rfl) _ _ (hP.sub [0, 1, 2, 3, 4, 5, 6, 7, 8, 9, 10, 11, 12] rfl) (hD.sub [0, 1, 2, 3, 4, 5, 6, 7, 8, 9, 10, 11, 12] (by decide +kernel) rfl) hS _ (lv_sub hl [0, 3, 4, 5, 6] rfl)
  exact loop_1 (n - 0 + 1) 0 pe pa (Nat.lt_succ_self _) (Nat.zero_le _) (fun k hk => by omega) _ _ (hP.sub [0, 1, 2, 3, 4, 5, 6, 7, 8, 9, 10, 11, 12] rfl) (hD.sub [0, 1, 2, 3, 4, 5, 6, 7, 8, 9, 10, 11, 12] (by decide +kernel) rfl) hS _ (lv_sub hl [0, 1, 2, 3, 4] rfl)
