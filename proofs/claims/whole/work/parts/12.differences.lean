set_option maxHeartbeats 4000000 in
set_option maxRecDepth 100000 in
theorem c_X8_quotient (l : Launch) (D : va_G) (cI cL : ClassId) (a b : Int64) : Met l yX8_quotient wsX8_quotient ({ frames := 0, cells := 0, slots := 0, locals := 0 }) (t_rPc D cI cL [.long a, .long b] []) (vp_Sl (fun r => r = t_quo a b)) 0 0 (fun _ => False) := by
  refine t_ofR (by decide) rfl (Nat.le_of_ble_eq_true rfl) ?_
  intro p e s m below meth c ls hx hb hml hown hts hr hlocks hK hP hl
  have hown : s.vm.findClass RX8 = some m.cls := hown
  have hl : lv_has ls 4 [(0, .long a), (2, .long b)] := hl
  refine lv_lload_n hx hb dX8_quotient_0 rfl (lv_at hl 1 rfl) ?_
  refine lv_lconst (v := 0) hx hb dX8_quotient_1 (by decide +kernel) ?_
  refine W.lcmp hx hb dX8_quotient_2 ?_
  refine tv_cmp_le (tgt := 12) hx hb dX8_quotient_3 (by decide) (fun q3_1 => ?_) (fun q3_1 => ?_)
  · refine lv_lconst (v := 0) hx hb dX8_quotient_12 (by decide +kernel) ?_
    exact W.lret (v := 0) hx hb hr (fun t ht hW => ⟨_, rfl, (if_neg (t_nlt q3_1)).symm, ht⟩) (fun q h => by cases h) dX8_quotient_13 hlocks
  · refine lv_lload_n hx hb dX8_quotient_6 rfl (lv_at hl 0 rfl) ?_
    refine lv_lload_n hx hb dX8_quotient_7 rfl (lv_at hl 1 rfl) ?_
    refine lv_ldiv hx hb dX8_quotient_8 (t_pos_ne q3_1) ?_
    refine lv_goto (tgt := 13) hx hb dX8_quotient_9 (by decide) ?_
    exact W.lret (v := a / b) hx hb hr (fun t ht hW => ⟨_, rfl, (if_pos (t_nle q3_1)).symm, ht⟩) (fun q h => by cases h) dX8_quotient_13 hlocks

set_option maxHeartbeats 4000000 in
set_option maxRecDepth 100000 in
theorem c_X1_init (l : Launch) (D : va_G) (cI cL : ClassId) (h : Nat) (sz : Nat) : Met l yX1_init wsX1_init ({ frames := 3, cells := 4, slots := 3774, locals := 120 }) (t_wPc D cI cL [.ref h] [(h, .inr (1, [.null, .null, .int (nI 0)]))] sz) (t_Qv D cI cL (fun w1 => ∃ t1 : Nat, ∃ a1 : Nat, ∃ t2 : Nat, ∃ a2 : Nat, w1 = [(h, .inr (1, [.ref t1, .ref t2, .int (nI 0)])), (t1, .inr (6, [.int (nI 65), .ref a1])), (a1, .inl (cI, 1885, .inl (fun _ => nI 0))), (t2, .inr (6, [.int (nI 65), .ref a2])), (a2, .inl (cI, 1885, .inl (fun _ => nI 0)))]) (va_A [(h, .inr (1, [.null, .null, .int (nI 0)]))] sz)) 4 3774 (va_A [(h, .inr (1, [.null, .null, .int (nI 0)]))] sz) := by
  refine t_ofW (Qc := t_Qv D cI cL (fun w1 => ∃ t1 : Nat, ∃ a1 : Nat, ∃ t2 : Nat, ∃ a2 : Nat, w1 = [(h, .inr (1, [.ref t1, .ref t2, .int (nI 0)])), (t1, .inr (6, [.int (nI 65), .ref a1])), (a1, .inl (cI, 1885, .inl (fun _ => nI 0))), (t2, .inr (6, [.int (nI 65), .ref a2])), (a2, .inl (cI, 1885, .inl (fun _ => nI 0)))])) (by decide) rfl (Nat.le_of_ble_eq_true rfl) ?_
  intro p e s m below meth c ls A hx hb hml hown hts hr hlocks hin hK hP hD hS hA hl
  have hown : s.vm.findClass RX1 = some m.cls := hown
  have hl : lv_has ls 1 [(0, .ref h)] := hl
  refine lv_aload_n hx hb dX1_init_0 rfl (lv_at hl 0 rfl) ?_
  refine W.objInit hx hb hown (hts (.methodLink RX1 3 objectInit) (List.mem_of_getElem? (i := 1) rfl)) (hts (.instanceMethod objectInit) (List.mem_of_getElem? (i := 2) rfl)) (hts (.code objectInit ⟨#[0xb1]⟩ 1 none) (List.mem_of_getElem? (i := 3) rfl)) rfl (by rw [hml]; exact hl.1) rfl dX1_init_1 (Nat.le_of_ble_eq_true rfl) (Nat.le_of_ble_eq_true rfl) ?_
  refine W.eq (g2 := F0 m 4 ls []) rfl ?_
  refine lv_aload_n hx hb dX1_init_4 rfl (lv_at hl 0 rfl) ?_
  refine va_new (ci := 6) (fs := [.int (nI 0), .null]) (C := RX6) (T := TX6) (N := 2) hx hb hts (fun _ h => List.mem_cons_of_mem _ (List.mem_append_left _ (List.mem_append_right _ h))) tyX6 tyX6_ok hown (hts (.classLink RX1 9 RX6) (List.mem_of_getElem? (i := 4) rfl)) (hts (.instantiable RX6 2) (List.mem_of_getElem? (i := 5) rfl)) (hts (.initialized RX6) (List.mem_of_getElem? (i := 6) rfl)) hK hP hD hS hA rfl (fun j hj => by rcases (show j = 0 ∨ j = 1 by omega) with rfl | rfl <;> rfl) (Nat.le_of_ble_eq_true rfl) (Nat.le_of_ble_eq_true rfl) dX1_init_5 (fun b_1 H hP hD hS => ?_)
  have hP : va_P D vwCl [(h, .inr (1, [.null, .null, .int (nI 0)])), (b_1, .inr (6, [.int (nI 0), .null]))] H := hP
  have hD : va_D A [(h, .inr (1, [.null, .null, .int (nI 0)])), (b_1, .inr (6, [.int (nI 0), .null]))] := hD
  refine W.widen (k := 1) (n := 2) (by omega) (by omega) ?_
  refine lv_dup hx hb dX1_init_8 rfl ?_
  refine lv_bipush (v := ((nI 65) : Int32)) hx hb dX1_init_9 (by decide +kernel) ?_
  have hPc := hP.sub (ws' := [(b_1, .inr (6, [.int (nI 0), .null]))]) [1] rfl
  have hDc := hD.sub (ws' := [(b_1, .inr (6, [.int (nI 0), .null]))]) [1] (by decide +kernel) rfl
  have hFc := va_free (wc := [(b_1, .inr (6, [.int (nI 0), .null]))]) hD hS hA [1] rfl
  refine va_callv (va_runI (As := [.int (nI 65)]) (rest := [.ref b_1, .ref h]) ⟨hx, hb, hml, hown, hts⟩ (c_X6_init_65 l D cI cL b_1 H.size) (cwI 1 hts gX1_init_X6_init rfl rfl rfl (hts (.initialized RX6) (List.mem_of_getElem? (i := 6) rfl)) (hts (.methodLink RX1 11 yX6_init) (List.mem_of_getElem? (i := 9) rfl)) (hts (.instanceMethod yX6_init) (List.mem_of_getElem? (i := 10) rfl)) rfl (by decide +kernel) ⟨Nat.le_of_ble_eq_true rfl, Nat.le_of_ble_eq_true rfl⟩) ⟨t_wPc_blind, fun U hU hW => ⟨rfl, by rw [hU], by rw [hU]; exact hPc, va_K.moved hW.alike hK, hDc.weaken (fun _ _ _ _ => trivial)⟩⟩ rfl rfl hl.1 rfl (lv_room (Nat.le_of_ble_eq_true rfl)) dX1_init_11 ⟨Nat.le_of_ble_eq_true rfl, Nat.le_of_ble_eq_true rfl⟩) hS (fun q _ h => hFc q h) hFc (fun u_3 t H1 locs ht hvm hw hB hz1 hk1 hS => ?_)
  obtain ⟨hP1, hK1, hD1⟩ := hB
  rw [ht] at hP1
  obtain ⟨b_4, hw⟩ := hw
  have hw : u_3 = [(b_1, .inr (6, [.int (nI 65), .ref b_4])), (b_4, .inl (cI, 1885, .inl (fun _ => nI 0)))] := hw
  subst hw
  obtain ⟨hP, hD⟩ := va_join (wr := [(h, .inr (1, [.null, .null, .int (nI 0)]))]) (w1 := [(b_1, .inr (6, [.int (nI 65), .ref b_4])), (b_4, .inl (cI, 1885, .inl (fun _ => nI 0)))]) hP hD [1] [0] rfl rfl (by decide +kernel) (by decide +kernel) hk1 hFc hP1 hD1
  clear hP1 hD1 hK1 hPc hDc hFc ht hvm hz1 hk1
  have hP : va_P D vwCl [(h, .inr (1, [.null, .null, .int (nI 0)])), (b_1, .inr (6, [.int (nI 65), .ref b_4])), (b_4, .inl (cI, 1885, .inl (fun _ => nI 0)))] H1 := hP
  have hD : va_D A [(h, .inr (1, [.null, .null, .int (nI 0)])), (b_1, .inr (6, [.int (nI 65), .ref b_4])), (b_4, .inl (cI, 1885, .inl (fun _ => nI 0)))] := hD
  generalize H1 = H at hP hS ⊢
  refine W.widen (k := 2) (n := 1887) (by omega) (by omega) ?_
  refine va_putF (D := D) (ci := 1) (v := .ref b_1) (ty := .object "PitchTracker$Table") (C := RX1) (T := TX1) (N := 3) hx hb hts (fun _ h => List.mem_cons_of_mem _ (List.mem_append_right _ h)) tyX1 tyX1_ok nmX1 hown hK hP hD hS 0 rfl rfl 0 (by decide) (hts (.fieldLink RX1 14 "PitchTracker$Differences" "sizes" "LPitchTracker$Table;") (List.mem_of_getElem? (i := 7) rfl)) (fun _ h9 => h9) rfl hin rfl (by decide +kernel) rfl rfl (Nat.le_of_ble_eq_true rfl) dX1_init_14 (fun H locs hP hD hS => ?_)
  have hP : va_P D vwCl [(h, .inr (1, [.ref b_1, .null, .int (nI 0)])), (b_1, .inr (6, [.int (nI 65), .ref b_4])), (b_4, .inl (cI, 1885, .inl (fun _ => nI 0)))] H := hP
  have hD : va_D A [(h, .inr (1, [.ref b_1, .null, .int (nI 0)])), (b_1, .inr (6, [.int (nI 65), .ref b_4])), (b_4, .inl (cI, 1885, .inl (fun _ => nI 0)))] := hD
  refine lv_aload_n hx hb dX1_init_17 rfl (lv_at hl 0 rfl) ?_
  refine va_new (ci := 6) (fs := [.int (nI 0), .null]) (C := RX6) (T := TX6) (N := 2) hx hb hts (fun _ h => List.mem_cons_of_mem _ (List.mem_append_left _ (List.mem_append_right _ h))) tyX6 tyX6_ok hown (hts (.classLink RX1 9 RX6) (List.mem_of_getElem? (i := 4) rfl)) (hts (.instantiable RX6 2) (List.mem_of_getElem? (i := 5) rfl)) (hts (.initialized RX6) (List.mem_of_getElem? (i := 6) rfl)) hK hP hD hS hA rfl (fun j hj => by rcases (show j = 0 ∨ j = 1 by omega) with rfl | rfl <;> rfl) (Nat.le_of_ble_eq_true rfl) (Nat.le_of_ble_eq_true rfl) dX1_init_18 (fun b_5 H hP hD hS => ?_)
  have hP : va_P D vwCl [(h, .inr (1, [.ref b_1, .null, .int (nI 0)])), (b_1, .inr (6, [.int (nI 65), .ref b_4])), (b_4, .inl (cI, 1885, .inl (fun _ => nI 0))), (b_5, .inr (6, [.int (nI 0), .null]))] H := hP
  have hD : va_D A [(h, .inr (1, [.ref b_1, .null, .int (nI 0)])), (b_1, .inr (6, [.int (nI 65), .ref b_4])), (b_4, .inl (cI, 1885, .inl (fun _ => nI 0))), (b_5, .inr (6, [.int (nI 0), .null]))] := hD
  refine W.widen (k := 3) (n := 1889) (by omega) (by omega) ?_
  refine lv_dup hx hb dX1_init_21 rfl ?_
  refine lv_bipush (v := ((nI 65) : Int32)) hx hb dX1_init_22 (by decide +kernel) ?_
  have hPc := hP.sub (ws' := [(b_5, .inr (6, [.int (nI 0), .null]))]) [3] rfl
  have hDc := hD.sub (ws' := [(b_5, .inr (6, [.int (nI 0), .null]))]) [3] (by decide +kernel) rfl
  have hFc := va_free (wc := [(b_5, .inr (6, [.int (nI 0), .null]))]) hD hS hA [3] rfl
  refine va_callv (va_runI (As := [.int (nI 65)]) (rest := [.ref b_5, .ref h]) ⟨hx, hb, hml, hown, hts⟩ (c_X6_init_65 l D cI cL b_5 H.size) (cwI 1 hts gX1_init_X6_init rfl rfl rfl (hts (.initialized RX6) (List.mem_of_getElem? (i := 6) rfl)) (hts (.methodLink RX1 11 yX6_init) (List.mem_of_getElem? (i := 9) rfl)) (hts (.instanceMethod yX6_init) (List.mem_of_getElem? (i := 10) rfl)) rfl (by decide +kernel) ⟨Nat.le_of_ble_eq_true rfl, Nat.le_of_ble_eq_true rfl⟩) ⟨t_wPc_blind, fun U hU hW => ⟨rfl, by rw [hU], by rw [hU]; exact hPc, va_K.moved hW.alike hK, hDc.weaken (fun _ _ _ _ => trivial)⟩⟩ rfl rfl hl.1 rfl (lv_room (Nat.le_of_ble_eq_true rfl)) dX1_init_24 ⟨Nat.le_of_ble_eq_true rfl, Nat.le_of_ble_eq_true rfl⟩) hS (fun q _ h => hFc q h) hFc (fun u_7 t H1 locs ht hvm hw hB hz1 hk1 hS => ?_)
  obtain ⟨hP1, hK1, hD1⟩ := hB
  rw [ht] at hP1
  obtain ⟨b_8, hw⟩ := hw
  have hw : u_7 = [(b_5, .inr (6, [.int (nI 65), .ref b_8])), (b_8, .inl (cI, 1885, .inl (fun _ => nI 0)))] := hw
  subst hw
  obtain ⟨hP, hD⟩ := va_join (wr := [(h, .inr (1, [.ref b_1, .null, .int (nI 0)])), (b_1, .inr (6, [.int (nI 65), .ref b_4])), (b_4, .inl (cI, 1885, .inl (fun _ => nI 0)))]) (w1 := [(b_5, .inr (6, [.int (nI 65), .ref b_8])), (b_8, .inl (cI, 1885, .inl (fun _ => nI 0)))]) hP hD [3] [0, 1, 2] rfl rfl (by decide +kernel) (by decide +kernel) hk1 hFc hP1 hD1
  clear hP1 hD1 hK1 hPc hDc hFc ht hvm hz1 hk1
  have hP : va_P D vwCl [(h, .inr (1, [.ref b_1, .null, .int (nI 0)])), (b_1, .inr (6, [.int (nI 65), .ref b_4])), (b_4, .inl (cI, 1885, .inl (fun _ => nI 0))), (b_5, .inr (6, [.int (nI 65), .ref b_8])), (b_8, .inl (cI, 1885, .inl (fun _ => nI 0)))] H1 := hP
  have hD : va_D A [(h, .inr (1, [.ref b_1, .null, .int (nI 0)])), (b_1, .inr (6, [.int (nI 65), .ref b_4])), (b_4, .inl (cI, 1885, .inl (fun _ => nI 0))), (b_5, .inr (6, [.int (nI 65), .ref b_8])), (b_8, .inl (cI, 1885, .inl (fun _ => nI 0)))] := hD
  generalize H1 = H at hP hS ⊢
  refine W.widen (k := 4) (n := 3774) (by omega) (by omega) ?_
  refine va_putF (D := D) (ci := 1) (v := .ref b_5) (ty := .object "PitchTracker$Table") (C := RX1) (T := TX1) (N := 3) hx hb hts (fun _ h => List.mem_cons_of_mem _ (List.mem_append_right _ h)) tyX1 tyX1_ok nmX1 hown hK hP hD hS 0 rfl rfl 1 (by decide) (hts (.fieldLink RX1 20 "PitchTracker$Differences" "sums" "LPitchTracker$Table;") (List.mem_of_getElem? (i := 8) rfl)) (fun _ h9 => h9) rfl hin rfl (by decide +kernel) rfl rfl (Nat.le_of_ble_eq_true rfl) dX1_init_27 (fun H locs hP hD hS => ?_)
  have hP : va_P D vwCl [(h, .inr (1, [.ref b_1, .ref b_5, .int (nI 0)])), (b_1, .inr (6, [.int (nI 65), .ref b_4])), (b_4, .inl (cI, 1885, .inl (fun _ => nI 0))), (b_5, .inr (6, [.int (nI 65), .ref b_8])), (b_8, .inl (cI, 1885, .inl (fun _ => nI 0)))] H := hP
  have hD : va_D A [(h, .inr (1, [.ref b_1, .ref b_5, .int (nI 0)])), (b_1, .inr (6, [.int (nI 65), .ref b_4])), (b_4, .inl (cI, 1885, .inl (fun _ => nI 0))), (b_5, .inr (6, [.int (nI 65), .ref b_8])), (b_8, .inl (cI, 1885, .inl (fun _ => nI 0)))] := hD
  have hP9 := hP
  have hD9 := hD
  exact W.vret hx hb hr (fun t ht hW => ⟨⟨[(h, .inr (1, [.ref b_1, .ref b_5, .int (nI 0)])), (b_1, .inr (6, [.int (nI 65), .ref b_4])), (b_4, .inl (cI, 1885, .inl (fun _ => nI 0))), (b_5, .inr (6, [.int (nI 65), .ref b_8])), (b_8, .inl (cI, 1885, .inl (fun _ => nI 0)))], rfl, ⟨b_1, b_4, b_5, b_8, rfl⟩, ⟨by rw [ht]; exact hP9, va_K.moved hW.alike hK, hD9⟩⟩, hS.F ht⟩) hS.2.2 dX1_init_30 hlocks

set_option maxHeartbeats 4000000 in
set_option maxRecDepth 100000 in
theorem c_X1_forget (l : Launch) (D : va_G) (cI cL : ClassId) (h t1 t2 mf : Nat) (sz : Nat) : Met l yX1_forget wsX1_forget ({ frames := 0, cells := 0, slots := 0, locals := 0 }) (t_wPc D cI cL [.ref h] [(h, .inr (1, [.ref t1, .ref t2, .int (nI mf)]))] sz) (t_Qv D cI cL (fun w1 => w1 = [(h, .inr (1, [.ref t1, .ref t2, .int (nI 0)]))]) (va_A [(h, .inr (1, [.ref t1, .ref t2, .int (nI mf)]))] sz)) 0 0 (va_A [(h, .inr (1, [.ref t1, .ref t2, .int (nI mf)]))] sz) := by
  refine t_ofW (Qc := t_Qv D cI cL (fun w1 => w1 = [(h, .inr (1, [.ref t1, .ref t2, .int (nI 0)]))])) (by decide) rfl (Nat.le_of_ble_eq_true rfl) ?_
  intro p e s m below meth c ls A hx hb hml hown hts hr hlocks hin hK hP hD hS hA hl
  have hown : s.vm.findClass RX1 = some m.cls := hown
  have hl : lv_has ls 1 [(0, .ref h)] := hl
  refine lv_aload_n hx hb dX1_forget_0 rfl (lv_at hl 0 rfl) ?_
  refine lv_iconst (v := ((nI 0) : Int32)) hx hb dX1_forget_1 (by decide +kernel) ?_
  refine va_put (D := D) (ci := 1) (v := .int (nI 0)) (ty := .int) (C := RX1) (T := TX1) (N := 3) hx hb hts (fun _ h => List.mem_cons_of_mem _ (List.mem_append_right _ h)) tyX1 tyX1_ok nmX1 hown hK hP hD hS 0 rfl rfl 2 (by decide) (hts (.fieldLink RX1 23 "PitchTracker$Differences" "measuredFrames" "I") (List.mem_of_getElem? (i := 1) rfl)) (fun _ h9 => h9) rfl (by decide +kernel) rfl rfl (Nat.le_of_ble_eq_true rfl) dX1_forget_2 (fun H locs hP hD hS => ?_)
  have hP : va_P D vwCl [(h, .inr (1, [.ref t1, .ref t2, .int (nI 0)]))] H := hP
  have hD : va_D A [(h, .inr (1, [.ref t1, .ref t2, .int (nI 0)]))] := hD
  have hP9 := hP
  have hD9 := hD
  exact W.vret hx hb hr (fun t ht hW => ⟨⟨[(h, .inr (1, [.ref t1, .ref t2, .int (nI 0)]))], rfl, rfl, ⟨by rw [ht]; exact hP9, va_K.moved hW.alike hK, hD9⟩⟩, hS.F ht⟩) hS.2.2 dX1_forget_5 hlocks

set_option maxHeartbeats 4000000 in
set_option maxRecDepth 100000 in
theorem c_X1_measureFrame (l : Launch) (D : va_G) (cI cL : ClassId) (h t1 a1 t2 a2 mf : Nat) (f g : Nat → Int32) (so sa sn : Nat) (x : Nat → Int32) (k : Nat) (hk : k < 29) (sz : Nat) : Met l yX1_measureFrame wsX1_measureFrame ({ frames := 2, cells := 0, slots := 0, locals := 100 }) (t_wPc D cI cL [.ref h, .ref so, .int (nI k)] [(h, .inr (1, [.ref t1, .ref t2, .int (nI mf)])), (t1, .inr (6, [.int (nI 65), .ref a1])), (a1, .inl (cI, 1885, .inl f)), (t2, .inr (6, [.int (nI 65), .ref a2])), (a2, .inl (cI, 1885, .inl g)), (so, .inr (5, [.ref sa, .int (nI sn)])), (sa, .inl (cI, 1024, .inl x))] sz) (t_Qv D cI cL (fun w1 => ∃ f2 : Nat → Int32, ∃ g2 : Nat → Int32, w1 = [(h, .inr (1, [.ref t1, .ref t2, .int (nI mf)])), (t1, .inr (6, [.int (nI 65), .ref a1])), (a1, .inl (cI, 1885, .inl f2)), (t2, .inr (6, [.int (nI 65), .ref a2])), (a2, .inl (cI, 1885, .inl g2)), (so, .inr (5, [.ref sa, .int (nI sn)])), (sa, .inl (cI, 1024, .inl x))] ∧ t_msd x k 64 f g f2 g2) (va_A [(h, .inr (1, [.ref t1, .ref t2, .int (nI mf)])), (t1, .inr (6, [.int (nI 65), .ref a1])), (a1, .inl (cI, 1885, .inl f)), (t2, .inr (6, [.int (nI 65), .ref a2])), (a2, .inl (cI, 1885, .inl g)), (so, .inr (5, [.ref sa, .int (nI sn)])), (sa, .inl (cI, 1024, .inl x))] sz)) 0 0 (va_A [(h, .inr (1, [.ref t1, .ref t2, .int (nI mf)])), (t1, .inr (6, [.int (nI 65), .ref a1])), (a1, .inl (cI, 1885, .inl f)), (t2, .inr (6, [.int (nI 65), .ref a2])), (a2, .inl (cI, 1885, .inl g)), (so, .inr (5, [.ref sa, .int (nI sn)])), (sa, .inl (cI, 1024, .inl x))] sz) := by
  refine t_ofW (Qc := t_Qv D cI cL (fun w1 => ∃ f2 : Nat → Int32, ∃ g2 : Nat → Int32, w1 = [(h, .inr (1, [.ref t1, .ref t2, .int (nI mf)])), (t1, .inr (6, [.int (nI 65), .ref a1])), (a1, .inl (cI, 1885, .inl f2)), (t2, .inr (6, [.int (nI 65), .ref a2])), (a2, .inl (cI, 1885, .inl g2)), (so, .inr (5, [.ref sa, .int (nI sn)])), (sa, .inl (cI, 1024, .inl x))] ∧ t_msd x k 64 f g f2 g2)) (by decide) rfl (Nat.le_of_ble_eq_true rfl) ?_
  intro p e s m below meth c ls A hx hb hml hown hts hr hlocks hin hK hP hD hS hA hl
  have hown : s.vm.findClass RX1 = some m.cls := hown
  have hl : lv_has ls 6 [(0, .ref h), (1, .ref so), (2, .int (nI k))] := hl
  refine lv_iconst (v := ((nI 0) : Int32)) hx hb dX1_measureFrame_0 (by decide +kernel) ?_
  refine lv_istore_n (lv' := [(3, .int (nI 0)), (0, .ref h), (1, .ref so), (2, .int (nI k))]) hx hb dX1_measureFrame_1 rfl hl (by decide) rfl (fun ls hl => ?_)
  refine lv_iconst (v := ((nI 1) : Int32)) hx hb dX1_measureFrame_2 (by decide +kernel) ?_
  refine lv_istore (lv' := [(4, .int (nI 1)), (3, .int (nI 0)), (0, .ref h), (1, .ref so), (2, .int (nI k))]) hx hb dX1_measureFrame_3 hl (by decide) rfl (fun ls hl => ?_)
  have loop_1 : ∀ (n_3 : Nat) (i : Nat) (f1 : Nat → Int32) (g1 : Nat → Int32) (hm_4 : 64 - i < n_3) (hi : i ≤ 64) (hv : t_msd x k i f g f1 g1) (H : Heap) (locs : List Loc) (hP : va_P D vwCl [(h, .inr (1, [.ref t1, .ref t2, .int (nI mf)])), (t1, .inr (6, [.int (nI 65), .ref a1])), (a1, .inl (cI, 1885, .inl f1)), (t2, .inr (6, [.int (nI 65), .ref a2])), (a2, .inl (cI, 1885, .inl g1)), (so, .inr (5, [.ref sa, .int (nI sn)])), (sa, .inl (cI, 1024, .inl x))] H) (hD : va_D A [(h, .inr (1, [.ref t1, .ref t2, .int (nI mf)])), (t1, .inr (6, [.int (nI 65), .ref a1])), (a1, .inl (cI, 1885, .inl f1)), (t2, .inr (6, [.int (nI 65), .ref a2])), (a2, .inl (cI, 1885, .inl g1)), (so, .inr (5, [.ref sa, .int (nI sn)])), (sa, .inl (cI, 1024, .inl x))]) (hS : va_S A s.heap H locs) (ls : Array Slot) (hl : lv_has ls 6 [(3, .int (t_sm x k i)), (4, .int (nI (i + 1))), (0, .ref h), (1, .ref so), (2, .int (nI k))]), W p l e ({ frames := 2, cells := 0, slots := 0, locals := 100 }) s m ([.ref h, .ref so, .int (nI k)] : List Value).toArray below meth c H locs 0 0 (MQ below (t_Qv D cI cL (fun w1 => ∃ f2 : Nat → Int32, ∃ g2 : Nat → Int32, w1 = [(h, .inr (1, [.ref t1, .ref t2, .int (nI mf)])), (t1, .inr (6, [.int (nI 65), .ref a1])), (a1, .inl (cI, 1885, .inl f2)), (t2, .inr (6, [.int (nI 65), .ref a2])), (a2, .inl (cI, 1885, .inl g2)), (so, .inr (5, [.ref sa, .int (nI sn)])), (sa, .inl (cI, 1024, .inl x))] ∧ t_msd x k 64 f g f2 g2) A) ([.ref h, .ref so, .int (nI k)] : List Value).toArray s 0 0 A) (F0 m 5 ls []) := by
    intro n_3
    induction n_3 with
    | zero => intro i f1 g1 hm_4; exact absurd hm_4 (Nat.not_lt_zero _)
    | succ n_3 ih_2 =>
      intro i f1 g1 hm_4 hi hv H locs hP hD hS ls hl
      refine lv_iload hx hb dX1_measureFrame_5 (lv_at hl 1 rfl) ?_
      refine lv_bipush (v := ((nI 64) : Int32)) hx hb dX1_measureFrame_7 (by decide +kernel) ?_
      refine tv_icmp_gt (tgt := 58) hx hb dX1_measureFrame_9 (by decide) (by omega) (by omega) (fun q9_5 => ?_) (fun q9_5 => ?_)
      · have hP9 := hP
        have hD9 := hD
        exact W.vret hx hb hr (fun t ht hW => ⟨⟨[(h, .inr (1, [.ref t1, .ref t2, .int (nI mf)])), (t1, .inr (6, [.int (nI 65), .ref a1])), (a1, .inl (cI, 1885, .inl f1)), (t2, .inr (6, [.int (nI 65), .ref a2])), (a2, .inl (cI, 1885, .inl g1)), (so, .inr (5, [.ref sa, .int (nI sn)])), (sa, .inl (cI, 1024, .inl x))], rfl, ⟨f1, g1, rfl, (by obtain rfl : i = 64 := (by omega); exact hv)⟩, ⟨by rw [ht]; exact hP9, va_K.moved hW.alike hK, hD9⟩⟩, hS.F ht⟩) hS.2.2 dX1_measureFrame_58 hlocks
      · refine lv_aload_n hx hb dX1_measureFrame_12 rfl (lv_at hl 3 rfl) ?_
        refine lv_iload_n hx hb dX1_measureFrame_13 rfl (lv_at hl 4 rfl) ?_
        refine lv_bipush (v := ((nI 32) : Int32)) hx hb dX1_measureFrame_14 (by decide +kernel) ?_
        refine tv_imul (a := k) (b := 32) hx hb dX1_measureFrame_16 ?_
        refine lv_iload hx hb dX1_measureFrame_17 (lv_at hl 1 rfl) ?_
        have hPc := hP.sub (ws' := [(so, .inr (5, [.ref sa, .int (nI sn)])), (sa, .inl (cI, 1024, .inl x))]) [5, 6] rfl
        refine vp_callSi (W.runV (As := [.int (nI (k * 32)), .int (nI (i + 1))]) (rest := []) ⟨hx, hb, hml, hown, hts⟩ (c_X5_squaredGapSum l D cI cL so sa sn x (k * 32) (i + 1) (by omega) (by omega)) (cwV 2 hts gX1_measureFrame_X5_squaredGapSum rfl rfl rfl (by decide +kernel) ⟨Nat.le_of_ble_eq_true rfl, Nat.le_of_ble_eq_true rfl⟩) ⟨t_rPc_blind, va_recv hK hPc (ci := 5) (q0 := 0) rfl rfl, fun U hU hW => ⟨rfl, by rw [hU]; exact hPc, va_K.moved hW.alike hK⟩⟩ rfl rfl hl.1 rfl (lv_room (Nat.le_of_ble_eq_true rfl)) dX1_measureFrame_19 ⟨Nat.le_of_ble_eq_true rfl, Nat.le_of_ble_eq_true rfl⟩) (fun r_6 hr_6 => ?_)
        subst hr_6
        refine lv_istore (lv' := [(5, .int (t_gs x (k * 32) (i + 1))), (3, .int (t_sm x k i)), (4, .int (nI (i + 1))), (0, .ref h), (1, .ref so), (2, .int (nI k))]) hx hb dX1_measureFrame_22 hl (by decide) rfl (fun ls hl => ?_)
        refine lv_iload_n hx hb dX1_measureFrame_24 rfl (lv_at hl 1 rfl) ?_
        refine lv_iload hx hb dX1_measureFrame_25 (lv_at hl 0 rfl) ?_
        refine lv_iadd hx hb dX1_measureFrame_27 ?_
        refine tv_re (y := (t_sm x k (i + 1))) rfl ?_
        refine lv_istore_n (lv' := [(3, .int (t_sm x k (i + 1))), (5, .int (t_gs x (k * 32) (i + 1))), (4, .int (nI (i + 1))), (0, .ref h), (1, .ref so), (2, .int (nI k))]) hx hb dX1_measureFrame_28 rfl hl (by decide) rfl (fun ls hl => ?_)
        refine lv_aload_n hx hb dX1_measureFrame_29 rfl (lv_at hl 3 rfl) ?_
        refine va_get (D := D) (ci := 1) (v := .ref t1) (C := RX1) (T := TX1) (N := 3) hx hb hts (fun _ h => List.mem_cons_of_mem _ (List.mem_append_left _ (List.mem_append_left _ (List.mem_append_right _ h)))) hown hK hP 0 rfl rfl 0 (by decide) (hts (.fieldLink RX1 14 "PitchTracker$Differences" "sizes" "LPitchTracker$Table;") (List.mem_of_getElem? (i := 1) rfl)) (fun _ h9 => h9) rfl dX1_measureFrame_30 ?_
        refine lv_iload_n hx hb dX1_measureFrame_33 rfl (lv_at hl 5 rfl) ?_
        refine lv_iload hx hb dX1_measureFrame_34 (lv_at hl 2 rfl) ?_
        refine lv_iload hx hb dX1_measureFrame_36 (lv_at hl 1 rfl) ?_
        have hPc := hP.sub (ws' := [(t1, .inr (6, [.int (nI 65), .ref a1])), (a1, .inl (cI, 1885, .inl f1))]) [1, 2] rfl
        have hDc := hD.sub (ws' := [(t1, .inr (6, [.int (nI 65), .ref a1])), (a1, .inl (cI, 1885, .inl f1))]) [1, 2] (by decide +kernel) rfl
        have hFc := va_free (wc := [(t1, .inr (6, [.int (nI 65), .ref a1])), (a1, .inl (cI, 1885, .inl f1))]) hD hS hA [1, 2] rfl
        refine va_callv (va_runV (As := [.int (nI k), .int (nI (i + 1)), .int (t_gs x (k * 32) (i + 1))]) (rest := []) ⟨hx, hb, hml, hown, hts⟩ (c_X6_put l D cI cL t1 a1 1885 65 f1 k (i + 1) ((t_gs x (k * 32) (i + 1))) (by omega) (by omega) (by omega) (by omega) H.size) (cwV 3 hts gX1_measureFrame_X6_put rfl rfl rfl (by decide +kernel) ⟨Nat.le_of_ble_eq_true rfl, Nat.le_of_ble_eq_true rfl⟩) ⟨t_wPc_blind, va_recv hK hPc (ci := 6) (q0 := 0) rfl rfl, fun U hU hW => ⟨rfl, by rw [hU], by rw [hU]; exact hPc, va_K.moved hW.alike hK, hDc.weaken (fun _ _ _ _ => trivial)⟩⟩ rfl rfl hl.1 rfl (lv_room (Nat.le_of_ble_eq_true rfl)) dX1_measureFrame_38 ⟨Nat.le_of_ble_eq_true rfl, Nat.le_of_ble_eq_true rfl⟩) hS (fun q _ h => hFc q h) hFc (fun u_8 t H1 locs ht hvm hw hB hz1 hk1 hS => ?_)
        obtain ⟨hP1, hK1, hD1⟩ := hB
        rw [ht] at hP1
        have hw : u_8 = [(t1, .inr (6, [.int (nI 65), .ref a1])), (a1, .inl (cI, 1885, .inl (upd f1 (k * 65 + (i + 1)) ((t_gs x (k * 32) (i + 1))))))] := hw
        subst hw
        obtain ⟨hP, hD⟩ := va_join (wr := [(h, .inr (1, [.ref t1, .ref t2, .int (nI mf)])), (t2, .inr (6, [.int (nI 65), .ref a2])), (a2, .inl (cI, 1885, .inl g1)), (so, .inr (5, [.ref sa, .int (nI sn)])), (sa, .inl (cI, 1024, .inl x))]) (w1 := [(t1, .inr (6, [.int (nI 65), .ref a1])), (a1, .inl (cI, 1885, .inl (upd f1 (k * 65 + (i + 1)) ((t_gs x (k * 32) (i + 1))))))]) hP hD [1, 2] [0, 3, 4, 5, 6] rfl rfl (by decide +kernel) (by decide +kernel) hk1 hFc hP1 hD1
        clear hP1 hD1 hK1 hPc hDc hFc ht hvm hz1 hk1
        have hP := hP.sub (ws' := [(h, .inr (1, [.ref t1, .ref t2, .int (nI mf)])), (t1, .inr (6, [.int (nI 65), .ref a1])), (a1, .inl (cI, 1885, .inl (upd f1 (k * 65 + (i + 1)) ((t_gs x (k * 32) (i + 1)))))), (t2, .inr (6, [.int (nI 65), .ref a2])), (a2, .inl (cI, 1885, .inl g1)), (so, .inr (5, [.ref sa, .int (nI sn)])), (sa, .inl (cI, 1024, .inl x))]) [0, 5, 6, 1, 2, 3, 4] rfl
        have hD := hD.sub (ws' := [(h, .inr (1, [.ref t1, .ref t2, .int (nI mf)])), (t1, .inr (6, [.int (nI 65), .ref a1])), (a1, .inl (cI, 1885, .inl (upd f1 (k * 65 + (i + 1)) ((t_gs x (k * 32) (i + 1)))))), (t2, .inr (6, [.int (nI 65), .ref a2])), (a2, .inl (cI, 1885, .inl g1)), (so, .inr (5, [.ref sa, .int (nI sn)])), (sa, .inl (cI, 1024, .inl x))]) [0, 5, 6, 1, 2, 3, 4] (by decide +kernel) rfl
        generalize H1 = H at hP hS ⊢
        refine lv_aload_n hx hb dX1_measureFrame_41 rfl (lv_at hl 3 rfl) ?_
        refine va_get (D := D) (ci := 1) (v := .ref t2) (C := RX1) (T := TX1) (N := 3) hx hb hts (fun _ h => List.mem_cons_of_mem _ (List.mem_append_left _ (List.mem_append_left _ (List.mem_append_right _ h)))) hown hK hP 0 rfl rfl 1 (by decide) (hts (.fieldLink RX1 20 "PitchTracker$Differences" "sums" "LPitchTracker$Table;") (List.mem_of_getElem? (i := 2) rfl)) (fun _ h9 => h9) rfl dX1_measureFrame_42 ?_
        refine lv_iload_n hx hb dX1_measureFrame_45 rfl (lv_at hl 5 rfl) ?_
        refine lv_iload hx hb dX1_measureFrame_46 (lv_at hl 2 rfl) ?_
        refine lv_iload_n hx hb dX1_measureFrame_48 rfl (lv_at hl 0 rfl) ?_
        have hPc := hP.sub (ws' := [(t2, .inr (6, [.int (nI 65), .ref a2])), (a2, .inl (cI, 1885, .inl g1))]) [3, 4] rfl
        have hDc := hD.sub (ws' := [(t2, .inr (6, [.int (nI 65), .ref a2])), (a2, .inl (cI, 1885, .inl g1))]) [3, 4] (by decide +kernel) rfl
        have hFc := va_free (wc := [(t2, .inr (6, [.int (nI 65), .ref a2])), (a2, .inl (cI, 1885, .inl g1))]) hD hS hA [3, 4] rfl
        refine va_callv (va_runV (As := [.int (nI k), .int (nI (i + 1)), .int (t_sm x k (i + 1))]) (rest := []) ⟨hx, hb, hml, hown, hts⟩ (c_X6_put l D cI cL t2 a2 1885 65 g1 k (i + 1) ((t_sm x k (i + 1))) (by omega) (by omega) (by omega) (by omega) H.size) (cwV 3 hts gX1_measureFrame_X6_put rfl rfl rfl (by decide +kernel) ⟨Nat.le_of_ble_eq_true rfl, Nat.le_of_ble_eq_true rfl⟩) ⟨t_wPc_blind, va_recv hK hPc (ci := 6) (q0 := 0) rfl rfl, fun U hU hW => ⟨rfl, by rw [hU], by rw [hU]; exact hPc, va_K.moved hW.alike hK, hDc.weaken (fun _ _ _ _ => trivial)⟩⟩ rfl rfl hl.1 rfl (lv_room (Nat.le_of_ble_eq_true rfl)) dX1_measureFrame_49 ⟨Nat.le_of_ble_eq_true rfl, Nat.le_of_ble_eq_true rfl⟩) hS (fun q _ h => hFc q h) hFc (fun u_10 t H1 locs ht hvm hw hB hz1 hk1 hS => ?_)
        obtain ⟨hP1, hK1, hD1⟩ := hB
        rw [ht] at hP1
        have hw : u_10 = [(t2, .inr (6, [.int (nI 65), .ref a2])), (a2, .inl (cI, 1885, .inl (upd g1 (k * 65 + (i + 1)) ((t_sm x k (i + 1))))))] := hw
        subst hw
        obtain ⟨hP, hD⟩ := va_join (wr := [(h, .inr (1, [.ref t1, .ref t2, .int (nI mf)])), (t1, .inr (6, [.int (nI 65), .ref a1])), (a1, .inl (cI, 1885, .inl (upd f1 (k * 65 + (i + 1)) ((t_gs x (k * 32) (i + 1)))))), (so, .inr (5, [.ref sa, .int (nI sn)])), (sa, .inl (cI, 1024, .inl x))]) (w1 := [(t2, .inr (6, [.int (nI 65), .ref a2])), (a2, .inl (cI, 1885, .inl (upd g1 (k * 65 + (i + 1)) ((t_sm x k (i + 1))))))]) hP hD [3, 4] [0, 1, 2, 5, 6] rfl rfl (by decide +kernel) (by decide +kernel) hk1 hFc hP1 hD1
        clear hP1 hD1 hK1 hPc hDc hFc ht hvm hz1 hk1
        have hP := hP.sub (ws' := [(h, .inr (1, [.ref t1, .ref t2, .int (nI mf)])), (t1, .inr (6, [.int (nI 65), .ref a1])), (a1, .inl (cI, 1885, .inl (upd f1 (k * 65 + (i + 1)) ((t_gs x (k * 32) (i + 1)))))), (t2, .inr (6, [.int (nI 65), .ref a2])), (a2, .inl (cI, 1885, .inl (upd g1 (k * 65 + (i + 1)) ((t_sm x k (i + 1)))))), (so, .inr (5, [.ref sa, .int (nI sn)])), (sa, .inl (cI, 1024, .inl x))]) [0, 1, 2, 5, 6, 3, 4] rfl
        have hD := hD.sub (ws' := [(h, .inr (1, [.ref t1, .ref t2, .int (nI mf)])), (t1, .inr (6, [.int (nI 65), .ref a1])), (a1, .inl (cI, 1885, .inl (upd f1 (k * 65 + (i + 1)) ((t_gs x (k * 32) (i + 1)))))), (t2, .inr (6, [.int (nI 65), .ref a2])), (a2, .inl (cI, 1885, .inl (upd g1 (k * 65 + (i + 1)) ((t_sm x k (i + 1)))))), (so, .inr (5, [.ref sa, .int (nI sn)])), (sa, .inl (cI, 1024, .inl x))]) [0, 1, 2, 5, 6, 3, 4] (by decide +kernel) rfl
        generalize H1 = H at hP hS ⊢
        refine lv_iinc (v := (nI (i + 1 + 1))) (lv' := [(4, .int (nI (i + 1 + 1))), (3, .int (t_sm x k (i + 1))), (5, .int (t_gs x (k * 32) (i + 1))), (0, .ref h), (1, .ref so), (2, .int (nI k))]) hx hb dX1_measureFrame_52 hl (k := 2) rfl (nI_add (i + 1) 1) (by decide) rfl (fun ls hl => ?_)
        refine lv_goto (tgt := 5) hx hb dX1_measureFrame_55 (by decide) ?_
        exact ih_2 (i + 1) (upd f1 (k * 65 + (i + 1)) ((t_gs x (k * 32) (i + 1)))) (upd g1 (k * 65 + (i + 1)) ((t_sm x k (i + 1)))) (by omega) (by omega) (t_msd_s hv) _ _ (hP.sub [0, 1, 2, 3, 4, 5, 6] rfl) (hD.sub [0, 1, 2, 3, 4, 5, 6] (by decide +kernel) rfl) hS _ (lv_sub hl [1, 0, 3, 4, 5] rfl)
  exact loop_1 (64 - 0 + 1) 0 f g (Nat.lt_succ_self _) (Nat.zero_le _) t_msd_0 _ _ (hP.sub [0, 1, 2, 3, 4, 5, 6] rfl) (hD.sub [0, 1, 2, 3, 4, 5, 6] (by decide +kernel) rfl) hS _ (lv_sub hl [1, 0, 2, 3, 4] rfl)

set_option maxHeartbeats 4000000 in
set_option maxRecDepth 100000 in
theorem c_X1_measure (l : Launch) (D : va_G) (cI cL : ClassId) (h t1 a1 t2 a2 mf : Nat) (f g : Nat → Int32) (so sa sn : Nat) (x : Nat → Int32) (hsn : sn ≤ 1024) (hmf : mf ≤ t_F sn) (hok : t_okd x mf f g) (sz : Nat) : Met l yX1_measure wsX1_measure ({ frames := 3, cells := 0, slots := 0, locals := 140 }) (t_wPc D cI cL [.ref h, .ref so] [(h, .inr (1, [.ref t1, .ref t2, .int (nI mf)])), (t1, .inr (6, [.int (nI 65), .ref a1])), (a1, .inl (cI, 1885, .inl f)), (t2, .inr (6, [.int (nI 65), .ref a2])), (a2, .inl (cI, 1885, .inl g)), (so, .inr (5, [.ref sa, .int (nI sn)])), (sa, .inl (cI, 1024, .inl x))] sz) (t_Qv D cI cL (fun w1 => ∃ f2 : Nat → Int32, ∃ g2 : Nat → Int32, w1 = [(h, .inr (1, [.ref t1, .ref t2, .int (nI (t_F sn))])), (t1, .inr (6, [.int (nI 65), .ref a1])), (a1, .inl (cI, 1885, .inl f2)), (t2, .inr (6, [.int (nI 65), .ref a2])), (a2, .inl (cI, 1885, .inl g2)), (so, .inr (5, [.ref sa, .int (nI sn)])), (sa, .inl (cI, 1024, .inl x))] ∧ t_okd x (t_F sn) f2 g2) (va_A [(h, .inr (1, [.ref t1, .ref t2, .int (nI mf)])), (t1, .inr (6, [.int (nI 65), .ref a1])), (a1, .inl (cI, 1885, .inl f)), (t2, .inr (6, [.int (nI 65), .ref a2])), (a2, .inl (cI, 1885, .inl g)), (so, .inr (5, [.ref sa, .int (nI sn)])), (sa, .inl (cI, 1024, .inl x))] sz)) 0 0 (va_A [(h, .inr (1, [.ref t1, .ref t2, .int (nI mf)])), (t1, .inr (6, [.int (nI 65), .ref a1])), (a1, .inl (cI, 1885, .inl f)), (t2, .inr (6, [.int (nI 65), .ref a2])), (a2, .inl (cI, 1885, .inl g)), (so, .inr (5, [.ref sa, .int (nI sn)])), (sa, .inl (cI, 1024, .inl x))] sz) := by
  refine t_ofW (Qc := t_Qv D cI cL (fun w1 => ∃ f2 : Nat → Int32, ∃ g2 : Nat → Int32, w1 = [(h, .inr (1, [.ref t1, .ref t2, .int (nI (t_F sn))])), (t1, .inr (6, [.int (nI 65), .ref a1])), (a1, .inl (cI, 1885, .inl f2)), (t2, .inr (6, [.int (nI 65), .ref a2])), (a2, .inl (cI, 1885, .inl g2)), (so, .inr (5, [.ref sa, .int (nI sn)])), (sa, .inl (cI, 1024, .inl x))] ∧ t_okd x (t_F sn) f2 g2)) (by decide) rfl (Nat.le_of_ble_eq_true rfl) ?_
  intro p e s m below meth c ls A hx hb hml hown hts hr hlocks hin hK hP hD hS hA hl
  have hown : s.vm.findClass RX1 = some m.cls := hown
  have hl : lv_has ls 4 [(0, .ref h), (1, .ref so)] := hl
  have hF := t_F_le hsn
  refine lv_aload_n hx hb dX1_measure_0 rfl (lv_at hl 1 rfl) ?_
  have hPc := hP.sub (ws' := [(so, .inr (5, [.ref sa, .int (nI sn)])), (sa, .inl (cI, 1024, .inl x))]) [5, 6] rfl
  refine vp_callSi (W.runV (As := []) (rest := []) ⟨hx, hb, hml, hown, hts⟩ (c_X5_frameCount l D cI cL so sa sn x (by omega)) (cwV 0 hts gX1_measure_X5_frameCount rfl rfl rfl (by decide +kernel) ⟨Nat.le_of_ble_eq_true rfl, Nat.le_of_ble_eq_true rfl⟩) ⟨t_rPc_blind, va_recv hK hPc (ci := 5) (q0 := 0) rfl rfl, fun U hU hW => ⟨rfl, by rw [hU]; exact hPc, va_K.moved hW.alike hK⟩⟩ rfl rfl hl.1 rfl (lv_room (Nat.le_of_ble_eq_true rfl)) dX1_measure_1 ⟨Nat.le_of_ble_eq_true rfl, Nat.le_of_ble_eq_true rfl⟩) (fun r_1 hr_1 => ?_)
  subst hr_1
  refine lv_istore_n (lv' := [(2, .int (nI (t_F sn))), (0, .ref h), (1, .ref so)]) hx hb dX1_measure_4 rfl hl (by decide) rfl (fun ls hl => ?_)
  refine lv_aload_n hx hb dX1_measure_5 rfl (lv_at hl 1 rfl) ?_
  refine va_get (D := D) (ci := 1) (v := .int (nI mf)) (C := RX1) (T := TX1) (N := 3) hx hb hts (fun _ h => List.mem_cons_of_mem _ (List.mem_append_left _ (List.mem_append_left _ (List.mem_append_right _ h)))) hown hK hP 0 rfl rfl 2 (by decide) (hts (.fieldLink RX1 23 "PitchTracker$Differences" "measuredFrames" "I") (List.mem_of_getElem? (i := 1) rfl)) (fun _ h9 => h9) rfl dX1_measure_6 ?_
  refine lv_istore_n (lv' := [(3, .int (nI mf)), (2, .int (nI (t_F sn))), (0, .ref h), (1, .ref so)]) hx hb dX1_measure_9 rfl hl (by decide) rfl (fun ls hl => ?_)
  have loop_2 : ∀ (n_4 : Nat) (i : Nat) (f1 : Nat → Int32) (g1 : Nat → Int32) (hm_5 : t_F sn - i < n_4) (hi : i ≤ t_F sn) (hv : t_okd x i f1 g1) (H : Heap) (locs : List Loc) (hP : va_P D vwCl [(h, .inr (1, [.ref t1, .ref t2, .int (nI mf)])), (t1, .inr (6, [.int (nI 65), .ref a1])), (a1, .inl (cI, 1885, .inl f1)), (t2, .inr (6, [.int (nI 65), .ref a2])), (a2, .inl (cI, 1885, .inl g1)), (so, .inr (5, [.ref sa, .int (nI sn)])), (sa, .inl (cI, 1024, .inl x))] H) (hD : va_D A [(h, .inr (1, [.ref t1, .ref t2, .int (nI mf)])), (t1, .inr (6, [.int (nI 65), .ref a1])), (a1, .inl (cI, 1885, .inl f1)), (t2, .inr (6, [.int (nI 65), .ref a2])), (a2, .inl (cI, 1885, .inl g1)), (so, .inr (5, [.ref sa, .int (nI sn)])), (sa, .inl (cI, 1024, .inl x))]) (hS : va_S A s.heap H locs) (ls : Array Slot) (hl : lv_has ls 4 [(3, .int (nI i)), (2, .int (nI (t_F sn))), (0, .ref h), (1, .ref so)]), W p l e ({ frames := 3, cells := 0, slots := 0, locals := 140 }) s m ([.ref h, .ref so] : List Value).toArray below meth c H locs 0 0 (MQ below (t_Qv D cI cL (fun w1 => ∃ f2 : Nat → Int32, ∃ g2 : Nat → Int32, w1 = [(h, .inr (1, [.ref t1, .ref t2, .int (nI (t_F sn))])), (t1, .inr (6, [.int (nI 65), .ref a1])), (a1, .inl (cI, 1885, .inl f2)), (t2, .inr (6, [.int (nI 65), .ref a2])), (a2, .inl (cI, 1885, .inl g2)), (so, .inr (5, [.ref sa, .int (nI sn)])), (sa, .inl (cI, 1024, .inl x))] ∧ t_okd x (t_F sn) f2 g2) A) ([.ref h, .ref so] : List Value).toArray s 0 0 A) (F0 m 10 ls []) := by
    intro n_4
    induction n_4 with
    | zero => intro i f1 g1 hm_5; exact absurd hm_5 (Nat.not_lt_zero _)
    | succ n_4 ih_3 =>
      intro i f1 g1 hm_5 hi hv H locs hP hD hS ls hl
      refine lv_iload_n hx hb dX1_measure_10 rfl (lv_at hl 0 rfl) ?_
      refine lv_iload_n hx hb dX1_measure_11 rfl (lv_at hl 1 rfl) ?_
      refine tv_icmp_ge (tgt := 27) hx hb dX1_measure_12 (by decide) (by omega) (by omega) (fun q12_6 => ?_) (fun q12_6 => ?_)
      · refine lv_aload_n hx hb dX1_measure_27 rfl (lv_at hl 2 rfl) ?_
        refine lv_iload_n hx hb dX1_measure_28 rfl (lv_at hl 1 rfl) ?_
        refine va_put (D := D) (ci := 1) (v := .int (nI (t_F sn))) (ty := .int) (C := RX1) (T := TX1) (N := 3) hx hb hts (fun _ h => List.mem_cons_of_mem _ (List.mem_append_left _ (List.mem_append_left _ (List.mem_append_right _ h)))) tyX1 tyX1_ok nmX1 hown hK hP hD hS 0 rfl rfl 2 (by decide) (hts (.fieldLink RX1 23 "PitchTracker$Differences" "measuredFrames" "I") (List.mem_of_getElem? (i := 1) rfl)) (fun _ h9 => h9) rfl (by decide +kernel) rfl rfl (Nat.le_of_ble_eq_true rfl) dX1_measure_29 (fun H locs hP hD hS => ?_)
        have hP : va_P D vwCl [(h, .inr (1, [.ref t1, .ref t2, .int (nI (t_F sn))])), (t1, .inr (6, [.int (nI 65), .ref a1])), (a1, .inl (cI, 1885, .inl f1)), (t2, .inr (6, [.int (nI 65), .ref a2])), (a2, .inl (cI, 1885, .inl g1)), (so, .inr (5, [.ref sa, .int (nI sn)])), (sa, .inl (cI, 1024, .inl x))] H := hP
        have hD : va_D A [(h, .inr (1, [.ref t1, .ref t2, .int (nI (t_F sn))])), (t1, .inr (6, [.int (nI 65), .ref a1])), (a1, .inl (cI, 1885, .inl f1)), (t2, .inr (6, [.int (nI 65), .ref a2])), (a2, .inl (cI, 1885, .inl g1)), (so, .inr (5, [.ref sa, .int (nI sn)])), (sa, .inl (cI, 1024, .inl x))] := hD
        have hP9 := hP
        have hD9 := hD
        exact W.vret hx hb hr (fun t ht hW => ⟨⟨[(h, .inr (1, [.ref t1, .ref t2, .int (nI (t_F sn))])), (t1, .inr (6, [.int (nI 65), .ref a1])), (a1, .inl (cI, 1885, .inl f1)), (t2, .inr (6, [.int (nI 65), .ref a2])), (a2, .inl (cI, 1885, .inl g1)), (so, .inr (5, [.ref sa, .int (nI sn)])), (sa, .inl (cI, 1024, .inl x))], rfl, ⟨f1, g1, rfl, (by obtain rfl : i = t_F sn := (by omega); exact hv)⟩, ⟨by rw [ht]; exact hP9, va_K.moved hW.alike hK, hD9⟩⟩, hS.F ht⟩) hS.2.2 dX1_measure_32 hlocks
      · refine lv_aload_n hx hb dX1_measure_15 rfl (lv_at hl 2 rfl) ?_
        refine lv_aload_n hx hb dX1_measure_16 rfl (lv_at hl 3 rfl) ?_
        refine lv_iload_n hx hb dX1_measure_17 rfl (lv_at hl 0 rfl) ?_
        have hPc := hP.sub (ws' := [(h, .inr (1, [.ref t1, .ref t2, .int (nI mf)])), (t1, .inr (6, [.int (nI 65), .ref a1])), (a1, .inl (cI, 1885, .inl f1)), (t2, .inr (6, [.int (nI 65), .ref a2])), (a2, .inl (cI, 1885, .inl g1)), (so, .inr (5, [.ref sa, .int (nI sn)])), (sa, .inl (cI, 1024, .inl x))]) [0, 1, 2, 3, 4, 5, 6] rfl
        have hDc := hD.sub (ws' := [(h, .inr (1, [.ref t1, .ref t2, .int (nI mf)])), (t1, .inr (6, [.int (nI 65), .ref a1])), (a1, .inl (cI, 1885, .inl f1)), (t2, .inr (6, [.int (nI 65), .ref a2])), (a2, .inl (cI, 1885, .inl g1)), (so, .inr (5, [.ref sa, .int (nI sn)])), (sa, .inl (cI, 1024, .inl x))]) [0, 1, 2, 3, 4, 5, 6] (by decide +kernel) rfl
        have hFc := va_free (wc := [(h, .inr (1, [.ref t1, .ref t2, .int (nI mf)])), (t1, .inr (6, [.int (nI 65), .ref a1])), (a1, .inl (cI, 1885, .inl f1)), (t2, .inr (6, [.int (nI 65), .ref a2])), (a2, .inl (cI, 1885, .inl g1)), (so, .inr (5, [.ref sa, .int (nI sn)])), (sa, .inl (cI, 1024, .inl x))]) hD hS hA [0, 1, 2, 3, 4, 5, 6] rfl
        refine va_callv (va_runV (As := [.ref so, .int (nI i)]) (rest := []) ⟨hx, hb, hml, hown, hts⟩ (c_X1_measureFrame l D cI cL h t1 a1 t2 a2 mf f1 g1 so sa sn x i (by omega) H.size) (cwV 2 hts gX1_measure_X1_measureFrame rfl rfl rfl (by decide +kernel) ⟨Nat.le_of_ble_eq_true rfl, Nat.le_of_ble_eq_true rfl⟩) ⟨t_wPc_blind, va_recv hK hPc (ci := 1) (q0 := 0) rfl rfl, fun U hU hW => ⟨rfl, by rw [hU], by rw [hU]; exact hPc, va_K.moved hW.alike hK, hDc.weaken (fun _ _ _ _ => trivial)⟩⟩ rfl rfl hl.1 rfl (lv_room (Nat.le_of_ble_eq_true rfl)) dX1_measure_18 ⟨Nat.le_of_ble_eq_true rfl, Nat.le_of_ble_eq_true rfl⟩) hS (fun q _ h => hFc q h) hFc (fun u_8 t H1 locs ht hvm hw hB hz1 hk1 hS => ?_)
        obtain ⟨hP1, hK1, hD1⟩ := hB
        rw [ht] at hP1
        obtain ⟨f_9, f_10, hw, hp_11⟩ := hw
        have hw : u_8 = [(h, .inr (1, [.ref t1, .ref t2, .int (nI mf)])), (t1, .inr (6, [.int (nI 65), .ref a1])), (a1, .inl (cI, 1885, .inl f_9)), (t2, .inr (6, [.int (nI 65), .ref a2])), (a2, .inl (cI, 1885, .inl f_10)), (so, .inr (5, [.ref sa, .int (nI sn)])), (sa, .inl (cI, 1024, .inl x))] := hw
        subst hw
        have hp_11 : t_msd x i 64 f1 g1 f_9 f_10 := hp_11
        obtain ⟨hP, hD⟩ := va_join (wr := []) (w1 := [(h, .inr (1, [.ref t1, .ref t2, .int (nI mf)])), (t1, .inr (6, [.int (nI 65), .ref a1])), (a1, .inl (cI, 1885, .inl f_9)), (t2, .inr (6, [.int (nI 65), .ref a2])), (a2, .inl (cI, 1885, .inl f_10)), (so, .inr (5, [.ref sa, .int (nI sn)])), (sa, .inl (cI, 1024, .inl x))]) hP hD [0, 1, 2, 3, 4, 5, 6] [] rfl rfl (by decide +kernel) (by decide +kernel) hk1 hFc hP1 hD1
        clear hP1 hD1 hK1 hPc hDc hFc ht hvm hz1 hk1
        have hP : va_P D vwCl [(h, .inr (1, [.ref t1, .ref t2, .int (nI mf)])), (t1, .inr (6, [.int (nI 65), .ref a1])), (a1, .inl (cI, 1885, .inl f_9)), (t2, .inr (6, [.int (nI 65), .ref a2])), (a2, .inl (cI, 1885, .inl f_10)), (so, .inr (5, [.ref sa, .int (nI sn)])), (sa, .inl (cI, 1024, .inl x))] H1 := hP
        have hD : va_D A [(h, .inr (1, [.ref t1, .ref t2, .int (nI mf)])), (t1, .inr (6, [.int (nI 65), .ref a1])), (a1, .inl (cI, 1885, .inl f_9)), (t2, .inr (6, [.int (nI 65), .ref a2])), (a2, .inl (cI, 1885, .inl f_10)), (so, .inr (5, [.ref sa, .int (nI sn)])), (sa, .inl (cI, 1024, .inl x))] := hD
        generalize H1 = H at hP hS ⊢
        refine lv_iinc (v := (nI (i + 1))) (lv' := [(3, .int (nI (i + 1))), (2, .int (nI (t_F sn))), (0, .ref h), (1, .ref so)]) hx hb dX1_measure_21 hl (k := 0) rfl (nI_add i 1) (by decide) rfl (fun ls hl => ?_)
        refine lv_goto (tgt := 10) hx hb dX1_measure_24 (by decide) ?_
        exact ih_3 (i + 1) f_9 f_10 (by omega) (by omega) (t_okd_s hv hp_11) _ _ (hP.sub [0, 1, 2, 3, 4, 5, 6] rfl) (hD.sub [0, 1, 2, 3, 4, 5, 6] (by decide +kernel) rfl) hS _ (lv_sub hl [0, 1, 2, 3] rfl)
  exact loop_2 (t_F sn - mf + 1) mf f g (Nat.lt_succ_self _) hmf hok _ _ (hP.sub [0, 1, 2, 3, 4, 5, 6] rfl) (hD.sub [0, 1, 2, 3, 4, 5, 6] (by decide +kernel) rfl) hS _ (lv_sub hl [0, 1, 2, 3] rfl)

set_option maxHeartbeats 4000000 in
set_option maxRecDepth 100000 in
theorem c_X1_at (l : Launch) (D : va_G) (cI cL : ClassId) (h t1 a1 t2 a2 mf : Nat) (f g : Nat → Int32) (k j : Nat) (hk : k < 29) (hj : j ≤ 64) : Met l yX1_at wsX1_at ({ frames := 2, cells := 0, slots := 0, locals := 80 }) (t_rPc D cI cL [.ref h, .int (nI k), .int (nI j)] [(h, .inr (1, [.ref t1, .ref t2, .int (nI mf)])), (t1, .inr (6, [.int (nI 65), .ref a1])), (a1, .inl (cI, 1885, .inl f)), (t2, .inr (6, [.int (nI 65), .ref a2])), (a2, .inl (cI, 1885, .inl g))]) (vp_Si (fun r => r = (f (k * 65 + j)))) 0 0 (fun _ => False) := by
  refine t_ofR (by decide) rfl (Nat.le_of_ble_eq_true rfl) ?_
  intro p e s m below meth c ls hx hb hml hown hts hr hlocks hK hP hl
  have hown : s.vm.findClass RX1 = some m.cls := hown
  have hl : lv_has ls 3 [(0, .ref h), (1, .int (nI k)), (2, .int (nI j))] := hl
  refine lv_aload_n hx hb dX1_at_0 rfl (lv_at hl 0 rfl) ?_
  refine va_get (D := D) (ci := 1) (v := .ref t1) (C := RX1) (T := TX1) (N := 3) hx hb hts (fun _ h => List.mem_cons_of_mem _ (List.mem_append_left _ (List.mem_append_right _ h))) hown hK hP 0 rfl rfl 0 (by decide) (hts (.fieldLink RX1 14 "PitchTracker$Differences" "sizes" "LPitchTracker$Table;") (List.mem_of_getElem? (i := 1) rfl)) (fun _ h9 => h9) rfl dX1_at_1 ?_
  refine lv_iload_n hx hb dX1_at_4 rfl (lv_at hl 1 rfl) ?_
  refine lv_iload_n hx hb dX1_at_5 rfl (lv_at hl 2 rfl) ?_
  have hPc := hP.sub (ws' := [(t1, .inr (6, [.int (nI 65), .ref a1])), (a1, .inl (cI, 1885, .inl f))]) [1, 2] rfl
  refine vp_callSi (W.runV (As := [.int (nI k), .int (nI j)]) (rest := []) ⟨hx, hb, hml, hown, hts⟩ (c_X6_at l D cI cL t1 a1 1885 65 f k j (by omega) (by omega) (by omega) (by omega)) (cwV 2 hts gX1_at_X6_at rfl rfl rfl (by decide +kernel) ⟨Nat.le_of_ble_eq_true rfl, Nat.le_of_ble_eq_true rfl⟩) ⟨t_rPc_blind, va_recv hK hPc (ci := 6) (q0 := 0) rfl rfl, fun U hU hW => ⟨rfl, by rw [hU]; exact hPc, va_K.moved hW.alike hK⟩⟩ rfl rfl hl.1 rfl (lv_room (Nat.le_of_ble_eq_true rfl)) dX1_at_6 ⟨Nat.le_of_ble_eq_true rfl, Nat.le_of_ble_eq_true rfl⟩) (fun r_1 hr_1 => ?_)
  subst hr_1
  exact W.iret (v := (f (k * 65 + j))) hx hb hr (fun t ht hW => ⟨_, rfl, rfl, ht⟩) (fun q h => by cases h) dX1_at_9 hlocks

set_option maxHeartbeats 4000000 in
set_option maxRecDepth 100000 in
theorem c_X1_meanTop (l : Launch) (D : va_G) (cI cL : ClassId) (h t1 a1 t2 a2 mf : Nat) (f g : Nat → Int32) (k j : Nat) (hk : k < 29) (hj : j ≤ 64) : Met l yX1_meanTop wsX1_meanTop ({ frames := 2, cells := 0, slots := 0, locals := 80 }) (t_rPc D cI cL [.ref h, .int (nI k), .int (nI j)] [(h, .inr (1, [.ref t1, .ref t2, .int (nI mf)])), (t1, .inr (6, [.int (nI 65), .ref a1])), (a1, .inl (cI, 1885, .inl f)), (t2, .inr (6, [.int (nI 65), .ref a2])), (a2, .inl (cI, 1885, .inl g))]) (vp_Sl (fun r => r = t_top (f (k * 65 + j)) j (g (k * 65 + j)))) 0 0 (fun _ => False) := by
  refine t_ofR (by decide) rfl (Nat.le_of_ble_eq_true rfl) ?_
  intro p e s m below meth c ls hx hb hml hown hts hr hlocks hK hP hl
  have hown : s.vm.findClass RX1 = some m.cls := hown
  have hl : lv_has ls 3 [(0, .ref h), (1, .int (nI k)), (2, .int (nI j))] := hl
  refine lv_aload_n hx hb dX1_meanTop_0 rfl (lv_at hl 0 rfl) ?_
  refine va_get (D := D) (ci := 1) (v := .ref t2) (C := RX1) (T := TX1) (N := 3) hx hb hts (fun _ h => List.mem_cons_of_mem _ (List.mem_append_left _ (List.mem_append_right _ h))) hown hK hP 0 rfl rfl 1 (by decide) (hts (.fieldLink RX1 20 "PitchTracker$Differences" "sums" "LPitchTracker$Table;") (List.mem_of_getElem? (i := 1) rfl)) (fun _ h9 => h9) rfl dX1_meanTop_1 ?_
  refine lv_iload_n hx hb dX1_meanTop_4 rfl (lv_at hl 1 rfl) ?_
  refine lv_iload_n hx hb dX1_meanTop_5 rfl (lv_at hl 2 rfl) ?_
  have hPc := hP.sub (ws' := [(t2, .inr (6, [.int (nI 65), .ref a2])), (a2, .inl (cI, 1885, .inl g))]) [3, 4] rfl
  refine vp_callSi (W.runV (As := [.int (nI k), .int (nI j)]) (rest := []) ⟨hx, hb, hml, hown, hts⟩ (c_X6_at l D cI cL t2 a2 1885 65 g k j (by omega) (by omega) (by omega) (by omega)) (cwV 2 hts gX1_meanTop_X6_at rfl rfl rfl (by decide +kernel) ⟨Nat.le_of_ble_eq_true rfl, Nat.le_of_ble_eq_true rfl⟩) ⟨t_rPc_blind, va_recv hK hPc (ci := 6) (q0 := 0) rfl rfl, fun U hU hW => ⟨rfl, by rw [hU]; exact hPc, va_K.moved hW.alike hK⟩⟩ rfl rfl hl.1 rfl (lv_room (Nat.le_of_ble_eq_true rfl)) dX1_meanTop_6 ⟨Nat.le_of_ble_eq_true rfl, Nat.le_of_ble_eq_true rfl⟩) (fun r_1 hr_1 => ?_)
  subst hr_1
  refine lv_if_le (tgt := 28) hx hb dX1_meanTop_9 (by decide) (fun q9_2 => ?_) (fun q9_2 => ?_)
  · refine lv_lconst (v := 1) hx hb dX1_meanTop_28 (by decide +kernel) ?_
    exact W.lret (v := 1) hx hb hr (fun t ht hW => ⟨_, rfl, (if_neg (t_nlt32 q9_2)).symm, ht⟩) (fun q h => by cases h) dX1_meanTop_29 hlocks
  · refine lv_iload_n hx hb dX1_meanTop_12 rfl (lv_at hl 2 rfl) ?_
    refine lv_i2l hx hb dX1_meanTop_13 rfl ?_
    refine lv_aload_n hx hb dX1_meanTop_14 rfl (lv_at hl 0 rfl) ?_
    refine va_get (D := D) (ci := 1) (v := .ref t1) (C := RX1) (T := TX1) (N := 3) hx hb hts (fun _ h => List.mem_cons_of_mem _ (List.mem_append_left _ (List.mem_append_right _ h))) hown hK hP 0 rfl rfl 0 (by decide) (hts (.fieldLink RX1 14 "PitchTracker$Differences" "sizes" "LPitchTracker$Table;") (List.mem_of_getElem? (i := 2) rfl)) (fun _ h9 => h9) rfl dX1_meanTop_15 ?_
    refine lv_iload_n hx hb dX1_meanTop_18 rfl (lv_at hl 1 rfl) ?_
    refine lv_iload_n hx hb dX1_meanTop_19 rfl (lv_at hl 2 rfl) ?_
    have hPc := hP.sub (ws' := [(t1, .inr (6, [.int (nI 65), .ref a1])), (a1, .inl (cI, 1885, .inl f))]) [1, 2] rfl
    refine vp_callSi (W.runV (As := [.int (nI k), .int (nI j)]) (rest := [.long ((nI j).toInt64)]) ⟨hx, hb, hml, hown, hts⟩ (c_X6_at l D cI cL t1 a1 1885 65 f k j (by omega) (by omega) (by omega) (by omega)) (cwV 2 hts gX1_meanTop_X6_at rfl rfl rfl (by decide +kernel) ⟨Nat.le_of_ble_eq_true rfl, Nat.le_of_ble_eq_true rfl⟩) ⟨t_rPc_blind, va_recv hK hPc (ci := 6) (q0 := 0) rfl rfl, fun U hU hW => ⟨rfl, by rw [hU]; exact hPc, va_K.moved hW.alike hK⟩⟩ rfl rfl hl.1 rfl (lv_room (Nat.le_of_ble_eq_true rfl)) dX1_meanTop_20 ⟨Nat.le_of_ble_eq_true rfl, Nat.le_of_ble_eq_true rfl⟩) (fun r_3 hr_3 => ?_)
    subst hr_3
    refine lv_i2l hx hb dX1_meanTop_23 rfl ?_
    refine lv_lmul hx hb dX1_meanTop_24 ?_
    refine lv_goto (tgt := 29) hx hb dX1_meanTop_25 (by decide) ?_
    exact W.lret (v := ((nI j).toInt64) * ((f (k * 65 + j)).toInt64)) hx hb hr (fun t ht hW => ⟨_, rfl, (if_pos (t_nle32 q9_2)).symm, ht⟩) (fun q h => by cases h) dX1_meanTop_29 hlocks

set_option maxHeartbeats 4000000 in
set_option maxRecDepth 100000 in
theorem c_X1_meanBottom (l : Launch) (D : va_G) (cI cL : ClassId) (h t1 a1 t2 a2 mf : Nat) (f g : Nat → Int32) (k j : Nat) (hk : k < 29) (hj : j ≤ 64) : Met l yX1_meanBottom wsX1_meanBottom ({ frames := 2, cells := 0, slots := 0, locals := 80 }) (t_rPc D cI cL [.ref h, .int (nI k), .int (nI j)] [(h, .inr (1, [.ref t1, .ref t2, .int (nI mf)])), (t1, .inr (6, [.int (nI 65), .ref a1])), (a1, .inl (cI, 1885, .inl f)), (t2, .inr (6, [.int (nI 65), .ref a2])), (a2, .inl (cI, 1885, .inl g))]) (vp_Sl (fun r => r = t_bot (g (k * 65 + j)))) 0 0 (fun _ => False) := by
  refine t_ofR (by decide) rfl (Nat.le_of_ble_eq_true rfl) ?_
  intro p e s m below meth c ls hx hb hml hown hts hr hlocks hK hP hl
  have hown : s.vm.findClass RX1 = some m.cls := hown
  have hl : lv_has ls 4 [(0, .ref h), (1, .int (nI k)), (2, .int (nI j))] := hl
  refine lv_aload_n hx hb dX1_meanBottom_0 rfl (lv_at hl 0 rfl) ?_
  refine va_get (D := D) (ci := 1) (v := .ref t2) (C := RX1) (T := TX1) (N := 3) hx hb hts (fun _ h => List.mem_cons_of_mem _ (List.mem_append_left _ (List.mem_append_right _ h))) hown hK hP 0 rfl rfl 1 (by decide) (hts (.fieldLink RX1 20 "PitchTracker$Differences" "sums" "LPitchTracker$Table;") (List.mem_of_getElem? (i := 1) rfl)) (fun _ h9 => h9) rfl dX1_meanBottom_1 ?_
  refine lv_iload_n hx hb dX1_meanBottom_4 rfl (lv_at hl 1 rfl) ?_
  refine lv_iload_n hx hb dX1_meanBottom_5 rfl (lv_at hl 2 rfl) ?_
  have hPc := hP.sub (ws' := [(t2, .inr (6, [.int (nI 65), .ref a2])), (a2, .inl (cI, 1885, .inl g))]) [3, 4] rfl
  refine vp_callSi (W.runV (As := [.int (nI k), .int (nI j)]) (rest := []) ⟨hx, hb, hml, hown, hts⟩ (c_X6_at l D cI cL t2 a2 1885 65 g k j (by omega) (by omega) (by omega) (by omega)) (cwV 2 hts gX1_meanBottom_X6_at rfl rfl rfl (by decide +kernel) ⟨Nat.le_of_ble_eq_true rfl, Nat.le_of_ble_eq_true rfl⟩) ⟨t_rPc_blind, va_recv hK hPc (ci := 6) (q0 := 0) rfl rfl, fun U hU hW => ⟨rfl, by rw [hU]; exact hPc, va_K.moved hW.alike hK⟩⟩ rfl rfl hl.1 rfl (lv_room (Nat.le_of_ble_eq_true rfl)) dX1_meanBottom_6 ⟨Nat.le_of_ble_eq_true rfl, Nat.le_of_ble_eq_true rfl⟩) (fun r_1 hr_1 => ?_)
  subst hr_1
  refine lv_istore_n (lv' := [(3, .int (g (k * 65 + j))), (0, .ref h), (1, .int (nI k)), (2, .int (nI j))]) hx hb dX1_meanBottom_9 rfl hl (by decide) rfl (fun ls hl => ?_)
  refine lv_iload_n hx hb dX1_meanBottom_10 rfl (lv_at hl 0 rfl) ?_
  refine lv_if_le (tgt := 19) hx hb dX1_meanBottom_11 (by decide) (fun q11_2 => ?_) (fun q11_2 => ?_)
  · refine lv_lconst (v := 1) hx hb dX1_meanBottom_19 (by decide +kernel) ?_
    exact W.lret (v := 1) hx hb hr (fun t ht hW => ⟨_, rfl, (if_neg (t_nlt32 q11_2)).symm, ht⟩) (fun q h => by cases h) dX1_meanBottom_20 hlocks
  · refine lv_iload_n hx hb dX1_meanBottom_14 rfl (lv_at hl 0 rfl) ?_
    refine lv_i2l hx hb dX1_meanBottom_15 rfl ?_
    refine lv_goto (tgt := 20) hx hb dX1_meanBottom_16 (by decide) ?_
    exact W.lret (v := (g (k * 65 + j)).toInt64) hx hb hr (fun t ht hW => ⟨_, rfl, (if_pos (t_nle32 q11_2)).symm, ht⟩) (fun q h => by cases h) dX1_meanBottom_20 hlocks

set_option maxHeartbeats 4000000 in
set_option maxRecDepth 100000 in
theorem c_X1_isMeanBelow (l : Launch) (D : va_G) (cI cL : ClassId) (h t1 a1 t2 a2 mf : Nat) (f g : Nat → Int32) (k j : Nat) (pc0 : Int32) (hk : k < 29) (hj : j ≤ 64) : Met l yX1_isMeanBelow wsX1_isMeanBelow ({ frames := 3, cells := 0, slots := 0, locals := 120 }) (t_rPc D cI cL [.ref h, .int (nI k), .int (nI j), .int pc0] [(h, .inr (1, [.ref t1, .ref t2, .int (nI mf)])), (t1, .inr (6, [.int (nI 65), .ref a1])), (a1, .inl (cI, 1885, .inl f)), (t2, .inr (6, [.int (nI 65), .ref a2])), (a2, .inl (cI, 1885, .inl g))]) (vp_Si (fun r => r = t_b (t_blw (t_r65 f k) (t_r65 g k) pc0 j))) 0 0 (fun _ => False) := by
  refine t_ofR (by decide) rfl (Nat.le_of_ble_eq_true rfl) ?_
  intro p e s m below meth c ls hx hb hml hown hts hr hlocks hK hP hl
  have hown : s.vm.findClass RX1 = some m.cls := hown
  have hl : lv_has ls 4 [(0, .ref h), (1, .int (nI k)), (2, .int (nI j)), (3, .int pc0)] := hl
  refine lv_ldc2 (v := 100) hx hb hown (hts (.constantLong RX1 61 (100)) (List.mem_of_getElem? (i := 1) rfl)) dX1_isMeanBelow_0 ?_
  refine lv_aload_n hx hb dX1_isMeanBelow_3 rfl (lv_at hl 0 rfl) ?_
  refine lv_iload_n hx hb dX1_isMeanBelow_4 rfl (lv_at hl 1 rfl) ?_
  refine lv_iload_n hx hb dX1_isMeanBelow_5 rfl (lv_at hl 2 rfl) ?_
  have hPc := hP.sub (ws' := [(h, .inr (1, [.ref t1, .ref t2, .int (nI mf)])), (t1, .inr (6, [.int (nI 65), .ref a1])), (a1, .inl (cI, 1885, .inl f)), (t2, .inr (6, [.int (nI 65), .ref a2])), (a2, .inl (cI, 1885, .inl g))]) [0, 1, 2, 3, 4] rfl
  refine vp_callSl (W.runV (As := [.int (nI k), .int (nI j)]) (rest := [.long 100]) ⟨hx, hb, hml, hown, hts⟩ (c_X1_meanTop l D cI cL h t1 a1 t2 a2 mf f g k j (by omega) (by omega)) (cwV 2 hts gX1_isMeanBelow_X1_meanTop rfl rfl rfl (by decide +kernel) ⟨Nat.le_of_ble_eq_true rfl, Nat.le_of_ble_eq_true rfl⟩) ⟨t_rPc_blind, va_recv hK hPc (ci := 1) (q0 := 0) rfl rfl, fun U hU hW => ⟨rfl, by rw [hU]; exact hPc, va_K.moved hW.alike hK⟩⟩ rfl rfl hl.1 rfl (lv_room (Nat.le_of_ble_eq_true rfl)) dX1_isMeanBelow_6 ⟨Nat.le_of_ble_eq_true rfl, Nat.le_of_ble_eq_true rfl⟩) (fun r_1 hr_1 => ?_)
  subst hr_1
  refine lv_lmul hx hb dX1_isMeanBelow_9 ?_
  refine lv_iload_n hx hb dX1_isMeanBelow_10 rfl (lv_at hl 3 rfl) ?_
  refine lv_i2l hx hb dX1_isMeanBelow_11 rfl ?_
  refine lv_aload_n hx hb dX1_isMeanBelow_12 rfl (lv_at hl 0 rfl) ?_
  refine lv_iload_n hx hb dX1_isMeanBelow_13 rfl (lv_at hl 1 rfl) ?_
  refine lv_iload_n hx hb dX1_isMeanBelow_14 rfl (lv_at hl 2 rfl) ?_
  have hPc := hP.sub (ws' := [(h, .inr (1, [.ref t1, .ref t2, .int (nI mf)])), (t1, .inr (6, [.int (nI 65), .ref a1])), (a1, .inl (cI, 1885, .inl f)), (t2, .inr (6, [.int (nI 65), .ref a2])), (a2, .inl (cI, 1885, .inl g))]) [0, 1, 2, 3, 4] rfl
  refine vp_callSl (W.runV (As := [.int (nI k), .int (nI j)]) (rest := [.long (pc0.toInt64), .long (100 * (t_top (f (k * 65 + j)) j (g (k * 65 + j))))]) ⟨hx, hb, hml, hown, hts⟩ (c_X1_meanBottom l D cI cL h t1 a1 t2 a2 mf f g k j (by omega) (by omega)) (cwV 2 hts gX1_isMeanBelow_X1_meanBottom rfl rfl rfl (by decide +kernel) ⟨Nat.le_of_ble_eq_true rfl, Nat.le_of_ble_eq_true rfl⟩) ⟨t_rPc_blind, va_recv hK hPc (ci := 1) (q0 := 0) rfl rfl, fun U hU hW => ⟨rfl, by rw [hU]; exact hPc, va_K.moved hW.alike hK⟩⟩ rfl rfl hl.1 rfl (lv_room (Nat.le_of_ble_eq_true rfl)) dX1_isMeanBelow_15 ⟨Nat.le_of_ble_eq_true rfl, Nat.le_of_ble_eq_true rfl⟩) (fun r_2 hr_2 => ?_)
  subst hr_2
  refine lv_lmul hx hb dX1_isMeanBelow_18 ?_
  refine W.lcmp hx hb dX1_isMeanBelow_19 ?_
  refine tv_cmp_ge (tgt := 27) hx hb dX1_isMeanBelow_20 (by decide) (fun q20_3 => ?_) (fun q20_3 => ?_)
  · refine lv_iconst (v := ((nI 0) : Int32)) hx hb dX1_isMeanBelow_27 (by decide +kernel) ?_
    exact W.zret (v := (nI 0)) hx hb hr rfl (fun t ht hW => ⟨_, rfl, (t_b_f (decide_eq_false (t_nlt q20_3))), ht⟩) (fun q h => by cases h) dX1_isMeanBelow_28 hlocks
  · refine lv_iconst (v := ((nI 1) : Int32)) hx hb dX1_isMeanBelow_23 (by decide +kernel) ?_
    refine lv_goto (tgt := 28) hx hb dX1_isMeanBelow_24 (by decide) ?_
    exact W.zret (v := (nI 1)) hx hb hr rfl (fun t ht hW => ⟨_, rfl, (t_b_t (decide_eq_true (t_nle q20_3))), ht⟩) (fun q h => by cases h) dX1_isMeanBelow_28 hlocks

set_option maxHeartbeats 4000000 in
set_option maxRecDepth 100000 in
theorem c_X1_isMeanLess (l : Launch) (D : va_G) (cI cL : ClassId) (h t1 a1 t2 a2 mf : Nat) (f g : Nat → Int32) (k j i : Nat) (hk : k < 29) (hj : j ≤ 64) (hi : i ≤ 64) : Met l yX1_isMeanLess wsX1_isMeanLess ({ frames := 3, cells := 0, slots := 0, locals := 120 }) (t_rPc D cI cL [.ref h, .int (nI k), .int (nI j), .int (nI i)] [(h, .inr (1, [.ref t1, .ref t2, .int (nI mf)])), (t1, .inr (6, [.int (nI 65), .ref a1])), (a1, .inl (cI, 1885, .inl f)), (t2, .inr (6, [.int (nI 65), .ref a2])), (a2, .inl (cI, 1885, .inl g))]) (vp_Si (fun r => r = t_b (t_less (t_r65 f k) (t_r65 g k) j i))) 0 0 (fun _ => False) := by
  refine t_ofR (by decide) rfl (Nat.le_of_ble_eq_true rfl) ?_
  intro p e s m below meth c ls hx hb hml hown hts hr hlocks hK hP hl
  have hown : s.vm.findClass RX1 = some m.cls := hown
  have hl : lv_has ls 4 [(0, .ref h), (1, .int (nI k)), (2, .int (nI j)), (3, .int (nI i))] := hl
  refine lv_aload_n hx hb dX1_isMeanLess_0 rfl (lv_at hl 0 rfl) ?_
  refine lv_iload_n hx hb dX1_isMeanLess_1 rfl (lv_at hl 1 rfl) ?_
  refine lv_iload_n hx hb dX1_isMeanLess_2 rfl (lv_at hl 2 rfl) ?_
  have hPc := hP.sub (ws' := [(h, .inr (1, [.ref t1, .ref t2, .int (nI mf)])), (t1, .inr (6, [.int (nI 65), .ref a1])), (a1, .inl (cI, 1885, .inl f)), (t2, .inr (6, [.int (nI 65), .ref a2])), (a2, .inl (cI, 1885, .inl g))]) [0, 1, 2, 3, 4] rfl
  refine vp_callSl (W.runV (As := [.int (nI k), .int (nI j)]) (rest := []) ⟨hx, hb, hml, hown, hts⟩ (c_X1_meanTop l D cI cL h t1 a1 t2 a2 mf f g k j (by omega) (by omega)) (cwV 2 hts gX1_isMeanLess_X1_meanTop rfl rfl rfl (by decide +kernel) ⟨Nat.le_of_ble_eq_true rfl, Nat.le_of_ble_eq_true rfl⟩) ⟨t_rPc_blind, va_recv hK hPc (ci := 1) (q0 := 0) rfl rfl, fun U hU hW => ⟨rfl, by rw [hU]; exact hPc, va_K.moved hW.alike hK⟩⟩ rfl rfl hl.1 rfl (lv_room (Nat.le_of_ble_eq_true rfl)) dX1_isMeanLess_3 ⟨Nat.le_of_ble_eq_true rfl, Nat.le_of_ble_eq_true rfl⟩) (fun r_1 hr_1 => ?_)
  subst hr_1
  refine lv_aload_n hx hb dX1_isMeanLess_6 rfl (lv_at hl 0 rfl) ?_
  refine lv_iload_n hx hb dX1_isMeanLess_7 rfl (lv_at hl 1 rfl) ?_
  refine lv_iload_n hx hb dX1_isMeanLess_8 rfl (lv_at hl 3 rfl) ?_
  have hPc := hP.sub (ws' := [(h, .inr (1, [.ref t1, .ref t2, .int (nI mf)])), (t1, .inr (6, [.int (nI 65), .ref a1])), (a1, .inl (cI, 1885, .inl f)), (t2, .inr (6, [.int (nI 65), .ref a2])), (a2, .inl (cI, 1885, .inl g))]) [0, 1, 2, 3, 4] rfl
  refine vp_callSl (W.runV (As := [.int (nI k), .int (nI i)]) (rest := [.long (t_top (f (k * 65 + j)) j (g (k * 65 + j)))]) ⟨hx, hb, hml, hown, hts⟩ (c_X1_meanBottom l D cI cL h t1 a1 t2 a2 mf f g k i (by omega) (by omega)) (cwV 2 hts gX1_isMeanLess_X1_meanBottom rfl rfl rfl (by decide +kernel) ⟨Nat.le_of_ble_eq_true rfl, Nat.le_of_ble_eq_true rfl⟩) ⟨t_rPc_blind, va_recv hK hPc (ci := 1) (q0 := 0) rfl rfl, fun U hU hW => ⟨rfl, by rw [hU]; exact hPc, va_K.moved hW.alike hK⟩⟩ rfl rfl hl.1 rfl (lv_room (Nat.le_of_ble_eq_true rfl)) dX1_isMeanLess_9 ⟨Nat.le_of_ble_eq_true rfl, Nat.le_of_ble_eq_true rfl⟩) (fun r_2 hr_2 => ?_)
  subst hr_2
  refine lv_lmul hx hb dX1_isMeanLess_12 ?_
  refine lv_aload_n hx hb dX1_isMeanLess_13 rfl (lv_at hl 0 rfl) ?_
  refine lv_iload_n hx hb dX1_isMeanLess_14 rfl (lv_at hl 1 rfl) ?_
  refine lv_iload_n hx hb dX1_isMeanLess_15 rfl (lv_at hl 3 rfl) ?_
  have hPc := hP.sub (ws' := [(h, .inr (1, [.ref t1, .ref t2, .int (nI mf)])), (t1, .inr (6, [.int (nI 65), .ref a1])), (a1, .inl (cI, 1885, .inl f)), (t2, .inr (6, [.int (nI 65), .ref a2])), (a2, .inl (cI, 1885, .inl g))]) [0, 1, 2, 3, 4] rfl
  refine vp_callSl (W.runV (As := [.int (nI k), .int (nI i)]) (rest := [.long ((t_top (f (k * 65 + j)) j (g (k * 65 + j))) * (t_bot (g (k * 65 + i))))]) ⟨hx, hb, hml, hown, hts⟩ (c_X1_meanTop l D cI cL h t1 a1 t2 a2 mf f g k i (by omega) (by omega)) (cwV 2 hts gX1_isMeanLess_X1_meanTop rfl rfl rfl (by decide +kernel) ⟨Nat.le_of_ble_eq_true rfl, Nat.le_of_ble_eq_true rfl⟩) ⟨t_rPc_blind, va_recv hK hPc (ci := 1) (q0 := 0) rfl rfl, fun U hU hW => ⟨rfl, by rw [hU]; exact hPc, va_K.moved hW.alike hK⟩⟩ rfl rfl hl.1 rfl (lv_room (Nat.le_of_ble_eq_true rfl)) dX1_isMeanLess_16 ⟨Nat.le_of_ble_eq_true rfl, Nat.le_of_ble_eq_true rfl⟩) (fun r_3 hr_3 => ?_)
  subst hr_3
  refine lv_aload_n hx hb dX1_isMeanLess_19 rfl (lv_at hl 0 rfl) ?_
  refine lv_iload_n hx hb dX1_isMeanLess_20 rfl (lv_at hl 1 rfl) ?_
  refine lv_iload_n hx hb dX1_isMeanLess_21 rfl (lv_at hl 2 rfl) ?_
  have hPc := hP.sub (ws' := [(h, .inr (1, [.ref t1, .ref t2, .int (nI mf)])), (t1, .inr (6, [.int (nI 65), .ref a1])), (a1, .inl (cI, 1885, .inl f)), (t2, .inr (6, [.int (nI 65), .ref a2])), (a2, .inl (cI, 1885, .inl g))]) [0, 1, 2, 3, 4] rfl
  refine vp_callSl (W.runV (As := [.int (nI k), .int (nI j)]) (rest := [.long (t_top (f (k * 65 + i)) i (g (k * 65 + i))), .long ((t_top (f (k * 65 + j)) j (g (k * 65 + j))) * (t_bot (g (k * 65 + i))))]) ⟨hx, hb, hml, hown, hts⟩ (c_X1_meanBottom l D cI cL h t1 a1 t2 a2 mf f g k j (by omega) (by omega)) (cwV 2 hts gX1_isMeanLess_X1_meanBottom rfl rfl rfl (by decide +kernel) ⟨Nat.le_of_ble_eq_true rfl, Nat.le_of_ble_eq_true rfl⟩) ⟨t_rPc_blind, va_recv hK hPc (ci := 1) (q0 := 0) rfl rfl, fun U hU hW => ⟨rfl, by rw [hU]; exact hPc, va_K.moved hW.alike hK⟩⟩ rfl rfl hl.1 rfl (lv_room (Nat.le_of_ble_eq_true rfl)) dX1_isMeanLess_22 ⟨Nat.le_of_ble_eq_true rfl, Nat.le_of_ble_eq_true rfl⟩) (fun r_4 hr_4 => ?_)
  subst hr_4
  refine lv_lmul hx hb dX1_isMeanLess_25 ?_
  refine W.lcmp hx hb dX1_isMeanLess_26 ?_
  refine tv_cmp_ge (tgt := 34) hx hb dX1_isMeanLess_27 (by decide) (fun q27_5 => ?_) (fun q27_5 => ?_)
  · refine lv_iconst (v := ((nI 0) : Int32)) hx hb dX1_isMeanLess_34 (by decide +kernel) ?_
    exact W.zret (v := (nI 0)) hx hb hr rfl (fun t ht hW => ⟨_, rfl, (t_b_f (decide_eq_false (t_nlt q27_5))), ht⟩) (fun q h => by cases h) dX1_isMeanLess_35 hlocks
  · refine lv_iconst (v := ((nI 1) : Int32)) hx hb dX1_isMeanLess_30 (by decide +kernel) ?_
    refine lv_goto (tgt := 35) hx hb dX1_isMeanLess_31 (by decide) ?_
    exact W.zret (v := (nI 1)) hx hb hr rfl (fun t ht hW => ⟨_, rfl, (t_b_t (decide_eq_true (t_nle q27_5))), ht⟩) (fun q h => by cases h) dX1_isMeanLess_35 hlocks

set_option maxHeartbeats 4000000 in
set_option maxRecDepth 100000 in
theorem c_X1_meanInThousandths (l : Launch) (D : va_G) (cI cL : ClassId) (h t1 a1 t2 a2 mf : Nat) (f g : Nat → Int32) (k j : Nat) (hk : k < 29) (hj : j ≤ 64) : Met l yX1_meanInThousandths wsX1_meanInThousandths ({ frames := 3, cells := 0, slots := 0, locals := 120 }) (t_rPcX D cI cL [.ref h, .int (nI k), .int (nI j)] [(h, .inr (1, [.ref t1, .ref t2, .int (nI mf)])), (t1, .inr (6, [.int (nI 65), .ref a1])), (a1, .inl (cI, 1885, .inl f)), (t2, .inr (6, [.int (nI 65), .ref a2])), (a2, .inl (cI, 1885, .inl g))]) (vp_Si (fun r => r = (t_mean (t_r65 f k) (t_r65 g k) j))) 0 0 (fun _ => False) := by
  refine t_ofRX (by decide) rfl (Nat.le_of_ble_eq_true rfl) ?_
  intro p e s m below meth c ls hx hb hml hown hts hr hlocks hK hP hX hl
  have hown : s.vm.findClass RX1 = some m.cls := hown
  have hl : lv_has ls 3 [(0, .ref h), (1, .int (nI k)), (2, .int (nI j))] := hl
  refine lv_ldc2 (v := 1000) hx hb hown (hts (.constantLong RX1 48 (1000)) (List.mem_of_getElem? (i := 1) rfl)) dX1_meanInThousandths_0 ?_
  refine lv_aload_n hx hb dX1_meanInThousandths_3 rfl (lv_at hl 0 rfl) ?_
  refine lv_iload_n hx hb dX1_meanInThousandths_4 rfl (lv_at hl 1 rfl) ?_
  refine lv_iload_n hx hb dX1_meanInThousandths_5 rfl (lv_at hl 2 rfl) ?_
  have hPc := hP.sub (ws' := [(h, .inr (1, [.ref t1, .ref t2, .int (nI mf)])), (t1, .inr (6, [.int (nI 65), .ref a1])), (a1, .inl (cI, 1885, .inl f)), (t2, .inr (6, [.int (nI 65), .ref a2])), (a2, .inl (cI, 1885, .inl g))]) [0, 1, 2, 3, 4] rfl
  refine vp_callSl (W.runV (As := [.int (nI k), .int (nI j)]) (rest := [.long 1000]) ⟨hx, hb, hml, hown, hts⟩ (c_X1_meanTop l D cI cL h t1 a1 t2 a2 mf f g k j (by omega) (by omega)) (cwV 2 hts gX1_meanInThousandths_X1_meanTop rfl rfl rfl (by decide +kernel) ⟨Nat.le_of_ble_eq_true rfl, Nat.le_of_ble_eq_true rfl⟩) ⟨t_rPc_blind, va_recv hK hPc (ci := 1) (q0 := 0) rfl rfl, fun U hU hW => ⟨rfl, by rw [hU]; exact hPc, va_K.moved hW.alike hK⟩⟩ rfl rfl hl.1 rfl (lv_room (Nat.le_of_ble_eq_true rfl)) dX1_meanInThousandths_6 ⟨Nat.le_of_ble_eq_true rfl, Nat.le_of_ble_eq_true rfl⟩) (fun r_1 hr_1 => ?_)
  subst hr_1
  refine lv_lmul hx hb dX1_meanInThousandths_9 ?_
  refine lv_aload_n hx hb dX1_meanInThousandths_10 rfl (lv_at hl 0 rfl) ?_
  refine lv_iload_n hx hb dX1_meanInThousandths_11 rfl (lv_at hl 1 rfl) ?_
  refine lv_iload_n hx hb dX1_meanInThousandths_12 rfl (lv_at hl 2 rfl) ?_
  have hPc := hP.sub (ws' := [(h, .inr (1, [.ref t1, .ref t2, .int (nI mf)])), (t1, .inr (6, [.int (nI 65), .ref a1])), (a1, .inl (cI, 1885, .inl f)), (t2, .inr (6, [.int (nI 65), .ref a2])), (a2, .inl (cI, 1885, .inl g))]) [0, 1, 2, 3, 4] rfl
  refine vp_callSl (W.runV (As := [.int (nI k), .int (nI j)]) (rest := [.long (1000 * (t_top (f (k * 65 + j)) j (g (k * 65 + j))))]) ⟨hx, hb, hml, hown, hts⟩ (c_X1_meanBottom l D cI cL h t1 a1 t2 a2 mf f g k j (by omega) (by omega)) (cwV 2 hts gX1_meanInThousandths_X1_meanBottom rfl rfl rfl (by decide +kernel) ⟨Nat.le_of_ble_eq_true rfl, Nat.le_of_ble_eq_true rfl⟩) ⟨t_rPc_blind, va_recv hK hPc (ci := 1) (q0 := 0) rfl rfl, fun U hU hW => ⟨rfl, by rw [hU]; exact hPc, va_K.moved hW.alike hK⟩⟩ rfl rfl hl.1 rfl (lv_room (Nat.le_of_ble_eq_true rfl)) dX1_meanInThousandths_13 ⟨Nat.le_of_ble_eq_true rfl, Nat.le_of_ble_eq_true rfl⟩) (fun r_2 hr_2 => ?_)
  subst hr_2
  have hPc := hP.sub (ws' := []) [] rfl
  refine vp_callSl (t_runOf <| va_runSN (As := [.long (1000 * (t_top (f (k * 65 + j)) j (g (k * 65 + j)))), .long (t_bot (g (k * 65 + j)))]) (rest := []) ⟨hx, hb, hml, hown, hts⟩ (c_X8_quotient l D cI cL (1000 * (t_top (f (k * 65 + j)) j (g (k * 65 + j)))) (t_bot (g (k * 65 + j)))) ⟨va_cnB 2 hts gX1_meanInThousandths_X8_quotient_n57 rfl rfl rfl hX.1.1 (hts (.initialized RX8) (List.mem_of_getElem? (i := 21) rfl)) (by decide +kernel) ⟨Nat.le_of_ble_eq_true rfl, Nat.le_of_ble_eq_true rfl⟩, (hts (.static yX8_quotient) (List.mem_of_getElem? (i := 20) rfl)), trivial⟩ ⟨t_rPc_blind, fun U hU hW => ⟨rfl, by rw [hU]; exact hPc, va_K.moved hW.alike hK⟩⟩ rfl rfl hl.1 rfl (lv_room (Nat.le_of_ble_eq_true rfl)) dX1_meanInThousandths_16 ⟨Nat.le_of_ble_eq_true rfl, Nat.le_of_ble_eq_true rfl⟩) (fun r_3 hr_3 => ?_)
  subst hr_3
  refine lv_l2i hx hb dX1_meanInThousandths_19 rfl ?_
  exact W.iret (v := ((t_quo (1000 * (t_top (f (k * 65 + j)) j (g (k * 65 + j)))) (t_bot (g (k * 65 + j)))).toInt32)) hx hb hr (fun t ht hW => ⟨_, rfl, rfl, ht⟩) (fun q h => by cases h) dX1_meanInThousandths_20 hlocks
