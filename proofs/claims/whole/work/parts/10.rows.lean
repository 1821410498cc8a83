set_option maxHeartbeats 4000000 in
set_option maxRecDepth 100000 in
/-- Row(29) -/
theorem c_X4_init_29 (l : Launch) (D : va_G) (cI cL : ClassId) (h : Nat) (sz : Nat) : Met l yX4_init wsX4_init ({ frames := 1, cells := 1, slots := 29, locals := 20 }) (t_wPc D cI cL [.ref h, .int (nI 29)] [(h, .inr (4, [.null]))] sz) (t_Qv D cI cL (fun w1 => ∃ a : Nat, w1 = [(h, .inr (4, [.ref a])), (a, .inl (cI, 29, .inl (fun _ => nI 0)))]) (va_A [(h, .inr (4, [.null]))] sz)) 1 29 (va_A [(h, .inr (4, [.null]))] sz) := by
  refine t_ofW (Qc := t_Qv D cI cL (fun w1 => ∃ a : Nat, w1 = [(h, .inr (4, [.ref a])), (a, .inl (cI, 29, .inl (fun _ => nI 0)))])) (by decide) rfl (Nat.le_of_ble_eq_true rfl) ?_
  intro p e s m below meth c ls A hx hb hml hown hts hr hlocks hin hK hP hD hS hA hl
  have hown : s.vm.findClass RX4 = some m.cls := hown
  have hl : lv_has ls 2 [(0, .ref h), (1, .int (nI 29))] := hl
  refine lv_aload_n hx hb dX4_init_0 rfl (lv_at hl 0 rfl) ?_
  refine W.objInit hx hb hown (hts (.methodLink RX4 1 objectInit) (List.mem_of_getElem? (i := 1) rfl)) (hts (.instanceMethod objectInit) (List.mem_of_getElem? (i := 2) rfl)) (hts (.code objectInit ⟨#[0xb1]⟩ 1 none) (List.mem_of_getElem? (i := 3) rfl)) rfl (by rw [hml]; exact hl.1) rfl dX4_init_1 (Nat.le_of_ble_eq_true rfl) (Nat.le_of_ble_eq_true rfl) ?_
  refine W.eq (g2 := F0 m 4 ls []) rfl ?_
  refine lv_aload_n hx hb dX4_init_4 rfl (lv_at hl 0 rfl) ?_
  refine lv_iload_n hx hb dX4_init_5 rfl (lv_at hl 1 rfl) ?_
  refine tv_if_le (tgt := 13) hx hb dX4_init_6 (by decide) (by omega) (fun q6_1 => absurd q6_1 (by omega)) (fun q6_1 => ?_)
  refine lv_iload_n hx hb dX4_init_9 rfl (lv_at hl 1 rfl) ?_
  refine lv_goto (tgt := 14) hx hb dX4_init_10 (by decide) ?_
  refine tv_newi hx hb (hts (.arrayClass .int) (List.mem_of_getElem? (i := 4) rfl)) hK hP hD hS hA (by omega) (Nat.le_of_ble_eq_true rfl) (Nat.le_of_ble_eq_true rfl) dX4_init_14 (fun b_2 H hP hD hS => ?_)
  have hP : va_P D vwCl [(h, .inr (4, [.null])), (b_2, .inl (cI, 29, .inl (fun _ => nI 0)))] H := hP
  have hD : va_D A [(h, .inr (4, [.null])), (b_2, .inl (cI, 29, .inl (fun _ => nI 0)))] := hD
  refine W.widen (k := 1) (n := 29) (by omega) (by omega) ?_
  refine va_putF (D := D) (ci := 4) (v := .ref b_2) (ty := tyX4 0) (C := RX4) (T := TX4) (N := 1) hx hb hts (fun _ h => List.mem_cons_of_mem _ (List.mem_append_right _ h)) tyX4 tyX4_ok nmX4 hown hK hP hD hS 0 rfl rfl 0 (by decide) (hts (.fieldLink RX4 7 "PitchTracker$Row" "cells" "[I") (List.mem_of_getElem? (i := 5) rfl)) (fun _ h9 => h9) rfl hin rfl (by decide +kernel) rfl rfl (Nat.le_of_ble_eq_true rfl) dX4_init_16 (fun H locs hP hD hS => ?_)
  have hP : va_P D vwCl [(h, .inr (4, [.ref b_2])), (b_2, .inl (cI, 29, .inl (fun _ => nI 0)))] H := hP
  have hD : va_D A [(h, .inr (4, [.ref b_2])), (b_2, .inl (cI, 29, .inl (fun _ => nI 0)))] := hD
  have hP9 := hP
  have hD9 := hD
  exact W.vret hx hb hr (fun t ht hW => ⟨⟨[(h, .inr (4, [.ref b_2])), (b_2, .inl (cI, 29, .inl (fun _ => nI 0)))], rfl, ⟨b_2, rfl⟩, ⟨by rw [ht]; exact hP9, va_K.moved hW.alike hK, hD9⟩⟩, hS.F ht⟩) hS.2.2 dX4_init_19 hlocks

set_option maxHeartbeats 4000000 in
set_option maxRecDepth 100000 in
/-- Row.at, inside -/
theorem c_X4_at (l : Launch) (D : va_G) (cI cL : ClassId) (h a n : Nat) (f : Nat → Int32) (k : Nat) (hk : k < n) (hn : n < 2147483648) : Met l yX4_at wsX4_at ({ frames := 0, cells := 0, slots := 0, locals := 0 }) (t_rPc D cI cL [.ref h, .int (nI k)] [(h, .inr (4, [.ref a])), (a, .inl (cI, n, .inl f))]) (vp_Si (fun r => r = (f k))) 0 0 (fun _ => False) := by
  refine t_ofR (by decide) rfl (Nat.le_of_ble_eq_true rfl) ?_
  intro p e s m below meth c ls hx hb hml hown hts hr hlocks hK hP hl
  have hown : s.vm.findClass RX4 = some m.cls := hown
  have hl : lv_has ls 2 [(0, .ref h), (1, .int (nI k))] := hl
  refine lv_iload_n hx hb dX4_at_0 rfl (lv_at hl 1 rfl) ?_
  refine tv_if_lt (tgt := 22) hx hb dX4_at_1 (by decide) (by omega) ?_
  refine lv_iload_n hx hb dX4_at_4 rfl (lv_at hl 1 rfl) ?_
  refine lv_aload_n hx hb dX4_at_5 rfl (lv_at hl 0 rfl) ?_
  refine va_get (D := D) (ci := 4) (v := .ref a) (C := RX4) (T := TX4) (N := 1) hx hb hts (fun _ h => List.mem_cons_of_mem _ (List.mem_append_right _ h)) hown hK hP 0 rfl rfl 0 (by decide) (hts (.fieldLink RX4 7 "PitchTracker$Row" "cells" "[I") (List.mem_of_getElem? (i := 1) rfl)) (fun _ h9 => h9) rfl dX4_at_6 ?_
  refine va_alen (v := nI n) hx hb hK hP 1 0 rfl (ty := .int) rfl rfl dX4_at_9 ?_
  refine tv_icmp_ge (tgt := 22) hx hb dX4_at_10 (by decide) (by omega) (by omega) (fun q10_1 => absurd q10_1 (by omega)) (fun q10_1 => ?_)
  refine lv_aload_n hx hb dX4_at_13 rfl (lv_at hl 0 rfl) ?_
  refine va_get (D := D) (ci := 4) (v := .ref a) (C := RX4) (T := TX4) (N := 1) hx hb hts (fun _ h => List.mem_cons_of_mem _ (List.mem_append_right _ h)) hown hK hP 0 rfl rfl 0 (by decide) (hts (.fieldLink RX4 7 "PitchTracker$Row" "cells" "[I") (List.mem_of_getElem? (i := 1) rfl)) (fun _ h9 => h9) rfl dX4_at_14 ?_
  refine lv_iload_n hx hb dX4_at_17 rfl (lv_at hl 1 rfl) ?_
  refine tv_iald hx hb hK hP 1 0 rfl rfl (by omega) (by omega) dX4_at_18 ?_
  refine lv_goto (tgt := 23) hx hb dX4_at_19 (by decide) ?_
  exact W.iret (v := (f k)) hx hb hr (fun t ht hW => ⟨_, rfl, rfl, ht⟩) (fun q h => by cases h) dX4_at_23 hlocks

set_option maxHeartbeats 4000000 in
set_option maxRecDepth 100000 in
/-- Row.at, at -1 -/
theorem c_X4_at_m (l : Launch) (D : va_G) (cI cL : ClassId) (h a n : Nat) (f : Nat → Int32) : Met l yX4_at wsX4_at ({ frames := 0, cells := 0, slots := 0, locals := 0 }) (t_rPc D cI cL [.ref h, .int (-1)] [(h, .inr (4, [.ref a])), (a, .inl (cI, n, .inl f))]) (vp_Si (fun r => r = (nI 0))) 0 0 (fun _ => False) := by
  refine t_ofR (by decide) rfl (Nat.le_of_ble_eq_true rfl) ?_
  intro p e s m below meth c ls hx hb hml hown hts hr hlocks hK hP hl
  have hown : s.vm.findClass RX4 = some m.cls := hown
  have hl : lv_has ls 2 [(0, .ref h), (1, .int (-1))] := hl
  refine lv_iload_n hx hb dX4_at_0 rfl (lv_at hl 1 rfl) ?_
  refine lv_if_lt (tgt := 22) hx hb dX4_at_1 (by decide) (fun q1_1 => ?_) (fun q1_1 => absurd (by decide) q1_1)
  refine lv_iconst (v := ((nI 0) : Int32)) hx hb dX4_at_22 (by decide +kernel) ?_
  exact W.iret (v := (nI 0)) hx hb hr (fun t ht hW => ⟨_, rfl, rfl, ht⟩) (fun q h => by cases h) dX4_at_23 hlocks

set_option maxHeartbeats 4000000 in
set_option maxRecDepth 100000 in
/-- Row.put, inside -/
theorem c_X4_put (l : Launch) (D : va_G) (cI cL : ClassId) (h a n : Nat) (f : Nat → Int32) (k : Nat) (x : Int32) (hk : k < n) (hn : n < 2147483648) (sz : Nat) : Met l yX4_put wsX4_put ({ frames := 0, cells := 0, slots := 0, locals := 0 }) (t_wPc D cI cL [.ref h, .int (nI k), .int x] [(h, .inr (4, [.ref a])), (a, .inl (cI, n, .inl f))] sz) (t_Qv D cI cL (fun w1 => w1 = [(h, .inr (4, [.ref a])), (a, .inl (cI, n, .inl (upd f k x)))]) (va_A [(h, .inr (4, [.ref a])), (a, .inl (cI, n, .inl f))] sz)) 0 0 (va_A [(h, .inr (4, [.ref a])), (a, .inl (cI, n, .inl f))] sz) := by
  refine t_ofW (Qc := t_Qv D cI cL (fun w1 => w1 = [(h, .inr (4, [.ref a])), (a, .inl (cI, n, .inl (upd f k x)))])) (by decide) rfl (Nat.le_of_ble_eq_true rfl) ?_
  intro p e s m below meth c ls A hx hb hml hown hts hr hlocks hin hK hP hD hS hA hl
  have hown : s.vm.findClass RX4 = some m.cls := hown
  have hl : lv_has ls 3 [(0, .ref h), (1, .int (nI k)), (2, .int x)] := hl
  refine lv_iload_n hx hb dX4_put_0 rfl (lv_at hl 1 rfl) ?_
  refine tv_if_lt (tgt := 20) hx hb dX4_put_1 (by decide) (by omega) ?_
  refine lv_iload_n hx hb dX4_put_4 rfl (lv_at hl 1 rfl) ?_
  refine lv_aload_n hx hb dX4_put_5 rfl (lv_at hl 0 rfl) ?_
  refine va_get (D := D) (ci := 4) (v := .ref a) (C := RX4) (T := TX4) (N := 1) hx hb hts (fun _ h => List.mem_cons_of_mem _ (List.mem_append_right _ h)) hown hK hP 0 rfl rfl 0 (by decide) (hts (.fieldLink RX4 7 "PitchTracker$Row" "cells" "[I") (List.mem_of_getElem? (i := 1) rfl)) (fun _ h9 => h9) rfl dX4_put_6 ?_
  refine va_alen (v := nI n) hx hb hK hP 1 0 rfl (ty := .int) rfl rfl dX4_put_9 ?_
  refine tv_icmp_ge (tgt := 20) hx hb dX4_put_10 (by decide) (by omega) (by omega) (fun q10_1 => absurd q10_1 (by omega)) (fun q10_1 => ?_)
  refine lv_aload_n hx hb dX4_put_13 rfl (lv_at hl 0 rfl) ?_
  refine va_get (D := D) (ci := 4) (v := .ref a) (C := RX4) (T := TX4) (N := 1) hx hb hts (fun _ h => List.mem_cons_of_mem _ (List.mem_append_right _ h)) hown hK hP 0 rfl rfl 0 (by decide) (hts (.fieldLink RX4 7 "PitchTracker$Row" "cells" "[I") (List.mem_of_getElem? (i := 1) rfl)) (fun _ h9 => h9) rfl dX4_put_14 ?_
  refine lv_iload_n hx hb dX4_put_17 rfl (lv_at hl 1 rfl) ?_
  refine lv_iload_n hx hb dX4_put_18 rfl (lv_at hl 2 rfl) ?_
  refine tv_iast hx hb hK hP hD hS 1 0 rfl rfl (by omega) (by omega) dX4_put_19 (fun H locs hP hD hS => ?_)
  have hP : va_P D vwCl [(h, .inr (4, [.ref a])), (a, .inl (cI, n, .inl (upd f k x)))] H := hP
  have hD : va_D A [(h, .inr (4, [.ref a])), (a, .inl (cI, n, .inl (upd f k x)))] := hD
  have hP9 := hP
  have hD9 := hD
  exact W.vret hx hb hr (fun t ht hW => ⟨⟨[(h, .inr (4, [.ref a])), (a, .inl (cI, n, .inl (upd f k x)))], rfl, rfl, ⟨by rw [ht]; exact hP9, va_K.moved hW.alike hK, hD9⟩⟩, hS.F ht⟩) hS.2.2 dX4_put_20 hlocks

set_option maxHeartbeats 4000000 in
set_option maxRecDepth 100000 in
/-- Table(65) -/
theorem c_X6_init_65 (l : Launch) (D : va_G) (cI cL : ClassId) (h : Nat) (sz : Nat) : Met l yX6_init wsX6_init ({ frames := 1, cells := 1, slots := 1885, locals := 20 }) (t_wPc D cI cL [.ref h, .int (nI 65)] [(h, .inr (6, [.int (nI 0), .null]))] sz) (t_Qv D cI cL (fun w1 => ∃ a : Nat, w1 = [(h, .inr (6, [.int (nI 65), .ref a])), (a, .inl (cI, 1885, .inl (fun _ => nI 0)))]) (va_A [(h, .inr (6, [.int (nI 0), .null]))] sz)) 1 1885 (va_A [(h, .inr (6, [.int (nI 0), .null]))] sz) := by
  refine t_ofW (Qc := t_Qv D cI cL (fun w1 => ∃ a : Nat, w1 = [(h, .inr (6, [.int (nI 65), .ref a])), (a, .inl (cI, 1885, .inl (fun _ => nI 0)))])) (by decide) rfl (Nat.le_of_ble_eq_true rfl) ?_
  intro p e s m below meth c ls A hx hb hml hown hts hr hlocks hin hK hP hD hS hA hl
  have hown : s.vm.findClass RX6 = some m.cls := hown
  have hl : lv_has ls 3 [(0, .ref h), (1, .int (nI 65))] := hl
  refine lv_aload_n hx hb dX6_init_0 rfl (lv_at hl 0 rfl) ?_
  refine W.objInit hx hb hown (hts (.methodLink RX6 3 objectInit) (List.mem_of_getElem? (i := 1) rfl)) (hts (.instanceMethod objectInit) (List.mem_of_getElem? (i := 2) rfl)) (hts (.code objectInit ⟨#[0xb1]⟩ 1 none) (List.mem_of_getElem? (i := 3) rfl)) rfl (by rw [hml]; exact hl.1) rfl dX6_init_1 (Nat.le_of_ble_eq_true rfl) (Nat.le_of_ble_eq_true rfl) ?_
  refine W.eq (g2 := F0 m 4 ls []) rfl ?_
  refine lv_aload_n hx hb dX6_init_4 rfl (lv_at hl 0 rfl) ?_
  refine lv_iload_n hx hb dX6_init_5 rfl (lv_at hl 1 rfl) ?_
  refine va_putF (D := D) (ci := 6) (v := .int (nI 65)) (ty := .int) (C := RX6) (T := TX6) (N := 2) hx hb hts (fun _ h => List.mem_cons_of_mem _ (List.mem_append_right _ h)) tyX6 tyX6_ok nmX6 hown hK hP hD hS 0 rfl rfl 0 (by decide) (hts (.fieldLink RX6 9 "PitchTracker$Table" "columns" "I") (List.mem_of_getElem? (i := 4) rfl)) (fun _ h9 => h9) rfl hin rfl (by decide +kernel) rfl rfl (Nat.le_of_ble_eq_true rfl) dX6_init_6 (fun H locs hP hD hS => ?_)
  have hP : va_P D vwCl [(h, .inr (6, [.int (nI 65), .null]))] H := hP
  have hD : va_D A [(h, .inr (6, [.int (nI 65), .null]))] := hD
  refine lv_bipush (v := ((nI 29) : Int32)) hx hb dX6_init_9 (by decide +kernel) ?_
  refine lv_iload_n hx hb dX6_init_11 rfl (lv_at hl 1 rfl) ?_
  refine tv_imul (a := 29) (b := 65) hx hb dX6_init_12 ?_
  refine tv_re (y := (nI 1885)) rfl ?_
  refine lv_istore_n (lv' := [(2, .int (nI 1885)), (0, .ref h), (1, .int (nI 65))]) hx hb dX6_init_13 rfl hl (by decide) rfl (fun ls hl => ?_)
  refine lv_aload_n hx hb dX6_init_14 rfl (lv_at hl 1 rfl) ?_
  refine lv_iload_n hx hb dX6_init_15 rfl (lv_at hl 0 rfl) ?_
  refine tv_if_le (tgt := 23) hx hb dX6_init_16 (by decide) (by omega) (fun q16_1 => absurd q16_1 (by omega)) (fun q16_1 => ?_)
  refine lv_iload_n hx hb dX6_init_19 rfl (lv_at hl 0 rfl) ?_
  refine lv_goto (tgt := 24) hx hb dX6_init_20 (by decide) ?_
  refine tv_newi hx hb (hts (.arrayClass .int) (List.mem_of_getElem? (i := 5) rfl)) hK hP hD hS hA (by omega) (Nat.le_of_ble_eq_true rfl) (Nat.le_of_ble_eq_true rfl) dX6_init_24 (fun b_2 H hP hD hS => ?_)
  have hP : va_P D vwCl [(h, .inr (6, [.int (nI 65), .null])), (b_2, .inl (cI, 1885, .inl (fun _ => nI 0)))] H := hP
  have hD : va_D A [(h, .inr (6, [.int (nI 65), .null])), (b_2, .inl (cI, 1885, .inl (fun _ => nI 0)))] := hD
  refine W.widen (k := 1) (n := 1885) (by omega) (by omega) ?_
  refine va_putF (D := D) (ci := 6) (v := .ref b_2) (ty := tyX6 1) (C := RX6) (T := TX6) (N := 2) hx hb hts (fun _ h => List.mem_cons_of_mem _ (List.mem_append_right _ h)) tyX6 tyX6_ok nmX6 hown hK hP hD hS 0 rfl rfl 1 (by decide) (hts (.fieldLink RX6 15 "PitchTracker$Table" "cells" "[I") (List.mem_of_getElem? (i := 6) rfl)) (fun _ h9 => h9) rfl hin rfl (by decide +kernel) rfl rfl (Nat.le_of_ble_eq_true rfl) dX6_init_26 (fun H locs hP hD hS => ?_)
  have hP : va_P D vwCl [(h, .inr (6, [.int (nI 65), .ref b_2])), (b_2, .inl (cI, 1885, .inl (fun _ => nI 0)))] H := hP
  have hD : va_D A [(h, .inr (6, [.int (nI 65), .ref b_2])), (b_2, .inl (cI, 1885, .inl (fun _ => nI 0)))] := hD
  have hP9 := hP
  have hD9 := hD
  exact W.vret hx hb hr (fun t ht hW => ⟨⟨[(h, .inr (6, [.int (nI 65), .ref b_2])), (b_2, .inl (cI, 1885, .inl (fun _ => nI 0)))], rfl, ⟨b_2, rfl⟩, ⟨by rw [ht]; exact hP9, va_K.moved hW.alike hK, hD9⟩⟩, hS.F ht⟩) hS.2.2 dX6_init_29 hlocks

set_option maxHeartbeats 4000000 in
set_option maxRecDepth 100000 in
/-- Table(9) -/
theorem c_X6_init_9 (l : Launch) (D : va_G) (cI cL : ClassId) (h : Nat) (sz : Nat) : Met l yX6_init wsX6_init ({ frames := 1, cells := 1, slots := 261, locals := 20 }) (t_wPc D cI cL [.ref h, .int (nI 9)] [(h, .inr (6, [.int (nI 0), .null]))] sz) (t_Qv D cI cL (fun w1 => ∃ a : Nat, w1 = [(h, .inr (6, [.int (nI 9), .ref a])), (a, .inl (cI, 261, .inl (fun _ => nI 0)))]) (va_A [(h, .inr (6, [.int (nI 0), .null]))] sz)) 1 261 (va_A [(h, .inr (6, [.int (nI 0), .null]))] sz) := by
  refine t_ofW (Qc := t_Qv D cI cL (fun w1 => ∃ a : Nat, w1 = [(h, .inr (6, [.int (nI 9), .ref a])), (a, .inl (cI, 261, .inl (fun _ => nI 0)))])) (by decide) rfl (Nat.le_of_ble_eq_true rfl) ?_
  intro p e s m below meth c ls A hx hb hml hown hts hr hlocks hin hK hP hD hS hA hl
  have hown : s.vm.findClass RX6 = some m.cls := hown
  have hl : lv_has ls 3 [(0, .ref h), (1, .int (nI 9))] := hl
  refine lv_aload_n hx hb dX6_init_0 rfl (lv_at hl 0 rfl) ?_
  refine W.objInit hx hb hown (hts (.methodLink RX6 3 objectInit) (List.mem_of_getElem? (i := 1) rfl)) (hts (.instanceMethod objectInit) (List.mem_of_getElem? (i := 2) rfl)) (hts (.code objectInit ⟨#[0xb1]⟩ 1 none) (List.mem_of_getElem? (i := 3) rfl)) rfl (by rw [hml]; exact hl.1) rfl dX6_init_1 (Nat.le_of_ble_eq_true rfl) (Nat.le_of_ble_eq_true rfl) ?_
  refine W.eq (g2 := F0 m 4 ls []) rfl ?_
  refine lv_aload_n hx hb dX6_init_4 rfl (lv_at hl 0 rfl) ?_
  refine lv_iload_n hx hb dX6_init_5 rfl (lv_at hl 1 rfl) ?_
  refine va_putF (D := D) (ci := 6) (v := .int (nI 9)) (ty := .int) (C := RX6) (T := TX6) (N := 2) hx hb hts (fun _ h => List.mem_cons_of_mem _ (List.mem_append_right _ h)) tyX6 tyX6_ok nmX6 hown hK hP hD hS 0 rfl rfl 0 (by decide) (hts (.fieldLink RX6 9 "PitchTracker$Table" "columns" "I") (List.mem_of_getElem? (i := 4) rfl)) (fun _ h9 => h9) rfl hin rfl (by decide +kernel) rfl rfl (Nat.le_of_ble_eq_true rfl) dX6_init_6 (fun H locs hP hD hS => ?_)
  have hP : va_P D vwCl [(h, .inr (6, [.int (nI 9), .null]))] H := hP
  have hD : va_D A [(h, .inr (6, [.int (nI 9), .null]))] := hD
  refine lv_bipush (v := ((nI 29) : Int32)) hx hb dX6_init_9 (by decide +kernel) ?_
  refine lv_iload_n hx hb dX6_init_11 rfl (lv_at hl 1 rfl) ?_
  refine tv_imul (a := 29) (b := 9) hx hb dX6_init_12 ?_
  refine tv_re (y := (nI 261)) rfl ?_
  refine lv_istore_n (lv' := [(2, .int (nI 261)), (0, .ref h), (1, .int (nI 9))]) hx hb dX6_init_13 rfl hl (by decide) rfl (fun ls hl => ?_)
  refine lv_aload_n hx hb dX6_init_14 rfl (lv_at hl 1 rfl) ?_
  refine lv_iload_n hx hb dX6_init_15 rfl (lv_at hl 0 rfl) ?_
  refine tv_if_le (tgt := 23) hx hb dX6_init_16 (by decide) (by omega) (fun q16_1 => absurd q16_1 (by omega)) (fun q16_1 => ?_)
  refine lv_iload_n hx hb dX6_init_19 rfl (lv_at hl 0 rfl) ?_
  refine lv_goto (tgt := 24) hx hb dX6_init_20 (by decide) ?_
  refine tv_newi hx hb (hts (.arrayClass .int) (List.mem_of_getElem? (i := 5) rfl)) hK hP hD hS hA (by omega) (Nat.le_of_ble_eq_true rfl) (Nat.le_of_ble_eq_true rfl) dX6_init_24 (fun b_2 H hP hD hS => ?_)
  have hP : va_P D vwCl [(h, .inr (6, [.int (nI 9), .null])), (b_2, .inl (cI, 261, .inl (fun _ => nI 0)))] H := hP
  have hD : va_D A [(h, .inr (6, [.int (nI 9), .null])), (b_2, .inl (cI, 261, .inl (fun _ => nI 0)))] := hD
  refine W.widen (k := 1) (n := 261) (by omega) (by omega) ?_
  refine va_putF (D := D) (ci := 6) (v := .ref b_2) (ty := tyX6 1) (C := RX6) (T := TX6) (N := 2) hx hb hts (fun _ h => List.mem_cons_of_mem _ (List.mem_append_right _ h)) tyX6 tyX6_ok nmX6 hown hK hP hD hS 0 rfl rfl 1 (by decide) (hts (.fieldLink RX6 15 "PitchTracker$Table" "cells" "[I") (List.mem_of_getElem? (i := 6) rfl)) (fun _ h9 => h9) rfl hin rfl (by decide +kernel) rfl rfl (Nat.le_of_ble_eq_true rfl) dX6_init_26 (fun H locs hP hD hS => ?_)
  have hP : va_P D vwCl [(h, .inr (6, [.int (nI 9), .ref b_2])), (b_2, .inl (cI, 261, .inl (fun _ => nI 0)))] H := hP
  have hD : va_D A [(h, .inr (6, [.int (nI 9), .ref b_2])), (b_2, .inl (cI, 261, .inl (fun _ => nI 0)))] := hD
  have hP9 := hP
  have hD9 := hD
  exact W.vret hx hb hr (fun t ht hW => ⟨⟨[(h, .inr (6, [.int (nI 9), .ref b_2])), (b_2, .inl (cI, 261, .inl (fun _ => nI 0)))], rfl, ⟨b_2, rfl⟩, ⟨by rw [ht]; exact hP9, va_K.moved hW.alike hK, hD9⟩⟩, hS.F ht⟩) hS.2.2 dX6_init_29 hlocks

set_option maxHeartbeats 4000000 in
set_option maxRecDepth 100000 in
/-- Table.at, inside -/
theorem c_X6_at (l : Launch) (D : va_G) (cI cL : ClassId) (h a n cs : Nat) (f : Nat → Int32) (k j : Nat) (hj : j < cs) (hc : cs < 2147483648) (hk : k * cs + j < n) (hn : n < 2147483648) : Met l yX6_at wsX6_at ({ frames := 0, cells := 0, slots := 0, locals := 0 }) (t_rPc D cI cL [.ref h, .int (nI k), .int (nI j)] [(h, .inr (6, [.int (nI cs), .ref a])), (a, .inl (cI, n, .inl f))]) (vp_Si (fun r => r = (f (k * cs + j)))) 0 0 (fun _ => False) := by
  refine t_ofR (by decide) rfl (Nat.le_of_ble_eq_true rfl) ?_
  intro p e s m below meth c ls hx hb hml hown hts hr hlocks hK hP hl
  have hown : s.vm.findClass RX6 = some m.cls := hown
  have hl : lv_has ls 4 [(0, .ref h), (1, .int (nI k)), (2, .int (nI j))] := hl
  refine lv_iload_n hx hb dX6_at_0 rfl (lv_at hl 1 rfl) ?_
  refine lv_aload_n hx hb dX6_at_1 rfl (lv_at hl 0 rfl) ?_
  refine va_get (D := D) (ci := 6) (v := .int (nI cs)) (C := RX6) (T := TX6) (N := 2) hx hb hts (fun _ h => List.mem_cons_of_mem _ (List.mem_append_right _ h)) hown hK hP 0 rfl rfl 0 (by decide) (hts (.fieldLink RX6 9 "PitchTracker$Table" "columns" "I") (List.mem_of_getElem? (i := 1) rfl)) (fun _ h9 => h9) rfl dX6_at_2 ?_
  refine tv_imul (a := k) (b := cs) hx hb dX6_at_5 ?_
  refine lv_iload_n hx hb dX6_at_6 rfl (lv_at hl 2 rfl) ?_
  refine tv_iadd (a := k * cs) (b := j) hx hb dX6_at_7 ?_
  refine lv_istore_n (lv' := [(3, .int (nI ((k * cs) + j))), (0, .ref h), (1, .int (nI k)), (2, .int (nI j))]) hx hb dX6_at_8 rfl hl (by decide) rfl (fun ls hl => ?_)
  refine lv_iload_n hx hb dX6_at_9 rfl (lv_at hl 3 rfl) ?_
  refine tv_if_lt (tgt := 43) hx hb dX6_at_10 (by decide) (by omega) ?_
  refine lv_iload_n hx hb dX6_at_13 rfl (lv_at hl 3 rfl) ?_
  refine lv_aload_n hx hb dX6_at_14 rfl (lv_at hl 1 rfl) ?_
  refine va_get (D := D) (ci := 6) (v := .int (nI cs)) (C := RX6) (T := TX6) (N := 2) hx hb hts (fun _ h => List.mem_cons_of_mem _ (List.mem_append_right _ h)) hown hK hP 0 rfl rfl 0 (by decide) (hts (.fieldLink RX6 9 "PitchTracker$Table" "columns" "I") (List.mem_of_getElem? (i := 1) rfl)) (fun _ h9 => h9) rfl dX6_at_15 ?_
  refine tv_icmp_ge (tgt := 43) hx hb dX6_at_18 (by decide) (by omega) (by omega) (fun q18_1 => absurd q18_1 (by omega)) (fun q18_1 => ?_)
  refine lv_iload_n hx hb dX6_at_21 rfl (lv_at hl 0 rfl) ?_
  refine tv_if_lt (tgt := 43) hx hb dX6_at_22 (by decide) (by omega) ?_
  refine lv_iload_n hx hb dX6_at_25 rfl (lv_at hl 0 rfl) ?_
  refine lv_aload_n hx hb dX6_at_26 rfl (lv_at hl 1 rfl) ?_
  refine va_get (D := D) (ci := 6) (v := .ref a) (C := RX6) (T := TX6) (N := 2) hx hb hts (fun _ h => List.mem_cons_of_mem _ (List.mem_append_right _ h)) hown hK hP 0 rfl rfl 1 (by decide) (hts (.fieldLink RX6 15 "PitchTracker$Table" "cells" "[I") (List.mem_of_getElem? (i := 2) rfl)) (fun _ h9 => h9) rfl dX6_at_27 ?_
  refine va_alen (v := nI n) hx hb hK hP 1 0 rfl (ty := .int) rfl rfl dX6_at_30 ?_
  refine tv_icmp_ge (tgt := 43) hx hb dX6_at_31 (by decide) (by omega) (by omega) (fun q31_2 => absurd q31_2 (by omega)) (fun q31_2 => ?_)
  refine lv_aload_n hx hb dX6_at_34 rfl (lv_at hl 1 rfl) ?_
  refine va_get (D := D) (ci := 6) (v := .ref a) (C := RX6) (T := TX6) (N := 2) hx hb hts (fun _ h => List.mem_cons_of_mem _ (List.mem_append_right _ h)) hown hK hP 0 rfl rfl 1 (by decide) (hts (.fieldLink RX6 15 "PitchTracker$Table" "cells" "[I") (List.mem_of_getElem? (i := 2) rfl)) (fun _ h9 => h9) rfl dX6_at_35 ?_
  refine lv_iload_n hx hb dX6_at_38 rfl (lv_at hl 0 rfl) ?_
  refine tv_iald hx hb hK hP 1 0 rfl rfl (by omega) (by omega) dX6_at_39 ?_
  refine lv_goto (tgt := 44) hx hb dX6_at_40 (by decide) ?_
  exact W.iret (v := (f ((k * cs) + j))) hx hb hr (fun t ht hW => ⟨_, rfl, rfl, ht⟩) (fun q h => by cases h) dX6_at_44 hlocks

set_option maxHeartbeats 4000000 in
set_option maxRecDepth 100000 in
/-- Table.put, inside -/
theorem c_X6_put (l : Launch) (D : va_G) (cI cL : ClassId) (h a n cs : Nat) (f : Nat → Int32) (k j : Nat) (x : Int32) (hj : j < cs) (hc : cs < 2147483648) (hk : k * cs + j < n) (hn : n < 2147483648) (sz : Nat) : Met l yX6_put wsX6_put ({ frames := 0, cells := 0, slots := 0, locals := 0 }) (t_wPc D cI cL [.ref h, .int (nI k), .int (nI j), .int x] [(h, .inr (6, [.int (nI cs), .ref a])), (a, .inl (cI, n, .inl f))] sz) (t_Qv D cI cL (fun w1 => w1 = [(h, .inr (6, [.int (nI cs), .ref a])), (a, .inl (cI, n, .inl (upd f (k * cs + j) x)))]) (va_A [(h, .inr (6, [.int (nI cs), .ref a])), (a, .inl (cI, n, .inl f))] sz)) 0 0 (va_A [(h, .inr (6, [.int (nI cs), .ref a])), (a, .inl (cI, n, .inl f))] sz) := by
  refine t_ofW (Qc := t_Qv D cI cL (fun w1 => w1 = [(h, .inr (6, [.int (nI cs), .ref a])), (a, .inl (cI, n, .inl (upd f (k * cs + j) x)))])) (by decide) rfl (Nat.le_of_ble_eq_true rfl) ?_
  intro p e s m below meth c ls A hx hb hml hown hts hr hlocks hin hK hP hD hS hA hl
  have hown : s.vm.findClass RX6 = some m.cls := hown
  have hl : lv_has ls 5 [(0, .ref h), (1, .int (nI k)), (2, .int (nI j)), (3, .int x)] := hl
  refine lv_iload_n hx hb dX6_put_0 rfl (lv_at hl 1 rfl) ?_
  refine lv_aload_n hx hb dX6_put_1 rfl (lv_at hl 0 rfl) ?_
  refine va_get (D := D) (ci := 6) (v := .int (nI cs)) (C := RX6) (T := TX6) (N := 2) hx hb hts (fun _ h => List.mem_cons_of_mem _ (List.mem_append_right _ h)) hown hK hP 0 rfl rfl 0 (by decide) (hts (.fieldLink RX6 9 "PitchTracker$Table" "columns" "I") (List.mem_of_getElem? (i := 1) rfl)) (fun _ h9 => h9) rfl dX6_put_2 ?_
  refine tv_imul (a := k) (b := cs) hx hb dX6_put_5 ?_
  refine lv_iload_n hx hb dX6_put_6 rfl (lv_at hl 2 rfl) ?_
  refine tv_iadd (a := k * cs) (b := j) hx hb dX6_put_7 ?_
  refine lv_istore (lv' := [(4, .int (nI ((k * cs) + j))), (0, .ref h), (1, .int (nI k)), (2, .int (nI j)), (3, .int x)]) hx hb dX6_put_8 hl (by decide) rfl (fun ls hl => ?_)
  refine lv_iload_n hx hb dX6_put_10 rfl (lv_at hl 3 rfl) ?_
  refine tv_if_lt (tgt := 45) hx hb dX6_put_11 (by decide) (by omega) ?_
  refine lv_iload_n hx hb dX6_put_14 rfl (lv_at hl 3 rfl) ?_
  refine lv_aload_n hx hb dX6_put_15 rfl (lv_at hl 1 rfl) ?_
  refine va_get (D := D) (ci := 6) (v := .int (nI cs)) (C := RX6) (T := TX6) (N := 2) hx hb hts (fun _ h => List.mem_cons_of_mem _ (List.mem_append_right _ h)) hown hK hP 0 rfl rfl 0 (by decide) (hts (.fieldLink RX6 9 "PitchTracker$Table" "columns" "I") (List.mem_of_getElem? (i := 1) rfl)) (fun _ h9 => h9) rfl dX6_put_16 ?_
  refine tv_icmp_ge (tgt := 45) hx hb dX6_put_19 (by decide) (by omega) (by omega) (fun q19_1 => absurd q19_1 (by omega)) (fun q19_1 => ?_)
  refine lv_iload hx hb dX6_put_22 (lv_at hl 0 rfl) ?_
  refine tv_if_lt (tgt := 45) hx hb dX6_put_24 (by decide) (by omega) ?_
  refine lv_iload hx hb dX6_put_27 (lv_at hl 0 rfl) ?_
  refine lv_aload_n hx hb dX6_put_29 rfl (lv_at hl 1 rfl) ?_
  refine va_get (D := D) (ci := 6) (v := .ref a) (C := RX6) (T := TX6) (N := 2) hx hb hts (fun _ h => List.mem_cons_of_mem _ (List.mem_append_right _ h)) hown hK hP 0 rfl rfl 1 (by decide) (hts (.fieldLink RX6 15 "PitchTracker$Table" "cells" "[I") (List.mem_of_getElem? (i := 2) rfl)) (fun _ h9 => h9) rfl dX6_put_30 ?_
  refine va_alen (v := nI n) hx hb hK hP 1 0 rfl (ty := .int) rfl rfl dX6_put_33 ?_
  refine tv_icmp_ge (tgt := 45) hx hb dX6_put_34 (by decide) (by omega) (by omega) (fun q34_2 => absurd q34_2 (by omega)) (fun q34_2 => ?_)
  refine lv_aload_n hx hb dX6_put_37 rfl (lv_at hl 1 rfl) ?_
  refine va_get (D := D) (ci := 6) (v := .ref a) (C := RX6) (T := TX6) (N := 2) hx hb hts (fun _ h => List.mem_cons_of_mem _ (List.mem_append_right _ h)) hown hK hP 0 rfl rfl 1 (by decide) (hts (.fieldLink RX6 15 "PitchTracker$Table" "cells" "[I") (List.mem_of_getElem? (i := 2) rfl)) (fun _ h9 => h9) rfl dX6_put_38 ?_
  refine lv_iload hx hb dX6_put_41 (lv_at hl 0 rfl) ?_
  refine lv_iload_n hx hb dX6_put_43 rfl (lv_at hl 4 rfl) ?_
  refine tv_iast hx hb hK hP hD hS 1 0 rfl rfl (by omega) (by omega) dX6_put_44 (fun H locs hP hD hS => ?_)
  have hP : va_P D vwCl [(h, .inr (6, [.int (nI cs), .ref a])), (a, .inl (cI, n, .inl (upd f ((k * cs) + j) x)))] H := hP
  have hD : va_D A [(h, .inr (6, [.int (nI cs), .ref a])), (a, .inl (cI, n, .inl (upd f ((k * cs) + j) x)))] := hD
  have hP9 := hP
  have hD9 := hD
  exact W.vret hx hb hr (fun t ht hW => ⟨⟨[(h, .inr (6, [.int (nI cs), .ref a])), (a, .inl (cI, n, .inl (upd f ((k * cs) + j) x)))], rfl, rfl, ⟨by rw [ht]; exact hP9, va_K.moved hW.alike hK, hD9⟩⟩, hS.F ht⟩) hS.2.2 dX6_put_45 hlocks
