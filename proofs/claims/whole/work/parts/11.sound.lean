set_option maxHeartbeats 4000000 in
set_option maxRecDepth 100000 in
/-- Sound() -/
theorem c_X5_init (l : Launch) (D : va_G) (cI cL : ClassId) (h : Nat) (sz : Nat) : Met l yX5_init wsX5_init ({ frames := 1, cells := 1, slots := 1024, locals := 20 }) (t_wPc D cI cL [.ref h] [(h, .inr (5, [.null, .int (nI 0)]))] sz) (t_Qv D cI cL (fun w1 => ∃ a : Nat, w1 = [(h, .inr (5, [.ref a, .int (nI 0)])), (a, .inl (cI, 1024, .inl (fun _ => nI 0)))]) (va_A [(h, .inr (5, [.null, .int (nI 0)]))] sz)) 1 1024 (va_A [(h, .inr (5, [.null, .int (nI 0)]))] sz) := by
  refine t_ofW (Qc := t_Qv D cI cL (fun w1 => ∃ a : Nat, w1 = [(h, .inr (5, [.ref a, .int (nI 0)])), (a, .inl (cI, 1024, .inl (fun _ => nI 0)))])) (by decide) rfl (Nat.le_of_ble_eq_true rfl) ?_
  intro p e s m below meth c ls A hx hb hml hown hts hr hlocks hin hK hP hD hS hA hl
  have hown : s.vm.findClass RX5 = some m.cls := hown
  have hl : lv_has ls 1 [(0, .ref h)] := hl
  refine lv_aload_n hx hb dX5_init_0 rfl (lv_at hl 0 rfl) ?_
  refine W.objInit hx hb hown (hts (.methodLink RX5 3 objectInit) (List.mem_of_getElem? (i := 1) rfl)) (hts (.instanceMethod objectInit) (List.mem_of_getElem? (i := 2) rfl)) (hts (.code objectInit ⟨#[0xb1]⟩ 1 none) (List.mem_of_getElem? (i := 3) rfl)) rfl (by rw [hml]; exact hl.1) rfl dX5_init_1 (Nat.le_of_ble_eq_true rfl) (Nat.le_of_ble_eq_true rfl) ?_
  refine W.eq (g2 := F0 m 4 ls []) rfl ?_
  refine lv_aload_n hx hb dX5_init_4 rfl (lv_at hl 0 rfl) ?_
  refine lv_sipush (v := ((nI 1024) : Int32)) hx hb dX5_init_5 (by decide +kernel) ?_
  refine tv_newi hx hb (hts (.arrayClass .int) (List.mem_of_getElem? (i := 4) rfl)) hK hP hD hS hA (by omega) (Nat.le_of_ble_eq_true rfl) (Nat.le_of_ble_eq_true rfl) dX5_init_8 (fun b_1 H hP hD hS => ?_)
  have hP : va_P D vwCl [(h, .inr (5, [.null, .int (nI 0)])), (b_1, .inl (cI, 1024, .inl (fun _ => nI 0)))] H := hP
  have hD : va_D A [(h, .inr (5, [.null, .int (nI 0)])), (b_1, .inl (cI, 1024, .inl (fun _ => nI 0)))] := hD
  refine W.widen (k := 1) (n := 1024) (by omega) (by omega) ?_
  refine va_putF (D := D) (ci := 5) (v := .ref b_1) (ty := tyX5 0) (C := RX5) (T := TX5) (N := 2) hx hb hts (fun _ h => List.mem_cons_of_mem _ (List.mem_append_right _ h)) tyX5 tyX5_ok nmX5 hown hK hP hD hS 0 rfl rfl 0 (by decide) (hts (.fieldLink RX5 9 "PitchTracker$Sound" "samples" "[I") (List.mem_of_getElem? (i := 5) rfl)) (fun _ h9 => h9) rfl hin rfl (by decide +kernel) rfl rfl (Nat.le_of_ble_eq_true rfl) dX5_init_10 (fun H locs hP hD hS => ?_)
  have hP : va_P D vwCl [(h, .inr (5, [.ref b_1, .int (nI 0)])), (b_1, .inl (cI, 1024, .inl (fun _ => nI 0)))] H := hP
  have hD : va_D A [(h, .inr (5, [.ref b_1, .int (nI 0)])), (b_1, .inl (cI, 1024, .inl (fun _ => nI 0)))] := hD
  have hP9 := hP
  have hD9 := hD
  exact W.vret hx hb hr (fun t ht hW => ⟨⟨[(h, .inr (5, [.ref b_1, .int (nI 0)])), (b_1, .inl (cI, 1024, .inl (fun _ => nI 0)))], rfl, ⟨b_1, rfl⟩, ⟨by rw [ht]; exact hP9, va_K.moved hW.alike hK, hD9⟩⟩, hS.F ht⟩) hS.2.2 dX5_init_13 hlocks

set_option maxHeartbeats 4000000 in
set_option maxRecDepth 100000 in
theorem c_X5_count (l : Launch) (D : va_G) (cI cL : ClassId) (h a n : Nat) (g : Nat → Int32) : Met l yX5_count wsX5_count ({ frames := 0, cells := 0, slots := 0, locals := 0 }) (t_rPc D cI cL [.ref h] [(h, .inr (5, [.ref a, .int (nI n)])), (a, .inl (cI, 1024, .inl g))]) (vp_Si (fun r => r = (nI n))) 0 0 (fun _ => False) := by
  refine t_ofR (by decide) rfl (Nat.le_of_ble_eq_true rfl) ?_
  intro p e s m below meth c ls hx hb hml hown hts hr hlocks hK hP hl
  have hown : s.vm.findClass RX5 = some m.cls := hown
  have hl : lv_has ls 1 [(0, .ref h)] := hl
  refine lv_aload_n hx hb dX5_count_0 rfl (lv_at hl 0 rfl) ?_
  refine va_get (D := D) (ci := 5) (v := .int (nI n)) (C := RX5) (T := TX5) (N := 2) hx hb hts (fun _ h => List.mem_cons_of_mem _ (List.mem_append_right _ h)) hown hK hP 0 rfl rfl 1 (by decide) (hts (.fieldLink RX5 15 "PitchTracker$Sound" "count" "I") (List.mem_of_getElem? (i := 1) rfl)) (fun _ h9 => h9) rfl dX5_count_1 ?_
  exact W.iret (v := (nI n)) hx hb hr (fun t ht hW => ⟨_, rfl, rfl, ht⟩) (fun q h => by cases h) dX5_count_4 hlocks

set_option maxHeartbeats 4000000 in
set_option maxRecDepth 100000 in
theorem c_X5_at (l : Launch) (D : va_G) (cI cL : ClassId) (h a n : Nat) (g : Nat → Int32) (k : Nat) (hk : k < n) (hn : n ≤ 1024) : Met l yX5_at wsX5_at ({ frames := 0, cells := 0, slots := 0, locals := 0 }) (t_rPc D cI cL [.ref h, .int (nI k)] [(h, .inr (5, [.ref a, .int (nI n)])), (a, .inl (cI, 1024, .inl g))]) (vp_Si (fun r => r = (g k))) 0 0 (fun _ => False) := by
  refine t_ofR (by decide) rfl (Nat.le_of_ble_eq_true rfl) ?_
  intro p e s m below meth c ls hx hb hml hown hts hr hlocks hK hP hl
  have hown : s.vm.findClass RX5 = some m.cls := hown
  have hl : lv_has ls 2 [(0, .ref h), (1, .int (nI k))] := hl
  refine lv_iload_n hx hb dX5_at_0 rfl (lv_at hl 1 rfl) ?_
  refine tv_if_lt (tgt := 30) hx hb dX5_at_1 (by decide) (by omega) ?_
  refine lv_iload_n hx hb dX5_at_4 rfl (lv_at hl 1 rfl) ?_
  refine lv_aload_n hx hb dX5_at_5 rfl (lv_at hl 0 rfl) ?_
  refine va_get (D := D) (ci := 5) (v := .int (nI n)) (C := RX5) (T := TX5) (N := 2) hx hb hts (fun _ h => List.mem_cons_of_mem _ (List.mem_append_right _ h)) hown hK hP 0 rfl rfl 1 (by decide) (hts (.fieldLink RX5 15 "PitchTracker$Sound" "count" "I") (List.mem_of_getElem? (i := 1) rfl)) (fun _ h9 => h9) rfl dX5_at_6 ?_
  refine tv_icmp_ge (tgt := 30) hx hb dX5_at_9 (by decide) (by omega) (by omega) (fun q9_1 => absurd q9_1 (by omega)) (fun q9_1 => ?_)
  refine lv_iload_n hx hb dX5_at_12 rfl (lv_at hl 1 rfl) ?_
  refine lv_aload_n hx hb dX5_at_13 rfl (lv_at hl 0 rfl) ?_
  refine va_get (D := D) (ci := 5) (v := .ref a) (C := RX5) (T := TX5) (N := 2) hx hb hts (fun _ h => List.mem_cons_of_mem _ (List.mem_append_right _ h)) hown hK hP 0 rfl rfl 0 (by decide) (hts (.fieldLink RX5 9 "PitchTracker$Sound" "samples" "[I") (List.mem_of_getElem? (i := 2) rfl)) (fun _ h9 => h9) rfl dX5_at_14 ?_
  refine va_alen (v := nI 1024) hx hb hK hP 1 0 rfl (ty := .int) rfl rfl dX5_at_17 ?_
  refine tv_icmp_ge (tgt := 30) hx hb dX5_at_18 (by decide) (by omega) (by omega) (fun q18_2 => absurd q18_2 (by omega)) (fun q18_2 => ?_)
  refine lv_aload_n hx hb dX5_at_21 rfl (lv_at hl 0 rfl) ?_
  refine va_get (D := D) (ci := 5) (v := .ref a) (C := RX5) (T := TX5) (N := 2) hx hb hts (fun _ h => List.mem_cons_of_mem _ (List.mem_append_right _ h)) hown hK hP 0 rfl rfl 0 (by decide) (hts (.fieldLink RX5 9 "PitchTracker$Sound" "samples" "[I") (List.mem_of_getElem? (i := 2) rfl)) (fun _ h9 => h9) rfl dX5_at_22 ?_
  refine lv_iload_n hx hb dX5_at_25 rfl (lv_at hl 1 rfl) ?_
  refine tv_iald hx hb hK hP 1 0 rfl rfl (by omega) (by omega) dX5_at_26 ?_
  refine lv_goto (tgt := 31) hx hb dX5_at_27 (by decide) ?_
  exact W.iret (v := (g k)) hx hb hr (fun t ht hW => ⟨_, rfl, rfl, ht⟩) (fun q h => by cases h) dX5_at_31 hlocks

set_option maxHeartbeats 4000000 in
set_option maxRecDepth 100000 in
theorem c_X5_add (l : Launch) (D : va_G) (cI cL : ClassId) (h a n : Nat) (g : Nat → Int32) (x : Int32) (hn : n < 1024) (sz : Nat) : Met l yX5_add wsX5_add ({ frames := 0, cells := 0, slots := 0, locals := 0 }) (t_wPc D cI cL [.ref h, .int x] [(h, .inr (5, [.ref a, .int (nI n)])), (a, .inl (cI, 1024, .inl g))] sz) (t_Qv D cI cL (fun w1 => w1 = [(h, .inr (5, [.ref a, .int (nI (n + 1))])), (a, .inl (cI, 1024, .inl (upd g n x)))]) (va_A [(h, .inr (5, [.ref a, .int (nI n)])), (a, .inl (cI, 1024, .inl g))] sz)) 0 0 (va_A [(h, .inr (5, [.ref a, .int (nI n)])), (a, .inl (cI, 1024, .inl g))] sz) := by
  refine t_ofW (Qc := t_Qv D cI cL (fun w1 => w1 = [(h, .inr (5, [.ref a, .int (nI (n + 1))])), (a, .inl (cI, 1024, .inl (upd g n x)))])) (by decide) rfl (Nat.le_of_ble_eq_true rfl) ?_
  intro p e s m below meth c ls A hx hb hml hown hts hr hlocks hin hK hP hD hS hA hl
  have hown : s.vm.findClass RX5 = some m.cls := hown
  have hl : lv_has ls 2 [(0, .ref h), (1, .int x)] := hl
  refine lv_aload_n hx hb dX5_add_0 rfl (lv_at hl 0 rfl) ?_
  refine va_get (D := D) (ci := 5) (v := .int (nI n)) (C := RX5) (T := TX5) (N := 2) hx hb hts (fun _ h => List.mem_cons_of_mem _ (List.mem_append_right _ h)) hown hK hP 0 rfl rfl 1 (by decide) (hts (.fieldLink RX5 15 "PitchTracker$Sound" "count" "I") (List.mem_of_getElem? (i := 1) rfl)) (fun _ h9 => h9) rfl dX5_add_1 ?_
  refine tv_if_lt (tgt := 39) hx hb dX5_add_4 (by decide) (by omega) ?_
  refine lv_aload_n hx hb dX5_add_7 rfl (lv_at hl 0 rfl) ?_
  refine va_get (D := D) (ci := 5) (v := .int (nI n)) (C := RX5) (T := TX5) (N := 2) hx hb hts (fun _ h => List.mem_cons_of_mem _ (List.mem_append_right _ h)) hown hK hP 0 rfl rfl 1 (by decide) (hts (.fieldLink RX5 15 "PitchTracker$Sound" "count" "I") (List.mem_of_getElem? (i := 1) rfl)) (fun _ h9 => h9) rfl dX5_add_8 ?_
  refine lv_aload_n hx hb dX5_add_11 rfl (lv_at hl 0 rfl) ?_
  refine va_get (D := D) (ci := 5) (v := .ref a) (C := RX5) (T := TX5) (N := 2) hx hb hts (fun _ h => List.mem_cons_of_mem _ (List.mem_append_right _ h)) hown hK hP 0 rfl rfl 0 (by decide) (hts (.fieldLink RX5 9 "PitchTracker$Sound" "samples" "[I") (List.mem_of_getElem? (i := 2) rfl)) (fun _ h9 => h9) rfl dX5_add_12 ?_
  refine va_alen (v := nI 1024) hx hb hK hP 1 0 rfl (ty := .int) rfl rfl dX5_add_15 ?_
  refine tv_icmp_ge (tgt := 39) hx hb dX5_add_16 (by decide) (by omega) (by omega) (fun q16_1 => absurd q16_1 (by omega)) (fun q16_1 => ?_)
  refine lv_aload_n hx hb dX5_add_19 rfl (lv_at hl 0 rfl) ?_
  refine va_get (D := D) (ci := 5) (v := .ref a) (C := RX5) (T := TX5) (N := 2) hx hb hts (fun _ h => List.mem_cons_of_mem _ (List.mem_append_right _ h)) hown hK hP 0 rfl rfl 0 (by decide) (hts (.fieldLink RX5 9 "PitchTracker$Sound" "samples" "[I") (List.mem_of_getElem? (i := 2) rfl)) (fun _ h9 => h9) rfl dX5_add_20 ?_
  refine lv_aload_n hx hb dX5_add_23 rfl (lv_at hl 0 rfl) ?_
  refine va_get (D := D) (ci := 5) (v := .int (nI n)) (C := RX5) (T := TX5) (N := 2) hx hb hts (fun _ h => List.mem_cons_of_mem _ (List.mem_append_right _ h)) hown hK hP 0 rfl rfl 1 (by decide) (hts (.fieldLink RX5 15 "PitchTracker$Sound" "count" "I") (List.mem_of_getElem? (i := 1) rfl)) (fun _ h9 => h9) rfl dX5_add_24 ?_
  refine lv_iload_n hx hb dX5_add_27 rfl (lv_at hl 1 rfl) ?_
  refine tv_iast hx hb hK hP hD hS 1 0 rfl rfl (by omega) (by omega) dX5_add_28 (fun H locs hP hD hS => ?_)
  have hP : va_P D vwCl [(h, .inr (5, [.ref a, .int (nI n)])), (a, .inl (cI, 1024, .inl (upd g n x)))] H := hP
  have hD : va_D A [(h, .inr (5, [.ref a, .int (nI n)])), (a, .inl (cI, 1024, .inl (upd g n x)))] := hD
  refine lv_aload_n hx hb dX5_add_29 rfl (lv_at hl 0 rfl) ?_
  refine lv_dup hx hb dX5_add_30 rfl ?_
  refine va_get (D := D) (ci := 5) (v := .int (nI n)) (C := RX5) (T := TX5) (N := 2) hx hb hts (fun _ h => List.mem_cons_of_mem _ (List.mem_append_right _ h)) hown hK hP 0 rfl rfl 1 (by decide) (hts (.fieldLink RX5 15 "PitchTracker$Sound" "count" "I") (List.mem_of_getElem? (i := 1) rfl)) (fun _ h9 => h9) rfl dX5_add_31 ?_
  refine lv_iconst (v := ((nI 1) : Int32)) hx hb dX5_add_34 (by decide +kernel) ?_
  refine tv_iadd (a := n) (b := 1) hx hb dX5_add_35 ?_
  refine va_put (D := D) (ci := 5) (v := .int (nI (n + 1))) (ty := .int) (C := RX5) (T := TX5) (N := 2) hx hb hts (fun _ h => List.mem_cons_of_mem _ (List.mem_append_right _ h)) tyX5 tyX5_ok nmX5 hown hK hP hD hS 0 rfl rfl 1 (by decide) (hts (.fieldLink RX5 15 "PitchTracker$Sound" "count" "I") (List.mem_of_getElem? (i := 1) rfl)) (fun _ h9 => h9) rfl (by decide +kernel) rfl rfl (Nat.le_of_ble_eq_true rfl) dX5_add_36 (fun H locs hP hD hS => ?_)
  have hP : va_P D vwCl [(h, .inr (5, [.ref a, .int (nI (n + 1))])), (a, .inl (cI, 1024, .inl (upd g n x)))] H := hP
  have hD : va_D A [(h, .inr (5, [.ref a, .int (nI (n + 1))])), (a, .inl (cI, 1024, .inl (upd g n x)))] := hD
  have hP9 := hP
  have hD9 := hD
  exact W.vret hx hb hr (fun t ht hW => ⟨⟨[(h, .inr (5, [.ref a, .int (nI (n + 1))])), (a, .inl (cI, 1024, .inl (upd g n x)))], rfl, rfl, ⟨by rw [ht]; exact hP9, va_K.moved hW.alike hK, hD9⟩⟩, hS.F ht⟩) hS.2.2 dX5_add_39 hlocks

set_option maxHeartbeats 4000000 in
set_option maxRecDepth 100000 in
theorem c_X5_drop (l : Launch) (D : va_G) (cI cL : ClassId) (h a n : Nat) (g : Nat → Int32) (sz : Nat) : Met l yX5_drop wsX5_drop ({ frames := 0, cells := 0, slots := 0, locals := 0 }) (t_wPc D cI cL [.ref h] [(h, .inr (5, [.ref a, .int (nI n)])), (a, .inl (cI, 1024, .inl g))] sz) (t_Qv D cI cL (fun w1 => w1 = [(h, .inr (5, [.ref a, .int (nI 0)])), (a, .inl (cI, 1024, .inl g))]) (va_A [(h, .inr (5, [.ref a, .int (nI n)])), (a, .inl (cI, 1024, .inl g))] sz)) 0 0 (va_A [(h, .inr (5, [.ref a, .int (nI n)])), (a, .inl (cI, 1024, .inl g))] sz) := by
  refine t_ofW (Qc := t_Qv D cI cL (fun w1 => w1 = [(h, .inr (5, [.ref a, .int (nI 0)])), (a, .inl (cI, 1024, .inl g))])) (by decide) rfl (Nat.le_of_ble_eq_true rfl) ?_
  intro p e s m below meth c ls A hx hb hml hown hts hr hlocks hin hK hP hD hS hA hl
  have hown : s.vm.findClass RX5 = some m.cls := hown
  have hl : lv_has ls 1 [(0, .ref h)] := hl
  refine lv_aload_n hx hb dX5_drop_0 rfl (lv_at hl 0 rfl) ?_
  refine lv_iconst (v := ((nI 0) : Int32)) hx hb dX5_drop_1 (by decide +kernel) ?_
  refine va_put (D := D) (ci := 5) (v := .int (nI 0)) (ty := .int) (C := RX5) (T := TX5) (N := 2) hx hb hts (fun _ h => List.mem_cons_of_mem _ (List.mem_append_right _ h)) tyX5 tyX5_ok nmX5 hown hK hP hD hS 0 rfl rfl 1 (by decide) (hts (.fieldLink RX5 15 "PitchTracker$Sound" "count" "I") (List.mem_of_getElem? (i := 1) rfl)) (fun _ h9 => h9) rfl (by decide +kernel) rfl rfl (Nat.le_of_ble_eq_true rfl) dX5_drop_2 (fun H locs hP hD hS => ?_)
  have hP : va_P D vwCl [(h, .inr (5, [.ref a, .int (nI 0)])), (a, .inl (cI, 1024, .inl g))] H := hP
  have hD : va_D A [(h, .inr (5, [.ref a, .int (nI 0)])), (a, .inl (cI, 1024, .inl g))] := hD
  have hP9 := hP
  have hD9 := hD
  exact W.vret hx hb hr (fun t ht hW => ⟨⟨[(h, .inr (5, [.ref a, .int (nI 0)])), (a, .inl (cI, 1024, .inl g))], rfl, rfl, ⟨by rw [ht]; exact hP9, va_K.moved hW.alike hK, hD9⟩⟩, hS.F ht⟩) hS.2.2 dX5_drop_5 hlocks

set_option maxHeartbeats 4000000 in
set_option maxRecDepth 100000 in
theorem c_X5_frameCount (l : Launch) (D : va_G) (cI cL : ClassId) (h a n : Nat) (g : Nat → Int32) (hn : n < 2147483648) : Met l yX5_frameCount wsX5_frameCount ({ frames := 0, cells := 0, slots := 0, locals := 0 }) (t_rPc D cI cL [.ref h] [(h, .inr (5, [.ref a, .int (nI n)])), (a, .inl (cI, 1024, .inl g))]) (vp_Si (fun r => r = (nI (t_F n)))) 0 0 (fun _ => False) := by
  refine t_ofR (by decide) rfl (Nat.le_of_ble_eq_true rfl) ?_
  intro p e s m below meth c ls hx hb hml hown hts hr hlocks hK hP hl
  have hown : s.vm.findClass RX5 = some m.cls := hown
  have hl : lv_has ls 1 [(0, .ref h)] := hl
  refine lv_aload_n hx hb dX5_frameCount_0 rfl (lv_at hl 0 rfl) ?_
  refine va_get (D := D) (ci := 5) (v := .int (nI n)) (C := RX5) (T := TX5) (N := 2) hx hb hts (fun _ h => List.mem_cons_of_mem _ (List.mem_append_right _ h)) hown hK hP 0 rfl rfl 1 (by decide) (hts (.fieldLink RX5 15 "PitchTracker$Sound" "count" "I") (List.mem_of_getElem? (i := 1) rfl)) (fun _ h9 => h9) rfl dX5_frameCount_1 ?_
  refine lv_sipush (v := ((nI 128) : Int32)) hx hb dX5_frameCount_4 (by decide +kernel) ?_
  refine tv_icmp_ge (tgt := 14) hx hb dX5_frameCount_7 (by decide) (by omega) (by omega) (fun q7_1 => ?_) (fun q7_1 => ?_)
  · refine lv_aload_n hx hb dX5_frameCount_14 rfl (lv_at hl 0 rfl) ?_
    refine va_get (D := D) (ci := 5) (v := .int (nI n)) (C := RX5) (T := TX5) (N := 2) hx hb hts (fun _ h => List.mem_cons_of_mem _ (List.mem_append_right _ h)) hown hK hP 0 rfl rfl 1 (by decide) (hts (.fieldLink RX5 15 "PitchTracker$Sound" "count" "I") (List.mem_of_getElem? (i := 1) rfl)) (fun _ h9 => h9) rfl dX5_frameCount_15 ?_
    refine lv_sipush (v := ((nI 128) : Int32)) hx hb dX5_frameCount_18 (by decide +kernel) ?_
    refine tv_isub (a := n) (b := 128) hx hb dX5_frameCount_21 (by omega) ?_
    refine lv_bipush (v := ((nI 32) : Int32)) hx hb dX5_frameCount_22 (by decide +kernel) ?_
    refine lv_idiv hx hb dX5_frameCount_24 (by decide) ?_
    refine tv_re (y := (nI ((n - 128) / 32))) (pk_div (by omega) (by omega) (by omega)) ?_
    refine lv_iconst (v := ((nI 1) : Int32)) hx hb dX5_frameCount_25 (by decide +kernel) ?_
    refine tv_iadd (a := (n - 128) / 32) (b := 1) hx hb dX5_frameCount_26 ?_
    exact W.iret (v := (nI (((n - 128) / 32) + 1))) hx hb hr (fun t ht hW => ⟨_, rfl, (by rw [t_F_hi (by omega)]), ht⟩) (fun q h => by cases h) dX5_frameCount_27 hlocks
  · refine lv_iconst (v := ((nI 0) : Int32)) hx hb dX5_frameCount_10 (by decide +kernel) ?_
    refine lv_goto (tgt := 27) hx hb dX5_frameCount_11 (by decide) ?_
    exact W.iret (v := (nI 0)) hx hb hr (fun t ht hW => ⟨_, rfl, (by rw [t_F_lo (by omega)]), ht⟩) (fun q h => by cases h) dX5_frameCount_27 hlocks

set_option maxHeartbeats 4000000 in
set_option maxRecDepth 100000 in
theorem c_X5_holdsWindow (l : Launch) (D : va_G) (cI cL : ClassId) (h a n : Nat) (g : Nat → Int32) (k b : Nat) (hka : k + 64 + b ≤ 1024) (hb2 : b ≤ 64) : Met l yX5_holdsWindow wsX5_holdsWindow ({ frames := 0, cells := 0, slots := 0, locals := 0 }) (t_rPc D cI cL [.ref h, .int (nI k), .int (nI b)] [(h, .inr (5, [.ref a, .int (nI n)])), (a, .inl (cI, 1024, .inl g))]) (vp_Si (fun r => r = t_b true)) 0 0 (fun _ => False) := by
  refine t_ofR (by decide) rfl (Nat.le_of_ble_eq_true rfl) ?_
  intro p e s m below meth c ls hx hb hml hown hts hr hlocks hK hP hl
  have hown : s.vm.findClass RX5 = some m.cls := hown
  have hl : lv_has ls 3 [(0, .ref h), (1, .int (nI k)), (2, .int (nI b))] := hl
  refine lv_iload_n hx hb dX5_holdsWindow_0 rfl (lv_at hl 1 rfl) ?_
  refine tv_if_lt (tgt := 32) hx hb dX5_holdsWindow_1 (by decide) (by omega) ?_
  refine lv_iload_n hx hb dX5_holdsWindow_4 rfl (lv_at hl 2 rfl) ?_
  refine tv_if_lt (tgt := 32) hx hb dX5_holdsWindow_5 (by decide) (by omega) ?_
  refine lv_iload_n hx hb dX5_holdsWindow_8 rfl (lv_at hl 2 rfl) ?_
  refine lv_bipush (v := ((nI 64) : Int32)) hx hb dX5_holdsWindow_9 (by decide +kernel) ?_
  refine tv_icmp_gt (tgt := 32) hx hb dX5_holdsWindow_11 (by decide) (by omega) (by omega) (fun q11_1 => absurd q11_1 (by omega)) (fun q11_1 => ?_)
  refine lv_iload_n hx hb dX5_holdsWindow_14 rfl (lv_at hl 1 rfl) ?_
  refine lv_aload_n hx hb dX5_holdsWindow_15 rfl (lv_at hl 0 rfl) ?_
  refine va_get (D := D) (ci := 5) (v := .ref a) (C := RX5) (T := TX5) (N := 2) hx hb hts (fun _ h => List.mem_cons_of_mem _ (List.mem_append_right _ h)) hown hK hP 0 rfl rfl 0 (by decide) (hts (.fieldLink RX5 9 "PitchTracker$Sound" "samples" "[I") (List.mem_of_getElem? (i := 1) rfl)) (fun _ h9 => h9) rfl dX5_holdsWindow_16 ?_
  refine va_alen (v := nI 1024) hx hb hK hP 1 0 rfl (ty := .int) rfl rfl dX5_holdsWindow_19 ?_
  refine lv_bipush (v := ((nI 64) : Int32)) hx hb dX5_holdsWindow_20 (by decide +kernel) ?_
  refine tv_isub (a := 1024) (b := 64) hx hb dX5_holdsWindow_22 (by omega) ?_
  refine lv_iload_n hx hb dX5_holdsWindow_23 rfl (lv_at hl 2 rfl) ?_
  refine tv_isub (a := 1024 - 64) (b := b) hx hb dX5_holdsWindow_24 (by omega) ?_
  refine tv_icmp_gt (tgt := 32) hx hb dX5_holdsWindow_25 (by decide) (by omega) (by omega) (fun q25_2 => absurd q25_2 (by omega)) (fun q25_2 => ?_)
  refine lv_iconst (v := ((nI 1) : Int32)) hx hb dX5_holdsWindow_28 (by decide +kernel) ?_
  refine lv_goto (tgt := 33) hx hb dX5_holdsWindow_29 (by decide) ?_
  exact W.zret (v := (nI 1)) hx hb hr rfl (fun t ht hW => ⟨_, rfl, rfl, ht⟩) (fun q h => by cases h) dX5_holdsWindow_33 hlocks

set_option maxHeartbeats 4000000 in
set_option maxRecDepth 100000 in
theorem c_X5_productSum (l : Launch) (D : va_G) (cI cL : ClassId) (h a n : Nat) (g : Nat → Int32) (k b : Nat) (hka : k + 64 + b ≤ 1024) (hb2 : b ≤ 64) : Met l yX5_productSum wsX5_productSum ({ frames := 1, cells := 0, slots := 0, locals := 40 }) (t_rPc D cI cL [.ref h, .int (nI k), .int (nI b)] [(h, .inr (5, [.ref a, .int (nI n)])), (a, .inl (cI, 1024, .inl g))]) (vp_Si (fun r => r = (t_ps g k b))) 0 0 (fun _ => False) := by
  refine t_ofR (by decide) rfl (Nat.le_of_ble_eq_true rfl) ?_
  intro p e s m below meth c ls hx hb hml hown hts hr hlocks hK hP hl
  have hown : s.vm.findClass RX5 = some m.cls := hown
  have hl : lv_has ls 5 [(0, .ref h), (1, .int (nI k)), (2, .int (nI b))] := hl
  refine lv_aload_n hx hb dX5_productSum_0 rfl (lv_at hl 0 rfl) ?_
  refine lv_iload_n hx hb dX5_productSum_1 rfl (lv_at hl 1 rfl) ?_
  refine lv_iload_n hx hb dX5_productSum_2 rfl (lv_at hl 2 rfl) ?_
  have hPc := hP.sub (ws' := [(h, .inr (5, [.ref a, .int (nI n)])), (a, .inl (cI, 1024, .inl g))]) [0, 1] rfl
  refine vp_callSi (W.runV (As := [.int (nI k), .int (nI b)]) (rest := []) ⟨hx, hb, hml, hown, hts⟩ (c_X5_holdsWindow l D cI cL h a n g k b hka hb2) (cwV 2 hts gX5_productSum_X5_holdsWindow rfl rfl rfl (by decide +kernel) ⟨Nat.le_of_ble_eq_true rfl, Nat.le_of_ble_eq_true rfl⟩) ⟨t_rPc_blind, va_recv hK hPc (ci := 5) (q0 := 0) rfl rfl, fun U hU hW => ⟨rfl, by rw [hU]; exact hPc, va_K.moved hW.alike hK⟩⟩ rfl rfl hl.1 rfl (lv_room (Nat.le_of_ble_eq_true rfl)) dX5_productSum_3 ⟨Nat.le_of_ble_eq_true rfl, Nat.le_of_ble_eq_true rfl⟩) (fun r_1 hr_1 => ?_)
  subst hr_1
  refine tv_if_neB (tgt := 11) hx hb dX5_productSum_6 (by decide) (fun q6_2 => ?_) (fun q6_2 => absurd q6_2 (by decide))
  refine lv_iconst (v := ((nI 0) : Int32)) hx hb dX5_productSum_11 (by decide +kernel) ?_
  refine lv_istore_n (lv' := [(3, .int (nI 0)), (0, .ref h), (1, .int (nI k)), (2, .int (nI b))]) hx hb dX5_productSum_12 rfl hl (by decide) rfl (fun ls hl => ?_)
  refine lv_iload_n hx hb dX5_productSum_13 rfl (lv_at hl 2 rfl) ?_
  refine lv_istore (lv' := [(4, .int (nI k)), (3, .int (nI 0)), (0, .ref h), (1, .int (nI k)), (2, .int (nI b))]) hx hb dX5_productSum_14 hl (by decide) rfl (fun ls hl => ?_)
  have loop_3 : ∀ (n_5 : Nat) (i : Nat) (hm_6 : 64 - i < n_5) (hi : i ≤ 64) (ls : Array Slot) (hl : lv_has ls 5 [(4, .int (nI (k + i))), (3, .int (t_sum (fun j => g (k + j) * g (k + j + b)) i)), (0, .ref h), (1, .int (nI k)), (2, .int (nI b))]), W p l e ({ frames := 1, cells := 0, slots := 0, locals := 40 }) s m ([.ref h, .int (nI k), .int (nI b)] : List Value).toArray below meth c s.heap [] 0 0 (MQ below (vp_Si (fun r => r = (t_ps g k b))) ([.ref h, .int (nI k), .int (nI b)] : List Value).toArray s 0 0 (fun _ => False)) (F0 m 16 ls []) := by
    intro n_5
    induction n_5 with
    | zero => intro i hm_6; exact absurd hm_6 (Nat.not_lt_zero _)
    | succ n_5 ih_4 =>
      intro i hm_6 hi ls hl
      refine lv_iload hx hb dX5_productSum_16 (lv_at hl 0 rfl) ?_
      refine lv_iload_n hx hb dX5_productSum_18 rfl (lv_at hl 3 rfl) ?_
      refine lv_bipush (v := ((nI 64) : Int32)) hx hb dX5_productSum_19 (by decide +kernel) ?_
      refine tv_iadd (a := k) (b := 64) hx hb dX5_productSum_21 ?_
      refine tv_icmp_ge (tgt := 51) hx hb dX5_productSum_22 (by decide) (by omega) (by omega) (fun q22_7 => ?_) (fun q22_7 => ?_)
      · refine lv_iload_n hx hb dX5_productSum_51 rfl (lv_at hl 1 rfl) ?_
        exact W.iret (v := (t_sum (fun j => g (k + j) * g (k + j + b)) i)) hx hb hr (fun t ht hW => ⟨_, rfl, (by obtain rfl : i = 64 := (by omega); rfl), ht⟩) (fun q h => by cases h) dX5_productSum_52 hlocks
      · refine lv_iload_n hx hb dX5_productSum_25 rfl (lv_at hl 1 rfl) ?_
        refine lv_aload_n hx hb dX5_productSum_26 rfl (lv_at hl 2 rfl) ?_
        refine va_get (D := D) (ci := 5) (v := .ref a) (C := RX5) (T := TX5) (N := 2) hx hb hts (fun _ h => List.mem_cons_of_mem _ (List.mem_append_right _ h)) hown hK hP 0 rfl rfl 0 (by decide) (hts (.fieldLink RX5 9 "PitchTracker$Sound" "samples" "[I") (List.mem_of_getElem? (i := 1) rfl)) (fun _ h9 => h9) rfl dX5_productSum_27 ?_
        refine lv_iload hx hb dX5_productSum_30 (lv_at hl 0 rfl) ?_
        refine tv_iald hx hb hK hP 1 0 rfl rfl (by omega) (by omega) dX5_productSum_32 ?_
        refine lv_aload_n hx hb dX5_productSum_33 rfl (lv_at hl 2 rfl) ?_
        refine va_get (D := D) (ci := 5) (v := .ref a) (C := RX5) (T := TX5) (N := 2) hx hb hts (fun _ h => List.mem_cons_of_mem _ (List.mem_append_right _ h)) hown hK hP 0 rfl rfl 0 (by decide) (hts (.fieldLink RX5 9 "PitchTracker$Sound" "samples" "[I") (List.mem_of_getElem? (i := 1) rfl)) (fun _ h9 => h9) rfl dX5_productSum_34 ?_
        refine lv_iload hx hb dX5_productSum_37 (lv_at hl 0 rfl) ?_
        refine lv_iload_n hx hb dX5_productSum_39 rfl (lv_at hl 4 rfl) ?_
        refine tv_iadd (a := k + i) (b := b) hx hb dX5_productSum_40 ?_
        refine tv_iald hx hb hK hP 1 0 rfl rfl (by omega) (by omega) dX5_productSum_41 ?_
        refine lv_imul hx hb dX5_productSum_42 ?_
        refine lv_iadd hx hb dX5_productSum_43 ?_
        refine lv_istore_n (lv' := [(3, .int ((t_sum (fun j => g (k + j) * g (k + j + b)) i) + ((g (k + i)) * (g ((k + i) + b))))), (4, .int (nI (k + i))), (0, .ref h), (1, .int (nI k)), (2, .int (nI b))]) hx hb dX5_productSum_44 rfl hl (by decide) rfl (fun ls hl => ?_)
        refine lv_iinc (v := (nI (k + i + 1))) (lv' := [(4, .int (nI (k + i + 1))), (3, .int ((t_sum (fun j => g (k + j) * g (k + j + b)) i) + ((g (k + i)) * (g ((k + i) + b))))), (0, .ref h), (1, .int (nI k)), (2, .int (nI b))]) hx hb dX5_productSum_45 hl (k := 1) rfl (nI_add (k + i) 1) (by decide) rfl (fun ls hl => ?_)
        refine lv_goto (tgt := 16) hx hb dX5_productSum_48 (by decide) ?_
        exact ih_4 (i + 1) (by omega) (by omega) _ (lv_sub hl [0, 1, 2, 3, 4] rfl)
  exact loop_3 (64 - 0 + 1) 0 (Nat.lt_succ_self _) (Nat.zero_le _) _ (lv_sub hl [0, 1, 2, 3, 4] rfl)

set_option maxHeartbeats 4000000 in
set_option maxRecDepth 100000 in
theorem c_X5_squaredGapSum (l : Launch) (D : va_G) (cI cL : ClassId) (h a n : Nat) (g : Nat → Int32) (k b : Nat) (hka : k + 64 + b ≤ 1024) (hb2 : b ≤ 64) : Met l yX5_squaredGapSum wsX5_squaredGapSum ({ frames := 1, cells := 0, slots := 0, locals := 40 }) (t_rPc D cI cL [.ref h, .int (nI k), .int (nI b)] [(h, .inr (5, [.ref a, .int (nI n)])), (a, .inl (cI, 1024, .inl g))]) (vp_Si (fun r => r = (t_gs g k b))) 0 0 (fun _ => False) := by
  refine t_ofR (by decide) rfl (Nat.le_of_ble_eq_true rfl) ?_
  intro p e s m below meth c ls hx hb hml hown hts hr hlocks hK hP hl
  have hown : s.vm.findClass RX5 = some m.cls := hown
  have hl : lv_has ls 6 [(0, .ref h), (1, .int (nI k)), (2, .int (nI b))] := hl
  refine lv_aload_n hx hb dX5_squaredGapSum_0 rfl (lv_at hl 0 rfl) ?_
  refine lv_iload_n hx hb dX5_squaredGapSum_1 rfl (lv_at hl 1 rfl) ?_
  refine lv_iload_n hx hb dX5_squaredGapSum_2 rfl (lv_at hl 2 rfl) ?_
  have hPc := hP.sub (ws' := [(h, .inr (5, [.ref a, .int (nI n)])), (a, .inl (cI, 1024, .inl g))]) [0, 1] rfl
  refine vp_callSi (W.runV (As := [.int (nI k), .int (nI b)]) (rest := []) ⟨hx, hb, hml, hown, hts⟩ (c_X5_holdsWindow l D cI cL h a n g k b hka hb2) (cwV 2 hts gX5_squaredGapSum_X5_holdsWindow rfl rfl rfl (by decide +kernel) ⟨Nat.le_of_ble_eq_true rfl, Nat.le_of_ble_eq_true rfl⟩) ⟨t_rPc_blind, va_recv hK hPc (ci := 5) (q0 := 0) rfl rfl, fun U hU hW => ⟨rfl, by rw [hU]; exact hPc, va_K.moved hW.alike hK⟩⟩ rfl rfl hl.1 rfl (lv_room (Nat.le_of_ble_eq_true rfl)) dX5_squaredGapSum_3 ⟨Nat.le_of_ble_eq_true rfl, Nat.le_of_ble_eq_true rfl⟩) (fun r_1 hr_1 => ?_)
  subst hr_1
  refine tv_if_neB (tgt := 11) hx hb dX5_squaredGapSum_6 (by decide) (fun q6_2 => ?_) (fun q6_2 => absurd q6_2 (by decide))
  refine lv_iconst (v := ((nI 0) : Int32)) hx hb dX5_squaredGapSum_11 (by decide +kernel) ?_
  refine lv_istore_n (lv' := [(3, .int (nI 0)), (0, .ref h), (1, .int (nI k)), (2, .int (nI b))]) hx hb dX5_squaredGapSum_12 rfl hl (by decide) rfl (fun ls hl => ?_)
  refine lv_iload_n hx hb dX5_squaredGapSum_13 rfl (lv_at hl 2 rfl) ?_
  refine lv_istore (lv' := [(4, .int (nI k)), (3, .int (nI 0)), (0, .ref h), (1, .int (nI k)), (2, .int (nI b))]) hx hb dX5_squaredGapSum_14 hl (by decide) rfl (fun ls hl => ?_)
  have loop_3 : ∀ (n_5 : Nat) (i : Nat) (hm_6 : 64 - i < n_5) (hi : i ≤ 64) (ls : Array Slot) (hl : lv_has ls 6 [(4, .int (nI (k + i))), (3, .int (t_sum (fun j => (g (k + j) - g (k + j + b)) * (g (k + j) - g (k + j + b))) i)), (0, .ref h), (1, .int (nI k)), (2, .int (nI b))]), W p l e ({ frames := 1, cells := 0, slots := 0, locals := 40 }) s m ([.ref h, .int (nI k), .int (nI b)] : List Value).toArray below meth c s.heap [] 0 0 (MQ below (vp_Si (fun r => r = (t_gs g k b))) ([.ref h, .int (nI k), .int (nI b)] : List Value).toArray s 0 0 (fun _ => False)) (F0 m 16 ls []) := by
    intro n_5
    induction n_5 with
    | zero => intro i hm_6; exact absurd hm_6 (Nat.not_lt_zero _)
    | succ n_5 ih_4 =>
      intro i hm_6 hi ls hl
      refine lv_iload hx hb dX5_squaredGapSum_16 (lv_at hl 0 rfl) ?_
      refine lv_iload_n hx hb dX5_squaredGapSum_18 rfl (lv_at hl 3 rfl) ?_
      refine lv_bipush (v := ((nI 64) : Int32)) hx hb dX5_squaredGapSum_19 (by decide +kernel) ?_
      refine tv_iadd (a := k) (b := 64) hx hb dX5_squaredGapSum_21 ?_
      refine tv_icmp_ge (tgt := 58) hx hb dX5_squaredGapSum_22 (by decide) (by omega) (by omega) (fun q22_7 => ?_) (fun q22_7 => ?_)
      · refine lv_iload_n hx hb dX5_squaredGapSum_58 rfl (lv_at hl 1 rfl) ?_
        exact W.iret (v := (t_sum (fun j => (g (k + j) - g (k + j + b)) * (g (k + j) - g (k + j + b))) i)) hx hb hr (fun t ht hW => ⟨_, rfl, (by obtain rfl : i = 64 := (by omega); rfl), ht⟩) (fun q h => by cases h) dX5_squaredGapSum_59 hlocks
      · refine lv_aload_n hx hb dX5_squaredGapSum_25 rfl (lv_at hl 2 rfl) ?_
        refine va_get (D := D) (ci := 5) (v := .ref a) (C := RX5) (T := TX5) (N := 2) hx hb hts (fun _ h => List.mem_cons_of_mem _ (List.mem_append_right _ h)) hown hK hP 0 rfl rfl 0 (by decide) (hts (.fieldLink RX5 9 "PitchTracker$Sound" "samples" "[I") (List.mem_of_getElem? (i := 1) rfl)) (fun _ h9 => h9) rfl dX5_squaredGapSum_26 ?_
        refine lv_iload hx hb dX5_squaredGapSum_29 (lv_at hl 0 rfl) ?_
        refine tv_iald hx hb hK hP 1 0 rfl rfl (by omega) (by omega) dX5_squaredGapSum_31 ?_
        refine lv_aload_n hx hb dX5_squaredGapSum_32 rfl (lv_at hl 2 rfl) ?_
        refine va_get (D := D) (ci := 5) (v := .ref a) (C := RX5) (T := TX5) (N := 2) hx hb hts (fun _ h => List.mem_cons_of_mem _ (List.mem_append_right _ h)) hown hK hP 0 rfl rfl 0 (by decide) (hts (.fieldLink RX5 9 "PitchTracker$Sound" "samples" "[I") (List.mem_of_getElem? (i := 1) rfl)) (fun _ h9 => h9) rfl dX5_squaredGapSum_33 ?_
        refine lv_iload hx hb dX5_squaredGapSum_36 (lv_at hl 0 rfl) ?_
        refine lv_iload_n hx hb dX5_squaredGapSum_38 rfl (lv_at hl 4 rfl) ?_
        refine tv_iadd (a := k + i) (b := b) hx hb dX5_squaredGapSum_39 ?_
        refine tv_iald hx hb hK hP 1 0 rfl rfl (by omega) (by omega) dX5_squaredGapSum_40 ?_
        refine lv_isub hx hb dX5_squaredGapSum_41 ?_
        refine lv_istore (lv' := [(5, .int ((g (k + i)) - (g ((k + i) + b)))), (4, .int (nI (k + i))), (3, .int (t_sum (fun j => (g (k + j) - g (k + j + b)) * (g (k + j) - g (k + j + b))) i)), (0, .ref h), (1, .int (nI k)), (2, .int (nI b))]) hx hb dX5_squaredGapSum_42 hl (by decide) rfl (fun ls hl => ?_)
        refine lv_iload_n hx hb dX5_squaredGapSum_44 rfl (lv_at hl 2 rfl) ?_
        refine lv_iload hx hb dX5_squaredGapSum_45 (lv_at hl 0 rfl) ?_
        refine lv_iload hx hb dX5_squaredGapSum_47 (lv_at hl 0 rfl) ?_
        refine lv_imul hx hb dX5_squaredGapSum_49 ?_
        refine lv_iadd hx hb dX5_squaredGapSum_50 ?_
        refine lv_istore_n (lv' := [(3, .int ((t_sum (fun j => (g (k + j) - g (k + j + b)) * (g (k + j) - g (k + j + b))) i) + (((g (k + i)) - (g ((k + i) + b))) * ((g (k + i)) - (g ((k + i) + b)))))), (5, .int ((g (k + i)) - (g ((k + i) + b)))), (4, .int (nI (k + i))), (0, .ref h), (1, .int (nI k)), (2, .int (nI b))]) hx hb dX5_squaredGapSum_51 rfl hl (by decide) rfl (fun ls hl => ?_)
        refine lv_iinc (v := (nI (k + i + 1))) (lv' := [(4, .int (nI (k + i + 1))), (3, .int ((t_sum (fun j => (g (k + j) - g (k + j + b)) * (g (k + j) - g (k + j + b))) i) + (((g (k + i)) - (g ((k + i) + b))) * ((g (k + i)) - (g ((k + i) + b)))))), (5, .int ((g (k + i)) - (g ((k + i) + b)))), (0, .ref h), (1, .int (nI k)), (2, .int (nI b))]) hx hb dX5_squaredGapSum_52 hl (k := 2) rfl (nI_add (k + i) 1) (by decide) rfl (fun ls hl => ?_)
        refine lv_goto (tgt := 16) hx hb dX5_squaredGapSum_55 (by decide) ?_
        exact ih_4 (i + 1) (by omega) (by omega) _ (lv_sub hl [0, 1, 3, 4, 5] rfl)
  exact loop_3 (64 - 0 + 1) 0 (Nat.lt_succ_self _) (Nat.zero_le _) _ (lv_sub hl [0, 1, 2, 3, 4] rfl)

set_option maxHeartbeats 4000000 in
set_option maxRecDepth 100000 in
theorem c_X5_energyOf (l : Launch) (D : va_G) (cI cL : ClassId) (h a n : Nat) (g : Nat → Int32) (f b : Nat) (hf : f * 32 + 128 ≤ 1024) (hb2 : b ≤ 64) : Met l yX5_energyOf wsX5_energyOf ({ frames := 2, cells := 0, slots := 0, locals := 80 }) (t_rPc D cI cL [.ref h, .int (nI f), .int (nI b)] [(h, .inr (5, [.ref a, .int (nI n)])), (a, .inl (cI, 1024, .inl g))]) (vp_Si (fun r => r = (t_ps g (f * 32 + b) 0))) 0 0 (fun _ => False) := by
  refine t_ofR (by decide) rfl (Nat.le_of_ble_eq_true rfl) ?_
  intro p e s m below meth c ls hx hb hml hown hts hr hlocks hK hP hl
  have hown : s.vm.findClass RX5 = some m.cls := hown
  have hl : lv_has ls 3 [(0, .ref h), (1, .int (nI f)), (2, .int (nI b))] := hl
  refine lv_aload_n hx hb dX5_energyOf_0 rfl (lv_at hl 0 rfl) ?_
  refine lv_iload_n hx hb dX5_energyOf_1 rfl (lv_at hl 1 rfl) ?_
  refine lv_bipush (v := ((nI 32) : Int32)) hx hb dX5_energyOf_2 (by decide +kernel) ?_
  refine tv_imul (a := f) (b := 32) hx hb dX5_energyOf_4 ?_
  refine lv_iload_n hx hb dX5_energyOf_5 rfl (lv_at hl 2 rfl) ?_
  refine tv_iadd (a := f * 32) (b := b) hx hb dX5_energyOf_6 ?_
  refine lv_iconst (v := ((nI 0) : Int32)) hx hb dX5_energyOf_7 (by decide +kernel) ?_
  have hPc := hP.sub (ws' := [(h, .inr (5, [.ref a, .int (nI n)])), (a, .inl (cI, 1024, .inl g))]) [0, 1] rfl
  refine vp_callSi (W.runV (As := [.int (nI ((f * 32) + b)), .int (nI 0)]) (rest := []) ⟨hx, hb, hml, hown, hts⟩ (c_X5_productSum l D cI cL h a n g ((f * 32) + b) 0 (by omega) (by omega)) (cwV 2 hts gX5_energyOf_X5_productSum rfl rfl rfl (by decide +kernel) ⟨Nat.le_of_ble_eq_true rfl, Nat.le_of_ble_eq_true rfl⟩) ⟨t_rPc_blind, va_recv hK hPc (ci := 5) (q0 := 0) rfl rfl, fun U hU hW => ⟨rfl, by rw [hU]; exact hPc, va_K.moved hW.alike hK⟩⟩ rfl rfl hl.1 rfl (lv_room (Nat.le_of_ble_eq_true rfl)) dX5_energyOf_8 ⟨Nat.le_of_ble_eq_true rfl, Nat.le_of_ble_eq_true rfl⟩) (fun r_1 hr_1 => ?_)
  subst hr_1
  exact W.iret (v := (t_ps g ((f * 32) + b) 0)) hx hb hr (fun t ht hW => ⟨_, rfl, rfl, ht⟩) (fun q h => by cases h) dX5_energyOf_11 hlocks

set_option maxHeartbeats 4000000 in
set_option maxRecDepth 100000 in
theorem c_X5_autocorrelationOf (l : Launch) (D : va_G) (cI cL : ClassId) (h a n : Nat) (g : Nat → Int32) (f b : Nat) (hf : f * 32 + 128 ≤ 1024) (hb2 : b ≤ 64) : Met l yX5_autocorrelationOf wsX5_autocorrelationOf ({ frames := 2, cells := 0, slots := 0, locals := 80 }) (t_rPc D cI cL [.ref h, .int (nI f), .int (nI b)] [(h, .inr (5, [.ref a, .int (nI n)])), (a, .inl (cI, 1024, .inl g))]) (vp_Si (fun r => r = (t_ps g (f * 32) b))) 0 0 (fun _ => False) := by
  refine t_ofR (by decide) rfl (Nat.le_of_ble_eq_true rfl) ?_
  intro p e s m below meth c ls hx hb hml hown hts hr hlocks hK hP hl
  have hown : s.vm.findClass RX5 = some m.cls := hown
  have hl : lv_has ls 3 [(0, .ref h), (1, .int (nI f)), (2, .int (nI b))] := hl
  refine lv_aload_n hx hb dX5_autocorrelationOf_0 rfl (lv_at hl 0 rfl) ?_
  refine lv_iload_n hx hb dX5_autocorrelationOf_1 rfl (lv_at hl 1 rfl) ?_
  refine lv_bipush (v := ((nI 32) : Int32)) hx hb dX5_autocorrelationOf_2 (by decide +kernel) ?_
  refine tv_imul (a := f) (b := 32) hx hb dX5_autocorrelationOf_4 ?_
  refine lv_iload_n hx hb dX5_autocorrelationOf_5 rfl (lv_at hl 2 rfl) ?_
  have hPc := hP.sub (ws' := [(h, .inr (5, [.ref a, .int (nI n)])), (a, .inl (cI, 1024, .inl g))]) [0, 1] rfl
  refine vp_callSi (W.runV (As := [.int (nI (f * 32)), .int (nI b)]) (rest := []) ⟨hx, hb, hml, hown, hts⟩ (c_X5_productSum l D cI cL h a n g (f * 32) b (by omega) (by omega)) (cwV 2 hts gX5_autocorrelationOf_X5_productSum rfl rfl rfl (by decide +kernel) ⟨Nat.le_of_ble_eq_true rfl, Nat.le_of_ble_eq_true rfl⟩) ⟨t_rPc_blind, va_recv hK hPc (ci := 5) (q0 := 0) rfl rfl, fun U hU hW => ⟨rfl, by rw [hU]; exact hPc, va_K.moved hW.alike hK⟩⟩ rfl rfl hl.1 rfl (lv_room (Nat.le_of_ble_eq_true rfl)) dX5_autocorrelationOf_6 ⟨Nat.le_of_ble_eq_true rfl, Nat.le_of_ble_eq_true rfl⟩) (fun r_1 hr_1 => ?_)
  subst hr_1
  exact W.iret (v := (t_ps g (f * 32) b)) hx hb hr (fun t ht hW => ⟨_, rfl, rfl, ht⟩) (fun q h => by cases h) dX5_autocorrelationOf_9 hlocks

set_option maxHeartbeats 4000000 in
set_option maxRecDepth 100000 in
theorem c_X5_startsIn (l : Launch) (D : va_G) (cI cL : ClassId) (h a n : Nat) (g : Nat → Int32) (f : Nat) (hf : f * 32 + 128 ≤ 1024) : Met l yX5_startsIn wsX5_startsIn ({ frames := 3, cells := 0, slots := 0, locals := 120 }) (t_rPc D cI cL [.ref h, .int (nI f)] [(h, .inr (5, [.ref a, .int (nI n)])), (a, .inl (cI, 1024, .inl g))]) (vp_Si (fun r => r = t_b (t_on g f))) 0 0 (fun _ => False) := by
  refine t_ofR (by decide) rfl (Nat.le_of_ble_eq_true rfl) ?_
  intro p e s m below meth c ls hx hb hml hown hts hr hlocks hK hP hl
  have hown : s.vm.findClass RX5 = some m.cls := hown
  have hl : lv_has ls 3 [(0, .ref h), (1, .int (nI f))] := hl
  refine lv_aload_n hx hb dX5_startsIn_0 rfl (lv_at hl 0 rfl) ?_
  refine lv_iload_n hx hb dX5_startsIn_1 rfl (lv_at hl 1 rfl) ?_
  refine lv_iconst (v := ((nI 0) : Int32)) hx hb dX5_startsIn_2 (by decide +kernel) ?_
  have hPc := hP.sub (ws' := [(h, .inr (5, [.ref a, .int (nI n)])), (a, .inl (cI, 1024, .inl g))]) [0, 1] rfl
  refine vp_callSi (W.runV (As := [.int (nI f), .int (nI 0)]) (rest := []) ⟨hx, hb, hml, hown, hts⟩ (c_X5_energyOf l D cI cL h a n g f 0 (by omega) (by omega)) (cwV 2 hts gX5_startsIn_X5_energyOf rfl rfl rfl (by decide +kernel) ⟨Nat.le_of_ble_eq_true rfl, Nat.le_of_ble_eq_true rfl⟩) ⟨t_rPc_blind, va_recv hK hPc (ci := 5) (q0 := 0) rfl rfl, fun U hU hW => ⟨rfl, by rw [hU]; exact hPc, va_K.moved hW.alike hK⟩⟩ rfl rfl hl.1 rfl (lv_room (Nat.le_of_ble_eq_true rfl)) dX5_startsIn_3 ⟨Nat.le_of_ble_eq_true rfl, Nat.le_of_ble_eq_true rfl⟩) (fun r_1 hr_1 => ?_)
  subst hr_1
  refine lv_istore_n (lv' := [(2, .int (t_ps g (f * 32 + 0) 0)), (0, .ref h), (1, .int (nI f))]) hx hb dX5_startsIn_6 rfl hl (by decide) rfl (fun ls hl => ?_)
  refine lv_iload_n hx hb dX5_startsIn_7 rfl (lv_at hl 0 rfl) ?_
  refine lv_sipush (v := ((nI 640) : Int32)) hx hb dX5_startsIn_8 (by decide +kernel) ?_
  refine lv_icmp_lt (tgt := 36) hx hb dX5_startsIn_11 (by decide) (fun q11_2 => ?_) (fun q11_2 => ?_)
  · refine lv_iconst (v := ((nI 0) : Int32)) hx hb dX5_startsIn_36 (by decide +kernel) ?_
    exact W.zret (v := (nI 0)) hx hb hr rfl (fun t ht hW => ⟨_, rfl, (t_b_f (t_on_lo q11_2)), ht⟩) (fun q h => by cases h) dX5_startsIn_37 hlocks
  · refine lv_iload_n hx hb dX5_startsIn_14 rfl (lv_at hl 2 rfl) ?_
    refine tv_if_eq (tgt := 32) hx hb dX5_startsIn_15 (by decide) (by omega) (fun q15_3 => ?_) (fun q15_3 => ?_)
    · refine lv_iconst (v := ((nI 1) : Int32)) hx hb dX5_startsIn_32 (by decide +kernel) ?_
      refine lv_goto (tgt := 37) hx hb dX5_startsIn_33 (by decide) ?_
      exact W.zret (v := (nI 1)) hx hb hr rfl (fun t ht hW => ⟨_, rfl, (t_b_t (t_on_0 q11_2 q15_3)), ht⟩) (fun q h => by cases h) dX5_startsIn_37 hlocks
    · refine lv_iload_n hx hb dX5_startsIn_18 rfl (lv_at hl 0 rfl) ?_
      refine lv_iconst (v := ((nI 2) : Int32)) hx hb dX5_startsIn_19 (by decide +kernel) ?_
      refine lv_aload_n hx hb dX5_startsIn_20 rfl (lv_at hl 1 rfl) ?_
      refine lv_iload_n hx hb dX5_startsIn_21 rfl (lv_at hl 2 rfl) ?_
      refine lv_iconst (v := ((nI 1) : Int32)) hx hb dX5_startsIn_22 (by decide +kernel) ?_
      refine tv_isub (a := f) (b := 1) hx hb dX5_startsIn_23 (by omega) ?_
      refine lv_iconst (v := ((nI 0) : Int32)) hx hb dX5_startsIn_24 (by decide +kernel) ?_
      have hPc := hP.sub (ws' := [(h, .inr (5, [.ref a, .int (nI n)])), (a, .inl (cI, 1024, .inl g))]) [0, 1] rfl
      refine vp_callSi (W.runV (As := [.int (nI (f - 1)), .int (nI 0)]) (rest := [.int (nI 2), .int (t_ps g (f * 32 + 0) 0)]) ⟨hx, hb, hml, hown, hts⟩ (c_X5_energyOf l D cI cL h a n g (f - 1) 0 (by omega) (by omega)) (cwV 2 hts gX5_startsIn_X5_energyOf rfl rfl rfl (by decide +kernel) ⟨Nat.le_of_ble_eq_true rfl, Nat.le_of_ble_eq_true rfl⟩) ⟨t_rPc_blind, va_recv hK hPc (ci := 5) (q0 := 0) rfl rfl, fun U hU hW => ⟨rfl, by rw [hU]; exact hPc, va_K.moved hW.alike hK⟩⟩ rfl rfl hl.1 rfl (lv_room (Nat.le_of_ble_eq_true rfl)) dX5_startsIn_25 ⟨Nat.le_of_ble_eq_true rfl, Nat.le_of_ble_eq_true rfl⟩) (fun r_4 hr_4 => ?_)
      subst hr_4
      refine lv_imul hx hb dX5_startsIn_28 ?_
      refine lv_icmp_le (tgt := 36) hx hb dX5_startsIn_29 (by decide) (fun q29_5 => ?_) (fun q29_5 => ?_)
      · refine lv_iconst (v := ((nI 0) : Int32)) hx hb dX5_startsIn_36 (by decide +kernel) ?_
        exact W.zret (v := (nI 0)) hx hb hr rfl (fun t ht hW => ⟨_, rfl, (t_b_f (t_on_le q15_3 q29_5)), ht⟩) (fun q h => by cases h) dX5_startsIn_37 hlocks
      · refine lv_iconst (v := ((nI 1) : Int32)) hx hb dX5_startsIn_32 (by decide +kernel) ?_
        refine lv_goto (tgt := 37) hx hb dX5_startsIn_33 (by decide) ?_
        exact W.zret (v := (nI 1)) hx hb hr rfl (fun t ht hW => ⟨_, rfl, (t_b_t (t_on_gt q11_2 q29_5)), ht⟩) (fun q h => by cases h) dX5_startsIn_37 hlocks
